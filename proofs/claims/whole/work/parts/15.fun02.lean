/-! the methods as functions, each with its proof (printed by wip/tools/fgen.py) -/
noncomputable section
def fPrison_liking_L10 : Nat → Int → Int → Int → Int → Int → xM → Option Int
  | 0, _, _, _, _, _, _ => none
  | g + 1, x0, x1, x2, x3, x4, M => if x4 < (M x0 7) then (xA (0 ≤ x4 ∧ x4 < 9) (if (M (x0 + 7) x4) = x1 then (xA (0 ≤ x4 ∧ x4 < 9) (if x2 < (M (x0 + 9) x4) then ((fPrison_liking_L10 g) x0 x1 x2 x3 (xw32 (x4 + 1)) M) else (xA (0 ≤ x4 ∧ x4 < 9) ((fPrison_liking_L10 g) x0 x1 x2 (xw32 (x3 + (M (x0 + 8) x4))) (xw32 (x4 + 1)) M)))) else ((fPrison_liking_L10 g) x0 x1 x2 x3 (xw32 (x4 + 1)) M))) else (some x3)
theorem hPrison_liking_L10 : ∀ (g : Nat) (x0 x1 x2 x3 x4 : Int) (M : xM) (r : Int) (h : fPrison_liking_L10 g x0 x1 x2 x3 x4 M = some r), xEv (255, 10, [some (8, x0), some (0, x1), some (0, x2), some (0, x3), some (0, x4)], [], M) (some (0, r), M)
  | 0, _, _, _, _, _, _, _, h => by cases h
  | g + 1, x0, x1, x2, x3, x4, M, r, h => by
    unfold fPrison_liking_L10 at h
    refine xEvG_n xml xfetch 4 (y := (255, if x4 < (M x0 7) then 19 else 57, [some (8, x0), some (0, x1), some (0, x2), some (0, x3), some (0, x4)], [], M)) rfl trivial ?_
    refine xEvG_br xml xfetch (fun c_ => ?_) (fun c_ => ?_)
    · have h := xif_t c_ h
      have a0_ := (xA_t h).1
      have h := (xA_t h).2
      refine xEvG_n xml xfetch 6 (y := (255, if (M (x0 + 7) x4) = x1 then 30 else 51, [some (8, x0), some (0, x1), some (0, x2), some (0, x3), some (0, x4)], [], M)) rfl ⟨a0_, trivial⟩ ?_
      refine xEvG_br xml xfetch (fun c_ => ?_) (fun c_ => ?_)
      · have h := xif_t c_ h
        have a0_ := (xA_t h).1
        have h := (xA_t h).2
        refine xEvG_n xml xfetch 6 (y := (255, if x2 < (M (x0 + 9) x4) then 51 else 41, [some (8, x0), some (0, x1), some (0, x2), some (0, x3), some (0, x4)], [], M)) rfl ⟨a0_, trivial⟩ ?_
        refine xEvG_br xml xfetch (fun c_ => ?_) (fun c_ => ?_)
        · have h := xif_t c_ h
          refine xEvG_n xml xfetch 2 (y := (255, 10, [some (8, x0), some (0, x1), some (0, x2), some (0, x3), some (0, (xw32 (x4 + 1)))], [], M)) rfl trivial ?_
          refine xEvG_mask xml xfetch [true, true, true, true, true] ?_
          exact (hPrison_liking_L10 g) x0 x1 x2 x3 (xw32 (x4 + 1)) M _ h
        · have h := xif_f c_ h
          have a0_ := (xA_t h).1
          have h := (xA_t h).2
          refine xEvG_n xml xfetch 9 (y := (255, 10, [some (8, x0), some (0, x1), some (0, x2), some (0, (xw32 (x3 + (M (x0 + 8) x4)))), some (0, (xw32 (x4 + 1)))], [], M)) rfl ⟨a0_, trivial⟩ ?_
          refine xEvG_mask xml xfetch [true, true, true, true, true] ?_
          exact (hPrison_liking_L10 g) x0 x1 x2 (xw32 (x3 + (M (x0 + 8) x4))) (xw32 (x4 + 1)) M _ h
      · have h := xif_f c_ h
        refine xEvG_n xml xfetch 2 (y := (255, 10, [some (8, x0), some (0, x1), some (0, x2), some (0, x3), some (0, (xw32 (x4 + 1)))], [], M)) rfl trivial ?_
        refine xEvG_mask xml xfetch [true, true, true, true, true] ?_
        exact (hPrison_liking_L10 g) x0 x1 x2 x3 (xw32 (x4 + 1)) M _ h
    · have h := xif_f c_ h
      refine xEvG_n xml xfetch 1 (y := (255, 58, [some (8, x0), some (0, x1), some (0, x2), some (0, x3), some (0, x4)], [(0, x3)], M)) rfl trivial ?_
      cases h
      exact xEvG_ret xml xfetch rfl
/-- ConsentDoors$Prison.liking(II)I -/
def fPrison_liking (a0 a1 a2 : Int) (M : xM) : Option Int := xA (0 ≤ a1 ∧ a1 < 18) (fPrison_liking_L10 20001 a0 a1 a2 (M (a0 + 6) a1) 0 M)
theorem hPrison_liking (a0 a1 a2 : Int) (M : xM) (r : Int) (h : fPrison_liking a0 a1 a2 M = some r) : xEv (255, 0, [some (8, a0), some (0, a1), some (0, a2), none, none], [], M) (some (0, r), M) := by
  unfold fPrison_liking at h
  have a0_ := (xA_t h).1
  have h := (xA_t h).2
  refine xEvG_n xml xfetch 7 (y := (255, 10, [some (8, a0), some (0, a1), some (0, a2), some (0, (M (a0 + 6) a1)), some (0, 0)], [], M)) rfl ⟨a0_, trivial⟩ ?_
  refine xEvG_mask xml xfetch [true, true, true, true, true] ?_
  exact hPrison_liking_L10 20001 a0 a1 a2 (M (a0 + 6) a1) 0 M _ h

/-- ConsentDoors$Prison.whyNot(IIII)I -/
def fPrison_whyNot (a0 a1 a2 a3 a4 : Int) (M : xM) : Option Int := if (fPrison_neighbour a0 a1 a2 M) = (-1) then (some 1) else (if (fD_bit (xand a4 (xxor (M a0 4) (-1))) a1 M) = 1 then (some 2) else (xA (0 ≤ a1 ∧ a1 < 9) (if (fD_bit (M (a0 + 5) a1) a3 M) = 1 then (some 3) else (xA (0 ≤ a1 ∧ a1 < 9) (if (M (a0 + 1) a1) = 3 then (some 4) else (if (fD_bit (M a0 5) (if a2 = 1 then a1 else (fPrison_neighbour a0 a1 a2 M) : Int) M) = 1 then (some 5) else (xB (fPrison_isHisHour a0 a1 a2 a3 M) (fun v5 => if v5 = 0 then (some 6) else (xB (fPrison_liking a0 (xw32 ((xw32 (2 * a1)) + a2)) a3 M) (fun v6 => xA (0 ≤ a1 ∧ a1 < 9) (some (if v6 < (M (a0 + 3) a1) then 7 else 0 : Int))))))))))))
theorem hPrison_whyNot (a0 a1 a2 a3 a4 : Int) (M : xM) (r : Int) (h : fPrison_whyNot a0 a1 a2 a3 a4 M = some r) : xEv (256, 0, [some (8, a0), some (0, a1), some (0, a2), some (0, a3), some (0, a4), none], [], M) (some (0, r), M) := by
  unfold fPrison_whyNot at h
  refine xEvG_n xml xfetch 3 (y := (256, 3, [some (8, a0), some (0, a1), some (0, a2), some (0, a3), some (0, a4), none], [(0, a2), (0, a1), (8, a0)], M)) rfl trivial ?_
  refine xEvG_call xml xfetch (q := (some (0, fPrison_neighbour a0 a1 a2 M), M)) rfl (hPrison_neighbour a0 a1 a2 M _ rfl) ?_
  show xEv (256, 6, [some (8, a0), some (0, a1), some (0, a2), some (0, a3), some (0, a4), none], [(0, (fPrison_neighbour a0 a1 a2 M))], M) _
  refine xEvG_n xml xfetch 4 (y := (256, if (fPrison_neighbour a0 a1 a2 M) = (-1) then 14 else 16, [some (8, a0), some (0, a1), some (0, a2), some (0, a3), some (0, a4), some (0, (fPrison_neighbour a0 a1 a2 M))], [], M)) rfl trivial ?_
  refine xEvG_br xml xfetch (fun c_ => ?_) (fun c_ => ?_)
  · have h := xif_t c_ h
    refine xEvG_n xml xfetch 1 (y := (256, 15, [some (8, a0), some (0, a1), some (0, a2), some (0, a3), some (0, a4), some (0, (fPrison_neighbour a0 a1 a2 M))], [(0, 1)], M)) rfl trivial ?_
    cases h
    exact xEvG_ret xml xfetch rfl
  · have h := xif_f c_ h
    refine xEvG_n xml xfetch 7 (y := (256, 26, [some (8, a0), some (0, a1), some (0, a2), some (0, a3), some (0, a4), some (0, (fPrison_neighbour a0 a1 a2 M))], [(0, a1), (0, (xand a4 (xxor (M a0 4) (-1))))], M)) rfl trivial ?_
    refine xEvG_call xml xfetch (q := (some (0, fD_bit (xand a4 (xxor (M a0 4) (-1))) a1 M), M)) rfl (hD_bit (xand a4 (xxor (M a0 4) (-1))) a1 M _ rfl) ?_
    show xEv (256, 29, [some (8, a0), some (0, a1), some (0, a2), some (0, a3), some (0, a4), some (0, (fPrison_neighbour a0 a1 a2 M))], [(0, (fD_bit (xand a4 (xxor (M a0 4) (-1))) a1 M))], M) _
    refine xEvG_n xml xfetch 2 (y := (256, if (fD_bit (xand a4 (xxor (M a0 4) (-1))) a1 M) = 1 then 33 else 35, [some (8, a0), some (0, a1), some (0, a2), some (0, a3), some (0, a4), some (0, (fPrison_neighbour a0 a1 a2 M))], [], M)) rfl trivial ?_
    refine xEvG_br xml xfetch (fun c_ => ?_) (fun c_ => ?_)
    · have h := xif_t c_ h
      refine xEvG_n xml xfetch 1 (y := (256, 34, [some (8, a0), some (0, a1), some (0, a2), some (0, a3), some (0, a4), some (0, (fPrison_neighbour a0 a1 a2 M))], [(0, 2)], M)) rfl trivial ?_
      cases h
      exact xEvG_ret xml xfetch rfl
    · have h := xif_f c_ h
      have a0_ := (xA_t h).1
      have h := (xA_t h).2
      refine xEvG_n xml xfetch 5 (y := (256, 42, [some (8, a0), some (0, a1), some (0, a2), some (0, a3), some (0, a4), some (0, (fPrison_neighbour a0 a1 a2 M))], [(0, a3), (0, (M (a0 + 5) a1))], M)) rfl ⟨a0_, trivial⟩ ?_
      refine xEvG_call xml xfetch (q := (some (0, fD_bit (M (a0 + 5) a1) a3 M), M)) rfl (hD_bit (M (a0 + 5) a1) a3 M _ rfl) ?_
      show xEv (256, 45, [some (8, a0), some (0, a1), some (0, a2), some (0, a3), some (0, a4), some (0, (fPrison_neighbour a0 a1 a2 M))], [(0, (fD_bit (M (a0 + 5) a1) a3 M))], M) _
      refine xEvG_n xml xfetch 2 (y := (256, if (fD_bit (M (a0 + 5) a1) a3 M) = 1 then 49 else 51, [some (8, a0), some (0, a1), some (0, a2), some (0, a3), some (0, a4), some (0, (fPrison_neighbour a0 a1 a2 M))], [], M)) rfl trivial ?_
      refine xEvG_br xml xfetch (fun c_ => ?_) (fun c_ => ?_)
      · have h := xif_t c_ h
        refine xEvG_n xml xfetch 1 (y := (256, 50, [some (8, a0), some (0, a1), some (0, a2), some (0, a3), some (0, a4), some (0, (fPrison_neighbour a0 a1 a2 M))], [(0, 3)], M)) rfl trivial ?_
        cases h
        exact xEvG_ret xml xfetch rfl
      · have h := xif_f c_ h
        have a0_ := (xA_t h).1
        have h := (xA_t h).2
        refine xEvG_n xml xfetch 6 (y := (256, if (M (a0 + 1) a1) = 3 then 61 else 63, [some (8, a0), some (0, a1), some (0, a2), some (0, a3), some (0, a4), some (0, (fPrison_neighbour a0 a1 a2 M))], [], M)) rfl ⟨a0_, trivial⟩ ?_
        refine xEvG_br xml xfetch (fun c_ => ?_) (fun c_ => ?_)
        · have h := xif_t c_ h
          refine xEvG_n xml xfetch 1 (y := (256, 62, [some (8, a0), some (0, a1), some (0, a2), some (0, a3), some (0, a4), some (0, (fPrison_neighbour a0 a1 a2 M))], [(0, 4)], M)) rfl trivial ?_
          cases h
          exact xEvG_ret xml xfetch rfl
        · have h := xif_f c_ h
          refine xEvG_n xml xfetch 4 (y := (256, 69, [some (8, a0), some (0, a1), some (0, a2), some (0, a3), some (0, a4), some (0, (fPrison_neighbour a0 a1 a2 M))], [(0, 1), (0, a2), (0, (M a0 5))], M)) rfl trivial ?_
          have key_ : xEv (256, 78, [some (8, a0), some (0, a1), some (0, a2), some (0, a3), some (0, a4), some (0, (fPrison_neighbour a0 a1 a2 M))], [(0, (if a2 = 1 then a1 else (fPrison_neighbour a0 a1 a2 M) : Int)), (0, (M a0 5))], M) (some (0, r), M) := by
            refine xEvG_call xml xfetch (q := (some (0, fD_bit (M a0 5) (if a2 = 1 then a1 else (fPrison_neighbour a0 a1 a2 M) : Int) M), M)) rfl (hD_bit (M a0 5) (if a2 = 1 then a1 else (fPrison_neighbour a0 a1 a2 M) : Int) M _ rfl) ?_
            show xEv (256, 81, [some (8, a0), some (0, a1), some (0, a2), some (0, a3), some (0, a4), some (0, (fPrison_neighbour a0 a1 a2 M))], [(0, (fD_bit (M a0 5) (if a2 = 1 then a1 else (fPrison_neighbour a0 a1 a2 M) : Int) M))], M) _
            refine xEvG_n xml xfetch 2 (y := (256, if (fD_bit (M a0 5) (if a2 = 1 then a1 else (fPrison_neighbour a0 a1 a2 M) : Int) M) = 1 then 85 else 87, [some (8, a0), some (0, a1), some (0, a2), some (0, a3), some (0, a4), some (0, (fPrison_neighbour a0 a1 a2 M))], [], M)) rfl trivial ?_
            refine xEvG_br xml xfetch (fun c_ => ?_) (fun c_ => ?_)
            · have h := xif_t c_ h
              refine xEvG_n xml xfetch 1 (y := (256, 86, [some (8, a0), some (0, a1), some (0, a2), some (0, a3), some (0, a4), some (0, (fPrison_neighbour a0 a1 a2 M))], [(0, 5)], M)) rfl trivial ?_
              cases h
              exact xEvG_ret xml xfetch rfl
            · have h := xif_f c_ h
              refine xEvG_n xml xfetch 4 (y := (256, 91, [some (8, a0), some (0, a1), some (0, a2), some (0, a3), some (0, a4), some (0, (fPrison_neighbour a0 a1 a2 M))], [(0, a3), (0, a2), (0, a1), (8, a0)], M)) rfl trivial ?_
              obtain ⟨v5, e_, h⟩ := xB_t h
              refine xEvG_call xml xfetch (q := (some (0, v5), M)) rfl (hPrison_isHisHour a0 a1 a2 a3 M _ e_) ?_
              show xEv (256, 94, [some (8, a0), some (0, a1), some (0, a2), some (0, a3), some (0, a4), some (0, (fPrison_neighbour a0 a1 a2 M))], [(0, v5)], M) _
              refine xEvG_n xml xfetch 1 (y := (256, if v5 = 0 then 97 else 100, [some (8, a0), some (0, a1), some (0, a2), some (0, a3), some (0, a4), some (0, (fPrison_neighbour a0 a1 a2 M))], [], M)) rfl trivial ?_
              refine xEvG_br xml xfetch (fun c_ => ?_) (fun c_ => ?_)
              · have h := xif_t c_ h
                refine xEvG_n xml xfetch 1 (y := (256, 99, [some (8, a0), some (0, a1), some (0, a2), some (0, a3), some (0, a4), some (0, (fPrison_neighbour a0 a1 a2 M))], [(0, 6)], M)) rfl trivial ?_
                cases h
                exact xEvG_ret xml xfetch rfl
              · have h := xif_f c_ h
                refine xEvG_n xml xfetch 7 (y := (256, 107, [some (8, a0), some (0, a1), some (0, a2), some (0, a3), some (0, a4), some (0, (fPrison_neighbour a0 a1 a2 M))], [(0, a3), (0, (xw32 ((xw32 (2 * a1)) + a2))), (8, a0)], M)) rfl trivial ?_
                obtain ⟨v6, e_, h⟩ := xB_t h
                refine xEvG_call xml xfetch (q := (some (0, v6), M)) rfl (hPrison_liking a0 (xw32 ((xw32 (2 * a1)) + a2)) a3 M _ e_) ?_
                show xEv (256, 110, [some (8, a0), some (0, a1), some (0, a2), some (0, a3), some (0, a4), some (0, (fPrison_neighbour a0 a1 a2 M))], [(0, v6)], M) _
                have a0_ := (xA_t h).1
                have h := (xA_t h).2
                refine xEvG_n xml xfetch 4 (y := (256, 116, [some (8, a0), some (0, a1), some (0, a2), some (0, a3), some (0, a4), some (0, (fPrison_neighbour a0 a1 a2 M))], [(0, (M (a0 + 3) a1)), (0, v6)], M)) rfl ⟨a0_, trivial⟩ ?_
                have key_ : xEv (256, 125, [some (8, a0), some (0, a1), some (0, a2), some (0, a3), some (0, a4), some (0, (fPrison_neighbour a0 a1 a2 M))], [(0, (if v6 < (M (a0 + 3) a1) then 7 else 0 : Int))], M) (some (0, r), M) := by
                  cases h
                  exact xEvG_ret xml xfetch rfl
                refine xEvG_n xml xfetch 1 (y := (256, if v6 < (M (a0 + 3) a1) then 119 else 124, [some (8, a0), some (0, a1), some (0, a2), some (0, a3), some (0, a4), some (0, (fPrison_neighbour a0 a1 a2 M))], [], M)) rfl trivial ?_
                refine xEvG_br xml xfetch (fun c16_ => ?_) (fun c16_ => ?_)
                · refine xEvG_n xml xfetch 2 (y := (256, 125, [some (8, a0), some (0, a1), some (0, a2), some (0, a3), some (0, a4), some (0, (fPrison_neighbour a0 a1 a2 M))], [(0, 7)], M)) rfl trivial ?_
                  try simp only [if_pos c16_] at key_
                  try simp only [if_pos c16_]
                  exact key_
                · refine xEvG_n xml xfetch 1 (y := (256, 125, [some (8, a0), some (0, a1), some (0, a2), some (0, a3), some (0, a4), some (0, (fPrison_neighbour a0 a1 a2 M))], [(0, 0)], M)) rfl trivial ?_
                  try simp only [if_neg c16_] at key_
                  try simp only [if_neg c16_]
                  exact key_
          refine xEvG_n xml xfetch 1 (y := (256, if a2 = 1 then 72 else 76, [some (8, a0), some (0, a1), some (0, a2), some (0, a3), some (0, a4), some (0, (fPrison_neighbour a0 a1 a2 M))], [(0, (M a0 5))], M)) rfl trivial ?_
          refine xEvG_br xml xfetch (fun c10_ => ?_) (fun c10_ => ?_)
          · refine xEvG_n xml xfetch 2 (y := (256, 78, [some (8, a0), some (0, a1), some (0, a2), some (0, a3), some (0, a4), some (0, (fPrison_neighbour a0 a1 a2 M))], [(0, a1), (0, (M a0 5))], M)) rfl trivial ?_
            try simp only [if_pos c10_] at key_
            try simp only [if_pos c10_]
            exact key_
          · refine xEvG_n xml xfetch 1 (y := (256, 78, [some (8, a0), some (0, a1), some (0, a2), some (0, a3), some (0, a4), some (0, (fPrison_neighbour a0 a1 a2 M))], [(0, (fPrison_neighbour a0 a1 a2 M)), (0, (M a0 5))], M)) rfl trivial ?_
            try simp only [if_neg c10_] at key_
            try simp only [if_neg c10_]
            exact key_

def fKeys_lackingAll_L6 : Nat → Int → Int → Int → xM → Option Int
  | 0, _, _, _, _ => none
  | g + 1, x0, x1, x3, M => if x3 < 6 then (if (xand (xshr x0 x3) 1) = 1 then (xA (0 ≤ x3 ∧ x3 < 6) ((fKeys_lackingAll_L6 g) x0 (xandL x1 (xlack x3)) (xw32 (x3 + 1)) M)) else ((fKeys_lackingAll_L6 g) x0 x1 (xw32 (x3 + 1)) M)) else (some x1)
theorem hKeys_lackingAll_L6 : ∀ (g : Nat) (x0 x1 x3 : Int) (M : xM) (r : Int) (h : fKeys_lackingAll_L6 g x0 x1 x3 M = some r), xEv (238, 6, [some (0, x0), some (1, x1), none, some (0, x3)], [], M) (some (1, r), M)
  | 0, _, _, _, _, _, h => by cases h
  | g + 1, x0, x1, x3, M, r, h => by
    unfold fKeys_lackingAll_L6 at h
    refine xEvG_n xml xfetch 4 (y := (238, if x3 < 6 then 14 else 37, [some (0, x0), some (1, x1), none, some (0, x3)], [], M)) rfl trivial ?_
    refine xEvG_br xml xfetch (fun c_ => ?_) (fun c_ => ?_)
    · have h := xif_t c_ h
      refine xEvG_n xml xfetch 7 (y := (238, if (xand (xshr x0 x3) 1) = 1 then 23 else 31, [some (0, x0), some (1, x1), none, some (0, x3)], [], M)) rfl trivial ?_
      refine xEvG_br xml xfetch (fun c_ => ?_) (fun c_ => ?_)
      · have h := xif_t c_ h
        have a0_ := (xA_t h).1
        have h := (xA_t h).2
        refine xEvG_n xml xfetch 8 (y := (238, 6, [some (0, x0), some (1, (xandL x1 (xlack x3))), none, some (0, (xw32 (x3 + 1)))], [], M)) rfl ⟨a0_, trivial⟩ ?_
        refine xEvG_mask xml xfetch [true, true, false, true] ?_
        exact (hKeys_lackingAll_L6 g) x0 (xandL x1 (xlack x3)) (xw32 (x3 + 1)) M _ h
      · have h := xif_f c_ h
        refine xEvG_n xml xfetch 2 (y := (238, 6, [some (0, x0), some (1, x1), none, some (0, (xw32 (x3 + 1)))], [], M)) rfl trivial ?_
        refine xEvG_mask xml xfetch [true, true, false, true] ?_
        exact (hKeys_lackingAll_L6 g) x0 x1 (xw32 (x3 + 1)) M _ h
    · have h := xif_f c_ h
      refine xEvG_n xml xfetch 1 (y := (238, 38, [some (0, x0), some (1, x1), none, some (0, x3)], [(1, x1)], M)) rfl trivial ?_
      cases h
      exact xEvG_ret xml xfetch rfl
/-- ConsentDoors$Keys.lackingAll(I)J -/
def fKeys_lackingAll (a0 : Int) (M : xM) : Option Int := fKeys_lackingAll_L6 20001 a0 (-1) 0 M
theorem hKeys_lackingAll (a0 : Int) (M : xM) (r : Int) (h : fKeys_lackingAll a0 M = some r) : xEv (238, 0, [some (0, a0), none, none, none], [], M) (some (1, r), M) := by
  unfold fKeys_lackingAll at h
  refine xEvG_n xml xfetch 4 (y := (238, 6, [some (0, a0), some (1, (-1)), none, some (0, 0)], [], M)) rfl trivial ?_
  refine xEvG_mask xml xfetch [true, true, false, true] ?_
  exact hKeys_lackingAll_L6 20001 a0 (-1) 0 M _ h

def fKeys_readDoor_L15 : Nat → Int → Int → Int → Int → Int → Int → xM → Option xM
  | 0, _, _, _, _, _, _, _ => none
  | g + 1, x0, x1, x2, x3, x4, x5, M => if 1 < x5 then (xA (0 ≤ x2 ∧ x2 < 9) (xA (0 ≤ x2 ∧ x2 < 9) (xA (0 ≤ x2 ∧ x2 < 9) (xA (0 ≤ x2 ∧ x2 < 9) (xB (fKeys_lackingAll ((xwr (xwr (xwr M (x0 + 2) x2 x3) (x0 + 3) x2 x4) (x0 + 4) x2 (xor32 (xshl 1 x2) (xand x4 (xxor ((xwr (xwr M (x0 + 2) x2 x3) (x0 + 3) x2 x4) x1 4) (-1))))) (x0 + 4) x2) (xwr (xwr (xwr M (x0 + 2) x2 x3) (x0 + 3) x2 x4) (x0 + 4) x2 (xor32 (xshl 1 x2) (xand x4 (xxor ((xwr (xwr M (x0 + 2) x2 x3) (x0 + 3) x2 x4) x1 4) (-1)))))) (fun v1 => xA (0 ≤ x2 ∧ x2 < 9) (some (xwr (xwr (xwr (xwr M (x0 + 2) x2 x3) (x0 + 3) x2 x4) (x0 + 4) x2 (xor32 (xshl 1 x2) (xand x4 (xxor ((xwr (xwr M (x0 + 2) x2 x3) (x0 + 3) x2 x4) x1 4) (-1))))) (x0 + 5) x2 v1)))))))) else (if (fPrison_neighbour x1 x2 x5 M) = (-1) then ((fKeys_readDoor_L15 g) x0 x1 x2 x3 x4 (xw32 (x5 + 1)) M) else (xA (0 ≤ (xw32 ((xw32 ((xw32 (2 * (fPrison_neighbour x1 x2 x5 M))) + 1)) - x5)) ∧ (xw32 ((xw32 ((xw32 (2 * (fPrison_neighbour x1 x2 x5 M))) + 1)) - x5)) < 18) ((fKeys_readDoor_L15 g) x0 x1 x2 (xand x3 (M (x0 + 1) (xw32 ((xw32 ((xw32 (2 * (fPrison_neighbour x1 x2 x5 M))) + 1)) - x5)))) (xor32 x4 (xshl 1 (fPrison_neighbour x1 x2 x5 M))) (xw32 (x5 + 1)) M)))
theorem hKeys_readDoor_L15 : ∀ (g : Nat) (x0 x1 x2 x3 x4 x5 : Int) (M : xM) (r : xM) (h : fKeys_readDoor_L15 g x0 x1 x2 x3 x4 x5 M = some r), xEv (236, 15, [some (6, x0), some (8, x1), some (0, x2), some (0, x3), some (0, x4), some (0, x5), none], [], M) (none, r)
  | 0, _, _, _, _, _, _, _, _, h => by cases h
  | g + 1, x0, x1, x2, x3, x4, x5, M, r, h => by
    unfold fKeys_readDoor_L15 at h
    refine xEvG_n xml xfetch 3 (y := (236, if 1 < x5 then 68 else 21, [some (6, x0), some (8, x1), some (0, x2), some (0, x3), some (0, x4), some (0, x5), none], [], M)) rfl trivial ?_
    refine xEvG_br xml xfetch (fun c_ => ?_) (fun c_ => ?_)
    · have h := xif_t c_ h
      have a0_ := (xA_t h).1
      have h := (xA_t h).2
      have a1_ := (xA_t h).1
      have h := (xA_t h).2
      have a2_ := (xA_t h).1
      have h := (xA_t h).2
      have a3_ := (xA_t h).1
      have h := (xA_t h).2
      refine xEvG_n xml xfetch 31 (y := (236, 113, [some (6, x0), some (8, x1), some (0, x2), some (0, x3), some (0, x4), some (0, x5), none], [(0, ((xwr (xwr (xwr M (x0 + 2) x2 x3) (x0 + 3) x2 x4) (x0 + 4) x2 (xor32 (xshl 1 x2) (xand x4 (xxor ((xwr (xwr M (x0 + 2) x2 x3) (x0 + 3) x2 x4) x1 4) (-1))))) (x0 + 4) x2)), (0, x2), (26, (x0 + 5))], (xwr (xwr (xwr M (x0 + 2) x2 x3) (x0 + 3) x2 x4) (x0 + 4) x2 (xor32 (xshl 1 x2) (xand x4 (xxor ((xwr (xwr M (x0 + 2) x2 x3) (x0 + 3) x2 x4) x1 4) (-1))))))) rfl ⟨a0_, a1_, a2_, a3_, trivial⟩ ?_
      obtain ⟨v1, e_, h⟩ := xB_t h
      refine xEvG_call xml xfetch (q := (some (1, v1), (xwr (xwr (xwr M (x0 + 2) x2 x3) (x0 + 3) x2 x4) (x0 + 4) x2 (xor32 (xshl 1 x2) (xand x4 (xxor ((xwr (xwr M (x0 + 2) x2 x3) (x0 + 3) x2 x4) x1 4) (-1))))))) rfl (hKeys_lackingAll ((xwr (xwr (xwr M (x0 + 2) x2 x3) (x0 + 3) x2 x4) (x0 + 4) x2 (xor32 (xshl 1 x2) (xand x4 (xxor ((xwr (xwr M (x0 + 2) x2 x3) (x0 + 3) x2 x4) x1 4) (-1))))) (x0 + 4) x2) (xwr (xwr (xwr M (x0 + 2) x2 x3) (x0 + 3) x2 x4) (x0 + 4) x2 (xor32 (xshl 1 x2) (xand x4 (xxor ((xwr (xwr M (x0 + 2) x2 x3) (x0 + 3) x2 x4) x1 4) (-1))))) _ e_) ?_
      show xEv (236, 116, [some (6, x0), some (8, x1), some (0, x2), some (0, x3), some (0, x4), some (0, x5), none], [(1, v1), (0, x2), (26, (x0 + 5))], (xwr (xwr (xwr M (x0 + 2) x2 x3) (x0 + 3) x2 x4) (x0 + 4) x2 (xor32 (xshl 1 x2) (xand x4 (xxor ((xwr (xwr M (x0 + 2) x2 x3) (x0 + 3) x2 x4) x1 4) (-1)))))) _
      have a0_ := (xA_t h).1
      have h := (xA_t h).2
      refine xEvG_n xml xfetch 1 (y := (236, 117, [some (6, x0), some (8, x1), some (0, x2), some (0, x3), some (0, x4), some (0, x5), none], [], (xwr (xwr (xwr (xwr M (x0 + 2) x2 x3) (x0 + 3) x2 x4) (x0 + 4) x2 (xor32 (xshl 1 x2) (xand x4 (xxor ((xwr (xwr M (x0 + 2) x2 x3) (x0 + 3) x2 x4) x1 4) (-1))))) (x0 + 5) x2 v1))) rfl ⟨a0_, trivial⟩ ?_
      cases h
      exact xEvG_ret xml xfetch rfl
    · have h := xif_f c_ h
      refine xEvG_n xml xfetch 3 (y := (236, 25, [some (6, x0), some (8, x1), some (0, x2), some (0, x3), some (0, x4), some (0, x5), none], [(0, x5), (0, x2), (8, x1)], M)) rfl trivial ?_
      refine xEvG_call xml xfetch (q := (some (0, fPrison_neighbour x1 x2 x5 M), M)) rfl (hPrison_neighbour x1 x2 x5 M _ rfl) ?_
      show xEv (236, 28, [some (6, x0), some (8, x1), some (0, x2), some (0, x3), some (0, x4), some (0, x5), none], [(0, (fPrison_neighbour x1 x2 x5 M))], M) _
      refine xEvG_n xml xfetch 4 (y := (236, if (fPrison_neighbour x1 x2 x5 M) = (-1) then 62 else 36, [some (6, x0), some (8, x1), some (0, x2), some (0, x3), some (0, x4), some (0, x5), some (0, (fPrison_neighbour x1 x2 x5 M))], [], M)) rfl trivial ?_
      refine xEvG_br xml xfetch (fun c_ => ?_) (fun c_ => ?_)
      · have h := xif_t c_ h
        refine xEvG_n xml xfetch 2 (y := (236, 15, [some (6, x0), some (8, x1), some (0, x2), some (0, x3), some (0, x4), some (0, (xw32 (x5 + 1))), some (0, (fPrison_neighbour x1 x2 x5 M))], [], M)) rfl trivial ?_
        refine xEvG_mask xml xfetch [true, true, true, true, true, true, false] ?_
        exact (hKeys_readDoor_L15 g) x0 x1 x2 x3 x4 (xw32 (x5 + 1)) M _ h
      · have h := xif_f c_ h
        have a0_ := (xA_t h).1
        have h := (xA_t h).2
        refine xEvG_n xml xfetch 21 (y := (236, 15, [some (6, x0), some (8, x1), some (0, x2), some (0, (xand x3 (M (x0 + 1) (xw32 ((xw32 ((xw32 (2 * (fPrison_neighbour x1 x2 x5 M))) + 1)) - x5))))), some (0, (xor32 x4 (xshl 1 (fPrison_neighbour x1 x2 x5 M)))), some (0, (xw32 (x5 + 1))), some (0, (fPrison_neighbour x1 x2 x5 M))], [], M)) rfl ⟨a0_, trivial⟩ ?_
        refine xEvG_mask xml xfetch [true, true, true, true, true, true, false] ?_
        exact (hKeys_readDoor_L15 g) x0 x1 x2 (xand x3 (M (x0 + 1) (xw32 ((xw32 ((xw32 (2 * (fPrison_neighbour x1 x2 x5 M))) + 1)) - x5)))) (xor32 x4 (xshl 1 (fPrison_neighbour x1 x2 x5 M))) (xw32 (x5 + 1)) M _ h
/-- ConsentDoors$Keys.readDoor(LConsentDoors$Prison;I)V -/
def fKeys_readDoor (a0 a1 a2 : Int) (M : xM) : Option xM := fKeys_readDoor_L15 20001 a0 a1 a2 (xw32 ((xshl 1 (M a0 1)) - 1)) 0 0 M
theorem hKeys_readDoor (a0 a1 a2 : Int) (M : xM) (r : xM) (h : fKeys_readDoor a0 a1 a2 M = some r) : xEv (236, 0, [some (6, a0), some (8, a1), some (0, a2), none, none, none, none], [], M) (none, r) := by
  unfold fKeys_readDoor at h
  refine xEvG_n xml xfetch 11 (y := (236, 15, [some (6, a0), some (8, a1), some (0, a2), some (0, (xw32 ((xshl 1 (M a0 1)) - 1))), some (0, 0), some (0, 0), none], [], M)) rfl trivial ?_
  refine xEvG_mask xml xfetch [true, true, true, true, true, true, false] ?_
  exact hKeys_readDoor_L15 20001 a0 a1 a2 (xw32 ((xshl 1 (M a0 1)) - 1)) 0 0 M _ h

def fKeys_read_L37 (k_18 : Int → Int → Int → xM → Option xM) : Nat → Int → Int → Int → Int → xM → Option xM
  | 0, _, _, _, _, _ => none
  | g + 1, x0, x1, x2, x3, M => if x3 < (M x0 1) then (xB (fPrison_whyNot x1 (xdiv x2 2) (xrem x2 2) x3 0 M) (fun v1 => if v1 = 0 then (xA (0 ≤ x2 ∧ x2 < 18) (xA (0 ≤ x2 ∧ x2 < 18) ((fKeys_read_L37 k_18 g) x0 x1 x2 (xw32 (x3 + 1)) (xwr M (x0 + 1) x2 (xor32 (M (x0 + 1) x2) (xshl 1 x3)))))) else ((fKeys_read_L37 k_18 g) x0 x1 x2 (xw32 (x3 + 1)) M))) else (k_18 x0 x1 (xw32 (x2 + 1)) M)
theorem hKeys_read_L37 (k_18 : Int → Int → Int → xM → Option xM) (hk_18 : ∀ (x0 x1 x2 : Int) (M : xM) (r : xM), k_18 x0 x1 x2 M = some r → xEv (235, 18, [some (6, x0), some (8, x1), some (0, x2), none], [], M) (none, r)) : ∀ (g : Nat) (x0 x1 x2 x3 : Int) (M : xM) (r : xM) (h : fKeys_read_L37 k_18 g x0 x1 x2 x3 M = some r), xEv (235, 37, [some (6, x0), some (8, x1), some (0, x2), some (0, x3)], [], M) (none, r)
  | 0, _, _, _, _, _, _, h => by cases h
  | g + 1, x0, x1, x2, x3, M, r, h => by
    unfold fKeys_read_L37 at h
    refine xEvG_n xml xfetch 4 (y := (235, if x3 < (M x0 1) then 45 else 78, [some (6, x0), some (8, x1), some (0, x2), some (0, x3)], [], M)) rfl trivial ?_
    refine xEvG_br xml xfetch (fun c_ => ?_) (fun c_ => ?_)
    · have h := xif_t c_ h
      refine xEvG_n xml xfetch 9 (y := (235, 54, [some (6, x0), some (8, x1), some (0, x2), some (0, x3)], [(0, 0), (0, x3), (0, (xrem x2 2)), (0, (xdiv x2 2)), (8, x1)], M)) rfl ⟨by decide, by decide, trivial⟩ ?_
      obtain ⟨v1, e_, h⟩ := xB_t h
      refine xEvG_call xml xfetch (q := (some (0, v1), M)) rfl (hPrison_whyNot x1 (xdiv x2 2) (xrem x2 2) x3 0 M _ e_) ?_
      show xEv (235, 57, [some (6, x0), some (8, x1), some (0, x2), some (0, x3)], [(0, v1)], M) _
      refine xEvG_n xml xfetch 1 (y := (235, if v1 = 0 then 60 else 72, [some (6, x0), some (8, x1), some (0, x2), some (0, x3)], [], M)) rfl trivial ?_
      refine xEvG_br xml xfetch (fun c_ => ?_) (fun c_ => ?_)
      · have h := xif_t c_ h
        have a0_ := (xA_t h).1
        have h := (xA_t h).2
        have a1_ := (xA_t h).1
        have h := (xA_t h).2
        refine xEvG_n xml xfetch 12 (y := (235, 37, [some (6, x0), some (8, x1), some (0, x2), some (0, (xw32 (x3 + 1)))], [], (xwr M (x0 + 1) x2 (xor32 (M (x0 + 1) x2) (xshl 1 x3))))) rfl ⟨a0_, a1_, trivial⟩ ?_
        refine xEvG_mask xml xfetch [true, true, true, true] ?_
        exact (hKeys_read_L37 k_18 hk_18 g) x0 x1 x2 (xw32 (x3 + 1)) (xwr M (x0 + 1) x2 (xor32 (M (x0 + 1) x2) (xshl 1 x3))) _ h
      · have h := xif_f c_ h
        refine xEvG_n xml xfetch 2 (y := (235, 37, [some (6, x0), some (8, x1), some (0, x2), some (0, (xw32 (x3 + 1)))], [], M)) rfl trivial ?_
        refine xEvG_mask xml xfetch [true, true, true, true] ?_
        exact (hKeys_read_L37 k_18 hk_18 g) x0 x1 x2 (xw32 (x3 + 1)) M _ h
    · have h := xif_f c_ h
      refine xEvG_n xml xfetch 2 (y := (235, 18, [some (6, x0), some (8, x1), some (0, (xw32 (x2 + 1))), some (0, x3)], [], M)) rfl trivial ?_
      refine xEvG_mask xml xfetch [true, true, true, false] ?_
      exact hk_18 x0 x1 (xw32 (x2 + 1)) M _ h
def fKeys_read_L86 : Nat → Int → Int → Int → xM → Option xM
  | 0, _, _, _, _ => none
  | g + 1, x0, x1, x2, M => if x2 < (M x0 0) then (xB (fKeys_readDoor x0 x1 x2 M) (fun m2 => (fKeys_read_L86 g) x0 x1 (xw32 (x2 + 1)) m2)) else (some M)
theorem hKeys_read_L86 : ∀ (g : Nat) (x0 x1 x2 : Int) (M : xM) (r : xM) (h : fKeys_read_L86 g x0 x1 x2 M = some r), xEv (235, 86, [some (6, x0), some (8, x1), some (0, x2), none], [], M) (none, r)
  | 0, _, _, _, _, _, h => by cases h
  | g + 1, x0, x1, x2, M, r, h => by
    unfold fKeys_read_L86 at h
    refine xEvG_n xml xfetch 4 (y := (235, if x2 < (M x0 0) then 94 else 106, [some (6, x0), some (8, x1), some (0, x2), none], [], M)) rfl trivial ?_
    refine xEvG_br xml xfetch (fun c_ => ?_) (fun c_ => ?_)
    · have h := xif_t c_ h
      refine xEvG_n xml xfetch 3 (y := (235, 97, [some (6, x0), some (8, x1), some (0, x2), none], [(0, x2), (8, x1), (6, x0)], M)) rfl trivial ?_
      obtain ⟨m2, e_, h⟩ := xB_t h
      refine xEvG_call xml xfetch (q := (none, m2)) rfl (hKeys_readDoor x0 x1 x2 M _ e_) ?_
      show xEv (235, 100, [some (6, x0), some (8, x1), some (0, x2), none], [], m2) _
      refine xEvG_n xml xfetch 2 (y := (235, 86, [some (6, x0), some (8, x1), some (0, (xw32 (x2 + 1))), none], [], m2)) rfl trivial ?_
      refine xEvG_mask xml xfetch [true, true, true, false] ?_
      exact (hKeys_read_L86 g) x0 x1 (xw32 (x2 + 1)) m2 _ h
    · have h := xif_f c_ h
      cases h
      exact xEvG_ret xml xfetch rfl
def fKeys_read_L18 : Nat → Int → Int → Int → xM → Option xM
  | 0, _, _, _, _ => none
  | g + 1, x0, x1, x2, M => if x2 < (xw32 (2 * (M x0 0))) then (xA (0 ≤ x2 ∧ x2 < 18) (fKeys_read_L37 (fKeys_read_L18 g) 20001 x0 x1 x2 0 (xwr M (x0 + 1) x2 0))) else (fKeys_read_L86 20001 x0 x1 0 M)
theorem hKeys_read_L18 : ∀ (g : Nat) (x0 x1 x2 : Int) (M : xM) (r : xM) (h : fKeys_read_L18 g x0 x1 x2 M = some r), xEv (235, 18, [some (6, x0), some (8, x1), some (0, x2), none], [], M) (none, r)
  | 0, _, _, _, _, _, h => by cases h
  | g + 1, x0, x1, x2, M, r, h => by
    unfold fKeys_read_L18 at h
    refine xEvG_n xml xfetch 6 (y := (235, if x2 < (xw32 (2 * (M x0 0))) then 28 else 84, [some (6, x0), some (8, x1), some (0, x2), none], [], M)) rfl trivial ?_
    refine xEvG_br xml xfetch (fun c_ => ?_) (fun c_ => ?_)
    · have h := xif_t c_ h
      have a0_ := (xA_t h).1
      have h := (xA_t h).2
      refine xEvG_n xml xfetch 7 (y := (235, 37, [some (6, x0), some (8, x1), some (0, x2), some (0, 0)], [], (xwr M (x0 + 1) x2 0))) rfl ⟨a0_, trivial⟩ ?_
      refine xEvG_mask xml xfetch [true, true, true, true] ?_
      exact hKeys_read_L37 (fKeys_read_L18 g) (hKeys_read_L18 g) 20001 x0 x1 x2 0 (xwr M (x0 + 1) x2 0) _ h
    · have h := xif_f c_ h
      refine xEvG_n xml xfetch 2 (y := (235, 86, [some (6, x0), some (8, x1), some (0, 0), none], [], M)) rfl trivial ?_
      refine xEvG_mask xml xfetch [true, true, true, false] ?_
      exact hKeys_read_L86 20001 x0 x1 0 M _ h
/-- ConsentDoors$Keys.read(LConsentDoors$Prison;)V -/
def fKeys_read (a0 a1 : Int) (M : xM) : Option xM := fKeys_read_L18 20001 a0 a1 0 (xwr (xwr M a0 0 (M a1 0)) a0 1 ((xwr M a0 0 (M a1 0)) a1 1))
theorem hKeys_read (a0 a1 : Int) (M : xM) (r : xM) (h : fKeys_read a0 a1 M = some r) : xEv (235, 0, [some (6, a0), some (8, a1), none, none], [], M) (none, r) := by
  unfold fKeys_read at h
  refine xEvG_n xml xfetch 10 (y := (235, 18, [some (6, a0), some (8, a1), some (0, 0), none], [], (xwr (xwr M a0 0 (M a1 0)) a0 1 ((xwr M a0 0 (M a1 0)) a1 1)))) rfl trivial ?_
  refine xEvG_mask xml xfetch [true, true, true, false] ?_
  exact hKeys_read_L18 20001 a0 a1 0 (xwr (xwr M a0 0 (M a1 0)) a0 1 ((xwr M a0 0 (M a1 0)) a1 1)) _ h

def fJA_fill_k25_L6 : Nat → Int → Int → Int → Int → xM → Option xM
  | 0, _, _, _, _, _ => none
  | g + 1, x0, x1, x3, x4, M => if x3 < x4 then (xA (0 ≤ x3 ∧ x3 < 8) ((fJA_fill_k25_L6 g) x0 x1 (xw32 (x3 + 1)) x4 (xwr M x0 x3 x1))) else (some M)
theorem hJA_fill_k25_L6 : ∀ (g : Nat) (x0 x1 x3 x4 : Int) (M : xM) (r : xM) (h : fJA_fill_k25_L6 g x0 x1 x3 x4 M = some r), xEv (302, 6, [some (27, x0), some (1, x1), none, some (0, x3), some (0, x4)], [], M) (none, r)
  | 0, _, _, _, _, _, _, h => by cases h
  | g + 1, x0, x1, x3, x4, M, r, h => by
    unfold fJA_fill_k25_L6 at h
    refine xEvG_n xml xfetch 3 (y := (302, if x3 < x4 then 12 else 22, [some (27, x0), some (1, x1), none, some (0, x3), some (0, x4)], [], M)) rfl trivial ?_
    refine xEvG_br xml xfetch (fun c_ => ?_) (fun c_ => ?_)
    · have h := xif_t c_ h
      have a0_ := (xA_t h).1
      have h := (xA_t h).2
      refine xEvG_n xml xfetch 6 (y := (302, 6, [some (27, x0), some (1, x1), none, some (0, (xw32 (x3 + 1))), some (0, x4)], [], (xwr M x0 x3 x1))) rfl ⟨a0_, trivial⟩ ?_
      refine xEvG_mask xml xfetch [true, true, false, true, true] ?_
      exact (hJA_fill_k25_L6 g) x0 x1 (xw32 (x3 + 1)) x4 (xwr M x0 x3 x1) _ h
    · have h := xif_f c_ h
      cases h
      exact xEvG_ret xml xfetch rfl
/-- java/util/Arrays.fill([JJ)V -/
def fJA_fill_k25 (a0 a1 : Int) (M : xM) : Option xM := fJA_fill_k25_L6 20001 a0 a1 0 8 M
theorem hJA_fill_k25 (a0 a1 : Int) (M : xM) (r : xM) (h : fJA_fill_k25 a0 a1 M = some r) : xEv (302, 0, [some (27, a0), some (1, a1), none, none, none], [], M) (none, r) := by
  unfold fJA_fill_k25 at h
  refine xEvG_n xml xfetch 5 (y := (302, 6, [some (27, a0), some (1, a1), none, some (0, 0), some (0, 8)], [], M)) rfl trivial ?_
  refine xEvG_mask xml xfetch [true, true, false, true, true] ?_
  exact hJA_fill_k25_L6 20001 a0 a1 0 8 M _ h

/-- ConsentDoors$Sets.clear()V -/
def fSets_clear (a0 : Int) (M : xM) : Option xM := xB (fJA_fill_k25 (a0 + 1) 0 M) (fun m1 => some m1)
theorem hSets_clear (a0 : Int) (M : xM) (r : xM) (h : fSets_clear a0 M = some r) : xEv (277, 0, [some (10, a0)], [], M) (none, r) := by
  unfold fSets_clear at h
  refine xEvG_n xml xfetch 3 (y := (277, 5, [some (10, a0)], [(1, 0), (27, (a0 + 1))], M)) rfl trivial ?_
  obtain ⟨m1, e_, h⟩ := xB_t h
  refine xEvG_call xml xfetch (q := (none, m1)) rfl (hJA_fill_k25 (a0 + 1) 0 M _ e_) ?_
  show xEv (277, 8, [some (10, a0)], [], m1) _
  cases h
  exact xEvG_ret xml xfetch rfl

/-- ConsentDoors$Sets.add(I)V -/
def fSets_add (a0 a1 : Int) (M : xM) : Option xM := xA (0 ≤ (xand (xshr a1 6) 7) ∧ (xand (xshr a1 6) 7) < 8) (xA (0 ≤ (xand (xshr a1 6) 7) ∧ (xand (xshr a1 6) 7) < 8) (some (xwr M (a0 + 1) (xand (xshr a1 6) 7) (xorL (M (a0 + 1) (xand (xshr a1 6) 7)) (xshlL 1 (xand a1 63))))))
theorem hSets_add (a0 a1 : Int) (M : xM) (r : xM) (h : fSets_add a0 a1 M = some r) : xEv (279, 0, [some (10, a0), some (0, a1)], [], M) (none, r) := by
  unfold fSets_add at h
  have a0_ := (xA_t h).1
  have h := (xA_t h).2
  have a1_ := (xA_t h).1
  have h := (xA_t h).2
  refine xEvG_n xml xfetch 16 (y := (279, 21, [some (10, a0), some (0, a1)], [], (xwr M (a0 + 1) (xand (xshr a1 6) 7) (xorL (M (a0 + 1) (xand (xshr a1 6) 7)) (xshlL 1 (xand a1 63)))))) rfl ⟨a0_, a1_, trivial⟩ ?_
  cases h
  exact xEvG_ret xml xfetch rfl

/-- ConsentDoors$Sets.copy(LConsentDoors$Sets;)V -/
def fSets_copy (a0 a1 : Int) (M : xM) : xM := (xcpy M (a1 + 1) 0 (a0 + 1) 0 8)
theorem hSets_copy (a0 a1 : Int) (M : xM) (r : xM) (h : fSets_copy a0 a1 M = r) : xEv (278, 0, [some (10, a0), some (10, a1)], [], M) (none, r) := by
  unfold fSets_copy at h
  refine xEvG_n xml xfetch 8 (y := (278, 15, [some (10, a0), some (10, a1)], [], (xcpy M (a1 + 1) 0 (a0 + 1) 0 8))) rfl ⟨by decide, trivial⟩ ?_
  subst h
  exact xEvG_ret xml xfetch rfl

/-- ConsentDoors$Sets.wordStep(I)I -/
def fSets_wordStep (a0 : Int) (M : xM) : Int := (if a0 < 6 then 0 else (xshl 1 (xw32 (a0 - 6))) : Int)
theorem hSets_wordStep (a0 : Int) (M : xM) (r : Int) (h : fSets_wordStep a0 M = r) : xEv (287, 0, [some (0, a0)], [], M) (some (0, r), M) := by
  unfold fSets_wordStep at h
  refine xEvG_n xml xfetch 2 (y := (287, 3, [some (0, a0)], [(0, 6), (0, a0)], M)) rfl trivial ?_
  have key_ : xEv (287, 16, [some (0, a0)], [(0, (if a0 < 6 then 0 else (xshl 1 (xw32 (a0 - 6))) : Int))], M) (some (0, r), M) := by
    subst h
    exact xEvG_ret xml xfetch rfl
  refine xEvG_n xml xfetch 1 (y := (287, if a0 < 6 then 6 else 10, [some (0, a0)], [], M)) rfl trivial ?_
  refine xEvG_br xml xfetch (fun c2_ => ?_) (fun c2_ => ?_)
  · refine xEvG_n xml xfetch 2 (y := (287, 16, [some (0, a0)], [(0, 0)], M)) rfl trivial ?_
    try simp only [if_pos c2_] at key_
    try simp only [if_pos c2_]
    exact key_
  · refine xEvG_n xml xfetch 5 (y := (287, 16, [some (0, a0)], [(0, (xshl 1 (xw32 (a0 - 6))))], M)) rfl trivial ?_
    try simp only [if_neg c2_] at key_
    try simp only [if_neg c2_]
    exact key_

/-- ConsentDoors$Sets.bitShift(I)I -/
def fSets_bitShift (a0 : Int) (M : xM) : Int := (if a0 < 6 then (xshl 1 a0) else 0 : Int)
theorem hSets_bitShift (a0 : Int) (M : xM) (r : Int) (h : fSets_bitShift a0 M = r) : xEv (288, 0, [some (0, a0)], [], M) (some (0, r), M) := by
  unfold fSets_bitShift at h
  refine xEvG_n xml xfetch 2 (y := (288, 3, [some (0, a0)], [(0, 6), (0, a0)], M)) rfl trivial ?_
  have key_ : xEv (288, 13, [some (0, a0)], [(0, (if a0 < 6 then (xshl 1 a0) else 0 : Int))], M) (some (0, r), M) := by
    subst h
    exact xEvG_ret xml xfetch rfl
  refine xEvG_n xml xfetch 1 (y := (288, if a0 < 6 then 6 else 12, [some (0, a0)], [], M)) rfl trivial ?_
  refine xEvG_br xml xfetch (fun c2_ => ?_) (fun c2_ => ?_)
  · refine xEvG_n xml xfetch 4 (y := (288, 13, [some (0, a0)], [(0, (xshl 1 a0))], M)) rfl trivial ?_
    try simp only [if_pos c2_] at key_
    try simp only [if_pos c2_]
    exact key_
  · refine xEvG_n xml xfetch 1 (y := (288, 13, [some (0, a0)], [(0, 0)], M)) rfl trivial ?_
    try simp only [if_neg c2_] at key_
    try simp only [if_neg c2_]
    exact key_

/-- ConsentDoors$Sets.wordsFor(I)I -/
def fSets_wordsFor (a0 : Int) (M : xM) : Int := (if 6 < a0 then (xshl 1 (xw32 (a0 - 6))) else 1 : Int)
theorem hSets_wordsFor (a0 : Int) (M : xM) (r : Int) (h : fSets_wordsFor a0 M = r) : xEv (286, 0, [some (0, a0)], [], M) (some (0, r), M) := by
  unfold fSets_wordsFor at h
  refine xEvG_n xml xfetch 2 (y := (286, 3, [some (0, a0)], [(0, 6), (0, a0)], M)) rfl trivial ?_
  have key_ : xEv (286, 16, [some (0, a0)], [(0, (if 6 < a0 then (xshl 1 (xw32 (a0 - 6))) else 1 : Int))], M) (some (0, r), M) := by
    subst h
    exact xEvG_ret xml xfetch rfl
  refine xEvG_n xml xfetch 1 (y := (286, if 6 < a0 then 10 else 6, [some (0, a0)], [], M)) rfl trivial ?_
  refine xEvG_br xml xfetch (fun c2_ => ?_) (fun c2_ => ?_)
  · refine xEvG_n xml xfetch 5 (y := (286, 16, [some (0, a0)], [(0, (xshl 1 (xw32 (a0 - 6))))], M)) rfl trivial ?_
    try simp only [if_pos c2_] at key_
    try simp only [if_pos c2_]
    exact key_
  · refine xEvG_n xml xfetch 2 (y := (286, 16, [some (0, a0)], [(0, 1)], M)) rfl trivial ?_
    try simp only [if_neg c2_] at key_
    try simp only [if_neg c2_]
    exact key_

def fSets_addNext_L26 : Nat → Int → Int → Int → Int → Int → Int → Int → Int → xM → Option xM
  | 0, _, _, _, _, _, _, _, _, _ => none
  | g + 1, x0, x1, x2, x3, x4, x5, x6, x7, M => if x7 < (fSets_wordsFor (M x2 0) M) then (if (xand x7 x4) = 0 then (xA (0 ≤ (xor32 x7 x5) ∧ (xor32 x7 x5) < 8) (xA (0 ≤ x7 ∧ x7 < 8) (xA (0 ≤ x3 ∧ x3 < 9) (xA (0 ≤ (xor32 x7 x5) ∧ (xor32 x7 x5) < 8) ((fSets_addNext_L26 g) x0 x1 x2 x3 x4 x5 x6 (xw32 (x7 + 1)) (xwr M (x0 + 1) (xor32 x7 x5) (xorL (M (x0 + 1) (xor32 x7 x5)) (xshlL (xandL (M (x1 + 1) x7) (M (x2 + 5) x3)) x6)))))))) else ((fSets_addNext_L26 g) x0 x1 x2 x3 x4 x5 x6 (xw32 (x7 + 1)) M)) else (some M)
theorem hSets_addNext_L26 : ∀ (g : Nat) (x0 x1 x2 x3 x4 x5 x6 x7 : Int) (M : xM) (r : xM) (h : fSets_addNext_L26 g x0 x1 x2 x3 x4 x5 x6 x7 M = some r), xEv (284, 26, [some (10, x0), some (10, x1), some (6, x2), some (0, x3), some (0, x4), some (0, x5), some (0, x6), some (0, x7)], [], M) (none, r)
  | 0, _, _, _, _, _, _, _, _, _, _, h => by cases h
  | g + 1, x0, x1, x2, x3, x4, x5, x6, x7, M, r, h => by
    unfold fSets_addNext_L26 at h
    refine xEvG_n xml xfetch 3 (y := (284, 32, [some (10, x0), some (10, x1), some (6, x2), some (0, x3), some (0, x4), some (0, x5), some (0, x6), some (0, x7)], [(0, (M x2 0)), (0, x7)], M)) rfl trivial ?_
    refine xEvG_call xml xfetch (q := (some (0, fSets_wordsFor (M x2 0) M), M)) rfl (hSets_wordsFor (M x2 0) M _ rfl) ?_
    show xEv (284, 35, [some (10, x0), some (10, x1), some (6, x2), some (0, x3), some (0, x4), some (0, x5), some (0, x6), some (0, x7)], [(0, (fSets_wordsFor (M x2 0) M)), (0, x7)], M) _
    refine xEvG_n xml xfetch 1 (y := (284, if x7 < (fSets_wordsFor (M x2 0) M) then 38 else 82, [some (10, x0), some (10, x1), some (6, x2), some (0, x3), some (0, x4), some (0, x5), some (0, x6), some (0, x7)], [], M)) rfl trivial ?_
    refine xEvG_br xml xfetch (fun c_ => ?_) (fun c_ => ?_)
    · have h := xif_t c_ h
      refine xEvG_n xml xfetch 4 (y := (284, if (xand x7 x4) = 0 then 46 else 76, [some (10, x0), some (10, x1), some (6, x2), some (0, x3), some (0, x4), some (0, x5), some (0, x6), some (0, x7)], [], M)) rfl trivial ?_
      refine xEvG_br xml xfetch (fun c_ => ?_) (fun c_ => ?_)
      · have h := xif_t c_ h
        have a0_ := (xA_t h).1
        have h := (xA_t h).2
        have a1_ := (xA_t h).1
        have h := (xA_t h).2
        have a2_ := (xA_t h).1
        have h := (xA_t h).2
        have a3_ := (xA_t h).1
        have h := (xA_t h).2
        refine xEvG_n xml xfetch 22 (y := (284, 26, [some (10, x0), some (10, x1), some (6, x2), some (0, x3), some (0, x4), some (0, x5), some (0, x6), some (0, (xw32 (x7 + 1)))], [], (xwr M (x0 + 1) (xor32 x7 x5) (xorL (M (x0 + 1) (xor32 x7 x5)) (xshlL (xandL (M (x1 + 1) x7) (M (x2 + 5) x3)) x6))))) rfl ⟨a0_, a1_, a2_, a3_, trivial⟩ ?_
        refine xEvG_mask xml xfetch [true, true, true, true, true, true, true, true] ?_
        exact (hSets_addNext_L26 g) x0 x1 x2 x3 x4 x5 x6 (xw32 (x7 + 1)) (xwr M (x0 + 1) (xor32 x7 x5) (xorL (M (x0 + 1) (xor32 x7 x5)) (xshlL (xandL (M (x1 + 1) x7) (M (x2 + 5) x3)) x6))) _ h
      · have h := xif_f c_ h
        refine xEvG_n xml xfetch 2 (y := (284, 26, [some (10, x0), some (10, x1), some (6, x2), some (0, x3), some (0, x4), some (0, x5), some (0, x6), some (0, (xw32 (x7 + 1)))], [], M)) rfl trivial ?_
        refine xEvG_mask xml xfetch [true, true, true, true, true, true, true, true] ?_
        exact (hSets_addNext_L26 g) x0 x1 x2 x3 x4 x5 x6 (xw32 (x7 + 1)) M _ h
    · have h := xif_f c_ h
      cases h
      exact xEvG_ret xml xfetch rfl
/-- ConsentDoors$Sets.addNext(LConsentDoors$Sets;LConsentDoors$Keys;I)V -/
def fSets_addNext (a0 a1 a2 a3 : Int) (M : xM) : Option xM := xA (0 ≤ a3 ∧ a3 < 9) (fSets_addNext_L26 20001 a0 a1 a2 a3 (xshr (M (a2 + 4) a3) 6) (fSets_wordStep a3 M) (fSets_bitShift a3 M) 0 M)
theorem hSets_addNext (a0 a1 a2 a3 : Int) (M : xM) (r : xM) (h : fSets_addNext a0 a1 a2 a3 M = some r) : xEv (284, 0, [some (10, a0), some (10, a1), some (6, a2), some (0, a3), none, none, none, none], [], M) (none, r) := by
  unfold fSets_addNext at h
  have a0_ := (xA_t h).1
  have h := (xA_t h).2
  refine xEvG_n xml xfetch 8 (y := (284, 12, [some (10, a0), some (10, a1), some (6, a2), some (0, a3), some (0, (xshr (M (a2 + 4) a3) 6)), none, none, none], [(0, a3)], M)) rfl ⟨a0_, trivial⟩ ?_
  refine xEvG_call xml xfetch (q := (some (0, fSets_wordStep a3 M), M)) rfl (hSets_wordStep a3 M _ rfl) ?_
  show xEv (284, 15, [some (10, a0), some (10, a1), some (6, a2), some (0, a3), some (0, (xshr (M (a2 + 4) a3) 6)), none, none, none], [(0, (fSets_wordStep a3 M))], M) _
  refine xEvG_n xml xfetch 2 (y := (284, 18, [some (10, a0), some (10, a1), some (6, a2), some (0, a3), some (0, (xshr (M (a2 + 4) a3) 6)), some (0, (fSets_wordStep a3 M)), none, none], [(0, a3)], M)) rfl trivial ?_
  refine xEvG_call xml xfetch (q := (some (0, fSets_bitShift a3 M), M)) rfl (hSets_bitShift a3 M _ rfl) ?_
  show xEv (284, 21, [some (10, a0), some (10, a1), some (6, a2), some (0, a3), some (0, (xshr (M (a2 + 4) a3) 6)), some (0, (fSets_wordStep a3 M)), none, none], [(0, (fSets_bitShift a3 M))], M) _
  refine xEvG_n xml xfetch 3 (y := (284, 26, [some (10, a0), some (10, a1), some (6, a2), some (0, a3), some (0, (xshr (M (a2 + 4) a3) 6)), some (0, (fSets_wordStep a3 M)), some (0, (fSets_bitShift a3 M)), some (0, 0)], [], M)) rfl trivial ?_
  refine xEvG_mask xml xfetch [true, true, true, true, true, true, true, true] ?_
  exact hSets_addNext_L26 20001 a0 a1 a2 a3 (xshr (M (a2 + 4) a3) 6) (fSets_wordStep a3 M) (fSets_bitShift a3 M) 0 M _ h

def fOutlook_explore_L59 (k_29 : Int → Int → xM → Option xM) : Nat → Int → Int → Int → xM → Option xM
  | 0, _, _, _, _ => none
  | g + 1, x0, x2, x3, M => if x3 < (M (x0 + 1) 0) then (xA (0 ≤ x3 ∧ x3 < 9) (if (fD_bit (M ((x0 + 1) + 2) x3) x2 M) = 1 then (xA (0 ≤ (xw32 (x2 + 1)) ∧ (xw32 (x2 + 1)) < 25) (xA (0 ≤ x2 ∧ x2 < 25) (xB (fSets_addNext ((x0 + 7) + 2 + 4 * (xw32 (x2 + 1))) ((x0 + 7) + 2 + 4 * x2) (x0 + 1) x3 M) (fun m6 => (fOutlook_explore_L59 k_29 g) x0 x2 (xw32 (x3 + 1)) m6)))) else ((fOutlook_explore_L59 k_29 g) x0 x2 (xw32 (x3 + 1)) M))) else (k_29 x0 (xw32 (x2 + 1)) M)
theorem hOutlook_explore_L59 (k_29 : Int → Int → xM → Option xM) (hk_29 : ∀ (x0 x2 : Int) (M : xM) (r : xM), k_29 x0 x2 M = some r → xEv (240, 29, [some (7, x0), none, some (0, x2), none], [], M) (none, r)) : ∀ (g : Nat) (x0 x2 x3 : Int) (M : xM) (r : xM) (h : fOutlook_explore_L59 k_29 g x0 x2 x3 M = some r), xEv (240, 59, [some (7, x0), none, some (0, x2), some (0, x3)], [], M) (none, r)
  | 0, _, _, _, _, _, h => by cases h
  | g + 1, x0, x2, x3, M, r, h => by
    unfold fOutlook_explore_L59 at h
    refine xEvG_n xml xfetch 5 (y := (240, if x3 < (M (x0 + 1) 0) then 70 else 115, [some (7, x0), none, some (0, x2), some (0, x3)], [], M)) rfl trivial ?_
    refine xEvG_br xml xfetch (fun c_ => ?_) (fun c_ => ?_)
    · have h := xif_t c_ h
      have a0_ := (xA_t h).1
      have h := (xA_t h).2
      refine xEvG_n xml xfetch 6 (y := (240, 80, [some (7, x0), none, some (0, x2), some (0, x3)], [(0, x2), (0, (M ((x0 + 1) + 2) x3))], M)) rfl ⟨a0_, trivial⟩ ?_
      refine xEvG_call xml xfetch (q := (some (0, fD_bit (M ((x0 + 1) + 2) x3) x2 M), M)) rfl (hD_bit (M ((x0 + 1) + 2) x3) x2 M _ rfl) ?_
      show xEv (240, 83, [some (7, x0), none, some (0, x2), some (0, x3)], [(0, (fD_bit (M ((x0 + 1) + 2) x3) x2 M))], M) _
      refine xEvG_n xml xfetch 2 (y := (240, if (fD_bit (M ((x0 + 1) + 2) x3) x2 M) = 1 then 87 else 109, [some (7, x0), none, some (0, x2), some (0, x3)], [], M)) rfl trivial ?_
      refine xEvG_br xml xfetch (fun c_ => ?_) (fun c_ => ?_)
      · have h := xif_t c_ h
        have a0_ := (xA_t h).1
        have h := (xA_t h).2
        have a1_ := (xA_t h).1
        have h := (xA_t h).2
        refine xEvG_n xml xfetch 13 (y := (240, 106, [some (7, x0), none, some (0, x2), some (0, x3)], [(0, x3), (6, (x0 + 1)), (10, ((x0 + 7) + 2 + 4 * x2)), (10, ((x0 + 7) + 2 + 4 * (xw32 (x2 + 1))))], M)) rfl ⟨a0_, a1_, trivial⟩ ?_
        obtain ⟨m6, e_, h⟩ := xB_t h
        refine xEvG_call xml xfetch (q := (none, m6)) rfl (hSets_addNext ((x0 + 7) + 2 + 4 * (xw32 (x2 + 1))) ((x0 + 7) + 2 + 4 * x2) (x0 + 1) x3 M _ e_) ?_
        show xEv (240, 109, [some (7, x0), none, some (0, x2), some (0, x3)], [], m6) _
        refine xEvG_n xml xfetch 2 (y := (240, 59, [some (7, x0), none, some (0, x2), some (0, (xw32 (x3 + 1)))], [], m6)) rfl trivial ?_
        refine xEvG_mask xml xfetch [true, false, true, true] ?_
        exact (hOutlook_explore_L59 k_29 hk_29 g) x0 x2 (xw32 (x3 + 1)) m6 _ h
      · have h := xif_f c_ h
        refine xEvG_n xml xfetch 2 (y := (240, 59, [some (7, x0), none, some (0, x2), some (0, (xw32 (x3 + 1)))], [], M)) rfl trivial ?_
        refine xEvG_mask xml xfetch [true, false, true, true] ?_
        exact (hOutlook_explore_L59 k_29 hk_29 g) x0 x2 (xw32 (x3 + 1)) M _ h
    · have h := xif_f c_ h
      refine xEvG_n xml xfetch 2 (y := (240, 29, [some (7, x0), none, some (0, (xw32 (x2 + 1))), some (0, x3)], [], M)) rfl trivial ?_
      refine xEvG_mask xml xfetch [true, false, true, false] ?_
      exact hk_29 x0 (xw32 (x2 + 1)) M _ h
def fOutlook_explore_L29 : Nat → Int → Int → xM → Option xM
  | 0, _, _, _ => none
  | g + 1, x0, x2, M => if x2 < (M (x0 + 1) 1) then (xA (0 ≤ (xw32 (x2 + 1)) ∧ (xw32 (x2 + 1)) < 25) (xA (0 ≤ x2 ∧ x2 < 25) (fOutlook_explore_L59 (fOutlook_explore_L29 g) 20001 x0 x2 0 (fSets_copy ((x0 + 7) + 2 + 4 * (xw32 (x2 + 1))) ((x0 + 7) + 2 + 4 * x2) M)))) else (some M)
theorem hOutlook_explore_L29 : ∀ (g : Nat) (x0 x2 : Int) (M : xM) (r : xM) (h : fOutlook_explore_L29 g x0 x2 M = some r), xEv (240, 29, [some (7, x0), none, some (0, x2), none], [], M) (none, r)
  | 0, _, _, _, _, h => by cases h
  | g + 1, x0, x2, M, r, h => by
    unfold fOutlook_explore_L29 at h
    refine xEvG_n xml xfetch 5 (y := (240, if x2 < (M (x0 + 1) 1) then 40 else 121, [some (7, x0), none, some (0, x2), none], [], M)) rfl trivial ?_
    refine xEvG_br xml xfetch (fun c_ => ?_) (fun c_ => ?_)
    · have h := xif_t c_ h
      have a0_ := (xA_t h).1
      have h := (xA_t h).2
      have a1_ := (xA_t h).1
      have h := (xA_t h).2
      refine xEvG_n xml xfetch 10 (y := (240, 54, [some (7, x0), none, some (0, x2), none], [(10, ((x0 + 7) + 2 + 4 * x2)), (10, ((x0 + 7) + 2 + 4 * (xw32 (x2 + 1))))], M)) rfl ⟨a0_, a1_, trivial⟩ ?_
      refine xEvG_call xml xfetch (q := (none, fSets_copy ((x0 + 7) + 2 + 4 * (xw32 (x2 + 1))) ((x0 + 7) + 2 + 4 * x2) M)) rfl (hSets_copy ((x0 + 7) + 2 + 4 * (xw32 (x2 + 1))) ((x0 + 7) + 2 + 4 * x2) M _ rfl) ?_
      show xEv (240, 57, [some (7, x0), none, some (0, x2), none], [], (fSets_copy ((x0 + 7) + 2 + 4 * (xw32 (x2 + 1))) ((x0 + 7) + 2 + 4 * x2) M)) _
      refine xEvG_n xml xfetch 2 (y := (240, 59, [some (7, x0), none, some (0, x2), some (0, 0)], [], (fSets_copy ((x0 + 7) + 2 + 4 * (xw32 (x2 + 1))) ((x0 + 7) + 2 + 4 * x2) M))) rfl trivial ?_
      refine xEvG_mask xml xfetch [true, false, true, true] ?_
      exact hOutlook_explore_L59 (fOutlook_explore_L29 g) (hOutlook_explore_L29 g) 20001 x0 x2 0 (fSets_copy ((x0 + 7) + 2 + 4 * (xw32 (x2 + 1))) ((x0 + 7) + 2 + 4 * x2) M) _ h
    · have h := xif_f c_ h
      cases h
      exact xEvG_ret xml xfetch rfl
/-- ConsentDoors$Outlook.explore(LConsentDoors$Prison;)V -/
def fOutlook_explore (a0 a1 : Int) (M : xM) : Option xM := xB (fKeys_read (a0 + 1) a1 M) (fun m1 => xB (fSets_clear ((a0 + 7) + 2 + 4 * 0) m1) (fun m2 => xB (fSets_add ((a0 + 7) + 2 + 4 * 0) 0 m2) (fun m3 => fOutlook_explore_L29 20001 a0 0 m3)))
theorem hOutlook_explore (a0 a1 : Int) (M : xM) (r : xM) (h : fOutlook_explore a0 a1 M = some r) : xEv (240, 0, [some (7, a0), some (8, a1), none, none], [], M) (none, r) := by
  unfold fOutlook_explore at h
  refine xEvG_n xml xfetch 3 (y := (240, 5, [some (7, a0), some (8, a1), none, none], [(8, a1), (6, (a0 + 1))], M)) rfl trivial ?_
  obtain ⟨m1, e_, h⟩ := xB_t h
  refine xEvG_call xml xfetch (q := (none, m1)) rfl (hKeys_read (a0 + 1) a1 M _ e_) ?_
  show xEv (240, 8, [some (7, a0), some (8, a1), none, none], [], m1) _
  refine xEvG_n xml xfetch 4 (y := (240, 14, [some (7, a0), some (8, a1), none, none], [(10, ((a0 + 7) + 2 + 4 * 0))], m1)) rfl ⟨by decide, trivial⟩ ?_
  obtain ⟨m2, e_, h⟩ := xB_t h
  refine xEvG_call xml xfetch (q := (none, m2)) rfl (hSets_clear ((a0 + 7) + 2 + 4 * 0) m1 _ e_) ?_
  show xEv (240, 17, [some (7, a0), some (8, a1), none, none], [], m2) _
  refine xEvG_n xml xfetch 5 (y := (240, 24, [some (7, a0), some (8, a1), none, none], [(0, 0), (10, ((a0 + 7) + 2 + 4 * 0))], m2)) rfl ⟨by decide, trivial⟩ ?_
  obtain ⟨m3, e_, h⟩ := xB_t h
  refine xEvG_call xml xfetch (q := (none, m3)) rfl (hSets_add ((a0 + 7) + 2 + 4 * 0) 0 m2 _ e_) ?_
  show xEv (240, 27, [some (7, a0), some (8, a1), none, none], [], m3) _
  refine xEvG_n xml xfetch 2 (y := (240, 29, [some (7, a0), some (8, a1), some (0, 0), none], [], m3)) rfl trivial ?_
  refine xEvG_mask xml xfetch [true, false, true, false] ?_
  exact hOutlook_explore_L29 20001 a0 0 m3 _ h

/-- ConsentDoors$Keys.opensFor(III)Z -/
def fKeys_opensFor (a0 a1 a2 a3 : Int) (M : xM) : Option Int := xA (0 ≤ a1 ∧ a1 < 9) (if (fD_bit (M (a0 + 2) a1) a2 M) = 1 then (xA (0 ≤ a1 ∧ a1 < 9) (some (if (xand a3 (M (a0 + 4) a1)) = 0 then 1 else 0 : Int))) else (some 0))
theorem hKeys_opensFor (a0 a1 a2 a3 : Int) (M : xM) (r : Int) (h : fKeys_opensFor a0 a1 a2 a3 M = some r) : xEv (237, 0, [some (6, a0), some (0, a1), some (0, a2), some (0, a3)], [], M) (some (0, r), M) := by
  unfold fKeys_opensFor at h
  have a0_ := (xA_t h).1
  have h := (xA_t h).2
  refine xEvG_n xml xfetch 5 (y := (237, 7, [some (6, a0), some (0, a1), some (0, a2), some (0, a3)], [(0, a2), (0, (M (a0 + 2) a1))], M)) rfl ⟨a0_, trivial⟩ ?_
  refine xEvG_call xml xfetch (q := (some (0, fD_bit (M (a0 + 2) a1) a2 M), M)) rfl (hD_bit (M (a0 + 2) a1) a2 M _ rfl) ?_
  show xEv (237, 10, [some (6, a0), some (0, a1), some (0, a2), some (0, a3)], [(0, (fD_bit (M (a0 + 2) a1) a2 M))], M) _
  refine xEvG_n xml xfetch 2 (y := (237, if (fD_bit (M (a0 + 2) a1) a2 M) = 1 then 14 else 29, [some (6, a0), some (0, a1), some (0, a2), some (0, a3)], [], M)) rfl trivial ?_
  refine xEvG_br xml xfetch (fun c_ => ?_) (fun c_ => ?_)
  · have h := xif_t c_ h
    have a0_ := (xA_t h).1
    have h := (xA_t h).2
    refine xEvG_n xml xfetch 6 (y := (237, 22, [some (6, a0), some (0, a1), some (0, a2), some (0, a3)], [(0, (xand a3 (M (a0 + 4) a1)))], M)) rfl ⟨a0_, trivial⟩ ?_
    have key_ : xEv (237, 30, [some (6, a0), some (0, a1), some (0, a2), some (0, a3)], [(0, (if (xand a3 (M (a0 + 4) a1)) = 0 then 1 else 0 : Int))], M) (some (0, r), M) := by
      cases h
      exact xEvG_retc xml xfetch rfl (by (repeat' split) <;> first | exact Or.inl rfl | exact Or.inr rfl)
    refine xEvG_n xml xfetch 1 (y := (237, if (xand a3 (M (a0 + 4) a1)) = 0 then 25 else 29, [some (6, a0), some (0, a1), some (0, a2), some (0, a3)], [], M)) rfl trivial ?_
    refine xEvG_br xml xfetch (fun c4_ => ?_) (fun c4_ => ?_)
    · refine xEvG_n xml xfetch 2 (y := (237, 30, [some (6, a0), some (0, a1), some (0, a2), some (0, a3)], [(0, 1)], M)) rfl trivial ?_
      try simp only [if_pos c4_] at key_
      try simp only [if_pos c4_]
      exact key_
    · refine xEvG_n xml xfetch 1 (y := (237, 30, [some (6, a0), some (0, a1), some (0, a2), some (0, a3)], [(0, 0)], M)) rfl trivial ?_
      try simp only [if_neg c4_] at key_
      try simp only [if_neg c4_]
      exact key_
  · have h := xif_f c_ h
    refine xEvG_n xml xfetch 1 (y := (237, 30, [some (6, a0), some (0, a1), some (0, a2), some (0, a3)], [(0, 0)], M)) rfl trivial ?_
    cases h
    exact xEvG_retc xml xfetch rfl (Or.inl rfl)

def fCourse_follow_L65 (k_5 : Int → Int → Int → Int → Int → xM → Option xM) (x0 x1 x2 x3 x4 x5 x6 y0 y1 y2 : Int) (M : xM) : Option xM := xA (0 ≤ y1 ∧ y1 < 24) (if x6 = 0 then (xA (0 ≤ x4 ∧ x4 < 24) (k_5 x0 x1 x2 (xor32 x3 0) (xw32 (x4 + 1)) (xwr (xwr M y2 y1 y0) (x0 + 2) x4 (xor32 x3 0)))) else (xA (0 ≤ x4 ∧ x4 < 24) (k_5 x0 x1 x2 (xor32 x3 (xshl 1 x5)) (xw32 (x4 + 1)) (xwr (xwr M y2 y1 y0) (x0 + 2) x4 (xor32 x3 (xshl 1 x5))))))
theorem hCourse_follow_L65 (k_5 : Int → Int → Int → Int → Int → xM → Option xM) (hk_5 : ∀ (x0 x1 x2 x3 x4 : Int) (M : xM) (r : xM), k_5 x0 x1 x2 x3 x4 M = some r → xEv (230, 5, [some (4, x0), some (8, x1), some (6, x2), some (0, x3), some (0, x4), none, none], [], M) (none, r)) (x0 x1 x2 x3 x4 x5 x6 y0 y1 y2 : Int) (M : xM) (r : xM) (h : fCourse_follow_L65 k_5 x0 x1 x2 x3 x4 x5 x6 y0 y1 y2 M = some r) : xEv (230, 65, [some (4, x0), some (8, x1), some (6, x2), some (0, x3), some (0, x4), some (0, x5), some (0, x6)], [(0, y0), (0, y1), (25, y2)], M) (none, r) := by
  unfold fCourse_follow_L65 at h
  have a0_ := (xA_t h).1
  have h := (xA_t h).2
  refine xEvG_n xml xfetch 4 (y := (230, if x6 = 0 then 79 else 72, [some (4, x0), some (8, x1), some (6, x2), some (0, x3), some (0, x4), some (0, x5), some (0, x6)], [(0, x3)], (xwr M y2 y1 y0))) rfl ⟨a0_, trivial⟩ ?_
  refine xEvG_br xml xfetch (fun c_ => ?_) (fun c_ => ?_)
  · have h := xif_t c_ h
    have a0_ := (xA_t h).1
    have h := (xA_t h).2
    refine xEvG_n xml xfetch 10 (y := (230, 5, [some (4, x0), some (8, x1), some (6, x2), some (0, (xor32 x3 0)), some (0, (xw32 (x4 + 1))), some (0, x5), some (0, x6)], [], (xwr (xwr M y2 y1 y0) (x0 + 2) x4 (xor32 x3 0)))) rfl ⟨a0_, trivial⟩ ?_
    refine xEvG_mask xml xfetch [true, true, true, true, true, false, false] ?_
    exact hk_5 x0 x1 x2 (xor32 x3 0) (xw32 (x4 + 1)) (xwr (xwr M y2 y1 y0) (x0 + 2) x4 (xor32 x3 0)) _ h
  · have h := xif_f c_ h
    have a0_ := (xA_t h).1
    have h := (xA_t h).2
    refine xEvG_n xml xfetch 13 (y := (230, 5, [some (4, x0), some (8, x1), some (6, x2), some (0, (xor32 x3 (xshl 1 x5))), some (0, (xw32 (x4 + 1))), some (0, x5), some (0, x6)], [], (xwr (xwr M y2 y1 y0) (x0 + 2) x4 (xor32 x3 (xshl 1 x5))))) rfl ⟨a0_, trivial⟩ ?_
    refine xEvG_mask xml xfetch [true, true, true, true, true, false, false] ?_
    exact hk_5 x0 x1 x2 (xor32 x3 (xshl 1 x5)) (xw32 (x4 + 1)) (xwr (xwr M y2 y1 y0) (x0 + 2) x4 (xor32 x3 (xshl 1 x5))) _ h
def fCourse_follow_L46 (k_5 : Int → Int → Int → Int → Int → xM → Option xM) (x0 x1 x2 x3 x4 x5 y0 : Int) (M : xM) : Option xM := if y0 = 0 then (fCourse_follow_L65 k_5 x0 x1 x2 x3 x4 x5 y0 (-1) x4 (x0 + 1) M) else (fCourse_follow_L65 k_5 x0 x1 x2 x3 x4 x5 y0 x5 x4 (x0 + 1) M)
theorem hCourse_follow_L46 (k_5 : Int → Int → Int → Int → Int → xM → Option xM) (hk_5 : ∀ (x0 x1 x2 x3 x4 : Int) (M : xM) (r : xM), k_5 x0 x1 x2 x3 x4 M = some r → xEv (230, 5, [some (4, x0), some (8, x1), some (6, x2), some (0, x3), some (0, x4), none, none], [], M) (none, r)) (x0 x1 x2 x3 x4 x5 y0 : Int) (M : xM) (r : xM) (h : fCourse_follow_L46 k_5 x0 x1 x2 x3 x4 x5 y0 M = some r) : xEv (230, 46, [some (4, x0), some (8, x1), some (6, x2), some (0, x3), some (0, x4), some (0, x5), none], [(0, y0)], M) (none, r) := by
  unfold fCourse_follow_L46 at h
  refine xEvG_n xml xfetch 6 (y := (230, if y0 = 0 then 64 else 59, [some (4, x0), some (8, x1), some (6, x2), some (0, x3), some (0, x4), some (0, x5), some (0, y0)], [(0, x4), (25, (x0 + 1))], M)) rfl trivial ?_
  refine xEvG_br xml xfetch (fun c_ => ?_) (fun c_ => ?_)
  · have h := xif_t c_ h
    refine xEvG_n xml xfetch 1 (y := (230, 65, [some (4, x0), some (8, x1), some (6, x2), some (0, x3), some (0, x4), some (0, x5), some (0, y0)], [(0, (-1)), (0, x4), (25, (x0 + 1))], M)) rfl trivial ?_
    refine xEvG_mask xml xfetch [true, true, true, true, true, true, true] ?_
    exact hCourse_follow_L65 k_5 hk_5 x0 x1 x2 x3 x4 x5 y0 (-1) x4 (x0 + 1) M _ h
  · have h := xif_f c_ h
    refine xEvG_n xml xfetch 2 (y := (230, 65, [some (4, x0), some (8, x1), some (6, x2), some (0, x3), some (0, x4), some (0, x5), some (0, y0)], [(0, x5), (0, x4), (25, (x0 + 1))], M)) rfl trivial ?_
    refine xEvG_mask xml xfetch [true, true, true, true, true, true, true] ?_
    exact hCourse_follow_L65 k_5 hk_5 x0 x1 x2 x3 x4 x5 y0 x5 x4 (x0 + 1) M _ h
def fCourse_follow_L5 : Nat → Int → Int → Int → Int → Int → xM → Option xM
  | 0, _, _, _, _, _, _ => none
  | g + 1, x0, x1, x2, x3, x4, M => if x4 < (M x1 1) then (xA (0 ≤ x4 ∧ x4 < 24) (if (M (x1 + 10) x4) = (-1) then (fCourse_follow_L46 (fCourse_follow_L5 g) x0 x1 x2 x3 x4 (M (x1 + 10) x4) 0 M) else (xB (fKeys_opensFor x2 (M (x1 + 10) x4) x4 x3 M) (fun v1 => if v1 = 0 then (fCourse_follow_L46 (fCourse_follow_L5 g) x0 x1 x2 x3 x4 (M (x1 + 10) x4) 0 M) else (fCourse_follow_L46 (fCourse_follow_L5 g) x0 x1 x2 x3 x4 (M (x1 + 10) x4) 1 M))))) else (some M)
theorem hCourse_follow_L5 : ∀ (g : Nat) (x0 x1 x2 x3 x4 : Int) (M : xM) (r : xM) (h : fCourse_follow_L5 g x0 x1 x2 x3 x4 M = some r), xEv (230, 5, [some (4, x0), some (8, x1), some (6, x2), some (0, x3), some (0, x4), none, none], [], M) (none, r)
  | 0, _, _, _, _, _, _, _, h => by cases h
  | g + 1, x0, x1, x2, x3, x4, M, r, h => by
    unfold fCourse_follow_L5 at h
    refine xEvG_n xml xfetch 4 (y := (230, if x4 < (M x1 1) then 14 else 96, [some (4, x0), some (8, x1), some (6, x2), some (0, x3), some (0, x4), none, none], [], M)) rfl trivial ?_
    refine xEvG_br xml xfetch (fun c_ => ?_) (fun c_ => ?_)
    · have h := xif_t c_ h
      have a0_ := (xA_t h).1
      have h := (xA_t h).2
      refine xEvG_n xml xfetch 8 (y := (230, if (M (x1 + 10) x4) = (-1) then 45 else 29, [some (4, x0), some (8, x1), some (6, x2), some (0, x3), some (0, x4), some (0, (M (x1 + 10) x4)), none], [], M)) rfl ⟨a0_, trivial⟩ ?_
      refine xEvG_br xml xfetch (fun c_ => ?_) (fun c_ => ?_)
      · have h := xif_t c_ h
        refine xEvG_n xml xfetch 1 (y := (230, 46, [some (4, x0), some (8, x1), some (6, x2), some (0, x3), some (0, x4), some (0, (M (x1 + 10) x4)), none], [(0, 0)], M)) rfl trivial ?_
        refine xEvG_mask xml xfetch [true, true, true, true, true, true, false] ?_
        exact hCourse_follow_L46 (fCourse_follow_L5 g) (hCourse_follow_L5 g) x0 x1 x2 x3 x4 (M (x1 + 10) x4) 0 M _ h
      · have h := xif_f c_ h
        refine xEvG_n xml xfetch 4 (y := (230, 35, [some (4, x0), some (8, x1), some (6, x2), some (0, x3), some (0, x4), some (0, (M (x1 + 10) x4)), none], [(0, x3), (0, x4), (0, (M (x1 + 10) x4)), (6, x2)], M)) rfl trivial ?_
        obtain ⟨v1, e_, h⟩ := xB_t h
        refine xEvG_call xml xfetch (q := (some (0, v1), M)) rfl (hKeys_opensFor x2 (M (x1 + 10) x4) x4 x3 M _ e_) ?_
        show xEv (230, 38, [some (4, x0), some (8, x1), some (6, x2), some (0, x3), some (0, x4), some (0, (M (x1 + 10) x4)), none], [(0, v1)], M) _
        refine xEvG_n xml xfetch 1 (y := (230, if v1 = 0 then 45 else 41, [some (4, x0), some (8, x1), some (6, x2), some (0, x3), some (0, x4), some (0, (M (x1 + 10) x4)), none], [], M)) rfl trivial ?_
        refine xEvG_br xml xfetch (fun c_ => ?_) (fun c_ => ?_)
        · have h := xif_t c_ h
          refine xEvG_n xml xfetch 1 (y := (230, 46, [some (4, x0), some (8, x1), some (6, x2), some (0, x3), some (0, x4), some (0, (M (x1 + 10) x4)), none], [(0, 0)], M)) rfl trivial ?_
          refine xEvG_mask xml xfetch [true, true, true, true, true, true, false] ?_
          exact hCourse_follow_L46 (fCourse_follow_L5 g) (hCourse_follow_L5 g) x0 x1 x2 x3 x4 (M (x1 + 10) x4) 0 M _ h
        · have h := xif_f c_ h
          refine xEvG_n xml xfetch 2 (y := (230, 46, [some (4, x0), some (8, x1), some (6, x2), some (0, x3), some (0, x4), some (0, (M (x1 + 10) x4)), none], [(0, 1)], M)) rfl trivial ?_
          refine xEvG_mask xml xfetch [true, true, true, true, true, true, false] ?_
          exact hCourse_follow_L46 (fCourse_follow_L5 g) (hCourse_follow_L5 g) x0 x1 x2 x3 x4 (M (x1 + 10) x4) 1 M _ h
    · have h := xif_f c_ h
      cases h
      exact xEvG_ret xml xfetch rfl
/-- ConsentDoors$Course.follow(LConsentDoors$Prison;LConsentDoors$Keys;)V -/
def fCourse_follow (a0 a1 a2 : Int) (M : xM) : Option xM := fCourse_follow_L5 20001 a0 a1 a2 0 0 M
theorem hCourse_follow (a0 a1 a2 : Int) (M : xM) (r : xM) (h : fCourse_follow a0 a1 a2 M = some r) : xEv (230, 0, [some (4, a0), some (8, a1), some (6, a2), none, none, none, none], [], M) (none, r) := by
  unfold fCourse_follow at h
  refine xEvG_n xml xfetch 4 (y := (230, 5, [some (4, a0), some (8, a1), some (6, a2), some (0, 0), some (0, 0), none, none], [], M)) rfl trivial ?_
  refine xEvG_mask xml xfetch [true, true, true, true, true, false, false] ?_
  exact hCourse_follow_L5 20001 a0 a1 a2 0 0 M _ h

/-- ConsentDoors.settle()V -/
def fD_settle (a0 : Int) (M : xM) : Option xM := xB (fOutlook_explore (a0 + 37) (a0 + 15) M) (fun m1 => xB (fCourse_follow (a0 + 255) (a0 + 15) ((a0 + 37) + 1) m1) (fun m2 => some m2))
theorem hD_settle (a0 : Int) (M : xM) (r : xM) (h : fD_settle a0 M = some r) : xEv (67, 0, [some (2, a0)], [], M) (none, r) := by
  unfold fD_settle at h
  refine xEvG_n xml xfetch 4 (y := (67, 8, [some (2, a0)], [(8, (a0 + 15)), (7, (a0 + 37))], M)) rfl trivial ?_
  obtain ⟨m1, e_, h⟩ := xB_t h
  refine xEvG_call xml xfetch (q := (none, m1)) rfl (hOutlook_explore (a0 + 37) (a0 + 15) M _ e_) ?_
  show xEv (67, 11, [some (2, a0)], [], m1) _
  refine xEvG_n xml xfetch 7 (y := (67, 26, [some (2, a0)], [(6, ((a0 + 37) + 1)), (8, (a0 + 15)), (4, (a0 + 255))], m1)) rfl trivial ?_
  obtain ⟨m2, e_, h⟩ := xB_t h
  refine xEvG_call xml xfetch (q := (none, m2)) rfl (hCourse_follow (a0 + 255) (a0 + 15) ((a0 + 37) + 1) m1 _ e_) ?_
  show xEv (67, 29, [some (2, a0)], [], m2) _
  cases h
  exact xEvG_ret xml xfetch rfl

/-- ConsentDoors.prison()I -/
def fD_prison (a0 : Int) (M : xM) : Option (Int × xM) := xB (fReader_readTape (a0 + 1) M) (fun q_ => match q_ with | (v1, m1) => if v1 = 0 then (some ((-4), (xwr m1 ((a0 + 1) + 1) 1 0))) else (xB (fPrison_copy (a0 + 15) ((a0 + 1) + 3) (xwr m1 ((a0 + 1) + 1) 1 0)) (fun m2 => xB (fD_settle a0 m2) (fun m3 => some ((m3 (a0 + 15) 2), m3)))))
theorem hD_prison (a0 : Int) (M : xM) (r : Int × xM) (h : fD_prison a0 M = some r) : xEv (2, 0, [some (2, a0), none], [], M) (some (0, r.1), r.2) := by
  unfold fD_prison at h
  refine xEvG_n xml xfetch 2 (y := (2, 4, [some (2, a0), none], [(9, (a0 + 1))], M)) rfl trivial ?_
  obtain ⟨⟨v1, m1⟩, e_, h⟩ := xB_t h
  refine xEvG_call xml xfetch (q := (some (0, v1), m1)) rfl (hReader_readTape (a0 + 1) M _ e_) ?_
  show xEv (2, 7, [some (2, a0), none], [(0, v1)], m1) _
  refine xEvG_n xml xfetch 8 (y := (2, if v1 = 0 then 23 else 26, [some (2, a0), some (0, v1)], [], (xwr m1 ((a0 + 1) + 1) 1 0))) rfl trivial ?_
  refine xEvG_br xml xfetch (fun c_ => ?_) (fun c_ => ?_)
  · have h := xif_t c_ h
    refine xEvG_n xml xfetch 1 (y := (2, 25, [some (2, a0), some (0, v1)], [(0, (-4))], (xwr m1 ((a0 + 1) + 1) 1 0))) rfl trivial ?_
    cases h
    exact xEvG_ret xml xfetch rfl
  · have h := xif_f c_ h
    refine xEvG_n xml xfetch 5 (y := (2, 37, [some (2, a0), some (0, v1)], [(8, ((a0 + 1) + 3)), (8, (a0 + 15))], (xwr m1 ((a0 + 1) + 1) 1 0))) rfl trivial ?_
    obtain ⟨m2, e_, h⟩ := xB_t h
    refine xEvG_call xml xfetch (q := (none, m2)) rfl (hPrison_copy (a0 + 15) ((a0 + 1) + 3) (xwr m1 ((a0 + 1) + 1) 1 0) _ e_) ?_
    show xEv (2, 40, [some (2, a0), some (0, v1)], [], m2) _
    refine xEvG_n xml xfetch 1 (y := (2, 41, [some (2, a0), some (0, v1)], [(2, a0)], m2)) rfl trivial ?_
    obtain ⟨m3, e_, h⟩ := xB_t h
    refine xEvG_call xml xfetch (q := (none, m3)) rfl (hD_settle a0 m2 _ e_) ?_
    show xEv (2, 44, [some (2, a0), some (0, v1)], [], m3) _
    refine xEvG_n xml xfetch 3 (y := (2, 51, [some (2, a0), some (0, v1)], [(0, (m3 (a0 + 15) 2))], m3)) rfl trivial ?_
    cases h
    exact xEvG_ret xml xfetch rfl

/-- ConsentDoors.fault(I)I -/
def fD_fault (a0 a1 : Int) (M : xM) : Int := if a1 = ((0 : Nat) : Int) then ((M (a0 + 1) 7)) else (if a1 = ((1 : Nat) : Int) then ((M (a0 + 1) 8)) else ((-1)))
theorem hD_fault (a0 a1 : Int) (M : xM) (r : Int) (h : fD_fault a0 a1 M = r) : xEv (3, 0, [some (2, a0), some (0, a1)], [], M) (some (0, r), M) := by
  unfold fD_fault at h
  refine xEvG_n xml xfetch 2 (y := (3, (if a1 = ((0 : Nat) : Int) then 28 else (if a1 = ((1 : Nat) : Int) then 36 else 44)), [some (2, a0), some (0, a1)], [], M)) rfl trivial ?_
  refine xEvG_br xml xfetch (fun c_ => ?_) (fun c_ => ?_)
  · have h := xif_t c_ h
    refine xEvG_n xml xfetch 3 (y := (3, 35, [some (2, a0), some (0, a1)], [(0, (M (a0 + 1) 7))], M)) rfl trivial ?_
    subst h
    exact xEvG_ret xml xfetch rfl
  · have h := xif_f c_ h
    refine xEvG_br xml xfetch (fun c_ => ?_) (fun c_ => ?_)
    · have h := xif_t c_ h
      refine xEvG_n xml xfetch 3 (y := (3, 43, [some (2, a0), some (0, a1)], [(0, (M (a0 + 1) 8))], M)) rfl trivial ?_
      subst h
      exact xEvG_ret xml xfetch rfl
    · have h := xif_f c_ h
      refine xEvG_n xml xfetch 1 (y := (3, 45, [some (2, a0), some (0, a1)], [(0, (-1))], M)) rfl trivial ?_
      subst h
      exact xEvG_ret xml xfetch rfl

/-- ConsentDoors.cell(II)I -/
def fD_cell (a0 a1 a2 : Int) (M : xM) : Option Int := if (fPrison_hasCell (a0 + 15) a1 M) = 0 then (some (-2)) else (if a2 < 0 then (some (-2)) else (if (a2 - 0) = 0 then (xA (0 ≤ a1 ∧ a1 < 9) (some (M ((a0 + 15) + 1) a1))) else (if ((a2 - 0) - 1) = 0 then (xA (0 ≤ a1 ∧ a1 < 9) (some (M ((a0 + 15) + 2) a1))) else (if (((a2 - 0) - 1) - 1) = 0 then (xA (0 ≤ a1 ∧ a1 < 9) (some (M ((a0 + 15) + 3) a1))) else (if ((((a2 - 0) - 1) - 1) - 1) = 0 then (xA (0 ≤ (xw32 ((xw32 (2 * a1)) + 0)) ∧ (xw32 ((xw32 (2 * a1)) + 0)) < 18) (some (M ((a0 + 15) + 6) (xw32 ((xw32 (2 * a1)) + 0))))) else (if (((((a2 - 0) - 1) - 1) - 1) - 1) = 0 then (xA (0 ≤ (xw32 ((xw32 (2 * a1)) + 1)) ∧ (xw32 ((xw32 (2 * a1)) + 1)) < 18) (some (M ((a0 + 15) + 6) (xw32 ((xw32 (2 * a1)) + 1))))) else (if ((((((a2 - 0) - 1) - 1) - 1) - 1) - 1) = 0 then (some (fD_bit (M (a0 + 15) 4) a1 M)) else (if (((((((a2 - 0) - 1) - 1) - 1) - 1) - 1) - 1) = 0 then (xA (0 ≤ a1 ∧ a1 < 9) (some (M ((a0 + 15) + 4) a1))) else (some (-2))))))))))
theorem hD_cell (a0 a1 a2 : Int) (M : xM) (r : Int) (h : fD_cell a0 a1 a2 M = some r) : xEv (4, 0, [some (2, a0), some (0, a1), some (0, a2)], [], M) (some (0, r), M) := by
  unfold fD_cell at h
  refine xEvG_n xml xfetch 3 (y := (4, 5, [some (2, a0), some (0, a1), some (0, a2)], [(0, a1), (8, (a0 + 15))], M)) rfl trivial ?_
  refine xEvG_call xml xfetch (q := (some (0, fPrison_hasCell (a0 + 15) a1 M), M)) rfl (hPrison_hasCell (a0 + 15) a1 M _ rfl) ?_
  show xEv (4, 8, [some (2, a0), some (0, a1), some (0, a2)], [(0, (fPrison_hasCell (a0 + 15) a1 M))], M) _
  refine xEvG_n xml xfetch 1 (y := (4, if (fPrison_hasCell (a0 + 15) a1 M) = 0 then 11 else 14, [some (2, a0), some (0, a1), some (0, a2)], [], M)) rfl trivial ?_
  refine xEvG_br xml xfetch (fun c_ => ?_) (fun c_ => ?_)
  · have h := xif_t c_ h
    refine xEvG_n xml xfetch 1 (y := (4, 13, [some (2, a0), some (0, a1), some (0, a2)], [(0, (-2))], M)) rfl trivial ?_
    cases h
    exact xEvG_ret xml xfetch rfl
  · have h := xif_f c_ h
    refine xEvG_n xml xfetch 2 (y := (4, (if a2 < 0 then 136 else (if (a2 - 0) = 0 then 56 else (if ((a2 - 0) - 1) = 0 then 66 else (if (((a2 - 0) - 1) - 1) = 0 then 76 else (if ((((a2 - 0) - 1) - 1) - 1) = 0 then 86 else (if (((((a2 - 0) - 1) - 1) - 1) - 1) = 0 then 100 else (if ((((((a2 - 0) - 1) - 1) - 1) - 1) - 1) = 0 then 114 else (if (((((((a2 - 0) - 1) - 1) - 1) - 1) - 1) - 1) = 0 then 126 else 136)))))))), [some (2, a0), some (0, a1), some (0, a2)], [], M)) rfl trivial ?_
    refine xEvG_br xml xfetch (fun c_ => ?_) (fun c_ => ?_)
    · have h := xif_t c_ h
      refine xEvG_n xml xfetch 1 (y := (4, 138, [some (2, a0), some (0, a1), some (0, a2)], [(0, (-2))], M)) rfl trivial ?_
      cases h
      exact xEvG_ret xml xfetch rfl
    · have h := xif_f c_ h
      refine xEvG_br xml xfetch (fun c_ => ?_) (fun c_ => ?_)
      · have h := xif_t c_ h
        have a0_ := (xA_t h).1
        have h := (xA_t h).2
        refine xEvG_n xml xfetch 5 (y := (4, 65, [some (2, a0), some (0, a1), some (0, a2)], [(0, (M ((a0 + 15) + 1) a1))], M)) rfl ⟨a0_, trivial⟩ ?_
        cases h
        exact xEvG_ret xml xfetch rfl
      · have h := xif_f c_ h
        refine xEvG_br xml xfetch (fun c_ => ?_) (fun c_ => ?_)
        · have h := xif_t c_ h
          have a0_ := (xA_t h).1
          have h := (xA_t h).2
          refine xEvG_n xml xfetch 5 (y := (4, 75, [some (2, a0), some (0, a1), some (0, a2)], [(0, (M ((a0 + 15) + 2) a1))], M)) rfl ⟨a0_, trivial⟩ ?_
          cases h
          exact xEvG_ret xml xfetch rfl
        · have h := xif_f c_ h
          refine xEvG_br xml xfetch (fun c_ => ?_) (fun c_ => ?_)
          · have h := xif_t c_ h
            have a0_ := (xA_t h).1
            have h := (xA_t h).2
            refine xEvG_n xml xfetch 5 (y := (4, 85, [some (2, a0), some (0, a1), some (0, a2)], [(0, (M ((a0 + 15) + 3) a1))], M)) rfl ⟨a0_, trivial⟩ ?_
            cases h
            exact xEvG_ret xml xfetch rfl
          · have h := xif_f c_ h
            refine xEvG_br xml xfetch (fun c_ => ?_) (fun c_ => ?_)
            · have h := xif_t c_ h
              have a0_ := (xA_t h).1
              have h := (xA_t h).2
              refine xEvG_n xml xfetch 9 (y := (4, 99, [some (2, a0), some (0, a1), some (0, a2)], [(0, (M ((a0 + 15) + 6) (xw32 ((xw32 (2 * a1)) + 0))))], M)) rfl ⟨a0_, trivial⟩ ?_
              cases h
              exact xEvG_ret xml xfetch rfl
            · have h := xif_f c_ h
              refine xEvG_br xml xfetch (fun c_ => ?_) (fun c_ => ?_)
              · have h := xif_t c_ h
                have a0_ := (xA_t h).1
                have h := (xA_t h).2
                refine xEvG_n xml xfetch 9 (y := (4, 113, [some (2, a0), some (0, a1), some (0, a2)], [(0, (M ((a0 + 15) + 6) (xw32 ((xw32 (2 * a1)) + 1))))], M)) rfl ⟨a0_, trivial⟩ ?_
                cases h
                exact xEvG_ret xml xfetch rfl
              · have h := xif_f c_ h
                refine xEvG_br xml xfetch (fun c_ => ?_) (fun c_ => ?_)
                · have h := xif_t c_ h
                  refine xEvG_n xml xfetch 4 (y := (4, 122, [some (2, a0), some (0, a1), some (0, a2)], [(0, a1), (0, (M (a0 + 15) 4))], M)) rfl trivial ?_
                  refine xEvG_call xml xfetch (q := (some (0, fD_bit (M (a0 + 15) 4) a1 M), M)) rfl (hD_bit (M (a0 + 15) 4) a1 M _ rfl) ?_
                  show xEv (4, 125, [some (2, a0), some (0, a1), some (0, a2)], [(0, (fD_bit (M (a0 + 15) 4) a1 M))], M) _
                  cases h
                  exact xEvG_ret xml xfetch rfl
                · have h := xif_f c_ h
                  refine xEvG_br xml xfetch (fun c_ => ?_) (fun c_ => ?_)
                  · have h := xif_t c_ h
                    have a0_ := (xA_t h).1
                    have h := (xA_t h).2
                    refine xEvG_n xml xfetch 5 (y := (4, 135, [some (2, a0), some (0, a1), some (0, a2)], [(0, (M ((a0 + 15) + 4) a1))], M)) rfl ⟨a0_, trivial⟩ ?_
                    cases h
                    exact xEvG_ret xml xfetch rfl
                  · have h := xif_f c_ h
                    refine xEvG_n xml xfetch 1 (y := (4, 138, [some (2, a0), some (0, a1), some (0, a2)], [(0, (-2))], M)) rfl trivial ?_
                    cases h
                    exact xEvG_ret xml xfetch rfl

/-- ConsentDoors.isSide(I)Z -/
def fD_isSide (a0 : Int) (M : xM) : Int := (if a0 = 0 then 1 else (if a0 = 1 then 1 else 0 : Int) : Int)
theorem hD_isSide (a0 : Int) (M : xM) (r : Int) (h : fD_isSide a0 M = r) : xEv (83, 0, [some (0, a0)], [], M) (some (0, r), M) := by
  unfold fD_isSide at h
  refine xEvG_n xml xfetch 1 (y := (83, 1, [some (0, a0)], [(0, a0)], M)) rfl trivial ?_
  have key_ : xEv (83, 14, [some (0, a0)], [(0, (if a0 = 0 then 1 else (if a0 = 1 then 1 else 0 : Int) : Int))], M) (some (0, r), M) := by
    subst h
    exact xEvG_retc xml xfetch rfl (by (repeat' split) <;> first | exact Or.inl rfl | exact Or.inr rfl)
  refine xEvG_n xml xfetch 1 (y := (83, if a0 = 0 then 9 else 4, [some (0, a0)], [], M)) rfl trivial ?_
  refine xEvG_br xml xfetch (fun c2_ => ?_) (fun c2_ => ?_)
  · refine xEvG_n xml xfetch 2 (y := (83, 14, [some (0, a0)], [(0, 1)], M)) rfl trivial ?_
    try simp only [if_pos c2_] at key_
    try simp only [if_pos c2_]
    exact key_
  · refine xEvG_n xml xfetch 3 (y := (83, if a0 = 1 then 9 else 13, [some (0, a0)], [], M)) rfl trivial ?_
    refine xEvG_br xml xfetch (fun c4_ => ?_) (fun c4_ => ?_)
    · refine xEvG_n xml xfetch 2 (y := (83, 14, [some (0, a0)], [(0, 1)], M)) rfl trivial ?_
      try simp only [if_neg c2_, if_pos c4_] at key_
      try simp only [if_neg c2_, if_pos c4_]
      exact key_
    · refine xEvG_n xml xfetch 1 (y := (83, 14, [some (0, a0)], [(0, 0)], M)) rfl trivial ?_
      try simp only [if_neg c2_, if_neg c4_] at key_
      try simp only [if_neg c2_, if_neg c4_]
      exact key_
theorem bD_isSide (a0 : Int) (M : xM) : fD_isSide a0 M = 0 ∨ fD_isSide a0 M = 1 := by
  unfold fD_isSide
  (repeat' split) <;> first | exact Or.inl rfl | exact Or.inr rfl | exact bPrison_hasCell _ _ _

/-- ConsentDoors.beside(II)I -/
def fD_beside (a0 a1 a2 : Int) (M : xM) : Int := if (fPrison_hasCell (a0 + 15) a1 M) = 0 then ((-2)) else (if (fD_isSide a2 M) = 0 then ((-2)) else ((fPrison_neighbour (a0 + 15) a1 a2 M)))
theorem hD_beside (a0 a1 a2 : Int) (M : xM) (r : Int) (h : fD_beside a0 a1 a2 M = r) : xEv (5, 0, [some (2, a0), some (0, a1), some (0, a2)], [], M) (some (0, r), M) := by
  unfold fD_beside at h
  refine xEvG_n xml xfetch 3 (y := (5, 5, [some (2, a0), some (0, a1), some (0, a2)], [(0, a1), (8, (a0 + 15))], M)) rfl trivial ?_
  refine xEvG_call xml xfetch (q := (some (0, fPrison_hasCell (a0 + 15) a1 M), M)) rfl (hPrison_hasCell (a0 + 15) a1 M _ rfl) ?_
  show xEv (5, 8, [some (2, a0), some (0, a1), some (0, a2)], [(0, (fPrison_hasCell (a0 + 15) a1 M))], M) _
  refine xEvG_n xml xfetch 1 (y := (5, if (fPrison_hasCell (a0 + 15) a1 M) = 0 then 18 else 11, [some (2, a0), some (0, a1), some (0, a2)], [], M)) rfl trivial ?_
  refine xEvG_br xml xfetch (fun c_ => ?_) (fun c_ => ?_)
  · have h := xif_t c_ h
    refine xEvG_n xml xfetch 1 (y := (5, 20, [some (2, a0), some (0, a1), some (0, a2)], [(0, (-2))], M)) rfl trivial ?_
    subst h
    exact xEvG_ret xml xfetch rfl
  · have h := xif_f c_ h
    refine xEvG_n xml xfetch 1 (y := (5, 12, [some (2, a0), some (0, a1), some (0, a2)], [(0, a2)], M)) rfl trivial ?_
    refine xEvG_call xml xfetch (q := (some (0, fD_isSide a2 M), M)) rfl (hD_isSide a2 M _ rfl) ?_
    show xEv (5, 15, [some (2, a0), some (0, a1), some (0, a2)], [(0, (fD_isSide a2 M))], M) _
    refine xEvG_n xml xfetch 1 (y := (5, if (fD_isSide a2 M) = 0 then 18 else 21, [some (2, a0), some (0, a1), some (0, a2)], [], M)) rfl trivial ?_
    refine xEvG_br xml xfetch (fun c_ => ?_) (fun c_ => ?_)
    · have h := xif_t c_ h
      refine xEvG_n xml xfetch 1 (y := (5, 20, [some (2, a0), some (0, a1), some (0, a2)], [(0, (-2))], M)) rfl trivial ?_
      subst h
      exact xEvG_ret xml xfetch rfl
    · have h := xif_f c_ h
      refine xEvG_n xml xfetch 4 (y := (5, 27, [some (2, a0), some (0, a1), some (0, a2)], [(0, a2), (0, a1), (8, (a0 + 15))], M)) rfl trivial ?_
      refine xEvG_call xml xfetch (q := (some (0, fPrison_neighbour (a0 + 15) a1 a2 M), M)) rfl (hPrison_neighbour (a0 + 15) a1 a2 M _ rfl) ?_
      show xEv (5, 30, [some (2, a0), some (0, a1), some (0, a2)], [(0, (fPrison_neighbour (a0 + 15) a1 a2 M))], M) _
      subst h
      exact xEvG_ret xml xfetch rfl

/-- ConsentDoors$Prison.hasHour(I)Z -/
def fPrison_hasHour (a0 a1 : Int) (M : xM) : Int := (if a1 < 0 then 0 else (if a1 < (M a0 1) then 1 else 0 : Int) : Int)
theorem hPrison_hasHour (a0 a1 : Int) (M : xM) (r : Int) (h : fPrison_hasHour a0 a1 M = r) : xEv (249, 0, [some (8, a0), some (0, a1)], [], M) (some (0, r), M) := by
  unfold fPrison_hasHour at h
  refine xEvG_n xml xfetch 1 (y := (249, 1, [some (8, a0), some (0, a1)], [(0, a1)], M)) rfl trivial ?_
  have key_ : xEv (249, 17, [some (8, a0), some (0, a1)], [(0, (if a1 < 0 then 0 else (if a1 < (M a0 1) then 1 else 0 : Int) : Int))], M) (some (0, r), M) := by
    subst h
    exact xEvG_retc xml xfetch rfl (by (repeat' split) <;> first | exact Or.inl rfl | exact Or.inr rfl)
  refine xEvG_n xml xfetch 1 (y := (249, if a1 < 0 then 16 else 4, [some (8, a0), some (0, a1)], [], M)) rfl trivial ?_
  refine xEvG_br xml xfetch (fun c2_ => ?_) (fun c2_ => ?_)
  · refine xEvG_n xml xfetch 1 (y := (249, 17, [some (8, a0), some (0, a1)], [(0, 0)], M)) rfl trivial ?_
    try simp only [if_pos c2_] at key_
    try simp only [if_pos c2_]
    exact key_
  · refine xEvG_n xml xfetch 4 (y := (249, if a1 < (M a0 1) then 12 else 16, [some (8, a0), some (0, a1)], [], M)) rfl trivial ?_
    refine xEvG_br xml xfetch (fun c4_ => ?_) (fun c4_ => ?_)
    · refine xEvG_n xml xfetch 2 (y := (249, 17, [some (8, a0), some (0, a1)], [(0, 1)], M)) rfl trivial ?_
      try simp only [if_neg c2_, if_pos c4_] at key_
      try simp only [if_neg c2_, if_pos c4_]
      exact key_
    · refine xEvG_n xml xfetch 1 (y := (249, 17, [some (8, a0), some (0, a1)], [(0, 0)], M)) rfl trivial ?_
      try simp only [if_neg c2_, if_neg c4_] at key_
      try simp only [if_neg c2_, if_neg c4_]
      exact key_
theorem bPrison_hasHour (a0 a1 : Int) (M : xM) : fPrison_hasHour a0 a1 M = 0 ∨ fPrison_hasHour a0 a1 M = 1 := by
  unfold fPrison_hasHour
  (repeat' split) <;> first | exact Or.inl rfl | exact Or.inr rfl | exact bD_isSide _ _ | exact bPrison_hasCell _ _ _

/-- ConsentDoors.likes(III)I -/
def fD_likes (a0 a1 a2 a3 : Int) (M : xM) : Option Int := if (fPrison_hasCell (a0 + 15) a1 M) = 0 then (some (-2)) else (if (fD_isSide a2 M) = 0 then (some (-2)) else (if (fPrison_hasHour (a0 + 15) a3 M) = 0 then (some (-2)) else (if (fPrison_neighbour (a0 + 15) a1 a2 M) = (-1) then (some 0) else (xB (fPrison_liking (a0 + 15) (xw32 ((xw32 (2 * a1)) + a2)) a3 M) (fun v5 => some v5)))))
theorem hD_likes (a0 a1 a2 a3 : Int) (M : xM) (r : Int) (h : fD_likes a0 a1 a2 a3 M = some r) : xEv (6, 0, [some (2, a0), some (0, a1), some (0, a2), some (0, a3)], [], M) (some (0, r), M) := by
  unfold fD_likes at h
  refine xEvG_n xml xfetch 3 (y := (6, 5, [some (2, a0), some (0, a1), some (0, a2), some (0, a3)], [(0, a1), (8, (a0 + 15))], M)) rfl trivial ?_
  refine xEvG_call xml xfetch (q := (some (0, fPrison_hasCell (a0 + 15) a1 M), M)) rfl (hPrison_hasCell (a0 + 15) a1 M _ rfl) ?_
  show xEv (6, 8, [some (2, a0), some (0, a1), some (0, a2), some (0, a3)], [(0, (fPrison_hasCell (a0 + 15) a1 M))], M) _
  refine xEvG_n xml xfetch 1 (y := (6, if (fPrison_hasCell (a0 + 15) a1 M) = 0 then 29 else 11, [some (2, a0), some (0, a1), some (0, a2), some (0, a3)], [], M)) rfl trivial ?_
  refine xEvG_br xml xfetch (fun c_ => ?_) (fun c_ => ?_)
  · have h := xif_t c_ h
    refine xEvG_n xml xfetch 1 (y := (6, 31, [some (2, a0), some (0, a1), some (0, a2), some (0, a3)], [(0, (-2))], M)) rfl trivial ?_
    cases h
    exact xEvG_ret xml xfetch rfl
  · have h := xif_f c_ h
    refine xEvG_n xml xfetch 1 (y := (6, 12, [some (2, a0), some (0, a1), some (0, a2), some (0, a3)], [(0, a2)], M)) rfl trivial ?_
    refine xEvG_call xml xfetch (q := (some (0, fD_isSide a2 M), M)) rfl (hD_isSide a2 M _ rfl) ?_
    show xEv (6, 15, [some (2, a0), some (0, a1), some (0, a2), some (0, a3)], [(0, (fD_isSide a2 M))], M) _
    refine xEvG_n xml xfetch 1 (y := (6, if (fD_isSide a2 M) = 0 then 29 else 18, [some (2, a0), some (0, a1), some (0, a2), some (0, a3)], [], M)) rfl trivial ?_
    refine xEvG_br xml xfetch (fun c_ => ?_) (fun c_ => ?_)
    · have h := xif_t c_ h
      refine xEvG_n xml xfetch 1 (y := (6, 31, [some (2, a0), some (0, a1), some (0, a2), some (0, a3)], [(0, (-2))], M)) rfl trivial ?_
      cases h
      exact xEvG_ret xml xfetch rfl
    · have h := xif_f c_ h
      refine xEvG_n xml xfetch 3 (y := (6, 23, [some (2, a0), some (0, a1), some (0, a2), some (0, a3)], [(0, a3), (8, (a0 + 15))], M)) rfl trivial ?_
      refine xEvG_call xml xfetch (q := (some (0, fPrison_hasHour (a0 + 15) a3 M), M)) rfl (hPrison_hasHour (a0 + 15) a3 M _ rfl) ?_
      show xEv (6, 26, [some (2, a0), some (0, a1), some (0, a2), some (0, a3)], [(0, (fPrison_hasHour (a0 + 15) a3 M))], M) _
      refine xEvG_n xml xfetch 1 (y := (6, if (fPrison_hasHour (a0 + 15) a3 M) = 0 then 29 else 32, [some (2, a0), some (0, a1), some (0, a2), some (0, a3)], [], M)) rfl trivial ?_
      refine xEvG_br xml xfetch (fun c_ => ?_) (fun c_ => ?_)
      · have h := xif_t c_ h
        refine xEvG_n xml xfetch 1 (y := (6, 31, [some (2, a0), some (0, a1), some (0, a2), some (0, a3)], [(0, (-2))], M)) rfl trivial ?_
        cases h
        exact xEvG_ret xml xfetch rfl
      · have h := xif_f c_ h
        refine xEvG_n xml xfetch 4 (y := (6, 38, [some (2, a0), some (0, a1), some (0, a2), some (0, a3)], [(0, a2), (0, a1), (8, (a0 + 15))], M)) rfl trivial ?_
        refine xEvG_call xml xfetch (q := (some (0, fPrison_neighbour (a0 + 15) a1 a2 M), M)) rfl (hPrison_neighbour (a0 + 15) a1 a2 M _ rfl) ?_
        show xEv (6, 41, [some (2, a0), some (0, a1), some (0, a2), some (0, a3)], [(0, (fPrison_neighbour (a0 + 15) a1 a2 M))], M) _
        refine xEvG_n xml xfetch 2 (y := (6, if (fPrison_neighbour (a0 + 15) a1 a2 M) = (-1) then 45 else 49, [some (2, a0), some (0, a1), some (0, a2), some (0, a3)], [], M)) rfl trivial ?_
        refine xEvG_br xml xfetch (fun c_ => ?_) (fun c_ => ?_)
        · have h := xif_t c_ h
          refine xEvG_n xml xfetch 2 (y := (6, 62, [some (2, a0), some (0, a1), some (0, a2), some (0, a3)], [(0, 0)], M)) rfl trivial ?_
          cases h
          exact xEvG_ret xml xfetch rfl
        · have h := xif_f c_ h
          refine xEvG_n xml xfetch 8 (y := (6, 59, [some (2, a0), some (0, a1), some (0, a2), some (0, a3)], [(0, a3), (0, (xw32 ((xw32 (2 * a1)) + a2))), (8, (a0 + 15))], M)) rfl trivial ?_
          obtain ⟨v5, e_, h⟩ := xB_t h
          refine xEvG_call xml xfetch (q := (some (0, v5), M)) rfl (hPrison_liking (a0 + 15) (xw32 ((xw32 (2 * a1)) + a2)) a3 M _ e_) ?_
          show xEv (6, 62, [some (2, a0), some (0, a1), some (0, a2), some (0, a3)], [(0, v5)], M) _
          cases h
          exact xEvG_ret xml xfetch rfl

/-- ConsentDoors.reason(III)I -/
def fD_reason (a0 a1 a2 a3 : Int) (M : xM) : Option Int := if (fPrison_hasCell (a0 + 15) a1 M) = 0 then (some (-2)) else (if (fD_isSide a2 M) = 0 then (some (-2)) else (if (fPrison_hasHour (a0 + 15) a3 M) = 0 then (some (-2)) else (xB (fPrison_whyNot (a0 + 15) a1 a2 a3 0 M) (fun v4 => some v4))))
theorem hD_reason (a0 a1 a2 a3 : Int) (M : xM) (r : Int) (h : fD_reason a0 a1 a2 a3 M = some r) : xEv (7, 0, [some (2, a0), some (0, a1), some (0, a2), some (0, a3)], [], M) (some (0, r), M) := by
  unfold fD_reason at h
  refine xEvG_n xml xfetch 3 (y := (7, 5, [some (2, a0), some (0, a1), some (0, a2), some (0, a3)], [(0, a1), (8, (a0 + 15))], M)) rfl trivial ?_
  refine xEvG_call xml xfetch (q := (some (0, fPrison_hasCell (a0 + 15) a1 M), M)) rfl (hPrison_hasCell (a0 + 15) a1 M _ rfl) ?_
  show xEv (7, 8, [some (2, a0), some (0, a1), some (0, a2), some (0, a3)], [(0, (fPrison_hasCell (a0 + 15) a1 M))], M) _
  refine xEvG_n xml xfetch 1 (y := (7, if (fPrison_hasCell (a0 + 15) a1 M) = 0 then 29 else 11, [some (2, a0), some (0, a1), some (0, a2), some (0, a3)], [], M)) rfl trivial ?_
  refine xEvG_br xml xfetch (fun c_ => ?_) (fun c_ => ?_)
  · have h := xif_t c_ h
    refine xEvG_n xml xfetch 1 (y := (7, 31, [some (2, a0), some (0, a1), some (0, a2), some (0, a3)], [(0, (-2))], M)) rfl trivial ?_
    cases h
    exact xEvG_ret xml xfetch rfl
  · have h := xif_f c_ h
    refine xEvG_n xml xfetch 1 (y := (7, 12, [some (2, a0), some (0, a1), some (0, a2), some (0, a3)], [(0, a2)], M)) rfl trivial ?_
    refine xEvG_call xml xfetch (q := (some (0, fD_isSide a2 M), M)) rfl (hD_isSide a2 M _ rfl) ?_
    show xEv (7, 15, [some (2, a0), some (0, a1), some (0, a2), some (0, a3)], [(0, (fD_isSide a2 M))], M) _
    refine xEvG_n xml xfetch 1 (y := (7, if (fD_isSide a2 M) = 0 then 29 else 18, [some (2, a0), some (0, a1), some (0, a2), some (0, a3)], [], M)) rfl trivial ?_
    refine xEvG_br xml xfetch (fun c_ => ?_) (fun c_ => ?_)
    · have h := xif_t c_ h
      refine xEvG_n xml xfetch 1 (y := (7, 31, [some (2, a0), some (0, a1), some (0, a2), some (0, a3)], [(0, (-2))], M)) rfl trivial ?_
      cases h
      exact xEvG_ret xml xfetch rfl
    · have h := xif_f c_ h
      refine xEvG_n xml xfetch 3 (y := (7, 23, [some (2, a0), some (0, a1), some (0, a2), some (0, a3)], [(0, a3), (8, (a0 + 15))], M)) rfl trivial ?_
      refine xEvG_call xml xfetch (q := (some (0, fPrison_hasHour (a0 + 15) a3 M), M)) rfl (hPrison_hasHour (a0 + 15) a3 M _ rfl) ?_
      show xEv (7, 26, [some (2, a0), some (0, a1), some (0, a2), some (0, a3)], [(0, (fPrison_hasHour (a0 + 15) a3 M))], M) _
      refine xEvG_n xml xfetch 1 (y := (7, if (fPrison_hasHour (a0 + 15) a3 M) = 0 then 29 else 32, [some (2, a0), some (0, a1), some (0, a2), some (0, a3)], [], M)) rfl trivial ?_
      refine xEvG_br xml xfetch (fun c_ => ?_) (fun c_ => ?_)
      · have h := xif_t c_ h
        refine xEvG_n xml xfetch 1 (y := (7, 31, [some (2, a0), some (0, a1), some (0, a2), some (0, a3)], [(0, (-2))], M)) rfl trivial ?_
        cases h
        exact xEvG_ret xml xfetch rfl
      · have h := xif_f c_ h
        refine xEvG_n xml xfetch 6 (y := (7, 40, [some (2, a0), some (0, a1), some (0, a2), some (0, a3)], [(0, 0), (0, a3), (0, a2), (0, a1), (8, (a0 + 15))], M)) rfl trivial ?_
        obtain ⟨v4, e_, h⟩ := xB_t h
        refine xEvG_call xml xfetch (q := (some (0, v4), M)) rfl (hPrison_whyNot (a0 + 15) a1 a2 a3 0 M _ e_) ?_
        show xEv (7, 43, [some (2, a0), some (0, a1), some (0, a2), some (0, a3)], [(0, v4)], M) _
        cases h
        exact xEvG_ret xml xfetch rfl

/-- ConsentDoors.hours(II)I -/
def fD_hours (a0 a1 a2 : Int) (M : xM) : Option Int := if (fPrison_hasCell (a0 + 15) a1 M) = 0 then (some (-2)) else (if (fD_isSide a2 M) = 0 then (some (-2)) else (xA (0 ≤ (xw32 ((xw32 (2 * a1)) + a2)) ∧ (xw32 ((xw32 (2 * a1)) + a2)) < 18) (some (M (((a0 + 37) + 1) + 1) (xw32 ((xw32 (2 * a1)) + a2))))))
theorem hD_hours (a0 a1 a2 : Int) (M : xM) (r : Int) (h : fD_hours a0 a1 a2 M = some r) : xEv (8, 0, [some (2, a0), some (0, a1), some (0, a2)], [], M) (some (0, r), M) := by
  unfold fD_hours at h
  refine xEvG_n xml xfetch 3 (y := (8, 5, [some (2, a0), some (0, a1), some (0, a2)], [(0, a1), (8, (a0 + 15))], M)) rfl trivial ?_
  refine xEvG_call xml xfetch (q := (some (0, fPrison_hasCell (a0 + 15) a1 M), M)) rfl (hPrison_hasCell (a0 + 15) a1 M _ rfl) ?_
  show xEv (8, 8, [some (2, a0), some (0, a1), some (0, a2)], [(0, (fPrison_hasCell (a0 + 15) a1 M))], M) _
  refine xEvG_n xml xfetch 1 (y := (8, if (fPrison_hasCell (a0 + 15) a1 M) = 0 then 18 else 11, [some (2, a0), some (0, a1), some (0, a2)], [], M)) rfl trivial ?_
  refine xEvG_br xml xfetch (fun c_ => ?_) (fun c_ => ?_)
  · have h := xif_t c_ h
    refine xEvG_n xml xfetch 1 (y := (8, 20, [some (2, a0), some (0, a1), some (0, a2)], [(0, (-2))], M)) rfl trivial ?_
    cases h
    exact xEvG_ret xml xfetch rfl
  · have h := xif_f c_ h
    refine xEvG_n xml xfetch 1 (y := (8, 12, [some (2, a0), some (0, a1), some (0, a2)], [(0, a2)], M)) rfl trivial ?_
    refine xEvG_call xml xfetch (q := (some (0, fD_isSide a2 M), M)) rfl (hD_isSide a2 M _ rfl) ?_
    show xEv (8, 15, [some (2, a0), some (0, a1), some (0, a2)], [(0, (fD_isSide a2 M))], M) _
    refine xEvG_n xml xfetch 1 (y := (8, if (fD_isSide a2 M) = 0 then 18 else 21, [some (2, a0), some (0, a1), some (0, a2)], [], M)) rfl trivial ?_
    refine xEvG_br xml xfetch (fun c_ => ?_) (fun c_ => ?_)
    · have h := xif_t c_ h
      refine xEvG_n xml xfetch 1 (y := (8, 20, [some (2, a0), some (0, a1), some (0, a2)], [(0, (-2))], M)) rfl trivial ?_
      cases h
      exact xEvG_ret xml xfetch rfl
    · have h := xif_f c_ h
      have a0_ := (xA_t h).1
      have h := (xA_t h).2
      refine xEvG_n xml xfetch 10 (y := (8, 37, [some (2, a0), some (0, a1), some (0, a2)], [(0, (M (((a0 + 37) + 1) + 1) (xw32 ((xw32 (2 * a1)) + a2))))], M)) rfl ⟨a0_, trivial⟩ ?_
      cases h
      exact xEvG_ret xml xfetch rfl

/-- ConsentDoors.could(I)I -/
def fD_could (a0 a1 : Int) (M : xM) : Option Int := if (fPrison_hasCell (a0 + 15) a1 M) = 0 then (some (-2)) else (xA (0 ≤ a1 ∧ a1 < 9) (some (M (((a0 + 37) + 1) + 2) a1)))
theorem hD_could (a0 a1 : Int) (M : xM) (r : Int) (h : fD_could a0 a1 M = some r) : xEv (9, 0, [some (2, a0), some (0, a1)], [], M) (some (0, r), M) := by
  unfold fD_could at h
  refine xEvG_n xml xfetch 3 (y := (9, 5, [some (2, a0), some (0, a1)], [(0, a1), (8, (a0 + 15))], M)) rfl trivial ?_
  refine xEvG_call xml xfetch (q := (some (0, fPrison_hasCell (a0 + 15) a1 M), M)) rfl (hPrison_hasCell (a0 + 15) a1 M _ rfl) ?_
  show xEv (9, 8, [some (2, a0), some (0, a1)], [(0, (fPrison_hasCell (a0 + 15) a1 M))], M) _
  refine xEvG_n xml xfetch 1 (y := (9, if (fPrison_hasCell (a0 + 15) a1 M) = 0 then 26 else 11, [some (2, a0), some (0, a1)], [], M)) rfl trivial ?_
  refine xEvG_br xml xfetch (fun c_ => ?_) (fun c_ => ?_)
  · have h := xif_t c_ h
    refine xEvG_n xml xfetch 1 (y := (9, 28, [some (2, a0), some (0, a1)], [(0, (-2))], M)) rfl trivial ?_
    cases h
    exact xEvG_ret xml xfetch rfl
  · have h := xif_f c_ h
    have a0_ := (xA_t h).1
    have h := (xA_t h).2
    refine xEvG_n xml xfetch 7 (y := (9, 28, [some (2, a0), some (0, a1)], [(0, (M (((a0 + 37) + 1) + 2) a1))], M)) rfl ⟨a0_, trivial⟩ ?_
    cases h
    exact xEvG_ret xml xfetch rfl

def fD_longest_L74 (k_34 : Int → Int → Int → Int → Int → Int → Int → xM → Option Int) (x0 x1 x2 x4 x5 x6 y0 : Int) (M : xM) : Option Int := if x4 < y0 then (k_34 x0 x1 x2 y0 y0 (xw32 ((xw32 (x6 - y0)) + 1)) (xw32 (x6 + 1)) M) else (k_34 x0 x1 x2 y0 x4 x5 (xw32 (x6 + 1)) M)
theorem hD_longest_L74 (k_34 : Int → Int → Int → Int → Int → Int → Int → xM → Option Int) (hk_34 : ∀ (x0 x1 x2 x3 x4 x5 x6 : Int) (M : xM) (r : Int), k_34 x0 x1 x2 x3 x4 x5 x6 M = some r → xEv (10, 34, [some (2, x0), some (0, x1), some (0, x2), some (0, x3), some (0, x4), some (0, x5), some (0, x6)], [], M) (some (0, r), M)) (x0 x1 x2 x4 x5 x6 y0 : Int) (M : xM) (r : Int) (h : fD_longest_L74 k_34 x0 x1 x2 x4 x5 x6 y0 M = some r) : xEv (10, 74, [some (2, x0), some (0, x1), some (0, x2), none, some (0, x4), some (0, x5), some (0, x6)], [(0, y0)], M) (some (0, r), M) := by
  unfold fD_longest_L74 at h
  refine xEvG_n xml xfetch 4 (y := (10, if x4 < y0 then 81 else 92, [some (2, x0), some (0, x1), some (0, x2), some (0, y0), some (0, x4), some (0, x5), some (0, x6)], [], M)) rfl trivial ?_
  refine xEvG_br xml xfetch (fun c_ => ?_) (fun c_ => ?_)
  · have h := xif_t c_ h
    refine xEvG_n xml xfetch 10 (y := (10, 34, [some (2, x0), some (0, x1), some (0, x2), some (0, y0), some (0, y0), some (0, (xw32 ((xw32 (x6 - y0)) + 1))), some (0, (xw32 (x6 + 1)))], [], M)) rfl trivial ?_
    refine xEvG_mask xml xfetch [true, true, true, true, true, true, true] ?_
    exact hk_34 x0 x1 x2 y0 y0 (xw32 ((xw32 (x6 - y0)) + 1)) (xw32 (x6 + 1)) M _ h
  · have h := xif_f c_ h
    refine xEvG_n xml xfetch 2 (y := (10, 34, [some (2, x0), some (0, x1), some (0, x2), some (0, y0), some (0, x4), some (0, x5), some (0, (xw32 (x6 + 1)))], [], M)) rfl trivial ?_
    refine xEvG_mask xml xfetch [true, true, true, true, true, true, true] ?_
    exact hk_34 x0 x1 x2 y0 x4 x5 (xw32 (x6 + 1)) M _ h
def fD_longest_L34 : Nat → Int → Int → Int → Int → Int → Int → Int → xM → Option Int
  | 0, _, _, _, _, _, _, _, _ => none
  | g + 1, x0, x1, x2, x3, x4, x5, x6, M => if x6 < (M (x0 + 15) 1) then (xA (0 ≤ x1 ∧ x1 < 9) (if (fD_bit (M (((x0 + 37) + 1) + 2) x1) x6 M) = 1 then (fD_longest_L74 (fD_longest_L34 g) x0 x1 x2 x4 x5 x6 (xw32 (x3 + 1)) M) else (fD_longest_L74 (fD_longest_L34 g) x0 x1 x2 x4 x5 x6 0 M))) else (some (if x2 = 0 then x4 else x5 : Int))
theorem hD_longest_L34 : ∀ (g : Nat) (x0 x1 x2 x3 x4 x5 x6 : Int) (M : xM) (r : Int) (h : fD_longest_L34 g x0 x1 x2 x3 x4 x5 x6 M = some r), xEv (10, 34, [some (2, x0), some (0, x1), some (0, x2), some (0, x3), some (0, x4), some (0, x5), some (0, x6)], [], M) (some (0, r), M)
  | 0, _, _, _, _, _, _, _, _, _, h => by cases h
  | g + 1, x0, x1, x2, x3, x4, x5, x6, M, r, h => by
    unfold fD_longest_L34 at h
    refine xEvG_n xml xfetch 5 (y := (10, if x6 < (M (x0 + 15) 1) then 46 else 98, [some (2, x0), some (0, x1), some (0, x2), some (0, x3), some (0, x4), some (0, x5), some (0, x6)], [], M)) rfl trivial ?_
    refine xEvG_br xml xfetch (fun c_ => ?_) (fun c_ => ?_)
    · have h := xif_t c_ h
      have a0_ := (xA_t h).1
      have h := (xA_t h).2
      refine xEvG_n xml xfetch 7 (y := (10, 60, [some (2, x0), some (0, x1), some (0, x2), some (0, x3), some (0, x4), some (0, x5), some (0, x6)], [(0, x6), (0, (M (((x0 + 37) + 1) + 2) x1))], M)) rfl ⟨a0_, trivial⟩ ?_
      refine xEvG_call xml xfetch (q := (some (0, fD_bit (M (((x0 + 37) + 1) + 2) x1) x6 M), M)) rfl (hD_bit (M (((x0 + 37) + 1) + 2) x1) x6 M _ rfl) ?_
      show xEv (10, 63, [some (2, x0), some (0, x1), some (0, x2), some (0, x3), some (0, x4), some (0, x5), some (0, x6)], [(0, (fD_bit (M (((x0 + 37) + 1) + 2) x1) x6 M))], M) _
      refine xEvG_n xml xfetch 2 (y := (10, if (fD_bit (M (((x0 + 37) + 1) + 2) x1) x6 M) = 1 then 67 else 73, [some (2, x0), some (0, x1), some (0, x2), some (0, x3), some (0, x4), some (0, x5), some (0, x6)], [], M)) rfl trivial ?_
      refine xEvG_br xml xfetch (fun c_ => ?_) (fun c_ => ?_)
      · have h := xif_t c_ h
        refine xEvG_n xml xfetch 4 (y := (10, 74, [some (2, x0), some (0, x1), some (0, x2), some (0, x3), some (0, x4), some (0, x5), some (0, x6)], [(0, (xw32 (x3 + 1)))], M)) rfl trivial ?_
        refine xEvG_mask xml xfetch [true, true, true, false, true, true, true] ?_
        exact hD_longest_L74 (fD_longest_L34 g) (hD_longest_L34 g) x0 x1 x2 x4 x5 x6 (xw32 (x3 + 1)) M _ h
      · have h := xif_f c_ h
        refine xEvG_n xml xfetch 1 (y := (10, 74, [some (2, x0), some (0, x1), some (0, x2), some (0, x3), some (0, x4), some (0, x5), some (0, x6)], [(0, 0)], M)) rfl trivial ?_
        refine xEvG_mask xml xfetch [true, true, true, false, true, true, true] ?_
        exact hD_longest_L74 (fD_longest_L34 g) (hD_longest_L34 g) x0 x1 x2 x4 x5 x6 0 M _ h
    · have h := xif_f c_ h
      refine xEvG_n xml xfetch 1 (y := (10, 99, [some (2, x0), some (0, x1), some (0, x2), some (0, x3), some (0, x4), some (0, x5), some (0, x6)], [(0, x2)], M)) rfl trivial ?_
      have key_ : xEv (10, 109, [some (2, x0), some (0, x1), some (0, x2), some (0, x3), some (0, x4), some (0, x5), some (0, x6)], [(0, (if x2 = 0 then x4 else x5 : Int))], M) (some (0, r), M) := by
        cases h
        exact xEvG_ret xml xfetch rfl
      refine xEvG_n xml xfetch 1 (y := (10, if x2 = 0 then 102 else 107, [some (2, x0), some (0, x1), some (0, x2), some (0, x3), some (0, x4), some (0, x5), some (0, x6)], [], M)) rfl trivial ?_
      refine xEvG_br xml xfetch (fun c6_ => ?_) (fun c6_ => ?_)
      · refine xEvG_n xml xfetch 2 (y := (10, 109, [some (2, x0), some (0, x1), some (0, x2), some (0, x3), some (0, x4), some (0, x5), some (0, x6)], [(0, x4)], M)) rfl trivial ?_
        try simp only [if_pos c6_] at key_
        try simp only [if_pos c6_]
        exact key_
      · refine xEvG_n xml xfetch 1 (y := (10, 109, [some (2, x0), some (0, x1), some (0, x2), some (0, x3), some (0, x4), some (0, x5), some (0, x6)], [(0, x5)], M)) rfl trivial ?_
        try simp only [if_neg c6_] at key_
        try simp only [if_neg c6_]
        exact key_
/-- ConsentDoors.longest(II)I -/
def fD_longest (a0 a1 a2 : Int) (M : xM) : Option Int := if (fPrison_hasCell (a0 + 15) a1 M) = 0 then (some (-2)) else (if a2 < 0 then (some (-2)) else (if 1 < a2 then (some (-2)) else (fD_longest_L34 20001 a0 a1 a2 0 0 (-1) 0 M)))
theorem hD_longest (a0 a1 a2 : Int) (M : xM) (r : Int) (h : fD_longest a0 a1 a2 M = some r) : xEv (10, 0, [some (2, a0), some (0, a1), some (0, a2), none, none, none, none], [], M) (some (0, r), M) := by
  unfold fD_longest at h
  refine xEvG_n xml xfetch 3 (y := (10, 5, [some (2, a0), some (0, a1), some (0, a2), none, none, none, none], [(0, a1), (8, (a0 + 15))], M)) rfl trivial ?_
  refine xEvG_call xml xfetch (q := (some (0, fPrison_hasCell (a0 + 15) a1 M), M)) rfl (hPrison_hasCell (a0 + 15) a1 M _ rfl) ?_
  show xEv (10, 8, [some (2, a0), some (0, a1), some (0, a2), none, none, none, none], [(0, (fPrison_hasCell (a0 + 15) a1 M))], M) _
  refine xEvG_n xml xfetch 1 (y := (10, if (fPrison_hasCell (a0 + 15) a1 M) = 0 then 20 else 11, [some (2, a0), some (0, a1), some (0, a2), none, none, none, none], [], M)) rfl trivial ?_
  refine xEvG_br xml xfetch (fun c_ => ?_) (fun c_ => ?_)
  · have h := xif_t c_ h
    refine xEvG_n xml xfetch 1 (y := (10, 22, [some (2, a0), some (0, a1), some (0, a2), none, none, none, none], [(0, (-2))], M)) rfl trivial ?_
    cases h
    exact xEvG_ret xml xfetch rfl
  · have h := xif_f c_ h
    refine xEvG_n xml xfetch 2 (y := (10, if a2 < 0 then 20 else 15, [some (2, a0), some (0, a1), some (0, a2), none, none, none, none], [], M)) rfl trivial ?_
    refine xEvG_br xml xfetch (fun c_ => ?_) (fun c_ => ?_)
    · have h := xif_t c_ h
      refine xEvG_n xml xfetch 1 (y := (10, 22, [some (2, a0), some (0, a1), some (0, a2), none, none, none, none], [(0, (-2))], M)) rfl trivial ?_
      cases h
      exact xEvG_ret xml xfetch rfl
    · have h := xif_f c_ h
      refine xEvG_n xml xfetch 3 (y := (10, if 1 < a2 then 20 else 23, [some (2, a0), some (0, a1), some (0, a2), none, none, none, none], [], M)) rfl trivial ?_
      refine xEvG_br xml xfetch (fun c_ => ?_) (fun c_ => ?_)
      · have h := xif_t c_ h
        refine xEvG_n xml xfetch 1 (y := (10, 22, [some (2, a0), some (0, a1), some (0, a2), none, none, none, none], [(0, (-2))], M)) rfl trivial ?_
        cases h
        exact xEvG_ret xml xfetch rfl
      · have h := xif_f c_ h
        refine xEvG_n xml xfetch 8 (y := (10, 34, [some (2, a0), some (0, a1), some (0, a2), some (0, 0), some (0, 0), some (0, (-1)), some (0, 0)], [], M)) rfl trivial ?_
        refine xEvG_mask xml xfetch [true, true, true, true, true, true, true] ?_
        exact hD_longest_L34 20001 a0 a1 a2 0 0 (-1) 0 M _ h

/-- java/lang/Integer.bitCount(I)I -/
def fJI_bitCount (a0 : Int) (M : xM) : Int := (xand (xw32 ((xw32 ((xand (xw32 ((xw32 ((xand (xw32 (a0 - (xand (xushr a0 1) 1431655765))) 858993459) + (xand (xushr (xw32 (a0 - (xand (xushr a0 1) 1431655765))) 2) 858993459))) + (xushr (xw32 ((xand (xw32 (a0 - (xand (xushr a0 1) 1431655765))) 858993459) + (xand (xushr (xw32 (a0 - (xand (xushr a0 1) 1431655765))) 2) 858993459))) 4))) 252645135) + (xushr (xand (xw32 ((xw32 ((xand (xw32 (a0 - (xand (xushr a0 1) 1431655765))) 858993459) + (xand (xushr (xw32 (a0 - (xand (xushr a0 1) 1431655765))) 2) 858993459))) + (xushr (xw32 ((xand (xw32 (a0 - (xand (xushr a0 1) 1431655765))) 858993459) + (xand (xushr (xw32 (a0 - (xand (xushr a0 1) 1431655765))) 2) 858993459))) 4))) 252645135) 8))) + (xushr (xw32 ((xand (xw32 ((xw32 ((xand (xw32 (a0 - (xand (xushr a0 1) 1431655765))) 858993459) + (xand (xushr (xw32 (a0 - (xand (xushr a0 1) 1431655765))) 2) 858993459))) + (xushr (xw32 ((xand (xw32 (a0 - (xand (xushr a0 1) 1431655765))) 858993459) + (xand (xushr (xw32 (a0 - (xand (xushr a0 1) 1431655765))) 2) 858993459))) 4))) 252645135) + (xushr (xand (xw32 ((xw32 ((xand (xw32 (a0 - (xand (xushr a0 1) 1431655765))) 858993459) + (xand (xushr (xw32 (a0 - (xand (xushr a0 1) 1431655765))) 2) 858993459))) + (xushr (xw32 ((xand (xw32 (a0 - (xand (xushr a0 1) 1431655765))) 858993459) + (xand (xushr (xw32 (a0 - (xand (xushr a0 1) 1431655765))) 2) 858993459))) 4))) 252645135) 8))) 16))) 63)
theorem hJI_bitCount (a0 : Int) (M : xM) (r : Int) (h : fJI_bitCount a0 M = r) : xEv (297, 0, [some (0, a0)], [], M) (some (0, r), M) := by
  unfold fJI_bitCount at h
  refine xEvG_n xml xfetch 41 (y := (297, 52, [some (0, (xw32 ((xw32 ((xand (xw32 ((xw32 ((xand (xw32 (a0 - (xand (xushr a0 1) 1431655765))) 858993459) + (xand (xushr (xw32 (a0 - (xand (xushr a0 1) 1431655765))) 2) 858993459))) + (xushr (xw32 ((xand (xw32 (a0 - (xand (xushr a0 1) 1431655765))) 858993459) + (xand (xushr (xw32 (a0 - (xand (xushr a0 1) 1431655765))) 2) 858993459))) 4))) 252645135) + (xushr (xand (xw32 ((xw32 ((xand (xw32 (a0 - (xand (xushr a0 1) 1431655765))) 858993459) + (xand (xushr (xw32 (a0 - (xand (xushr a0 1) 1431655765))) 2) 858993459))) + (xushr (xw32 ((xand (xw32 (a0 - (xand (xushr a0 1) 1431655765))) 858993459) + (xand (xushr (xw32 (a0 - (xand (xushr a0 1) 1431655765))) 2) 858993459))) 4))) 252645135) 8))) + (xushr (xw32 ((xand (xw32 ((xw32 ((xand (xw32 (a0 - (xand (xushr a0 1) 1431655765))) 858993459) + (xand (xushr (xw32 (a0 - (xand (xushr a0 1) 1431655765))) 2) 858993459))) + (xushr (xw32 ((xand (xw32 (a0 - (xand (xushr a0 1) 1431655765))) 858993459) + (xand (xushr (xw32 (a0 - (xand (xushr a0 1) 1431655765))) 2) 858993459))) 4))) 252645135) + (xushr (xand (xw32 ((xw32 ((xand (xw32 (a0 - (xand (xushr a0 1) 1431655765))) 858993459) + (xand (xushr (xw32 (a0 - (xand (xushr a0 1) 1431655765))) 2) 858993459))) + (xushr (xw32 ((xand (xw32 (a0 - (xand (xushr a0 1) 1431655765))) 858993459) + (xand (xushr (xw32 (a0 - (xand (xushr a0 1) 1431655765))) 2) 858993459))) 4))) 252645135) 8))) 16))))], [(0, (xand (xw32 ((xw32 ((xand (xw32 ((xw32 ((xand (xw32 (a0 - (xand (xushr a0 1) 1431655765))) 858993459) + (xand (xushr (xw32 (a0 - (xand (xushr a0 1) 1431655765))) 2) 858993459))) + (xushr (xw32 ((xand (xw32 (a0 - (xand (xushr a0 1) 1431655765))) 858993459) + (xand (xushr (xw32 (a0 - (xand (xushr a0 1) 1431655765))) 2) 858993459))) 4))) 252645135) + (xushr (xand (xw32 ((xw32 ((xand (xw32 (a0 - (xand (xushr a0 1) 1431655765))) 858993459) + (xand (xushr (xw32 (a0 - (xand (xushr a0 1) 1431655765))) 2) 858993459))) + (xushr (xw32 ((xand (xw32 (a0 - (xand (xushr a0 1) 1431655765))) 858993459) + (xand (xushr (xw32 (a0 - (xand (xushr a0 1) 1431655765))) 2) 858993459))) 4))) 252645135) 8))) + (xushr (xw32 ((xand (xw32 ((xw32 ((xand (xw32 (a0 - (xand (xushr a0 1) 1431655765))) 858993459) + (xand (xushr (xw32 (a0 - (xand (xushr a0 1) 1431655765))) 2) 858993459))) + (xushr (xw32 ((xand (xw32 (a0 - (xand (xushr a0 1) 1431655765))) 858993459) + (xand (xushr (xw32 (a0 - (xand (xushr a0 1) 1431655765))) 2) 858993459))) 4))) 252645135) + (xushr (xand (xw32 ((xw32 ((xand (xw32 (a0 - (xand (xushr a0 1) 1431655765))) 858993459) + (xand (xushr (xw32 (a0 - (xand (xushr a0 1) 1431655765))) 2) 858993459))) + (xushr (xw32 ((xand (xw32 (a0 - (xand (xushr a0 1) 1431655765))) 858993459) + (xand (xushr (xw32 (a0 - (xand (xushr a0 1) 1431655765))) 2) 858993459))) 4))) 252645135) 8))) 16))) 63))], M)) rfl trivial ?_
  subst h
  exact xEvG_ret xml xfetch rfl

/-- ConsentDoors.common(II)I -/
def fD_common (a0 a1 a2 : Int) (M : xM) : Option Int := if (fPrison_hasCell (a0 + 15) a1 M) = 0 then (some (-2)) else (if (fPrison_hasCell (a0 + 15) a2 M) = 0 then (some (-2)) else (if a1 = a2 then (some (-2)) else (xA (0 ≤ a1 ∧ a1 < 9) (xA (0 ≤ a2 ∧ a2 < 9) (some (fJI_bitCount (xand (M (((a0 + 37) + 1) + 2) a1) (M (((a0 + 37) + 1) + 2) a2)) M))))))
theorem hD_common (a0 a1 a2 : Int) (M : xM) (r : Int) (h : fD_common a0 a1 a2 M = some r) : xEv (11, 0, [some (2, a0), some (0, a1), some (0, a2)], [], M) (some (0, r), M) := by
  unfold fD_common at h
  refine xEvG_n xml xfetch 3 (y := (11, 5, [some (2, a0), some (0, a1), some (0, a2)], [(0, a1), (8, (a0 + 15))], M)) rfl trivial ?_
  refine xEvG_call xml xfetch (q := (some (0, fPrison_hasCell (a0 + 15) a1 M), M)) rfl (hPrison_hasCell (a0 + 15) a1 M _ rfl) ?_
  show xEv (11, 8, [some (2, a0), some (0, a1), some (0, a2)], [(0, (fPrison_hasCell (a0 + 15) a1 M))], M) _
  refine xEvG_n xml xfetch 1 (y := (11, if (fPrison_hasCell (a0 + 15) a1 M) = 0 then 27 else 11, [some (2, a0), some (0, a1), some (0, a2)], [], M)) rfl trivial ?_
  refine xEvG_br xml xfetch (fun c_ => ?_) (fun c_ => ?_)
  · have h := xif_t c_ h
    refine xEvG_n xml xfetch 1 (y := (11, 29, [some (2, a0), some (0, a1), some (0, a2)], [(0, (-2))], M)) rfl trivial ?_
    cases h
    exact xEvG_ret xml xfetch rfl
  · have h := xif_f c_ h
    refine xEvG_n xml xfetch 3 (y := (11, 16, [some (2, a0), some (0, a1), some (0, a2)], [(0, a2), (8, (a0 + 15))], M)) rfl trivial ?_
    refine xEvG_call xml xfetch (q := (some (0, fPrison_hasCell (a0 + 15) a2 M), M)) rfl (hPrison_hasCell (a0 + 15) a2 M _ rfl) ?_
    show xEv (11, 19, [some (2, a0), some (0, a1), some (0, a2)], [(0, (fPrison_hasCell (a0 + 15) a2 M))], M) _
    refine xEvG_n xml xfetch 1 (y := (11, if (fPrison_hasCell (a0 + 15) a2 M) = 0 then 27 else 22, [some (2, a0), some (0, a1), some (0, a2)], [], M)) rfl trivial ?_
    refine xEvG_br xml xfetch (fun c_ => ?_) (fun c_ => ?_)
    · have h := xif_t c_ h
      refine xEvG_n xml xfetch 1 (y := (11, 29, [some (2, a0), some (0, a1), some (0, a2)], [(0, (-2))], M)) rfl trivial ?_
      cases h
      exact xEvG_ret xml xfetch rfl
    · have h := xif_f c_ h
      refine xEvG_n xml xfetch 3 (y := (11, if a1 = a2 then 27 else 30, [some (2, a0), some (0, a1), some (0, a2)], [], M)) rfl trivial ?_
      refine xEvG_br xml xfetch (fun c_ => ?_) (fun c_ => ?_)
      · have h := xif_t c_ h
        refine xEvG_n xml xfetch 1 (y := (11, 29, [some (2, a0), some (0, a1), some (0, a2)], [(0, (-2))], M)) rfl trivial ?_
        cases h
        exact xEvG_ret xml xfetch rfl
      · have h := xif_f c_ h
        have a0_ := (xA_t h).1
        have h := (xA_t h).2
        have a1_ := (xA_t h).1
        have h := (xA_t h).2
        refine xEvG_n xml xfetch 13 (y := (11, 55, [some (2, a0), some (0, a1), some (0, a2)], [(0, (xand (M (((a0 + 37) + 1) + 2) a1) (M (((a0 + 37) + 1) + 2) a2)))], M)) rfl ⟨a0_, a1_, trivial⟩ ?_
        refine xEvG_call xml xfetch (q := (some (0, fJI_bitCount (xand (M (((a0 + 37) + 1) + 2) a1) (M (((a0 + 37) + 1) + 2) a2)) M), M)) rfl (hJI_bitCount (xand (M (((a0 + 37) + 1) + 2) a1) (M (((a0 + 37) + 1) + 2) a2)) M _ rfl) ?_
        show xEv (11, 58, [some (2, a0), some (0, a1), some (0, a2)], [(0, (fJI_bitCount (xand (M (((a0 + 37) + 1) + 2) a1) (M (((a0 + 37) + 1) + 2) a2)) M))], M) _
        cases h
        exact xEvG_ret xml xfetch rfl

/-- ConsentDoors.plan(II)I -/
def fD_plan (a0 a1 a2 : Int) (M : xM) : Option (Int × xM) := if (fPrison_hasHour (a0 + 15) a1 M) = 0 then (some ((-2), M)) else (if a2 = (-1) then (xA (0 ≤ a1 ∧ a1 < 24) (xA (0 ≤ a1 ∧ a1 < 24) (xB (fCourse_follow (a0 + 255) (a0 + 15) ((a0 + 37) + 1) (xwr M ((a0 + 15) + 10) a1 a2)) (fun m2 => some ((M ((a0 + 15) + 10) a1), m2))))) else (if (fPrison_hasCell (a0 + 15) a2 M) = 0 then (some ((-2), M)) else (xA (0 ≤ a1 ∧ a1 < 24) (xA (0 ≤ a1 ∧ a1 < 24) (xB (fCourse_follow (a0 + 255) (a0 + 15) ((a0 + 37) + 1) (xwr M ((a0 + 15) + 10) a1 a2)) (fun m4 => some ((M ((a0 + 15) + 10) a1), m4)))))))
theorem hD_plan (a0 a1 a2 : Int) (M : xM) (r : Int × xM) (h : fD_plan a0 a1 a2 M = some r) : xEv (12, 0, [some (2, a0), some (0, a1), some (0, a2), none], [], M) (some (0, r.1), r.2) := by
  unfold fD_plan at h
  refine xEvG_n xml xfetch 3 (y := (12, 5, [some (2, a0), some (0, a1), some (0, a2), none], [(0, a1), (8, (a0 + 15))], M)) rfl trivial ?_
  refine xEvG_call xml xfetch (q := (some (0, fPrison_hasHour (a0 + 15) a1 M), M)) rfl (hPrison_hasHour (a0 + 15) a1 M _ rfl) ?_
  show xEv (12, 8, [some (2, a0), some (0, a1), some (0, a2), none], [(0, (fPrison_hasHour (a0 + 15) a1 M))], M) _
  refine xEvG_n xml xfetch 1 (y := (12, if (fPrison_hasHour (a0 + 15) a1 M) = 0 then 27 else 11, [some (2, a0), some (0, a1), some (0, a2), none], [], M)) rfl trivial ?_
  refine xEvG_br xml xfetch (fun c_ => ?_) (fun c_ => ?_)
  · have h := xif_t c_ h
    refine xEvG_n xml xfetch 1 (y := (12, 29, [some (2, a0), some (0, a1), some (0, a2), none], [(0, (-2))], M)) rfl trivial ?_
    cases h
    exact xEvG_ret xml xfetch rfl
  · have h := xif_f c_ h
    refine xEvG_n xml xfetch 3 (y := (12, if a2 = (-1) then 30 else 16, [some (2, a0), some (0, a1), some (0, a2), none], [], M)) rfl trivial ?_
    refine xEvG_br xml xfetch (fun c_ => ?_) (fun c_ => ?_)
    · have h := xif_t c_ h
      have a0_ := (xA_t h).1
      have h := (xA_t h).2
      have a1_ := (xA_t h).1
      have h := (xA_t h).2
      refine xEvG_n xml xfetch 19 (y := (12, 65, [some (2, a0), some (0, a1), some (0, a2), some (0, (M ((a0 + 15) + 10) a1))], [(6, ((a0 + 37) + 1)), (8, (a0 + 15)), (4, (a0 + 255))], (xwr M ((a0 + 15) + 10) a1 a2))) rfl ⟨a0_, a1_, trivial⟩ ?_
      obtain ⟨m2, e_, h⟩ := xB_t h
      refine xEvG_call xml xfetch (q := (none, m2)) rfl (hCourse_follow (a0 + 255) (a0 + 15) ((a0 + 37) + 1) (xwr M ((a0 + 15) + 10) a1 a2) _ e_) ?_
      show xEv (12, 68, [some (2, a0), some (0, a1), some (0, a2), some (0, (M ((a0 + 15) + 10) a1))], [], m2) _
      refine xEvG_n xml xfetch 1 (y := (12, 69, [some (2, a0), some (0, a1), some (0, a2), some (0, (M ((a0 + 15) + 10) a1))], [(0, (M ((a0 + 15) + 10) a1))], m2)) rfl trivial ?_
      cases h
      exact xEvG_ret xml xfetch rfl
    · have h := xif_f c_ h
      refine xEvG_n xml xfetch 3 (y := (12, 21, [some (2, a0), some (0, a1), some (0, a2), none], [(0, a2), (8, (a0 + 15))], M)) rfl trivial ?_
      refine xEvG_call xml xfetch (q := (some (0, fPrison_hasCell (a0 + 15) a2 M), M)) rfl (hPrison_hasCell (a0 + 15) a2 M _ rfl) ?_
      show xEv (12, 24, [some (2, a0), some (0, a1), some (0, a2), none], [(0, (fPrison_hasCell (a0 + 15) a2 M))], M) _
      refine xEvG_n xml xfetch 1 (y := (12, if (fPrison_hasCell (a0 + 15) a2 M) = 0 then 27 else 30, [some (2, a0), some (0, a1), some (0, a2), none], [], M)) rfl trivial ?_
      refine xEvG_br xml xfetch (fun c_ => ?_) (fun c_ => ?_)
      · have h := xif_t c_ h
        refine xEvG_n xml xfetch 1 (y := (12, 29, [some (2, a0), some (0, a1), some (0, a2), none], [(0, (-2))], M)) rfl trivial ?_
        cases h
        exact xEvG_ret xml xfetch rfl
      · have h := xif_f c_ h
        have a0_ := (xA_t h).1
        have h := (xA_t h).2
        have a1_ := (xA_t h).1
        have h := (xA_t h).2
        refine xEvG_n xml xfetch 19 (y := (12, 65, [some (2, a0), some (0, a1), some (0, a2), some (0, (M ((a0 + 15) + 10) a1))], [(6, ((a0 + 37) + 1)), (8, (a0 + 15)), (4, (a0 + 255))], (xwr M ((a0 + 15) + 10) a1 a2))) rfl ⟨a0_, a1_, trivial⟩ ?_
        obtain ⟨m4, e_, h⟩ := xB_t h
        refine xEvG_call xml xfetch (q := (none, m4)) rfl (hCourse_follow (a0 + 255) (a0 + 15) ((a0 + 37) + 1) (xwr M ((a0 + 15) + 10) a1 a2) _ e_) ?_
        show xEv (12, 68, [some (2, a0), some (0, a1), some (0, a2), some (0, (M ((a0 + 15) + 10) a1))], [], m4) _
        refine xEvG_n xml xfetch 1 (y := (12, 69, [some (2, a0), some (0, a1), some (0, a2), some (0, (M ((a0 + 15) + 10) a1))], [(0, (M ((a0 + 15) + 10) a1))], m4)) rfl trivial ?_
        cases h
        exact xEvG_ret xml xfetch rfl

/-- ConsentDoors.opens(I)I -/
def fD_opens (a0 a1 : Int) (M : xM) : Option Int := if (fPrison_hasHour (a0 + 15) a1 M) = 0 then (some (-2)) else (xA (0 ≤ a1 ∧ a1 < 24) (some (M ((a0 + 255) + 1) a1)))
theorem hD_opens (a0 a1 : Int) (M : xM) (r : Int) (h : fD_opens a0 a1 M = some r) : xEv (13, 0, [some (2, a0), some (0, a1)], [], M) (some (0, r), M) := by
  unfold fD_opens at h
  refine xEvG_n xml xfetch 3 (y := (13, 5, [some (2, a0), some (0, a1)], [(0, a1), (8, (a0 + 15))], M)) rfl trivial ?_
  refine xEvG_call xml xfetch (q := (some (0, fPrison_hasHour (a0 + 15) a1 M), M)) rfl (hPrison_hasHour (a0 + 15) a1 M _ rfl) ?_
  show xEv (13, 8, [some (2, a0), some (0, a1)], [(0, (fPrison_hasHour (a0 + 15) a1 M))], M) _
  refine xEvG_n xml xfetch 1 (y := (13, if (fPrison_hasHour (a0 + 15) a1 M) = 0 then 23 else 11, [some (2, a0), some (0, a1)], [], M)) rfl trivial ?_
  refine xEvG_br xml xfetch (fun c_ => ?_) (fun c_ => ?_)
  · have h := xif_t c_ h
    refine xEvG_n xml xfetch 1 (y := (13, 25, [some (2, a0), some (0, a1)], [(0, (-2))], M)) rfl trivial ?_
    cases h
    exact xEvG_ret xml xfetch rfl
  · have h := xif_f c_ h
    have a0_ := (xA_t h).1
    have h := (xA_t h).2
    refine xEvG_n xml xfetch 6 (y := (13, 25, [some (2, a0), some (0, a1)], [(0, (M ((a0 + 255) + 1) a1))], M)) rfl ⟨a0_, trivial⟩ ?_
    cases h
    exact xEvG_ret xml xfetch rfl

/-- ConsentDoors$Course.goneAhead(I)I -/
def fCourse_goneAhead (a0 a1 : Int) (M : xM) : Option Int := if a1 < 1 then (some 0) else (if 24 < a1 then (some 0) else (xA (0 ≤ (xw32 (a1 - 1)) ∧ (xw32 (a1 - 1)) < 24) (some (M (a0 + 2) (xw32 (a1 - 1))))))
theorem hCourse_goneAhead (a0 a1 : Int) (M : xM) (r : Int) (h : fCourse_goneAhead a0 a1 M = some r) : xEv (231, 0, [some (4, a0), some (0, a1)], [], M) (some (0, r), M) := by
  unfold fCourse_goneAhead at h
  refine xEvG_n xml xfetch 3 (y := (231, if a1 < 1 then 22 else 5, [some (4, a0), some (0, a1)], [], M)) rfl trivial ?_
  refine xEvG_br xml xfetch (fun c_ => ?_) (fun c_ => ?_)
  · have h := xif_t c_ h
    refine xEvG_n xml xfetch 1 (y := (231, 23, [some (4, a0), some (0, a1)], [(0, 0)], M)) rfl trivial ?_
    cases h
    exact xEvG_ret xml xfetch rfl
  · have h := xif_f c_ h
    refine xEvG_n xml xfetch 3 (y := (231, if 24 < a1 then 22 else 11, [some (4, a0), some (0, a1)], [], M)) rfl trivial ?_
    refine xEvG_br xml xfetch (fun c_ => ?_) (fun c_ => ?_)
    · have h := xif_t c_ h
      refine xEvG_n xml xfetch 1 (y := (231, 23, [some (4, a0), some (0, a1)], [(0, 0)], M)) rfl trivial ?_
      cases h
      exact xEvG_ret xml xfetch rfl
    · have h := xif_f c_ h
      have a0_ := (xA_t h).1
      have h := (xA_t h).2
      refine xEvG_n xml xfetch 7 (y := (231, 23, [some (4, a0), some (0, a1)], [(0, (M (a0 + 2) (xw32 (a1 - 1))))], M)) rfl ⟨a0_, trivial⟩ ?_
      cases h
      exact xEvG_ret xml xfetch rfl

/-- ConsentDoors$Prison.refusal(IIII)I -/
def fPrison_refusal (a0 a1 a2 a3 a4 : Int) (M : xM) : Option Int := if (fPrison_neighbour a0 a1 a2 M) = (-1) then (some 1) else (xB (fPrison_whyNot a0 (fPrison_neighbour a0 a1 a2 M) (xw32 (1 - a2)) a3 a4 M) (fun v2 => some v2))
theorem hPrison_refusal (a0 a1 a2 a3 a4 : Int) (M : xM) (r : Int) (h : fPrison_refusal a0 a1 a2 a3 a4 M = some r) : xEv (258, 0, [some (8, a0), some (0, a1), some (0, a2), some (0, a3), some (0, a4), none], [], M) (some (0, r), M) := by
  unfold fPrison_refusal at h
  refine xEvG_n xml xfetch 3 (y := (258, 3, [some (8, a0), some (0, a1), some (0, a2), some (0, a3), some (0, a4), none], [(0, a2), (0, a1), (8, a0)], M)) rfl trivial ?_
  refine xEvG_call xml xfetch (q := (some (0, fPrison_neighbour a0 a1 a2 M), M)) rfl (hPrison_neighbour a0 a1 a2 M _ rfl) ?_
  show xEv (258, 6, [some (8, a0), some (0, a1), some (0, a2), some (0, a3), some (0, a4), none], [(0, (fPrison_neighbour a0 a1 a2 M))], M) _
  refine xEvG_n xml xfetch 4 (y := (258, if (fPrison_neighbour a0 a1 a2 M) = (-1) then 14 else 18, [some (8, a0), some (0, a1), some (0, a2), some (0, a3), some (0, a4), some (0, (fPrison_neighbour a0 a1 a2 M))], [], M)) rfl trivial ?_
  refine xEvG_br xml xfetch (fun c_ => ?_) (fun c_ => ?_)
  · have h := xif_t c_ h
    refine xEvG_n xml xfetch 2 (y := (258, 30, [some (8, a0), some (0, a1), some (0, a2), some (0, a3), some (0, a4), some (0, (fPrison_neighbour a0 a1 a2 M))], [(0, 1)], M)) rfl trivial ?_
    cases h
    exact xEvG_ret xml xfetch rfl
  · have h := xif_f c_ h
    refine xEvG_n xml xfetch 7 (y := (258, 27, [some (8, a0), some (0, a1), some (0, a2), some (0, a3), some (0, a4), some (0, (fPrison_neighbour a0 a1 a2 M))], [(0, a4), (0, a3), (0, (xw32 (1 - a2))), (0, (fPrison_neighbour a0 a1 a2 M)), (8, a0)], M)) rfl trivial ?_
    obtain ⟨v2, e_, h⟩ := xB_t h
    refine xEvG_call xml xfetch (q := (some (0, v2), M)) rfl (hPrison_whyNot a0 (fPrison_neighbour a0 a1 a2 M) (xw32 (1 - a2)) a3 a4 M _ e_) ?_
    show xEv (258, 30, [some (8, a0), some (0, a1), some (0, a2), some (0, a3), some (0, a4), some (0, (fPrison_neighbour a0 a1 a2 M))], [(0, v2)], M) _
    cases h
    exact xEvG_ret xml xfetch rfl

/-- ConsentDoors.why(I)I -/
def fD_why (a0 a1 : Int) (M : xM) : Option Int := if (fPrison_hasHour (a0 + 15) a1 M) = 0 then (some (-2)) else (xA (0 ≤ a1 ∧ a1 < 24) (xB (fCourse_goneAhead (a0 + 255) a1 M) (fun v2 => if (M ((a0 + 15) + 10) a1) = (-1) then (some 1) else (if (fD_bit v2 (M ((a0 + 15) + 10) a1) M) = 1 then (some 2) else (xB (fPrison_refusal (a0 + 15) (M ((a0 + 15) + 10) a1) 0 a1 v2 M) (fun v4 => if 1 < v4 then (some 3) else (xB (fPrison_refusal (a0 + 15) (M ((a0 + 15) + 10) a1) 1 a1 v2 M) (fun v5 => some (if 1 < v5 then 4 else 0 : Int)))))))))
theorem hD_why (a0 a1 : Int) (M : xM) (r : Int) (h : fD_why a0 a1 M = some r) : xEv (14, 0, [some (2, a0), some (0, a1), none, none], [], M) (some (0, r), M) := by
  unfold fD_why at h
  refine xEvG_n xml xfetch 3 (y := (14, 5, [some (2, a0), some (0, a1), none, none], [(0, a1), (8, (a0 + 15))], M)) rfl trivial ?_
  refine xEvG_call xml xfetch (q := (some (0, fPrison_hasHour (a0 + 15) a1 M), M)) rfl (hPrison_hasHour (a0 + 15) a1 M _ rfl) ?_
  show xEv (14, 8, [some (2, a0), some (0, a1), none, none], [(0, (fPrison_hasHour (a0 + 15) a1 M))], M) _
  refine xEvG_n xml xfetch 1 (y := (14, if (fPrison_hasHour (a0 + 15) a1 M) = 0 then 11 else 14, [some (2, a0), some (0, a1), none, none], [], M)) rfl trivial ?_
  refine xEvG_br xml xfetch (fun c_ => ?_) (fun c_ => ?_)
  · have h := xif_t c_ h
    refine xEvG_n xml xfetch 1 (y := (14, 13, [some (2, a0), some (0, a1), none, none], [(0, (-2))], M)) rfl trivial ?_
    cases h
    exact xEvG_ret xml xfetch rfl
  · have h := xif_f c_ h
    have a0_ := (xA_t h).1
    have h := (xA_t h).2
    refine xEvG_n xml xfetch 9 (y := (14, 29, [some (2, a0), some (0, a1), some (0, (M ((a0 + 15) + 10) a1)), none], [(0, a1), (4, (a0 + 255))], M)) rfl ⟨a0_, trivial⟩ ?_
    obtain ⟨v2, e_, h⟩ := xB_t h
    refine xEvG_call xml xfetch (q := (some (0, v2), M)) rfl (hCourse_goneAhead (a0 + 255) a1 M _ e_) ?_
    show xEv (14, 32, [some (2, a0), some (0, a1), some (0, (M ((a0 + 15) + 10) a1)), none], [(0, v2)], M) _
    refine xEvG_n xml xfetch 4 (y := (14, if (M ((a0 + 15) + 10) a1) = (-1) then 38 else 40, [some (2, a0), some (0, a1), some (0, (M ((a0 + 15) + 10) a1)), some (0, v2)], [], M)) rfl trivial ?_
    refine xEvG_br xml xfetch (fun c_ => ?_) (fun c_ => ?_)
    · have h := xif_t c_ h
      refine xEvG_n xml xfetch 1 (y := (14, 39, [some (2, a0), some (0, a1), some (0, (M ((a0 + 15) + 10) a1)), some (0, v2)], [(0, 1)], M)) rfl trivial ?_
      cases h
      exact xEvG_ret xml xfetch rfl
    · have h := xif_f c_ h
      refine xEvG_n xml xfetch 2 (y := (14, 42, [some (2, a0), some (0, a1), some (0, (M ((a0 + 15) + 10) a1)), some (0, v2)], [(0, (M ((a0 + 15) + 10) a1)), (0, v2)], M)) rfl trivial ?_
      refine xEvG_call xml xfetch (q := (some (0, fD_bit v2 (M ((a0 + 15) + 10) a1) M), M)) rfl (hD_bit v2 (M ((a0 + 15) + 10) a1) M _ rfl) ?_
      show xEv (14, 45, [some (2, a0), some (0, a1), some (0, (M ((a0 + 15) + 10) a1)), some (0, v2)], [(0, (fD_bit v2 (M ((a0 + 15) + 10) a1) M))], M) _
      refine xEvG_n xml xfetch 2 (y := (14, if (fD_bit v2 (M ((a0 + 15) + 10) a1) M) = 1 then 49 else 51, [some (2, a0), some (0, a1), some (0, (M ((a0 + 15) + 10) a1)), some (0, v2)], [], M)) rfl trivial ?_
      refine xEvG_br xml xfetch (fun c_ => ?_) (fun c_ => ?_)
      · have h := xif_t c_ h
        refine xEvG_n xml xfetch 1 (y := (14, 50, [some (2, a0), some (0, a1), some (0, (M ((a0 + 15) + 10) a1)), some (0, v2)], [(0, 2)], M)) rfl trivial ?_
        cases h
        exact xEvG_ret xml xfetch rfl
      · have h := xif_f c_ h
        refine xEvG_n xml xfetch 6 (y := (14, 59, [some (2, a0), some (0, a1), some (0, (M ((a0 + 15) + 10) a1)), some (0, v2)], [(0, v2), (0, a1), (0, 0), (0, (M ((a0 + 15) + 10) a1)), (8, (a0 + 15))], M)) rfl trivial ?_
        obtain ⟨v4, e_, h⟩ := xB_t h
        refine xEvG_call xml xfetch (q := (some (0, v4), M)) rfl (hPrison_refusal (a0 + 15) (M ((a0 + 15) + 10) a1) 0 a1 v2 M _ e_) ?_
        show xEv (14, 62, [some (2, a0), some (0, a1), some (0, (M ((a0 + 15) + 10) a1)), some (0, v2)], [(0, v4)], M) _
        refine xEvG_n xml xfetch 2 (y := (14, if 1 < v4 then 66 else 68, [some (2, a0), some (0, a1), some (0, (M ((a0 + 15) + 10) a1)), some (0, v2)], [], M)) rfl trivial ?_
        refine xEvG_br xml xfetch (fun c_ => ?_) (fun c_ => ?_)
        · have h := xif_t c_ h
          refine xEvG_n xml xfetch 1 (y := (14, 67, [some (2, a0), some (0, a1), some (0, (M ((a0 + 15) + 10) a1)), some (0, v2)], [(0, 3)], M)) rfl trivial ?_
          cases h
          exact xEvG_ret xml xfetch rfl
        · have h := xif_f c_ h
          refine xEvG_n xml xfetch 6 (y := (14, 76, [some (2, a0), some (0, a1), some (0, (M ((a0 + 15) + 10) a1)), some (0, v2)], [(0, v2), (0, a1), (0, 1), (0, (M ((a0 + 15) + 10) a1)), (8, (a0 + 15))], M)) rfl trivial ?_
          obtain ⟨v5, e_, h⟩ := xB_t h
          refine xEvG_call xml xfetch (q := (some (0, v5), M)) rfl (hPrison_refusal (a0 + 15) (M ((a0 + 15) + 10) a1) 1 a1 v2 M _ e_) ?_
          show xEv (14, 79, [some (2, a0), some (0, a1), some (0, (M ((a0 + 15) + 10) a1)), some (0, v2)], [(0, v5)], M) _
          refine xEvG_n xml xfetch 1 (y := (14, 80, [some (2, a0), some (0, a1), some (0, (M ((a0 + 15) + 10) a1)), some (0, v2)], [(0, 1), (0, v5)], M)) rfl trivial ?_
          have key_ : xEv (14, 88, [some (2, a0), some (0, a1), some (0, (M ((a0 + 15) + 10) a1)), some (0, v2)], [(0, (if 1 < v5 then 4 else 0 : Int))], M) (some (0, r), M) := by
            cases h
            exact xEvG_ret xml xfetch rfl
          refine xEvG_n xml xfetch 1 (y := (14, if 1 < v5 then 83 else 87, [some (2, a0), some (0, a1), some (0, (M ((a0 + 15) + 10) a1)), some (0, v2)], [], M)) rfl trivial ?_
          refine xEvG_br xml xfetch (fun c10_ => ?_) (fun c10_ => ?_)
          · refine xEvG_n xml xfetch 2 (y := (14, 88, [some (2, a0), some (0, a1), some (0, (M ((a0 + 15) + 10) a1)), some (0, v2)], [(0, 4)], M)) rfl trivial ?_
            try simp only [if_pos c10_] at key_
            try simp only [if_pos c10_]
            exact key_
          · refine xEvG_n xml xfetch 1 (y := (14, 88, [some (2, a0), some (0, a1), some (0, (M ((a0 + 15) + 10) a1)), some (0, v2)], [(0, 0)], M)) rfl trivial ?_
            try simp only [if_neg c10_] at key_
            try simp only [if_neg c10_]
            exact key_

/-- ConsentDoors.because(II)I -/
def fD_because (a0 a1 a2 : Int) (M : xM) : Option Int := if (fPrison_hasHour (a0 + 15) a1 M) = 0 then (some (-2)) else (if (fD_isSide a2 M) = 0 then (some (-2)) else (xA (0 ≤ a1 ∧ a1 < 24) (xB (fCourse_goneAhead (a0 + 255) a1 M) (fun v3 => if (M ((a0 + 15) + 10) a1) = (-1) then (some (-1)) else (if (fD_bit v3 (M ((a0 + 15) + 10) a1) M) = 1 then (some (-1)) else (xB (fPrison_refusal (a0 + 15) (M ((a0 + 15) + 10) a1) a2 a1 v3 M) (fun v5 => some v5)))))))
theorem hD_because (a0 a1 a2 : Int) (M : xM) (r : Int) (h : fD_because a0 a1 a2 M = some r) : xEv (15, 0, [some (2, a0), some (0, a1), some (0, a2), none, none], [], M) (some (0, r), M) := by
  unfold fD_because at h
  refine xEvG_n xml xfetch 3 (y := (15, 5, [some (2, a0), some (0, a1), some (0, a2), none, none], [(0, a1), (8, (a0 + 15))], M)) rfl trivial ?_
  refine xEvG_call xml xfetch (q := (some (0, fPrison_hasHour (a0 + 15) a1 M), M)) rfl (hPrison_hasHour (a0 + 15) a1 M _ rfl) ?_
  show xEv (15, 8, [some (2, a0), some (0, a1), some (0, a2), none, none], [(0, (fPrison_hasHour (a0 + 15) a1 M))], M) _
  refine xEvG_n xml xfetch 1 (y := (15, if (fPrison_hasHour (a0 + 15) a1 M) = 0 then 18 else 11, [some (2, a0), some (0, a1), some (0, a2), none, none], [], M)) rfl trivial ?_
  refine xEvG_br xml xfetch (fun c_ => ?_) (fun c_ => ?_)
  · have h := xif_t c_ h
    refine xEvG_n xml xfetch 1 (y := (15, 20, [some (2, a0), some (0, a1), some (0, a2), none, none], [(0, (-2))], M)) rfl trivial ?_
    cases h
    exact xEvG_ret xml xfetch rfl
  · have h := xif_f c_ h
    refine xEvG_n xml xfetch 1 (y := (15, 12, [some (2, a0), some (0, a1), some (0, a2), none, none], [(0, a2)], M)) rfl trivial ?_
    refine xEvG_call xml xfetch (q := (some (0, fD_isSide a2 M), M)) rfl (hD_isSide a2 M _ rfl) ?_
    show xEv (15, 15, [some (2, a0), some (0, a1), some (0, a2), none, none], [(0, (fD_isSide a2 M))], M) _
    refine xEvG_n xml xfetch 1 (y := (15, if (fD_isSide a2 M) = 0 then 18 else 21, [some (2, a0), some (0, a1), some (0, a2), none, none], [], M)) rfl trivial ?_
    refine xEvG_br xml xfetch (fun c_ => ?_) (fun c_ => ?_)
    · have h := xif_t c_ h
      refine xEvG_n xml xfetch 1 (y := (15, 20, [some (2, a0), some (0, a1), some (0, a2), none, none], [(0, (-2))], M)) rfl trivial ?_
      cases h
      exact xEvG_ret xml xfetch rfl
    · have h := xif_f c_ h
      have a0_ := (xA_t h).1
      have h := (xA_t h).2
      refine xEvG_n xml xfetch 9 (y := (15, 36, [some (2, a0), some (0, a1), some (0, a2), some (0, (M ((a0 + 15) + 10) a1)), none], [(0, a1), (4, (a0 + 255))], M)) rfl ⟨a0_, trivial⟩ ?_
      obtain ⟨v3, e_, h⟩ := xB_t h
      refine xEvG_call xml xfetch (q := (some (0, v3), M)) rfl (hCourse_goneAhead (a0 + 255) a1 M _ e_) ?_
      show xEv (15, 39, [some (2, a0), some (0, a1), some (0, a2), some (0, (M ((a0 + 15) + 10) a1)), none], [(0, v3)], M) _
      refine xEvG_n xml xfetch 4 (y := (15, if (M ((a0 + 15) + 10) a1) = (-1) then 56 else 46, [some (2, a0), some (0, a1), some (0, a2), some (0, (M ((a0 + 15) + 10) a1)), some (0, v3)], [], M)) rfl trivial ?_
      refine xEvG_br xml xfetch (fun c_ => ?_) (fun c_ => ?_)
      · have h := xif_t c_ h
        refine xEvG_n xml xfetch 1 (y := (15, 57, [some (2, a0), some (0, a1), some (0, a2), some (0, (M ((a0 + 15) + 10) a1)), some (0, v3)], [(0, (-1))], M)) rfl trivial ?_
        cases h
        exact xEvG_ret xml xfetch rfl
      · have h := xif_f c_ h
        refine xEvG_n xml xfetch 2 (y := (15, 49, [some (2, a0), some (0, a1), some (0, a2), some (0, (M ((a0 + 15) + 10) a1)), some (0, v3)], [(0, (M ((a0 + 15) + 10) a1)), (0, v3)], M)) rfl trivial ?_
        refine xEvG_call xml xfetch (q := (some (0, fD_bit v3 (M ((a0 + 15) + 10) a1) M), M)) rfl (hD_bit v3 (M ((a0 + 15) + 10) a1) M _ rfl) ?_
        show xEv (15, 52, [some (2, a0), some (0, a1), some (0, a2), some (0, (M ((a0 + 15) + 10) a1)), some (0, v3)], [(0, (fD_bit v3 (M ((a0 + 15) + 10) a1) M))], M) _
        refine xEvG_n xml xfetch 2 (y := (15, if (fD_bit v3 (M ((a0 + 15) + 10) a1) M) = 1 then 56 else 58, [some (2, a0), some (0, a1), some (0, a2), some (0, (M ((a0 + 15) + 10) a1)), some (0, v3)], [], M)) rfl trivial ?_
        refine xEvG_br xml xfetch (fun c_ => ?_) (fun c_ => ?_)
        · have h := xif_t c_ h
          refine xEvG_n xml xfetch 1 (y := (15, 57, [some (2, a0), some (0, a1), some (0, a2), some (0, (M ((a0 + 15) + 10) a1)), some (0, v3)], [(0, (-1))], M)) rfl trivial ?_
          cases h
          exact xEvG_ret xml xfetch rfl
        · have h := xif_f c_ h
          refine xEvG_n xml xfetch 6 (y := (15, 67, [some (2, a0), some (0, a1), some (0, a2), some (0, (M ((a0 + 15) + 10) a1)), some (0, v3)], [(0, v3), (0, a1), (0, a2), (0, (M ((a0 + 15) + 10) a1)), (8, (a0 + 15))], M)) rfl trivial ?_
          obtain ⟨v5, e_, h⟩ := xB_t h
          refine xEvG_call xml xfetch (q := (some (0, v5), M)) rfl (hPrison_refusal (a0 + 15) (M ((a0 + 15) + 10) a1) a2 a1 v3 M _ e_) ?_
          show xEv (15, 70, [some (2, a0), some (0, a1), some (0, a2), some (0, (M ((a0 + 15) + 10) a1)), some (0, v3)], [(0, v5)], M) _
          cases h
          exact xEvG_ret xml xfetch rfl

/-- ConsentDoors.out(I)I -/
def fD_out (a0 a1 : Int) (M : xM) : Option Int := if (fPrison_hasHour (a0 + 15) a1 M) = 0 then (some (-2)) else (xA (0 ≤ a1 ∧ a1 < 24) (some (M ((a0 + 255) + 2) a1)))
theorem hD_out (a0 a1 : Int) (M : xM) (r : Int) (h : fD_out a0 a1 M = some r) : xEv (16, 0, [some (2, a0), some (0, a1)], [], M) (some (0, r), M) := by
  unfold fD_out at h
  refine xEvG_n xml xfetch 3 (y := (16, 5, [some (2, a0), some (0, a1)], [(0, a1), (8, (a0 + 15))], M)) rfl trivial ?_
  refine xEvG_call xml xfetch (q := (some (0, fPrison_hasHour (a0 + 15) a1 M), M)) rfl (hPrison_hasHour (a0 + 15) a1 M _ rfl) ?_
  show xEv (16, 8, [some (2, a0), some (0, a1)], [(0, (fPrison_hasHour (a0 + 15) a1 M))], M) _
  refine xEvG_n xml xfetch 1 (y := (16, if (fPrison_hasHour (a0 + 15) a1 M) = 0 then 23 else 11, [some (2, a0), some (0, a1)], [], M)) rfl trivial ?_
  refine xEvG_br xml xfetch (fun c_ => ?_) (fun c_ => ?_)
  · have h := xif_t c_ h
    refine xEvG_n xml xfetch 1 (y := (16, 25, [some (2, a0), some (0, a1)], [(0, (-2))], M)) rfl trivial ?_
    cases h
    exact xEvG_ret xml xfetch rfl
  · have h := xif_f c_ h
    have a0_ := (xA_t h).1
    have h := (xA_t h).2
    refine xEvG_n xml xfetch 6 (y := (16, 25, [some (2, a0), some (0, a1)], [(0, (M ((a0 + 255) + 2) a1))], M)) rfl ⟨a0_, trivial⟩ ?_
    cases h
    exact xEvG_ret xml xfetch rfl

def fD_free_L16 : Nat → Int → Int → Int → xM → Option Int
  | 0, _, _, _, _ => none
  | g + 1, x0, x1, x2, M => if x2 < (M (x0 + 15) 1) then (xA (0 ≤ x2 ∧ x2 < 24) (if (M ((x0 + 255) + 1) x2) = x1 then (some x2) else ((fD_free_L16 g) x0 x1 (xw32 (x2 + 1)) M))) else (some (-1))
theorem hD_free_L16 : ∀ (g : Nat) (x0 x1 x2 : Int) (M : xM) (r : Int) (h : fD_free_L16 g x0 x1 x2 M = some r), xEv (17, 16, [some (2, x0), some (0, x1), some (0, x2)], [], M) (some (0, r), M)
  | 0, _, _, _, _, _, h => by cases h
  | g + 1, x0, x1, x2, M, r, h => by
    unfold fD_free_L16 at h
    refine xEvG_n xml xfetch 5 (y := (17, if x2 < (M (x0 + 15) 1) then 27 else 48, [some (2, x0), some (0, x1), some (0, x2)], [], M)) rfl trivial ?_
    refine xEvG_br xml xfetch (fun c_ => ?_) (fun c_ => ?_)
    · have h := xif_t c_ h
      have a0_ := (xA_t h).1
      have h := (xA_t h).2
      refine xEvG_n xml xfetch 7 (y := (17, if (M ((x0 + 255) + 1) x2) = x1 then 40 else 42, [some (2, x0), some (0, x1), some (0, x2)], [], M)) rfl ⟨a0_, trivial⟩ ?_
      refine xEvG_br xml xfetch (fun c_ => ?_) (fun c_ => ?_)
      · have h := xif_t c_ h
        refine xEvG_n xml xfetch 1 (y := (17, 41, [some (2, x0), some (0, x1), some (0, x2)], [(0, x2)], M)) rfl trivial ?_
        cases h
        exact xEvG_ret xml xfetch rfl
      · have h := xif_f c_ h
        refine xEvG_n xml xfetch 2 (y := (17, 16, [some (2, x0), some (0, x1), some (0, (xw32 (x2 + 1)))], [], M)) rfl trivial ?_
        refine xEvG_mask xml xfetch [true, true, true] ?_
        exact (hD_free_L16 g) x0 x1 (xw32 (x2 + 1)) M _ h
    · have h := xif_f c_ h
      refine xEvG_n xml xfetch 1 (y := (17, 49, [some (2, x0), some (0, x1), some (0, x2)], [(0, (-1))], M)) rfl trivial ?_
      cases h
      exact xEvG_ret xml xfetch rfl
/-- ConsentDoors.free(I)I -/
def fD_free (a0 a1 : Int) (M : xM) : Option Int := if (fPrison_hasCell (a0 + 15) a1 M) = 0 then (some (-2)) else (fD_free_L16 20001 a0 a1 0 M)
theorem hD_free (a0 a1 : Int) (M : xM) (r : Int) (h : fD_free a0 a1 M = some r) : xEv (17, 0, [some (2, a0), some (0, a1), none], [], M) (some (0, r), M) := by
  unfold fD_free at h
  refine xEvG_n xml xfetch 3 (y := (17, 5, [some (2, a0), some (0, a1), none], [(0, a1), (8, (a0 + 15))], M)) rfl trivial ?_
  refine xEvG_call xml xfetch (q := (some (0, fPrison_hasCell (a0 + 15) a1 M), M)) rfl (hPrison_hasCell (a0 + 15) a1 M _ rfl) ?_
  show xEv (17, 8, [some (2, a0), some (0, a1), none], [(0, (fPrison_hasCell (a0 + 15) a1 M))], M) _
  refine xEvG_n xml xfetch 1 (y := (17, if (fPrison_hasCell (a0 + 15) a1 M) = 0 then 11 else 14, [some (2, a0), some (0, a1), none], [], M)) rfl trivial ?_
  refine xEvG_br xml xfetch (fun c_ => ?_) (fun c_ => ?_)
  · have h := xif_t c_ h
    refine xEvG_n xml xfetch 1 (y := (17, 13, [some (2, a0), some (0, a1), none], [(0, (-2))], M)) rfl trivial ?_
    cases h
    exact xEvG_ret xml xfetch rfl
  · have h := xif_f c_ h
    refine xEvG_n xml xfetch 2 (y := (17, 16, [some (2, a0), some (0, a1), some (0, 0)], [], M)) rfl trivial ?_
    refine xEvG_mask xml xfetch [true, true, true] ?_
    exact hD_free_L16 20001 a0 a1 0 M _ h

def fD_turned_L18 : Nat → Int → Int → Int → Int → xM → Option Int
  | 0, _, _, _, _, _ => none
  | g + 1, x0, x1, x2, x3, M => if x3 < (M (x0 + 15) 1) then (xA (0 ≤ x3 ∧ x3 < 24) (if (M ((x0 + 255) + 1) x3) = (-1) then ((fD_turned_L18 g) x0 x1 x2 (xw32 (x3 + 1)) M) else (xA (0 ≤ (M ((x0 + 255) + 1) x3) ∧ (M ((x0 + 255) + 1) x3) < 9) (if (fD_bit (M (((x0 + 37) + 1) + 3) (M ((x0 + 255) + 1) x3)) x1 M) = 1 then ((fD_turned_L18 g) x0 x1 (xw32 (x2 + 1)) (xw32 (x3 + 1)) M) else ((fD_turned_L18 g) x0 x1 x2 (xw32 (x3 + 1)) M))))) else (some x2)
theorem hD_turned_L18 : ∀ (g : Nat) (x0 x1 x2 x3 : Int) (M : xM) (r : Int) (h : fD_turned_L18 g x0 x1 x2 x3 M = some r), xEv (18, 18, [some (2, x0), some (0, x1), some (0, x2), some (0, x3), none], [], M) (some (0, r), M)
  | 0, _, _, _, _, _, _, h => by cases h
  | g + 1, x0, x1, x2, x3, M, r, h => by
    unfold fD_turned_L18 at h
    refine xEvG_n xml xfetch 5 (y := (18, if x3 < (M (x0 + 15) 1) then 29 else 76, [some (2, x0), some (0, x1), some (0, x2), some (0, x3), none], [], M)) rfl trivial ?_
    refine xEvG_br xml xfetch (fun c_ => ?_) (fun c_ => ?_)
    · have h := xif_t c_ h
      have a0_ := (xA_t h).1
      have h := (xA_t h).2
      refine xEvG_n xml xfetch 9 (y := (18, if (M ((x0 + 255) + 1) x3) = (-1) then 70 else 46, [some (2, x0), some (0, x1), some (0, x2), some (0, x3), some (0, (M ((x0 + 255) + 1) x3))], [], M)) rfl ⟨a0_, trivial⟩ ?_
      refine xEvG_br xml xfetch (fun c_ => ?_) (fun c_ => ?_)
      · have h := xif_t c_ h
        refine xEvG_n xml xfetch 2 (y := (18, 18, [some (2, x0), some (0, x1), some (0, x2), some (0, (xw32 (x3 + 1))), some (0, (M ((x0 + 255) + 1) x3))], [], M)) rfl trivial ?_
        refine xEvG_mask xml xfetch [true, true, true, true, false] ?_
        exact (hD_turned_L18 g) x0 x1 x2 (xw32 (x3 + 1)) M _ h
      · have h := xif_f c_ h
        have a0_ := (xA_t h).1
        have h := (xA_t h).2
        refine xEvG_n xml xfetch 7 (y := (18, 60, [some (2, x0), some (0, x1), some (0, x2), some (0, x3), some (0, (M ((x0 + 255) + 1) x3))], [(0, x1), (0, (M (((x0 + 37) + 1) + 3) (M ((x0 + 255) + 1) x3)))], M)) rfl ⟨a0_, trivial⟩ ?_
        refine xEvG_call xml xfetch (q := (some (0, fD_bit (M (((x0 + 37) + 1) + 3) (M ((x0 + 255) + 1) x3)) x1 M), M)) rfl (hD_bit (M (((x0 + 37) + 1) + 3) (M ((x0 + 255) + 1) x3)) x1 M _ rfl) ?_
        show xEv (18, 63, [some (2, x0), some (0, x1), some (0, x2), some (0, x3), some (0, (M ((x0 + 255) + 1) x3))], [(0, (fD_bit (M (((x0 + 37) + 1) + 3) (M ((x0 + 255) + 1) x3)) x1 M))], M) _
        refine xEvG_n xml xfetch 2 (y := (18, if (fD_bit (M (((x0 + 37) + 1) + 3) (M ((x0 + 255) + 1) x3)) x1 M) = 1 then 67 else 70, [some (2, x0), some (0, x1), some (0, x2), some (0, x3), some (0, (M ((x0 + 255) + 1) x3))], [], M)) rfl trivial ?_
        refine xEvG_br xml xfetch (fun c_ => ?_) (fun c_ => ?_)
        · have h := xif_t c_ h
          refine xEvG_n xml xfetch 3 (y := (18, 18, [some (2, x0), some (0, x1), some (0, (xw32 (x2 + 1))), some (0, (xw32 (x3 + 1))), some (0, (M ((x0 + 255) + 1) x3))], [], M)) rfl trivial ?_
          refine xEvG_mask xml xfetch [true, true, true, true, false] ?_
          exact (hD_turned_L18 g) x0 x1 (xw32 (x2 + 1)) (xw32 (x3 + 1)) M _ h
        · have h := xif_f c_ h
          refine xEvG_n xml xfetch 2 (y := (18, 18, [some (2, x0), some (0, x1), some (0, x2), some (0, (xw32 (x3 + 1))), some (0, (M ((x0 + 255) + 1) x3))], [], M)) rfl trivial ?_
          refine xEvG_mask xml xfetch [true, true, true, true, false] ?_
          exact (hD_turned_L18 g) x0 x1 x2 (xw32 (x3 + 1)) M _ h
    · have h := xif_f c_ h
      refine xEvG_n xml xfetch 1 (y := (18, 77, [some (2, x0), some (0, x1), some (0, x2), some (0, x3), none], [(0, x2)], M)) rfl trivial ?_
      cases h
      exact xEvG_ret xml xfetch rfl
/-- ConsentDoors.turned(I)I -/
def fD_turned (a0 a1 : Int) (M : xM) : Option Int := if (fPrison_hasCell (a0 + 15) a1 M) = 0 then (some (-2)) else (fD_turned_L18 20001 a0 a1 0 0 M)
theorem hD_turned (a0 a1 : Int) (M : xM) (r : Int) (h : fD_turned a0 a1 M = some r) : xEv (18, 0, [some (2, a0), some (0, a1), none, none, none], [], M) (some (0, r), M) := by
  unfold fD_turned at h
  refine xEvG_n xml xfetch 3 (y := (18, 5, [some (2, a0), some (0, a1), none, none, none], [(0, a1), (8, (a0 + 15))], M)) rfl trivial ?_
  refine xEvG_call xml xfetch (q := (some (0, fPrison_hasCell (a0 + 15) a1 M), M)) rfl (hPrison_hasCell (a0 + 15) a1 M _ rfl) ?_
  show xEv (18, 8, [some (2, a0), some (0, a1), none, none, none], [(0, (fPrison_hasCell (a0 + 15) a1 M))], M) _
  refine xEvG_n xml xfetch 1 (y := (18, if (fPrison_hasCell (a0 + 15) a1 M) = 0 then 11 else 14, [some (2, a0), some (0, a1), none, none, none], [], M)) rfl trivial ?_
  refine xEvG_br xml xfetch (fun c_ => ?_) (fun c_ => ?_)
  · have h := xif_t c_ h
    refine xEvG_n xml xfetch 1 (y := (18, 13, [some (2, a0), some (0, a1), none, none, none], [(0, (-2))], M)) rfl trivial ?_
    cases h
    exact xEvG_ret xml xfetch rfl
  · have h := xif_f c_ h
    refine xEvG_n xml xfetch 4 (y := (18, 18, [some (2, a0), some (0, a1), some (0, 0), some (0, 0), none], [], M)) rfl trivial ?_
    refine xEvG_mask xml xfetch [true, true, true, true, false] ?_
    exact hD_turned_L18 20001 a0 a1 0 0 M _ h

/-- ConsentDoors.wrist(II)I -/
def fD_wrist (a0 a1 a2 : Int) (M : xM) : Option Int := if (fPrison_hasHour (a0 + 15) a1 M) = 0 then (some (-2)) else (if (fD_isSide a2 M) = 0 then (some (-2)) else (xA (0 ≤ a1 ∧ a1 < 24) (if (M ((a0 + 255) + 1) a1) = (-1) then (some (-1)) else (some (fPrison_neighbour (a0 + 15) (M ((a0 + 255) + 1) a1) a2 M)))))
theorem hD_wrist (a0 a1 a2 : Int) (M : xM) (r : Int) (h : fD_wrist a0 a1 a2 M = some r) : xEv (19, 0, [some (2, a0), some (0, a1), some (0, a2), none], [], M) (some (0, r), M) := by
  unfold fD_wrist at h
  refine xEvG_n xml xfetch 3 (y := (19, 5, [some (2, a0), some (0, a1), some (0, a2), none], [(0, a1), (8, (a0 + 15))], M)) rfl trivial ?_
  refine xEvG_call xml xfetch (q := (some (0, fPrison_hasHour (a0 + 15) a1 M), M)) rfl (hPrison_hasHour (a0 + 15) a1 M _ rfl) ?_
  show xEv (19, 8, [some (2, a0), some (0, a1), some (0, a2), none], [(0, (fPrison_hasHour (a0 + 15) a1 M))], M) _
  refine xEvG_n xml xfetch 1 (y := (19, if (fPrison_hasHour (a0 + 15) a1 M) = 0 then 18 else 11, [some (2, a0), some (0, a1), some (0, a2), none], [], M)) rfl trivial ?_
  refine xEvG_br xml xfetch (fun c_ => ?_) (fun c_ => ?_)
  · have h := xif_t c_ h
    refine xEvG_n xml xfetch 1 (y := (19, 20, [some (2, a0), some (0, a1), some (0, a2), none], [(0, (-2))], M)) rfl trivial ?_
    cases h
    exact xEvG_ret xml xfetch rfl
  · have h := xif_f c_ h
    refine xEvG_n xml xfetch 1 (y := (19, 12, [some (2, a0), some (0, a1), some (0, a2), none], [(0, a2)], M)) rfl trivial ?_
    refine xEvG_call xml xfetch (q := (some (0, fD_isSide a2 M), M)) rfl (hD_isSide a2 M _ rfl) ?_
    show xEv (19, 15, [some (2, a0), some (0, a1), some (0, a2), none], [(0, (fD_isSide a2 M))], M) _
    refine xEvG_n xml xfetch 1 (y := (19, if (fD_isSide a2 M) = 0 then 18 else 21, [some (2, a0), some (0, a1), some (0, a2), none], [], M)) rfl trivial ?_
    refine xEvG_br xml xfetch (fun c_ => ?_) (fun c_ => ?_)
    · have h := xif_t c_ h
      refine xEvG_n xml xfetch 1 (y := (19, 20, [some (2, a0), some (0, a1), some (0, a2), none], [(0, (-2))], M)) rfl trivial ?_
      cases h
      exact xEvG_ret xml xfetch rfl
    · have h := xif_f c_ h
      have a0_ := (xA_t h).1
      have h := (xA_t h).2
      refine xEvG_n xml xfetch 9 (y := (19, if (M ((a0 + 255) + 1) a1) = (-1) then 36 else 40, [some (2, a0), some (0, a1), some (0, a2), some (0, (M ((a0 + 255) + 1) a1))], [], M)) rfl ⟨a0_, trivial⟩ ?_
      refine xEvG_br xml xfetch (fun c_ => ?_) (fun c_ => ?_)
      · have h := xif_t c_ h
        refine xEvG_n xml xfetch 2 (y := (19, 49, [some (2, a0), some (0, a1), some (0, a2), some (0, (M ((a0 + 255) + 1) a1))], [(0, (-1))], M)) rfl trivial ?_
        cases h
        exact xEvG_ret xml xfetch rfl
      · have h := xif_f c_ h
        refine xEvG_n xml xfetch 4 (y := (19, 46, [some (2, a0), some (0, a1), some (0, a2), some (0, (M ((a0 + 255) + 1) a1))], [(0, a2), (0, (M ((a0 + 255) + 1) a1)), (8, (a0 + 15))], M)) rfl trivial ?_
        refine xEvG_call xml xfetch (q := (some (0, fPrison_neighbour (a0 + 15) (M ((a0 + 255) + 1) a1) a2 M), M)) rfl (hPrison_neighbour (a0 + 15) (M ((a0 + 255) + 1) a1) a2 M _ rfl) ?_
        show xEv (19, 49, [some (2, a0), some (0, a1), some (0, a2), some (0, (M ((a0 + 255) + 1) a1))], [(0, (fPrison_neighbour (a0 + 15) (M ((a0 + 255) + 1) a1) a2 M))], M) _
        cases h
        exact xEvG_ret xml xfetch rfl

/-- ConsentDoors$Prison.stands()Z -/
def fPrison_stands (a0 : Int) (M : xM) : Int := (if 0 < (M a0 0) then 1 else 0 : Int)
theorem hPrison_stands (a0 : Int) (M : xM) (r : Int) (h : fPrison_stands a0 M = r) : xEv (247, 0, [some (8, a0)], [], M) (some (0, r), M) := by
  unfold fPrison_stands at h
  refine xEvG_n xml xfetch 2 (y := (247, 4, [some (8, a0)], [(0, (M a0 0))], M)) rfl trivial ?_
  have key_ : xEv (247, 12, [some (8, a0)], [(0, (if 0 < (M a0 0) then 1 else 0 : Int))], M) (some (0, r), M) := by
    subst h
    exact xEvG_retc xml xfetch rfl (by (repeat' split) <;> first | exact Or.inl rfl | exact Or.inr rfl)
  refine xEvG_n xml xfetch 1 (y := (247, if 0 < (M a0 0) then 7 else 11, [some (8, a0)], [], M)) rfl trivial ?_
  refine xEvG_br xml xfetch (fun c2_ => ?_) (fun c2_ => ?_)
  · refine xEvG_n xml xfetch 2 (y := (247, 12, [some (8, a0)], [(0, 1)], M)) rfl trivial ?_
    try simp only [if_pos c2_] at key_
    try simp only [if_pos c2_]
    exact key_
  · refine xEvG_n xml xfetch 1 (y := (247, 12, [some (8, a0)], [(0, 0)], M)) rfl trivial ?_
    try simp only [if_neg c2_] at key_
    try simp only [if_neg c2_]
    exact key_
theorem bPrison_stands (a0 : Int) (M : xM) : fPrison_stands a0 M = 0 ∨ fPrison_stands a0 M = 1 := by
  unfold fPrison_stands
  (repeat' split) <;> first | exact Or.inl rfl | exact Or.inr rfl | exact bD_isSide _ _ | exact bPrison_hasCell _ _ _ | exact bPrison_hasHour _ _ _

def fD_vain_L17 : Nat → Int → Int → Int → xM → Option Int
  | 0, _, _, _, _ => none
  | g + 1, x0, x1, x2, M => if x2 < (M (x0 + 15) 1) then (xA (0 ≤ x2 ∧ x2 < 24) (if (M ((x0 + 15) + 10) x2) = (-1) then ((fD_vain_L17 g) x0 x1 (xw32 (x2 + 1)) M) else (xA (0 ≤ x2 ∧ x2 < 24) (if (M ((x0 + 255) + 1) x2) = (-1) then ((fD_vain_L17 g) x0 (xw32 (x1 + 1)) (xw32 (x2 + 1)) M) else ((fD_vain_L17 g) x0 x1 (xw32 (x2 + 1)) M))))) else (some x1)
theorem hD_vain_L17 : ∀ (g : Nat) (x0 x1 x2 : Int) (M : xM) (r : Int) (h : fD_vain_L17 g x0 x1 x2 M = some r), xEv (20, 17, [some (2, x0), some (0, x1), some (0, x2)], [], M) (some (0, r), M)
  | 0, _, _, _, _, _, h => by cases h
  | g + 1, x0, x1, x2, M, r, h => by
    unfold fD_vain_L17 at h
    refine xEvG_n xml xfetch 5 (y := (20, if x2 < (M (x0 + 15) 1) then 28 else 63, [some (2, x0), some (0, x1), some (0, x2)], [], M)) rfl trivial ?_
    refine xEvG_br xml xfetch (fun c_ => ?_) (fun c_ => ?_)
    · have h := xif_t c_ h
      have a0_ := (xA_t h).1
      have h := (xA_t h).2
      refine xEvG_n xml xfetch 7 (y := (20, if (M ((x0 + 15) + 10) x2) = (-1) then 57 else 41, [some (2, x0), some (0, x1), some (0, x2)], [], M)) rfl ⟨a0_, trivial⟩ ?_
      refine xEvG_br xml xfetch (fun c_ => ?_) (fun c_ => ?_)
      · have h := xif_t c_ h
        refine xEvG_n xml xfetch 2 (y := (20, 17, [some (2, x0), some (0, x1), some (0, (xw32 (x2 + 1)))], [], M)) rfl trivial ?_
        refine xEvG_mask xml xfetch [true, true, true] ?_
        exact (hD_vain_L17 g) x0 x1 (xw32 (x2 + 1)) M _ h
      · have h := xif_f c_ h
        have a0_ := (xA_t h).1
        have h := (xA_t h).2
        refine xEvG_n xml xfetch 7 (y := (20, if (M ((x0 + 255) + 1) x2) = (-1) then 54 else 57, [some (2, x0), some (0, x1), some (0, x2)], [], M)) rfl ⟨a0_, trivial⟩ ?_
        refine xEvG_br xml xfetch (fun c_ => ?_) (fun c_ => ?_)
        · have h := xif_t c_ h
          refine xEvG_n xml xfetch 3 (y := (20, 17, [some (2, x0), some (0, (xw32 (x1 + 1))), some (0, (xw32 (x2 + 1)))], [], M)) rfl trivial ?_
          refine xEvG_mask xml xfetch [true, true, true] ?_
          exact (hD_vain_L17 g) x0 (xw32 (x1 + 1)) (xw32 (x2 + 1)) M _ h
        · have h := xif_f c_ h
          refine xEvG_n xml xfetch 2 (y := (20, 17, [some (2, x0), some (0, x1), some (0, (xw32 (x2 + 1)))], [], M)) rfl trivial ?_
          refine xEvG_mask xml xfetch [true, true, true] ?_
          exact (hD_vain_L17 g) x0 x1 (xw32 (x2 + 1)) M _ h
    · have h := xif_f c_ h
      refine xEvG_n xml xfetch 1 (y := (20, 64, [some (2, x0), some (0, x1), some (0, x2)], [(0, x1)], M)) rfl trivial ?_
      cases h
      exact xEvG_ret xml xfetch rfl
/-- ConsentDoors.vain()I -/
def fD_vain (a0 : Int) (M : xM) : Option Int := if (fPrison_stands (a0 + 15) M) = 0 then (some (-2)) else (fD_vain_L17 20001 a0 0 0 M)
theorem hD_vain (a0 : Int) (M : xM) (r : Int) (h : fD_vain a0 M = some r) : xEv (20, 0, [some (2, a0), none, none], [], M) (some (0, r), M) := by
  unfold fD_vain at h
  refine xEvG_n xml xfetch 2 (y := (20, 4, [some (2, a0), none, none], [(8, (a0 + 15))], M)) rfl trivial ?_
  refine xEvG_call xml xfetch (q := (some (0, fPrison_stands (a0 + 15) M), M)) rfl (hPrison_stands (a0 + 15) M _ rfl) ?_
  show xEv (20, 7, [some (2, a0), none, none], [(0, (fPrison_stands (a0 + 15) M))], M) _
  refine xEvG_n xml xfetch 1 (y := (20, if (fPrison_stands (a0 + 15) M) = 0 then 10 else 13, [some (2, a0), none, none], [], M)) rfl trivial ?_
  refine xEvG_br xml xfetch (fun c_ => ?_) (fun c_ => ?_)
  · have h := xif_t c_ h
    refine xEvG_n xml xfetch 1 (y := (20, 12, [some (2, a0), none, none], [(0, (-2))], M)) rfl trivial ?_
    cases h
    exact xEvG_ret xml xfetch rfl
  · have h := xif_f c_ h
    refine xEvG_n xml xfetch 4 (y := (20, 17, [some (2, a0), some (0, 0), some (0, 0)], [], M)) rfl trivial ?_
    refine xEvG_mask xml xfetch [true, true, true] ?_
    exact hD_vain_L17 20001 a0 0 0 M _ h

def fKeys_havingAll_L6 : Nat → Int → Int → Int → xM → Option Int
  | 0, _, _, _, _ => none
  | g + 1, x0, x1, x3, M => if x3 < 6 then (if (xand (xshr x0 x3) 1) = 1 then (xA (0 ≤ x3 ∧ x3 < 6) ((fKeys_havingAll_L6 g) x0 (xandL x1 (xxorL (xlack x3) (-1))) (xw32 (x3 + 1)) M)) else ((fKeys_havingAll_L6 g) x0 x1 (xw32 (x3 + 1)) M)) else (some x1)
theorem hKeys_havingAll_L6 : ∀ (g : Nat) (x0 x1 x3 : Int) (M : xM) (r : Int) (h : fKeys_havingAll_L6 g x0 x1 x3 M = some r), xEv (239, 6, [some (0, x0), some (1, x1), none, some (0, x3)], [], M) (some (1, r), M)
  | 0, _, _, _, _, _, h => by cases h
  | g + 1, x0, x1, x3, M, r, h => by
    unfold fKeys_havingAll_L6 at h
    refine xEvG_n xml xfetch 4 (y := (239, if x3 < 6 then 14 else 41, [some (0, x0), some (1, x1), none, some (0, x3)], [], M)) rfl trivial ?_
    refine xEvG_br xml xfetch (fun c_ => ?_) (fun c_ => ?_)
    · have h := xif_t c_ h
      refine xEvG_n xml xfetch 7 (y := (239, if (xand (xshr x0 x3) 1) = 1 then 23 else 35, [some (0, x0), some (1, x1), none, some (0, x3)], [], M)) rfl trivial ?_
      refine xEvG_br xml xfetch (fun c_ => ?_) (fun c_ => ?_)
      · have h := xif_t c_ h
        have a0_ := (xA_t h).1
        have h := (xA_t h).2
        refine xEvG_n xml xfetch 10 (y := (239, 6, [some (0, x0), some (1, (xandL x1 (xxorL (xlack x3) (-1)))), none, some (0, (xw32 (x3 + 1)))], [], M)) rfl ⟨a0_, trivial⟩ ?_
        refine xEvG_mask xml xfetch [true, true, false, true] ?_
        exact (hKeys_havingAll_L6 g) x0 (xandL x1 (xxorL (xlack x3) (-1))) (xw32 (x3 + 1)) M _ h
      · have h := xif_f c_ h
        refine xEvG_n xml xfetch 2 (y := (239, 6, [some (0, x0), some (1, x1), none, some (0, (xw32 (x3 + 1)))], [], M)) rfl trivial ?_
        refine xEvG_mask xml xfetch [true, true, false, true] ?_
        exact (hKeys_havingAll_L6 g) x0 x1 (xw32 (x3 + 1)) M _ h
    · have h := xif_f c_ h
      refine xEvG_n xml xfetch 1 (y := (239, 42, [some (0, x0), some (1, x1), none, some (0, x3)], [(1, x1)], M)) rfl trivial ?_
      cases h
      exact xEvG_ret xml xfetch rfl
/-- ConsentDoors$Keys.havingAll(I)J -/
def fKeys_havingAll (a0 : Int) (M : xM) : Option Int := fKeys_havingAll_L6 20001 a0 (-1) 0 M
theorem hKeys_havingAll (a0 : Int) (M : xM) (r : Int) (h : fKeys_havingAll a0 M = some r) : xEv (239, 0, [some (0, a0), none, none, none], [], M) (some (1, r), M) := by
  unfold fKeys_havingAll at h
  refine xEvG_n xml xfetch 4 (y := (239, 6, [some (0, a0), some (1, (-1)), none, some (0, 0)], [], M)) rfl trivial ?_
  refine xEvG_mask xml xfetch [true, true, false, true] ?_
  exact hKeys_havingAll_L6 20001 a0 (-1) 0 M _ h

/-- java/lang/Math.max(II)I -/
def fJM_max (a0 a1 : Int) (M : xM) : Int := (if a0 < a1 then a1 else a0 : Int)
theorem hJM_max (a0 a1 : Int) (M : xM) (r : Int) (h : fJM_max a0 a1 M = r) : xEv (299, 0, [some (0, a0), some (0, a1)], [], M) (some (0, r), M) := by
  unfold fJM_max at h
  refine xEvG_n xml xfetch 2 (y := (299, 2, [some (0, a0), some (0, a1)], [(0, a1), (0, a0)], M)) rfl trivial ?_
  have key_ : xEv (299, 10, [some (0, a0), some (0, a1)], [(0, (if a0 < a1 then a1 else a0 : Int))], M) (some (0, r), M) := by
    subst h
    exact xEvG_ret xml xfetch rfl
  refine xEvG_n xml xfetch 1 (y := (299, if a0 < a1 then 9 else 5, [some (0, a0), some (0, a1)], [], M)) rfl trivial ?_
  refine xEvG_br xml xfetch (fun c2_ => ?_) (fun c2_ => ?_)
  · refine xEvG_n xml xfetch 1 (y := (299, 10, [some (0, a0), some (0, a1)], [(0, a1)], M)) rfl trivial ?_
    try simp only [if_pos c2_] at key_
    try simp only [if_pos c2_]
    exact key_
  · refine xEvG_n xml xfetch 2 (y := (299, 10, [some (0, a0), some (0, a1)], [(0, a0)], M)) rfl trivial ?_
    try simp only [if_neg c2_] at key_
    try simp only [if_neg c2_]
    exact key_

def fSets_largestIn_L4 : Nat → Int → Int → Int → xM → Option Int
  | 0, _, _, _, _ => none
  | g + 1, x0, x2, x3, M => if x3 < 64 then (if (xcmpL (xandL (xushrL x0 x3) 1) 1) = 0 then ((fSets_largestIn_L4 g) x0 (fJM_max x2 (fJI_bitCount x3 M) M) (xw32 (x3 + 1)) M) else ((fSets_largestIn_L4 g) x0 x2 (xw32 (x3 + 1)) M)) else (some x2)
theorem hSets_largestIn_L4 : ∀ (g : Nat) (x0 x2 x3 : Int) (M : xM) (r : Int) (h : fSets_largestIn_L4 g x0 x2 x3 M = some r), xEv (283, 4, [some (1, x0), none, some (0, x2), some (0, x3)], [], M) (some (0, r), M)
  | 0, _, _, _, _, _, h => by cases h
  | g + 1, x0, x2, x3, M, r, h => by
    unfold fSets_largestIn_L4 at h
    refine xEvG_n xml xfetch 3 (y := (283, if x3 < 64 then 10 else 35, [some (1, x0), none, some (0, x2), some (0, x3)], [], M)) rfl trivial ?_
    refine xEvG_br xml xfetch (fun c_ => ?_) (fun c_ => ?_)
    · have h := xif_t c_ h
      refine xEvG_n xml xfetch 8 (y := (283, if (xcmpL (xandL (xushrL x0 x3) 1) 1) = 0 then 20 else 29, [some (1, x0), none, some (0, x2), some (0, x3)], [], M)) rfl trivial ?_
      refine xEvG_br xml xfetch (fun c_ => ?_) (fun c_ => ?_)
      · have h := xif_t c_ h
        refine xEvG_n xml xfetch 2 (y := (283, 22, [some (1, x0), none, some (0, x2), some (0, x3)], [(0, x3), (0, x2)], M)) rfl trivial ?_
        refine xEvG_call xml xfetch (q := (some (0, fJI_bitCount x3 M), M)) rfl (hJI_bitCount x3 M _ rfl) ?_
        show xEv (283, 25, [some (1, x0), none, some (0, x2), some (0, x3)], [(0, (fJI_bitCount x3 M)), (0, x2)], M) _
        refine xEvG_call xml xfetch (q := (some (0, fJM_max x2 (fJI_bitCount x3 M) M), M)) rfl (hJM_max x2 (fJI_bitCount x3 M) M _ rfl) ?_
        show xEv (283, 28, [some (1, x0), none, some (0, x2), some (0, x3)], [(0, (fJM_max x2 (fJI_bitCount x3 M) M))], M) _
        refine xEvG_n xml xfetch 3 (y := (283, 4, [some (1, x0), none, some (0, (fJM_max x2 (fJI_bitCount x3 M) M)), some (0, (xw32 (x3 + 1)))], [], M)) rfl trivial ?_
        refine xEvG_mask xml xfetch [true, false, true, true] ?_
        exact (hSets_largestIn_L4 g) x0 (fJM_max x2 (fJI_bitCount x3 M) M) (xw32 (x3 + 1)) M _ h
      · have h := xif_f c_ h
        refine xEvG_n xml xfetch 2 (y := (283, 4, [some (1, x0), none, some (0, x2), some (0, (xw32 (x3 + 1)))], [], M)) rfl trivial ?_
        refine xEvG_mask xml xfetch [true, false, true, true] ?_
        exact (hSets_largestIn_L4 g) x0 x2 (xw32 (x3 + 1)) M _ h
    · have h := xif_f c_ h
      refine xEvG_n xml xfetch 1 (y := (283, 36, [some (1, x0), none, some (0, x2), some (0, x3)], [(0, x2)], M)) rfl trivial ?_
      cases h
      exact xEvG_ret xml xfetch rfl
/-- ConsentDoors$Sets.largestIn(J)I -/
def fSets_largestIn (a0 : Int) (M : xM) : Option Int := fSets_largestIn_L4 20001 a0 0 0 M
theorem hSets_largestIn (a0 : Int) (M : xM) (r : Int) (h : fSets_largestIn a0 M = some r) : xEv (283, 0, [some (1, a0), none, none, none], [], M) (some (0, r), M) := by
  unfold fSets_largestIn at h
  refine xEvG_n xml xfetch 4 (y := (283, 4, [some (1, a0), none, some (0, 0), some (0, 0)], [], M)) rfl trivial ?_
  refine xEvG_mask xml xfetch [true, false, true, true] ?_
  exact hSets_largestIn_L4 20001 a0 0 0 M _ h

end
