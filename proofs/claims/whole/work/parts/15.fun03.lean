/-! the methods as functions, each with its proof (printed by wip/tools/fgen.py) -/
noncomputable section
def fSets_largestWith_L16 : Nat → Int → Int → Int → Int → Int → xM → Option Int
  | 0, _, _, _, _, _, _ => none
  | g + 1, x0, x2, x3, x4, x6, M => if x6 < 8 then (xA (0 ≤ x6 ∧ x6 < 8) (if (xand x6 x3) = x3 then (if (xcmpL (xandL (M (x0 + 1) x6) x4) 0) = 0 then ((fSets_largestWith_L16 g) x0 x2 x3 x4 (xw32 (x6 + 1)) M) else (xB (fSets_largestIn (xandL (M (x0 + 1) x6) x4) M) (fun v3 => (fSets_largestWith_L16 g) x0 (fJM_max x2 (xw32 ((fJI_bitCount x6 M) + v3)) M) x3 x4 (xw32 (x6 + 1)) M))) else ((fSets_largestWith_L16 g) x0 x2 x3 x4 (xw32 (x6 + 1)) M))) else (some x2)
theorem hSets_largestWith_L16 : ∀ (g : Nat) (x0 x2 x3 x4 x6 : Int) (M : xM) (r : Int) (h : fSets_largestWith_L16 g x0 x2 x3 x4 x6 M = some r), xEv (282, 16, [some (10, x0), none, some (0, x2), some (0, x3), some (1, x4), none, some (0, x6), none, none], [], M) (some (0, r), M)
  | 0, _, _, _, _, _, _, _, h => by cases h
  | g + 1, x0, x2, x3, x4, x6, M, r, h => by
    unfold fSets_largestWith_L16 at h
    refine xEvG_n xml xfetch 3 (y := (282, if x6 < 8 then 23 else 72, [some (10, x0), none, some (0, x2), some (0, x3), some (1, x4), none, some (0, x6), none, none], [], M)) rfl trivial ?_
    refine xEvG_br xml xfetch (fun c_ => ?_) (fun c_ => ?_)
    · have h := xif_t c_ h
      have a0_ := (xA_t h).1
      have h := (xA_t h).2
      refine xEvG_n xml xfetch 12 (y := (282, if (xand x6 x3) = x3 then 43 else 66, [some (10, x0), none, some (0, x2), some (0, x3), some (1, x4), none, some (0, x6), some (1, (xandL (M (x0 + 1) x6) x4)), none], [], M)) rfl ⟨a0_, trivial⟩ ?_
      refine xEvG_br xml xfetch (fun c_ => ?_) (fun c_ => ?_)
      · have h := xif_t c_ h
        refine xEvG_n xml xfetch 4 (y := (282, if (xcmpL (xandL (M (x0 + 1) x6) x4) 0) = 0 then 66 else 50, [some (10, x0), none, some (0, x2), some (0, x3), some (1, x4), none, some (0, x6), some (1, (xandL (M (x0 + 1) x6) x4)), none], [], M)) rfl trivial ?_
        refine xEvG_br xml xfetch (fun c_ => ?_) (fun c_ => ?_)
        · have h := xif_t c_ h
          refine xEvG_n xml xfetch 2 (y := (282, 16, [some (10, x0), none, some (0, x2), some (0, x3), some (1, x4), none, some (0, (xw32 (x6 + 1))), some (1, (xandL (M (x0 + 1) x6) x4)), none], [], M)) rfl trivial ?_
          refine xEvG_mask xml xfetch [true, false, true, true, true, false, true, false, false] ?_
          exact (hSets_largestWith_L16 g) x0 x2 x3 x4 (xw32 (x6 + 1)) M _ h
        · have h := xif_f c_ h
          refine xEvG_n xml xfetch 2 (y := (282, 53, [some (10, x0), none, some (0, x2), some (0, x3), some (1, x4), none, some (0, x6), some (1, (xandL (M (x0 + 1) x6) x4)), none], [(0, x6), (0, x2)], M)) rfl trivial ?_
          refine xEvG_call xml xfetch (q := (some (0, fJI_bitCount x6 M), M)) rfl (hJI_bitCount x6 M _ rfl) ?_
          show xEv (282, 56, [some (10, x0), none, some (0, x2), some (0, x3), some (1, x4), none, some (0, x6), some (1, (xandL (M (x0 + 1) x6) x4)), none], [(0, (fJI_bitCount x6 M)), (0, x2)], M) _
          refine xEvG_n xml xfetch 1 (y := (282, 58, [some (10, x0), none, some (0, x2), some (0, x3), some (1, x4), none, some (0, x6), some (1, (xandL (M (x0 + 1) x6) x4)), none], [(1, (xandL (M (x0 + 1) x6) x4)), (0, (fJI_bitCount x6 M)), (0, x2)], M)) rfl trivial ?_
          obtain ⟨v3, e_, h⟩ := xB_t h
          refine xEvG_call xml xfetch (q := (some (0, v3), M)) rfl (hSets_largestIn (xandL (M (x0 + 1) x6) x4) M _ e_) ?_
          show xEv (282, 61, [some (10, x0), none, some (0, x2), some (0, x3), some (1, x4), none, some (0, x6), some (1, (xandL (M (x0 + 1) x6) x4)), none], [(0, v3), (0, (fJI_bitCount x6 M)), (0, x2)], M) _
          refine xEvG_n xml xfetch 1 (y := (282, 62, [some (10, x0), none, some (0, x2), some (0, x3), some (1, x4), none, some (0, x6), some (1, (xandL (M (x0 + 1) x6) x4)), none], [(0, (xw32 ((fJI_bitCount x6 M) + v3))), (0, x2)], M)) rfl trivial ?_
          refine xEvG_call xml xfetch (q := (some (0, fJM_max x2 (xw32 ((fJI_bitCount x6 M) + v3)) M), M)) rfl (hJM_max x2 (xw32 ((fJI_bitCount x6 M) + v3)) M _ rfl) ?_
          show xEv (282, 65, [some (10, x0), none, some (0, x2), some (0, x3), some (1, x4), none, some (0, x6), some (1, (xandL (M (x0 + 1) x6) x4)), none], [(0, (fJM_max x2 (xw32 ((fJI_bitCount x6 M) + v3)) M))], M) _
          refine xEvG_n xml xfetch 3 (y := (282, 16, [some (10, x0), none, some (0, (fJM_max x2 (xw32 ((fJI_bitCount x6 M) + v3)) M)), some (0, x3), some (1, x4), none, some (0, (xw32 (x6 + 1))), some (1, (xandL (M (x0 + 1) x6) x4)), none], [], M)) rfl trivial ?_
          refine xEvG_mask xml xfetch [true, false, true, true, true, false, true, false, false] ?_
          exact (hSets_largestWith_L16 g) x0 (fJM_max x2 (xw32 ((fJI_bitCount x6 M) + v3)) M) x3 x4 (xw32 (x6 + 1)) M _ h
      · have h := xif_f c_ h
        refine xEvG_n xml xfetch 2 (y := (282, 16, [some (10, x0), none, some (0, x2), some (0, x3), some (1, x4), none, some (0, (xw32 (x6 + 1))), some (1, (xandL (M (x0 + 1) x6) x4)), none], [], M)) rfl trivial ?_
        refine xEvG_mask xml xfetch [true, false, true, true, true, false, true, false, false] ?_
        exact (hSets_largestWith_L16 g) x0 x2 x3 x4 (xw32 (x6 + 1)) M _ h
    · have h := xif_f c_ h
      refine xEvG_n xml xfetch 1 (y := (282, 73, [some (10, x0), none, some (0, x2), some (0, x3), some (1, x4), none, some (0, x6), none, none], [(0, x2)], M)) rfl trivial ?_
      cases h
      exact xEvG_ret xml xfetch rfl
/-- ConsentDoors$Sets.largestWith(I)I -/
def fSets_largestWith (a0 a1 : Int) (M : xM) : Option Int := xB (fKeys_havingAll a1 M) (fun v1 => fSets_largestWith_L16 20001 a0 (-1) (xshr a1 6) v1 0 M)
theorem hSets_largestWith (a0 a1 : Int) (M : xM) (r : Int) (h : fSets_largestWith a0 a1 M = some r) : xEv (282, 0, [some (10, a0), some (0, a1), none, none, none, none, none, none, none], [], M) (some (0, r), M) := by
  unfold fSets_largestWith at h
  refine xEvG_n xml xfetch 7 (y := (282, 8, [some (10, a0), some (0, a1), some (0, (-1)), some (0, (xshr a1 6)), none, none, none, none, none], [(0, a1)], M)) rfl trivial ?_
  obtain ⟨v1, e_, h⟩ := xB_t h
  refine xEvG_call xml xfetch (q := (some (1, v1), M)) rfl (hKeys_havingAll a1 M _ e_) ?_
  show xEv (282, 11, [some (10, a0), some (0, a1), some (0, (-1)), some (0, (xshr a1 6)), none, none, none, none, none], [(1, v1)], M) _
  refine xEvG_n xml xfetch 3 (y := (282, 16, [some (10, a0), some (0, a1), some (0, (-1)), some (0, (xshr a1 6)), some (1, v1), none, some (0, 0), none, none], [], M)) rfl trivial ?_
  refine xEvG_mask xml xfetch [true, false, true, true, true, false, true, false, false] ?_
  exact hSets_largestWith_L16 20001 a0 (-1) (xshr a1 6) v1 0 M _ h

/-- ConsentDoors.most(I)I -/
def fD_most (a0 a1 : Int) (M : xM) : Option Int := if (fPrison_hasHour (a0 + 15) a1 M) = 0 then (some (-2)) else (xA (0 ≤ (xw32 (a1 + 1)) ∧ (xw32 (a1 + 1)) < 25) (xB (fSets_largestWith (((a0 + 37) + 7) + 2 + 4 * (xw32 (a1 + 1))) 0 M) (fun v2 => some v2)))
theorem hD_most (a0 a1 : Int) (M : xM) (r : Int) (h : fD_most a0 a1 M = some r) : xEv (21, 0, [some (2, a0), some (0, a1)], [], M) (some (0, r), M) := by
  unfold fD_most at h
  refine xEvG_n xml xfetch 3 (y := (21, 5, [some (2, a0), some (0, a1)], [(0, a1), (8, (a0 + 15))], M)) rfl trivial ?_
  refine xEvG_call xml xfetch (q := (some (0, fPrison_hasHour (a0 + 15) a1 M), M)) rfl (hPrison_hasHour (a0 + 15) a1 M _ rfl) ?_
  show xEv (21, 8, [some (2, a0), some (0, a1)], [(0, (fPrison_hasHour (a0 + 15) a1 M))], M) _
  refine xEvG_n xml xfetch 1 (y := (21, if (fPrison_hasHour (a0 + 15) a1 M) = 0 then 29 else 11, [some (2, a0), some (0, a1)], [], M)) rfl trivial ?_
  refine xEvG_br xml xfetch (fun c_ => ?_) (fun c_ => ?_)
  · have h := xif_t c_ h
    refine xEvG_n xml xfetch 1 (y := (21, 31, [some (2, a0), some (0, a1)], [(0, (-2))], M)) rfl trivial ?_
    cases h
    exact xEvG_ret xml xfetch rfl
  · have h := xif_f c_ h
    have a0_ := (xA_t h).1
    have h := (xA_t h).2
    refine xEvG_n xml xfetch 8 (y := (21, 23, [some (2, a0), some (0, a1)], [(0, 0), (10, (((a0 + 37) + 7) + 2 + 4 * (xw32 (a1 + 1))))], M)) rfl ⟨a0_, trivial⟩ ?_
    obtain ⟨v2, e_, h⟩ := xB_t h
    refine xEvG_call xml xfetch (q := (some (0, v2), M)) rfl (hSets_largestWith (((a0 + 37) + 7) + 2 + 4 * (xw32 (a1 + 1))) 0 M _ e_) ?_
    show xEv (21, 26, [some (2, a0), some (0, a1)], [(0, v2)], M) _
    refine xEvG_n xml xfetch 1 (y := (21, 31, [some (2, a0), some (0, a1)], [(0, v2)], M)) rfl trivial ?_
    cases h
    exact xEvG_ret xml xfetch rfl

/-- ConsentDoors$Outlook.atLast()LConsentDoors$Sets; -/
def fOutlook_atLast (a0 : Int) (M : xM) : Option Int := xA (0 ≤ (M (a0 + 1) 1) ∧ (M (a0 + 1) 1) < 25) (some ((a0 + 7) + 2 + 4 * (M (a0 + 1) 1)))
theorem hOutlook_atLast (a0 : Int) (M : xM) (r : Int) (h : fOutlook_atLast a0 M = some r) : xEv (241, 0, [some (7, a0)], [], M) (some (10, r), M) := by
  unfold fOutlook_atLast at h
  have a0_ := (xA_t h).1
  have h := (xA_t h).2
  refine xEvG_n xml xfetch 6 (y := (241, 12, [some (7, a0)], [(10, ((a0 + 7) + 2 + 4 * (M (a0 + 1) 1)))], M)) rfl ⟨a0_, trivial⟩ ?_
  cases h
  exact xEvG_ret xml xfetch rfl

def fSets_addPrevious_L26 : Nat → Int → Int → Int → Int → Int → Int → Int → Int → xM → Option xM
  | 0, _, _, _, _, _, _, _, _, _ => none
  | g + 1, x0, x1, x2, x3, x4, x5, x6, x7, M => if x7 < (fSets_wordsFor (M x2 0) M) then (if (xand x7 x4) = 0 then (xA (0 ≤ x7 ∧ x7 < 8) (xA (0 ≤ (xor32 x7 x5) ∧ (xor32 x7 x5) < 8) (xA (0 ≤ x3 ∧ x3 < 9) (xA (0 ≤ x7 ∧ x7 < 8) ((fSets_addPrevious_L26 g) x0 x1 x2 x3 x4 x5 x6 (xw32 (x7 + 1)) (xwr M (x0 + 1) x7 (xorL (M (x0 + 1) x7) (xandL (xushrL (M (x1 + 1) (xor32 x7 x5)) x6) (M (x2 + 5) x3))))))))) else ((fSets_addPrevious_L26 g) x0 x1 x2 x3 x4 x5 x6 (xw32 (x7 + 1)) M)) else (some M)
theorem hSets_addPrevious_L26 : ∀ (g : Nat) (x0 x1 x2 x3 x4 x5 x6 x7 : Int) (M : xM) (r : xM) (h : fSets_addPrevious_L26 g x0 x1 x2 x3 x4 x5 x6 x7 M = some r), xEv (285, 26, [some (10, x0), some (10, x1), some (6, x2), some (0, x3), some (0, x4), some (0, x5), some (0, x6), some (0, x7)], [], M) (none, r)
  | 0, _, _, _, _, _, _, _, _, _, _, h => by cases h
  | g + 1, x0, x1, x2, x3, x4, x5, x6, x7, M, r, h => by
    unfold fSets_addPrevious_L26 at h
    refine xEvG_n xml xfetch 3 (y := (285, 32, [some (10, x0), some (10, x1), some (6, x2), some (0, x3), some (0, x4), some (0, x5), some (0, x6), some (0, x7)], [(0, (M x2 0)), (0, x7)], M)) rfl trivial ?_
    refine xEvG_call xml xfetch (q := (some (0, fSets_wordsFor (M x2 0) M), M)) rfl (hSets_wordsFor (M x2 0) M _ rfl) ?_
    show xEv (285, 35, [some (10, x0), some (10, x1), some (6, x2), some (0, x3), some (0, x4), some (0, x5), some (0, x6), some (0, x7)], [(0, (fSets_wordsFor (M x2 0) M)), (0, x7)], M) _
    refine xEvG_n xml xfetch 1 (y := (285, if x7 < (fSets_wordsFor (M x2 0) M) then 38 else 82, [some (10, x0), some (10, x1), some (6, x2), some (0, x3), some (0, x4), some (0, x5), some (0, x6), some (0, x7)], [], M)) rfl trivial ?_
    refine xEvG_br xml xfetch (fun c_ => ?_) (fun c_ => ?_)
    · have h := xif_t c_ h
      refine xEvG_n xml xfetch 4 (y := (285, if (xand x7 x4) = 0 then 46 else 76, [some (10, x0), some (10, x1), some (6, x2), some (0, x3), some (0, x4), some (0, x5), some (0, x6), some (0, x7)], [], M)) rfl trivial ?_
      refine xEvG_br xml xfetch (fun c_ => ?_) (fun c_ => ?_)
      · have h := xif_t c_ h
        have a0_ := (xA_t h).1
        have h := (xA_t h).2
        have a1_ := (xA_t h).1
        have h := (xA_t h).2
        have a2_ := (xA_t h).1
        have h := (xA_t h).2
        have a3_ := (xA_t h).1
        have h := (xA_t h).2
        refine xEvG_n xml xfetch 22 (y := (285, 26, [some (10, x0), some (10, x1), some (6, x2), some (0, x3), some (0, x4), some (0, x5), some (0, x6), some (0, (xw32 (x7 + 1)))], [], (xwr M (x0 + 1) x7 (xorL (M (x0 + 1) x7) (xandL (xushrL (M (x1 + 1) (xor32 x7 x5)) x6) (M (x2 + 5) x3)))))) rfl ⟨a0_, a1_, a2_, a3_, trivial⟩ ?_
        refine xEvG_mask xml xfetch [true, true, true, true, true, true, true, true] ?_
        exact (hSets_addPrevious_L26 g) x0 x1 x2 x3 x4 x5 x6 (xw32 (x7 + 1)) (xwr M (x0 + 1) x7 (xorL (M (x0 + 1) x7) (xandL (xushrL (M (x1 + 1) (xor32 x7 x5)) x6) (M (x2 + 5) x3)))) _ h
      · have h := xif_f c_ h
        refine xEvG_n xml xfetch 2 (y := (285, 26, [some (10, x0), some (10, x1), some (6, x2), some (0, x3), some (0, x4), some (0, x5), some (0, x6), some (0, (xw32 (x7 + 1)))], [], M)) rfl trivial ?_
        refine xEvG_mask xml xfetch [true, true, true, true, true, true, true, true] ?_
        exact (hSets_addPrevious_L26 g) x0 x1 x2 x3 x4 x5 x6 (xw32 (x7 + 1)) M _ h
    · have h := xif_f c_ h
      cases h
      exact xEvG_ret xml xfetch rfl
/-- ConsentDoors$Sets.addPrevious(LConsentDoors$Sets;LConsentDoors$Keys;I)V -/
def fSets_addPrevious (a0 a1 a2 a3 : Int) (M : xM) : Option xM := xA (0 ≤ a3 ∧ a3 < 9) (fSets_addPrevious_L26 20001 a0 a1 a2 a3 (xshr (M (a2 + 4) a3) 6) (fSets_wordStep a3 M) (fSets_bitShift a3 M) 0 M)
theorem hSets_addPrevious (a0 a1 a2 a3 : Int) (M : xM) (r : xM) (h : fSets_addPrevious a0 a1 a2 a3 M = some r) : xEv (285, 0, [some (10, a0), some (10, a1), some (6, a2), some (0, a3), none, none, none, none], [], M) (none, r) := by
  unfold fSets_addPrevious at h
  have a0_ := (xA_t h).1
  have h := (xA_t h).2
  refine xEvG_n xml xfetch 8 (y := (285, 12, [some (10, a0), some (10, a1), some (6, a2), some (0, a3), some (0, (xshr (M (a2 + 4) a3) 6)), none, none, none], [(0, a3)], M)) rfl ⟨a0_, trivial⟩ ?_
  refine xEvG_call xml xfetch (q := (some (0, fSets_wordStep a3 M), M)) rfl (hSets_wordStep a3 M _ rfl) ?_
  show xEv (285, 15, [some (10, a0), some (10, a1), some (6, a2), some (0, a3), some (0, (xshr (M (a2 + 4) a3) 6)), none, none, none], [(0, (fSets_wordStep a3 M))], M) _
  refine xEvG_n xml xfetch 2 (y := (285, 18, [some (10, a0), some (10, a1), some (6, a2), some (0, a3), some (0, (xshr (M (a2 + 4) a3) 6)), some (0, (fSets_wordStep a3 M)), none, none], [(0, a3)], M)) rfl trivial ?_
  refine xEvG_call xml xfetch (q := (some (0, fSets_bitShift a3 M), M)) rfl (hSets_bitShift a3 M _ rfl) ?_
  show xEv (285, 21, [some (10, a0), some (10, a1), some (6, a2), some (0, a3), some (0, (xshr (M (a2 + 4) a3) 6)), some (0, (fSets_wordStep a3 M)), none, none], [(0, (fSets_bitShift a3 M))], M) _
  refine xEvG_n xml xfetch 3 (y := (285, 26, [some (10, a0), some (10, a1), some (6, a2), some (0, a3), some (0, (xshr (M (a2 + 4) a3) 6)), some (0, (fSets_wordStep a3 M)), some (0, (fSets_bitShift a3 M)), some (0, 0)], [], M)) rfl trivial ?_
  refine xEvG_mask xml xfetch [true, true, true, true, true, true, true, true] ?_
  exact hSets_addPrevious_L26 20001 a0 a1 a2 a3 (xshr (M (a2 + 4) a3) 6) (fSets_wordStep a3 M) (fSets_bitShift a3 M) 0 M _ h

def fOutlook_aimAtMost_L94 (k_70 : Int → Int → xM → Option xM) : Nat → Int → Int → Int → xM → Option xM
  | 0, _, _, _, _ => none
  | g + 1, x0, x3, x4, M => if x4 < (M (x0 + 1) 0) then (xA (0 ≤ x4 ∧ x4 < 9) (if (fD_bit (M ((x0 + 1) + 2) x4) x3 M) = 1 then (xA (0 ≤ x3 ∧ x3 < 25) (xA (0 ≤ (xw32 (x3 + 1)) ∧ (xw32 (x3 + 1)) < 25) (xB (fSets_addPrevious ((x0 + 8) + 3 + 4 * x3) ((x0 + 8) + 3 + 4 * (xw32 (x3 + 1))) (x0 + 1) x4 M) (fun m8 => (fOutlook_aimAtMost_L94 k_70 g) x0 x3 (xw32 (x4 + 1)) m8)))) else ((fOutlook_aimAtMost_L94 k_70 g) x0 x3 (xw32 (x4 + 1)) M))) else (k_70 x0 (xw32 (x3 + (-1))) M)
theorem hOutlook_aimAtMost_L94 (k_70 : Int → Int → xM → Option xM) (hk_70 : ∀ (x0 x3 : Int) (M : xM) (r : xM), k_70 x0 x3 M = some r → xEv (242, 70, [some (7, x0), none, none, some (0, x3), none], [], M) (none, r)) : ∀ (g : Nat) (x0 x3 x4 : Int) (M : xM) (r : xM) (h : fOutlook_aimAtMost_L94 k_70 g x0 x3 x4 M = some r), xEv (242, 94, [some (7, x0), none, none, some (0, x3), some (0, x4)], [], M) (none, r)
  | 0, _, _, _, _, _, h => by cases h
  | g + 1, x0, x3, x4, M, r, h => by
    unfold fOutlook_aimAtMost_L94 at h
    refine xEvG_n xml xfetch 5 (y := (242, if x4 < (M (x0 + 1) 0) then 106 else 153, [some (7, x0), none, none, some (0, x3), some (0, x4)], [], M)) rfl trivial ?_
    refine xEvG_br xml xfetch (fun c_ => ?_) (fun c_ => ?_)
    · have h := xif_t c_ h
      have a0_ := (xA_t h).1
      have h := (xA_t h).2
      refine xEvG_n xml xfetch 6 (y := (242, 117, [some (7, x0), none, none, some (0, x3), some (0, x4)], [(0, x3), (0, (M ((x0 + 1) + 2) x4))], M)) rfl ⟨a0_, trivial⟩ ?_
      refine xEvG_call xml xfetch (q := (some (0, fD_bit (M ((x0 + 1) + 2) x4) x3 M), M)) rfl (hD_bit (M ((x0 + 1) + 2) x4) x3 M _ rfl) ?_
      show xEv (242, 120, [some (7, x0), none, none, some (0, x3), some (0, x4)], [(0, (fD_bit (M ((x0 + 1) + 2) x4) x3 M))], M) _
      refine xEvG_n xml xfetch 2 (y := (242, if (fD_bit (M ((x0 + 1) + 2) x4) x3 M) = 1 then 124 else 147, [some (7, x0), none, none, some (0, x3), some (0, x4)], [], M)) rfl trivial ?_
      refine xEvG_br xml xfetch (fun c_ => ?_) (fun c_ => ?_)
      · have h := xif_t c_ h
        have a0_ := (xA_t h).1
        have h := (xA_t h).2
        have a1_ := (xA_t h).1
        have h := (xA_t h).2
        refine xEvG_n xml xfetch 13 (y := (242, 144, [some (7, x0), none, none, some (0, x3), some (0, x4)], [(0, x4), (6, (x0 + 1)), (10, ((x0 + 8) + 3 + 4 * (xw32 (x3 + 1)))), (10, ((x0 + 8) + 3 + 4 * x3))], M)) rfl ⟨a0_, a1_, trivial⟩ ?_
        obtain ⟨m8, e_, h⟩ := xB_t h
        refine xEvG_call xml xfetch (q := (none, m8)) rfl (hSets_addPrevious ((x0 + 8) + 3 + 4 * x3) ((x0 + 8) + 3 + 4 * (xw32 (x3 + 1))) (x0 + 1) x4 M _ e_) ?_
        show xEv (242, 147, [some (7, x0), none, none, some (0, x3), some (0, x4)], [], m8) _
        refine xEvG_n xml xfetch 2 (y := (242, 94, [some (7, x0), none, none, some (0, x3), some (0, (xw32 (x4 + 1)))], [], m8)) rfl trivial ?_
        refine xEvG_mask xml xfetch [true, false, false, true, true] ?_
        exact (hOutlook_aimAtMost_L94 k_70 hk_70 g) x0 x3 (xw32 (x4 + 1)) m8 _ h
      · have h := xif_f c_ h
        refine xEvG_n xml xfetch 2 (y := (242, 94, [some (7, x0), none, none, some (0, x3), some (0, (xw32 (x4 + 1)))], [], M)) rfl trivial ?_
        refine xEvG_mask xml xfetch [true, false, false, true, true] ?_
        exact (hOutlook_aimAtMost_L94 k_70 hk_70 g) x0 x3 (xw32 (x4 + 1)) M _ h
    · have h := xif_f c_ h
      refine xEvG_n xml xfetch 2 (y := (242, 70, [some (7, x0), none, none, some (0, (xw32 (x3 + (-1)))), some (0, x4)], [], M)) rfl trivial ?_
      refine xEvG_mask xml xfetch [true, false, false, true, false] ?_
      exact hk_70 x0 (xw32 (x3 + (-1))) M _ h
def fOutlook_aimAtMost_L70 : Nat → Int → Int → xM → Option xM
  | 0, _, _, _ => none
  | g + 1, x0, x3, M => if 0 < x3 then (xA (0 ≤ x3 ∧ x3 < 25) (xA (0 ≤ (xw32 (x3 + 1)) ∧ (xw32 (x3 + 1)) < 25) (fOutlook_aimAtMost_L94 (fOutlook_aimAtMost_L70 g) 20001 x0 x3 0 (fSets_copy ((x0 + 8) + 3 + 4 * x3) ((x0 + 8) + 3 + 4 * (xw32 (x3 + 1))) M)))) else (some M)
theorem hOutlook_aimAtMost_L70 : ∀ (g : Nat) (x0 x3 : Int) (M : xM) (r : xM) (h : fOutlook_aimAtMost_L70 g x0 x3 M = some r), xEv (242, 70, [some (7, x0), none, none, some (0, x3), none], [], M) (none, r)
  | 0, _, _, _, _, h => by cases h
  | g + 1, x0, x3, M, r, h => by
    unfold fOutlook_aimAtMost_L70 at h
    refine xEvG_n xml xfetch 2 (y := (242, if 0 < x3 then 74 else 159, [some (7, x0), none, none, some (0, x3), none], [], M)) rfl trivial ?_
    refine xEvG_br xml xfetch (fun c_ => ?_) (fun c_ => ?_)
    · have h := xif_t c_ h
      have a0_ := (xA_t h).1
      have h := (xA_t h).2
      have a1_ := (xA_t h).1
      have h := (xA_t h).2
      refine xEvG_n xml xfetch 10 (y := (242, 88, [some (7, x0), none, none, some (0, x3), none], [(10, ((x0 + 8) + 3 + 4 * (xw32 (x3 + 1)))), (10, ((x0 + 8) + 3 + 4 * x3))], M)) rfl ⟨a0_, a1_, trivial⟩ ?_
      refine xEvG_call xml xfetch (q := (none, fSets_copy ((x0 + 8) + 3 + 4 * x3) ((x0 + 8) + 3 + 4 * (xw32 (x3 + 1))) M)) rfl (hSets_copy ((x0 + 8) + 3 + 4 * x3) ((x0 + 8) + 3 + 4 * (xw32 (x3 + 1))) M _ rfl) ?_
      show xEv (242, 91, [some (7, x0), none, none, some (0, x3), none], [], (fSets_copy ((x0 + 8) + 3 + 4 * x3) ((x0 + 8) + 3 + 4 * (xw32 (x3 + 1))) M)) _
      refine xEvG_n xml xfetch 2 (y := (242, 94, [some (7, x0), none, none, some (0, x3), some (0, 0)], [], (fSets_copy ((x0 + 8) + 3 + 4 * x3) ((x0 + 8) + 3 + 4 * (xw32 (x3 + 1))) M))) rfl trivial ?_
      refine xEvG_mask xml xfetch [true, false, false, true, true] ?_
      exact hOutlook_aimAtMost_L94 (fOutlook_aimAtMost_L70 g) (hOutlook_aimAtMost_L70 g) 20001 x0 x3 0 (fSets_copy ((x0 + 8) + 3 + 4 * x3) ((x0 + 8) + 3 + 4 * (xw32 (x3 + 1))) M) _ h
    · have h := xif_f c_ h
      cases h
      exact xEvG_ret xml xfetch rfl
def fOutlook_aimAtMost_L28 : Nat → Int → Int → Int → Int → xM → Option xM
  | 0, _, _, _, _, _ => none
  | g + 1, x0, x1, x2, x3, M => if x3 < (xshl 1 (M (x0 + 1) 0)) then (if (fJI_bitCount x3 M) = x1 then (xB (fSets_add x2 x3 M) (fun m5 => (fOutlook_aimAtMost_L28 g) x0 x1 x2 (xw32 (x3 + 1)) m5)) else ((fOutlook_aimAtMost_L28 g) x0 x1 x2 (xw32 (x3 + 1)) M)) else (fOutlook_aimAtMost_L70 20001 x0 (xw32 ((M (x0 + 1) 1) - 1)) M)
theorem hOutlook_aimAtMost_L28 : ∀ (g : Nat) (x0 x1 x2 x3 : Int) (M : xM) (r : xM) (h : fOutlook_aimAtMost_L28 g x0 x1 x2 x3 M = some r), xEv (242, 28, [some (7, x0), some (0, x1), some (10, x2), some (0, x3), none], [], M) (none, r)
  | 0, _, _, _, _, _, _, h => by cases h
  | g + 1, x0, x1, x2, x3, M, r, h => by
    unfold fOutlook_aimAtMost_L28 at h
    refine xEvG_n xml xfetch 7 (y := (242, if x3 < (xshl 1 (M (x0 + 1) 0)) then 41 else 60, [some (7, x0), some (0, x1), some (10, x2), some (0, x3), none], [], M)) rfl trivial ?_
    refine xEvG_br xml xfetch (fun c_ => ?_) (fun c_ => ?_)
    · have h := xif_t c_ h
      refine xEvG_n xml xfetch 1 (y := (242, 42, [some (7, x0), some (0, x1), some (10, x2), some (0, x3), none], [(0, x3)], M)) rfl trivial ?_
      refine xEvG_call xml xfetch (q := (some (0, fJI_bitCount x3 M), M)) rfl (hJI_bitCount x3 M _ rfl) ?_
      show xEv (242, 45, [some (7, x0), some (0, x1), some (10, x2), some (0, x3), none], [(0, (fJI_bitCount x3 M))], M) _
      refine xEvG_n xml xfetch 2 (y := (242, if (fJI_bitCount x3 M) = x1 then 49 else 54, [some (7, x0), some (0, x1), some (10, x2), some (0, x3), none], [], M)) rfl trivial ?_
      refine xEvG_br xml xfetch (fun c_ => ?_) (fun c_ => ?_)
      · have h := xif_t c_ h
        refine xEvG_n xml xfetch 2 (y := (242, 51, [some (7, x0), some (0, x1), some (10, x2), some (0, x3), none], [(0, x3), (10, x2)], M)) rfl trivial ?_
        obtain ⟨m5, e_, h⟩ := xB_t h
        refine xEvG_call xml xfetch (q := (none, m5)) rfl (hSets_add x2 x3 M _ e_) ?_
        show xEv (242, 54, [some (7, x0), some (0, x1), some (10, x2), some (0, x3), none], [], m5) _
        refine xEvG_n xml xfetch 2 (y := (242, 28, [some (7, x0), some (0, x1), some (10, x2), some (0, (xw32 (x3 + 1))), none], [], m5)) rfl trivial ?_
        refine xEvG_mask xml xfetch [true, true, true, true, false] ?_
        exact (hOutlook_aimAtMost_L28 g) x0 x1 x2 (xw32 (x3 + 1)) m5 _ h
      · have h := xif_f c_ h
        refine xEvG_n xml xfetch 2 (y := (242, 28, [some (7, x0), some (0, x1), some (10, x2), some (0, (xw32 (x3 + 1))), none], [], M)) rfl trivial ?_
        refine xEvG_mask xml xfetch [true, true, true, true, false] ?_
        exact (hOutlook_aimAtMost_L28 g) x0 x1 x2 (xw32 (x3 + 1)) M _ h
    · have h := xif_f c_ h
      refine xEvG_n xml xfetch 6 (y := (242, 70, [some (7, x0), some (0, x1), some (10, x2), some (0, (xw32 ((M (x0 + 1) 1) - 1))), none], [], M)) rfl trivial ?_
      refine xEvG_mask xml xfetch [true, false, false, true, false] ?_
      exact hOutlook_aimAtMost_L70 20001 x0 (xw32 ((M (x0 + 1) 1) - 1)) M _ h
/-- ConsentDoors$Outlook.aimAtMost()V -/
def fOutlook_aimAtMost (a0 : Int) (M : xM) : Option xM := xB (fOutlook_atLast a0 M) (fun v1 => xB (fSets_largestWith v1 0 M) (fun v2 => xA (0 ≤ (M (a0 + 1) 1) ∧ (M (a0 + 1) 1) < 25) (xB (fSets_clear ((a0 + 8) + 3 + 4 * (M (a0 + 1) 1)) M) (fun m3 => fOutlook_aimAtMost_L28 20001 a0 v2 ((a0 + 8) + 3 + 4 * (M (a0 + 1) 1)) 0 m3))))
theorem hOutlook_aimAtMost (a0 : Int) (M : xM) (r : xM) (h : fOutlook_aimAtMost a0 M = some r) : xEv (242, 0, [some (7, a0), none, none, none, none], [], M) (none, r) := by
  unfold fOutlook_aimAtMost at h
  refine xEvG_n xml xfetch 1 (y := (242, 1, [some (7, a0), none, none, none, none], [(7, a0)], M)) rfl trivial ?_
  obtain ⟨v1, e_, h⟩ := xB_t h
  refine xEvG_call xml xfetch (q := (some (10, v1), M)) rfl (hOutlook_atLast a0 M _ e_) ?_
  show xEv (242, 4, [some (7, a0), none, none, none, none], [(10, v1)], M) _
  refine xEvG_n xml xfetch 1 (y := (242, 5, [some (7, a0), none, none, none, none], [(0, 0), (10, v1)], M)) rfl trivial ?_
  obtain ⟨v2, e_, h⟩ := xB_t h
  refine xEvG_call xml xfetch (q := (some (0, v2), M)) rfl (hSets_largestWith v1 0 M _ e_) ?_
  show xEv (242, 8, [some (7, a0), none, none, none, none], [(0, v2)], M) _
  have a0_ := (xA_t h).1
  have h := (xA_t h).2
  refine xEvG_n xml xfetch 9 (y := (242, 23, [some (7, a0), some (0, v2), some (10, ((a0 + 8) + 3 + 4 * (M (a0 + 1) 1))), none, none], [(10, ((a0 + 8) + 3 + 4 * (M (a0 + 1) 1)))], M)) rfl ⟨a0_, trivial⟩ ?_
  obtain ⟨m3, e_, h⟩ := xB_t h
  refine xEvG_call xml xfetch (q := (none, m3)) rfl (hSets_clear ((a0 + 8) + 3 + 4 * (M (a0 + 1) 1)) M _ e_) ?_
  show xEv (242, 26, [some (7, a0), some (0, v2), some (10, ((a0 + 8) + 3 + 4 * (M (a0 + 1) 1))), none, none], [], m3) _
  refine xEvG_n xml xfetch 2 (y := (242, 28, [some (7, a0), some (0, v2), some (10, ((a0 + 8) + 3 + 4 * (M (a0 + 1) 1))), some (0, 0), none], [], m3)) rfl trivial ?_
  refine xEvG_mask xml xfetch [true, true, true, true, false] ?_
  exact hOutlook_aimAtMost_L28 20001 a0 v2 ((a0 + 8) + 3 + 4 * (M (a0 + 1) 1)) 0 m3 _ h

/-- ConsentDoors$Sets.has(I)Z -/
def fSets_has (a0 a1 : Int) (M : xM) : Option Int := xA (0 ≤ (xand (xshr a1 6) 7) ∧ (xand (xshr a1 6) 7) < 8) (some (if (xcmpL (xandL (xushrL (M (a0 + 1) (xand (xshr a1 6) 7)) (xand a1 63)) 1) 1) = 0 then 1 else 0 : Int))
theorem hSets_has (a0 a1 : Int) (M : xM) (r : Int) (h : fSets_has a0 a1 M = some r) : xEv (280, 0, [some (10, a0), some (0, a1)], [], M) (some (0, r), M) := by
  unfold fSets_has at h
  have a0_ := (xA_t h).1
  have h := (xA_t h).2
  refine xEvG_n xml xfetch 16 (y := (280, 21, [some (10, a0), some (0, a1)], [(0, (xcmpL (xandL (xushrL (M (a0 + 1) (xand (xshr a1 6) 7)) (xand a1 63)) 1) 1))], M)) rfl ⟨a0_, trivial⟩ ?_
  have key_ : xEv (280, 29, [some (10, a0), some (0, a1)], [(0, (if (xcmpL (xandL (xushrL (M (a0 + 1) (xand (xshr a1 6) 7)) (xand a1 63)) 1) 1) = 0 then 1 else 0 : Int))], M) (some (0, r), M) := by
    cases h
    exact xEvG_retc xml xfetch rfl (by (repeat' split) <;> first | exact Or.inl rfl | exact Or.inr rfl)
  refine xEvG_n xml xfetch 1 (y := (280, if (xcmpL (xandL (xushrL (M (a0 + 1) (xand (xshr a1 6) 7)) (xand a1 63)) 1) 1) = 0 then 24 else 28, [some (10, a0), some (0, a1)], [], M)) rfl trivial ?_
  refine xEvG_br xml xfetch (fun c2_ => ?_) (fun c2_ => ?_)
  · refine xEvG_n xml xfetch 2 (y := (280, 29, [some (10, a0), some (0, a1)], [(0, 1)], M)) rfl trivial ?_
    try simp only [if_pos c2_] at key_
    try simp only [if_pos c2_]
    exact key_
  · refine xEvG_n xml xfetch 1 (y := (280, 29, [some (10, a0), some (0, a1)], [(0, 0)], M)) rfl trivial ?_
    try simp only [if_neg c2_] at key_
    try simp only [if_neg c2_]
    exact key_

def fOutlook_firstWinningDoor_L19 : Nat → Int → Int → Int → Int → xM → Option Int
  | 0, _, _, _, _, _ => none
  | g + 1, x0, x1, x2, x3, M => if x3 < (M (x0 + 1) 0) then (xB (fKeys_opensFor (x0 + 1) x3 x1 x2 M) (fun v2 => if v2 = 0 then ((fOutlook_firstWinningDoor_L19 g) x0 x1 x2 (xw32 (x3 + 1)) M) else (xA (0 ≤ (xw32 (x1 + 1)) ∧ (xw32 (x1 + 1)) < 25) (xB (fSets_has ((x0 + 8) + 3 + 4 * (xw32 (x1 + 1))) (xor32 x2 (xshl 1 x3)) M) (fun v3 => if v3 = 0 then ((fOutlook_firstWinningDoor_L19 g) x0 x1 x2 (xw32 (x3 + 1)) M) else (some x3)))))) else (some (-1))
theorem hOutlook_firstWinningDoor_L19 : ∀ (g : Nat) (x0 x1 x2 x3 : Int) (M : xM) (r : Int) (h : fOutlook_firstWinningDoor_L19 g x0 x1 x2 x3 M = some r), xEv (244, 19, [some (7, x0), some (0, x1), some (0, x2), some (0, x3)], [], M) (some (0, r), M)
  | 0, _, _, _, _, _, _, h => by cases h
  | g + 1, x0, x1, x2, x3, M, r, h => by
    unfold fOutlook_firstWinningDoor_L19 at h
    refine xEvG_n xml xfetch 5 (y := (244, if x3 < (M (x0 + 1) 0) then 30 else 70, [some (7, x0), some (0, x1), some (0, x2), some (0, x3)], [], M)) rfl trivial ?_
    refine xEvG_br xml xfetch (fun c_ => ?_) (fun c_ => ?_)
    · have h := xif_t c_ h
      refine xEvG_n xml xfetch 5 (y := (244, 37, [some (7, x0), some (0, x1), some (0, x2), some (0, x3)], [(0, x2), (0, x1), (0, x3), (6, (x0 + 1))], M)) rfl trivial ?_
      obtain ⟨v2, e_, h⟩ := xB_t h
      refine xEvG_call xml xfetch (q := (some (0, v2), M)) rfl (hKeys_opensFor (x0 + 1) x3 x1 x2 M _ e_) ?_
      show xEv (244, 40, [some (7, x0), some (0, x1), some (0, x2), some (0, x3)], [(0, v2)], M) _
      refine xEvG_n xml xfetch 1 (y := (244, if v2 = 0 then 64 else 43, [some (7, x0), some (0, x1), some (0, x2), some (0, x3)], [], M)) rfl trivial ?_
      refine xEvG_br xml xfetch (fun c_ => ?_) (fun c_ => ?_)
      · have h := xif_t c_ h
        refine xEvG_n xml xfetch 2 (y := (244, 19, [some (7, x0), some (0, x1), some (0, x2), some (0, (xw32 (x3 + 1)))], [], M)) rfl trivial ?_
        refine xEvG_mask xml xfetch [true, true, true, true] ?_
        exact (hOutlook_firstWinningDoor_L19 g) x0 x1 x2 (xw32 (x3 + 1)) M _ h
      · have h := xif_f c_ h
        have a0_ := (xA_t h).1
        have h := (xA_t h).2
        refine xEvG_n xml xfetch 11 (y := (244, 56, [some (7, x0), some (0, x1), some (0, x2), some (0, x3)], [(0, (xor32 x2 (xshl 1 x3))), (10, ((x0 + 8) + 3 + 4 * (xw32 (x1 + 1))))], M)) rfl ⟨a0_, trivial⟩ ?_
        obtain ⟨v3, e_, h⟩ := xB_t h
        refine xEvG_call xml xfetch (q := (some (0, v3), M)) rfl (hSets_has ((x0 + 8) + 3 + 4 * (xw32 (x1 + 1))) (xor32 x2 (xshl 1 x3)) M _ e_) ?_
        show xEv (244, 59, [some (7, x0), some (0, x1), some (0, x2), some (0, x3)], [(0, v3)], M) _
        refine xEvG_n xml xfetch 1 (y := (244, if v3 = 0 then 64 else 62, [some (7, x0), some (0, x1), some (0, x2), some (0, x3)], [], M)) rfl trivial ?_
        refine xEvG_br xml xfetch (fun c_ => ?_) (fun c_ => ?_)
        · have h := xif_t c_ h
          refine xEvG_n xml xfetch 2 (y := (244, 19, [some (7, x0), some (0, x1), some (0, x2), some (0, (xw32 (x3 + 1)))], [], M)) rfl trivial ?_
          refine xEvG_mask xml xfetch [true, true, true, true] ?_
          exact (hOutlook_firstWinningDoor_L19 g) x0 x1 x2 (xw32 (x3 + 1)) M _ h
        · have h := xif_f c_ h
          refine xEvG_n xml xfetch 1 (y := (244, 63, [some (7, x0), some (0, x1), some (0, x2), some (0, x3)], [(0, x3)], M)) rfl trivial ?_
          cases h
          exact xEvG_ret xml xfetch rfl
    · have h := xif_f c_ h
      refine xEvG_n xml xfetch 1 (y := (244, 71, [some (7, x0), some (0, x1), some (0, x2), some (0, x3)], [(0, (-1))], M)) rfl trivial ?_
      cases h
      exact xEvG_ret xml xfetch rfl
/-- ConsentDoors$Outlook.firstWinningDoor(II)I -/
def fOutlook_firstWinningDoor (a0 a1 a2 : Int) (M : xM) : Option Int := xA (0 ≤ (xw32 (a1 + 1)) ∧ (xw32 (a1 + 1)) < 25) (xB (fSets_has ((a0 + 8) + 3 + 4 * (xw32 (a1 + 1))) a2 M) (fun v1 => if v1 = 0 then (fOutlook_firstWinningDoor_L19 20001 a0 a1 a2 0 M) else (some (-1))))
theorem hOutlook_firstWinningDoor (a0 a1 a2 : Int) (M : xM) (r : Int) (h : fOutlook_firstWinningDoor a0 a1 a2 M = some r) : xEv (244, 0, [some (7, a0), some (0, a1), some (0, a2), none], [], M) (some (0, r), M) := by
  unfold fOutlook_firstWinningDoor at h
  have a0_ := (xA_t h).1
  have h := (xA_t h).2
  refine xEvG_n xml xfetch 7 (y := (244, 9, [some (7, a0), some (0, a1), some (0, a2), none], [(0, a2), (10, ((a0 + 8) + 3 + 4 * (xw32 (a1 + 1))))], M)) rfl ⟨a0_, trivial⟩ ?_
  obtain ⟨v1, e_, h⟩ := xB_t h
  refine xEvG_call xml xfetch (q := (some (0, v1), M)) rfl (hSets_has ((a0 + 8) + 3 + 4 * (xw32 (a1 + 1))) a2 M _ e_) ?_
  show xEv (244, 12, [some (7, a0), some (0, a1), some (0, a2), none], [(0, v1)], M) _
  refine xEvG_n xml xfetch 1 (y := (244, if v1 = 0 then 17 else 15, [some (7, a0), some (0, a1), some (0, a2), none], [], M)) rfl trivial ?_
  refine xEvG_br xml xfetch (fun c_ => ?_) (fun c_ => ?_)
  · have h := xif_t c_ h
    refine xEvG_n xml xfetch 2 (y := (244, 19, [some (7, a0), some (0, a1), some (0, a2), some (0, 0)], [], M)) rfl trivial ?_
    refine xEvG_mask xml xfetch [true, true, true, true] ?_
    exact hOutlook_firstWinningDoor_L19 20001 a0 a1 a2 0 M _ h
  · have h := xif_f c_ h
    refine xEvG_n xml xfetch 1 (y := (244, 16, [some (7, a0), some (0, a1), some (0, a2), none], [(0, (-1))], M)) rfl trivial ?_
    cases h
    exact xEvG_ret xml xfetch rfl

def fOutlook_firstBestDoor_L11 : Nat → Int → Int → Int → Int → Int → xM → Option (Int × xM)
  | 0, _, _, _, _, _, _ => none
  | g + 1, x0, x1, x2, x3, x4, M => if x1 < x4 then (some (x3, M)) else (if x4 < (M (x0 + 1) 1) then (xB (fOutlook_firstWinningDoor x0 x4 x2 M) (fun v2 => if v2 = (-1) then ((fOutlook_firstBestDoor_L11 g) x0 x1 (xor32 x2 0) v2 (xw32 (x4 + 1)) M) else ((fOutlook_firstBestDoor_L11 g) x0 x1 (xor32 x2 (xshl 1 v2)) v2 (xw32 (x4 + 1)) M))) else (some (x3, M)))
theorem hOutlook_firstBestDoor_L11 : ∀ (g : Nat) (x0 x1 x2 x3 x4 : Int) (M : xM) (r : Int × xM) (h : fOutlook_firstBestDoor_L11 g x0 x1 x2 x3 x4 M = some r), xEv (243, 11, [some (7, x0), some (0, x1), some (0, x2), some (0, x3), some (0, x4)], [], M) (some (0, r.1), r.2)
  | 0, _, _, _, _, _, _, _, h => by cases h
  | g + 1, x0, x1, x2, x3, x4, M, r, h => by
    unfold fOutlook_firstBestDoor_L11 at h
    refine xEvG_n xml xfetch 3 (y := (243, if x1 < x4 then 58 else 17, [some (7, x0), some (0, x1), some (0, x2), some (0, x3), some (0, x4)], [], M)) rfl trivial ?_
    refine xEvG_br xml xfetch (fun c_ => ?_) (fun c_ => ?_)
    · have h := xif_t c_ h
      refine xEvG_n xml xfetch 1 (y := (243, 59, [some (7, x0), some (0, x1), some (0, x2), some (0, x3), some (0, x4)], [(0, x3)], M)) rfl trivial ?_
      cases h
      exact xEvG_ret xml xfetch rfl
    · have h := xif_f c_ h
      refine xEvG_n xml xfetch 5 (y := (243, if x4 < (M (x0 + 1) 1) then 29 else 58, [some (7, x0), some (0, x1), some (0, x2), some (0, x3), some (0, x4)], [], M)) rfl trivial ?_
      refine xEvG_br xml xfetch (fun c_ => ?_) (fun c_ => ?_)
      · have h := xif_t c_ h
        refine xEvG_n xml xfetch 3 (y := (243, 33, [some (7, x0), some (0, x1), some (0, x2), some (0, x3), some (0, x4)], [(0, x2), (0, x4), (7, x0)], M)) rfl trivial ?_
        obtain ⟨v2, e_, h⟩ := xB_t h
        refine xEvG_call xml xfetch (q := (some (0, v2), M)) rfl (hOutlook_firstWinningDoor x0 x4 x2 M _ e_) ?_
        show xEv (243, 36, [some (7, x0), some (0, x1), some (0, x2), some (0, x3), some (0, x4)], [(0, v2)], M) _
        refine xEvG_n xml xfetch 5 (y := (243, if v2 = (-1) then 43 else 47, [some (7, x0), some (0, x1), some (0, x2), some (0, v2), some (0, x4)], [(0, x2)], M)) rfl trivial ?_
        refine xEvG_br xml xfetch (fun c_ => ?_) (fun c_ => ?_)
        · have h := xif_t c_ h
          refine xEvG_n xml xfetch 6 (y := (243, 11, [some (7, x0), some (0, x1), some (0, (xor32 x2 0)), some (0, v2), some (0, (xw32 (x4 + 1)))], [], M)) rfl trivial ?_
          refine xEvG_mask xml xfetch [true, true, true, true, true] ?_
          exact (hOutlook_firstBestDoor_L11 g) x0 x1 (xor32 x2 0) v2 (xw32 (x4 + 1)) M _ h
        · have h := xif_f c_ h
          refine xEvG_n xml xfetch 7 (y := (243, 11, [some (7, x0), some (0, x1), some (0, (xor32 x2 (xshl 1 v2))), some (0, v2), some (0, (xw32 (x4 + 1)))], [], M)) rfl trivial ?_
          refine xEvG_mask xml xfetch [true, true, true, true, true] ?_
          exact (hOutlook_firstBestDoor_L11 g) x0 x1 (xor32 x2 (xshl 1 v2)) v2 (xw32 (x4 + 1)) M _ h
      · have h := xif_f c_ h
        refine xEvG_n xml xfetch 1 (y := (243, 59, [some (7, x0), some (0, x1), some (0, x2), some (0, x3), some (0, x4)], [(0, x3)], M)) rfl trivial ?_
        cases h
        exact xEvG_ret xml xfetch rfl
/-- ConsentDoors$Outlook.firstBestDoor(I)I -/
def fOutlook_firstBestDoor (a0 a1 : Int) (M : xM) : Option (Int × xM) := xB (fOutlook_aimAtMost a0 M) (fun m1 => fOutlook_firstBestDoor_L11 20001 a0 a1 0 (-1) 0 m1)
theorem hOutlook_firstBestDoor (a0 a1 : Int) (M : xM) (r : Int × xM) (h : fOutlook_firstBestDoor a0 a1 M = some r) : xEv (243, 0, [some (7, a0), some (0, a1), none, none, none], [], M) (some (0, r.1), r.2) := by
  unfold fOutlook_firstBestDoor at h
  refine xEvG_n xml xfetch 1 (y := (243, 1, [some (7, a0), some (0, a1), none, none, none], [(7, a0)], M)) rfl trivial ?_
  obtain ⟨m1, e_, h⟩ := xB_t h
  refine xEvG_call xml xfetch (q := (none, m1)) rfl (hOutlook_aimAtMost a0 M _ e_) ?_
  show xEv (243, 4, [some (7, a0), some (0, a1), none, none, none], [], m1) _
  refine xEvG_n xml xfetch 6 (y := (243, 11, [some (7, a0), some (0, a1), some (0, 0), some (0, (-1)), some (0, 0)], [], m1)) rfl trivial ?_
  refine xEvG_mask xml xfetch [true, true, true, true, true] ?_
  exact hOutlook_firstBestDoor_L11 20001 a0 a1 0 (-1) 0 m1 _ h

/-- ConsentDoors.best(I)I -/
def fD_best (a0 a1 : Int) (M : xM) : Option (Int × xM) := if (fPrison_hasHour (a0 + 15) a1 M) = 0 then (some ((-2), M)) else (xB (fOutlook_firstBestDoor (a0 + 37) a1 M) (fun q_ => match q_ with | (v2, m2) => some (v2, m2)))
theorem hD_best (a0 a1 : Int) (M : xM) (r : Int × xM) (h : fD_best a0 a1 M = some r) : xEv (22, 0, [some (2, a0), some (0, a1)], [], M) (some (0, r.1), r.2) := by
  unfold fD_best at h
  refine xEvG_n xml xfetch 3 (y := (22, 5, [some (2, a0), some (0, a1)], [(0, a1), (8, (a0 + 15))], M)) rfl trivial ?_
  refine xEvG_call xml xfetch (q := (some (0, fPrison_hasHour (a0 + 15) a1 M), M)) rfl (hPrison_hasHour (a0 + 15) a1 M _ rfl) ?_
  show xEv (22, 8, [some (2, a0), some (0, a1)], [(0, (fPrison_hasHour (a0 + 15) a1 M))], M) _
  refine xEvG_n xml xfetch 1 (y := (22, if (fPrison_hasHour (a0 + 15) a1 M) = 0 then 22 else 11, [some (2, a0), some (0, a1)], [], M)) rfl trivial ?_
  refine xEvG_br xml xfetch (fun c_ => ?_) (fun c_ => ?_)
  · have h := xif_t c_ h
    refine xEvG_n xml xfetch 1 (y := (22, 24, [some (2, a0), some (0, a1)], [(0, (-2))], M)) rfl trivial ?_
    cases h
    exact xEvG_ret xml xfetch rfl
  · have h := xif_f c_ h
    refine xEvG_n xml xfetch 3 (y := (22, 16, [some (2, a0), some (0, a1)], [(0, a1), (7, (a0 + 37))], M)) rfl trivial ?_
    obtain ⟨⟨v2, m2⟩, e_, h⟩ := xB_t h
    refine xEvG_call xml xfetch (q := (some (0, v2), m2)) rfl (hOutlook_firstBestDoor (a0 + 37) a1 M _ e_) ?_
    show xEv (22, 19, [some (2, a0), some (0, a1)], [(0, v2)], m2) _
    refine xEvG_n xml xfetch 1 (y := (22, 24, [some (2, a0), some (0, a1)], [(0, v2)], m2)) rfl trivial ?_
    cases h
    exact xEvG_ret xml xfetch rfl

def fD_soonest_L26 : Nat → Int → Int → Int → xM → Option Int
  | 0, _, _, _, _ => none
  | g + 1, x0, x1, x2, M => if x2 < (M (x0 + 15) 1) then (xA (0 ≤ (xw32 (x2 + 1)) ∧ (xw32 (x2 + 1)) < 25) (xB (fSets_largestWith (((x0 + 37) + 7) + 2 + 4 * (xw32 (x2 + 1))) 0 M) (fun v2 => if v2 < x1 then ((fD_soonest_L26 g) x0 x1 (xw32 (x2 + 1)) M) else (some x2)))) else (some (-1))
theorem hD_soonest_L26 : ∀ (g : Nat) (x0 x1 x2 : Int) (M : xM) (r : Int) (h : fD_soonest_L26 g x0 x1 x2 M = some r), xEv (23, 26, [some (2, x0), some (0, x1), some (0, x2)], [], M) (some (0, r), M)
  | 0, _, _, _, _, _, h => by cases h
  | g + 1, x0, x1, x2, M, r, h => by
    unfold fD_soonest_L26 at h
    refine xEvG_n xml xfetch 5 (y := (23, if x2 < (M (x0 + 15) 1) then 37 else 64, [some (2, x0), some (0, x1), some (0, x2)], [], M)) rfl trivial ?_
    refine xEvG_br xml xfetch (fun c_ => ?_) (fun c_ => ?_)
    · have h := xif_t c_ h
      have a0_ := (xA_t h).1
      have h := (xA_t h).2
      refine xEvG_n xml xfetch 8 (y := (23, 49, [some (2, x0), some (0, x1), some (0, x2)], [(0, 0), (10, (((x0 + 37) + 7) + 2 + 4 * (xw32 (x2 + 1))))], M)) rfl ⟨a0_, trivial⟩ ?_
      obtain ⟨v2, e_, h⟩ := xB_t h
      refine xEvG_call xml xfetch (q := (some (0, v2), M)) rfl (hSets_largestWith (((x0 + 37) + 7) + 2 + 4 * (xw32 (x2 + 1))) 0 M _ e_) ?_
      show xEv (23, 52, [some (2, x0), some (0, x1), some (0, x2)], [(0, v2)], M) _
      refine xEvG_n xml xfetch 2 (y := (23, if v2 < x1 then 58 else 56, [some (2, x0), some (0, x1), some (0, x2)], [], M)) rfl trivial ?_
      refine xEvG_br xml xfetch (fun c_ => ?_) (fun c_ => ?_)
      · have h := xif_t c_ h
        refine xEvG_n xml xfetch 2 (y := (23, 26, [some (2, x0), some (0, x1), some (0, (xw32 (x2 + 1)))], [], M)) rfl trivial ?_
        refine xEvG_mask xml xfetch [true, true, true] ?_
        exact (hD_soonest_L26 g) x0 x1 (xw32 (x2 + 1)) M _ h
      · have h := xif_f c_ h
        refine xEvG_n xml xfetch 1 (y := (23, 57, [some (2, x0), some (0, x1), some (0, x2)], [(0, x2)], M)) rfl trivial ?_
        cases h
        exact xEvG_ret xml xfetch rfl
    · have h := xif_f c_ h
      refine xEvG_n xml xfetch 1 (y := (23, 65, [some (2, x0), some (0, x1), some (0, x2)], [(0, (-1))], M)) rfl trivial ?_
      cases h
      exact xEvG_ret xml xfetch rfl
/-- ConsentDoors.soonest(I)I -/
def fD_soonest (a0 a1 : Int) (M : xM) : Option Int := if (fPrison_stands (a0 + 15) M) = 0 then (some (-2)) else (if a1 < 1 then (some (-2)) else (if 9 < a1 then (some (-2)) else (fD_soonest_L26 20001 a0 a1 0 M)))
theorem hD_soonest (a0 a1 : Int) (M : xM) (r : Int) (h : fD_soonest a0 a1 M = some r) : xEv (23, 0, [some (2, a0), some (0, a1), none], [], M) (some (0, r), M) := by
  unfold fD_soonest at h
  refine xEvG_n xml xfetch 2 (y := (23, 4, [some (2, a0), some (0, a1), none], [(8, (a0 + 15))], M)) rfl trivial ?_
  refine xEvG_call xml xfetch (q := (some (0, fPrison_stands (a0 + 15) M), M)) rfl (hPrison_stands (a0 + 15) M _ rfl) ?_
  show xEv (23, 7, [some (2, a0), some (0, a1), none], [(0, (fPrison_stands (a0 + 15) M))], M) _
  refine xEvG_n xml xfetch 1 (y := (23, if (fPrison_stands (a0 + 15) M) = 0 then 21 else 10, [some (2, a0), some (0, a1), none], [], M)) rfl trivial ?_
  refine xEvG_br xml xfetch (fun c_ => ?_) (fun c_ => ?_)
  · have h := xif_t c_ h
    refine xEvG_n xml xfetch 1 (y := (23, 23, [some (2, a0), some (0, a1), none], [(0, (-2))], M)) rfl trivial ?_
    cases h
    exact xEvG_ret xml xfetch rfl
  · have h := xif_f c_ h
    refine xEvG_n xml xfetch 3 (y := (23, if a1 < 1 then 21 else 15, [some (2, a0), some (0, a1), none], [], M)) rfl trivial ?_
    refine xEvG_br xml xfetch (fun c_ => ?_) (fun c_ => ?_)
    · have h := xif_t c_ h
      refine xEvG_n xml xfetch 1 (y := (23, 23, [some (2, a0), some (0, a1), none], [(0, (-2))], M)) rfl trivial ?_
      cases h
      exact xEvG_ret xml xfetch rfl
    · have h := xif_f c_ h
      refine xEvG_n xml xfetch 3 (y := (23, if 9 < a1 then 21 else 24, [some (2, a0), some (0, a1), none], [], M)) rfl trivial ?_
      refine xEvG_br xml xfetch (fun c_ => ?_) (fun c_ => ?_)
      · have h := xif_t c_ h
        refine xEvG_n xml xfetch 1 (y := (23, 23, [some (2, a0), some (0, a1), none], [(0, (-2))], M)) rfl trivial ?_
        cases h
        exact xEvG_ret xml xfetch rfl
      · have h := xif_f c_ h
        refine xEvG_n xml xfetch 2 (y := (23, 26, [some (2, a0), some (0, a1), some (0, 0)], [], M)) rfl trivial ?_
        refine xEvG_mask xml xfetch [true, true, true] ?_
        exact hD_soonest_L26 20001 a0 a1 0 M _ h

/-- java/lang/Long.bitCount(J)I -/
def fJL_bitCount (a0 : Int) (M : xM) : Int := (xand (xw32 (xw64 ((xw64 ((xw64 ((xandL (xw64 ((xw64 ((xandL (xw64 (a0 - (xandL (xushrL a0 1) 6148914691236517205))) 3689348814741910323) + (xandL (xushrL (xw64 (a0 - (xandL (xushrL a0 1) 6148914691236517205))) 2) 3689348814741910323))) + (xushrL (xw64 ((xandL (xw64 (a0 - (xandL (xushrL a0 1) 6148914691236517205))) 3689348814741910323) + (xandL (xushrL (xw64 (a0 - (xandL (xushrL a0 1) 6148914691236517205))) 2) 3689348814741910323))) 4))) 1085102592571150095) + (xushrL (xandL (xw64 ((xw64 ((xandL (xw64 (a0 - (xandL (xushrL a0 1) 6148914691236517205))) 3689348814741910323) + (xandL (xushrL (xw64 (a0 - (xandL (xushrL a0 1) 6148914691236517205))) 2) 3689348814741910323))) + (xushrL (xw64 ((xandL (xw64 (a0 - (xandL (xushrL a0 1) 6148914691236517205))) 3689348814741910323) + (xandL (xushrL (xw64 (a0 - (xandL (xushrL a0 1) 6148914691236517205))) 2) 3689348814741910323))) 4))) 1085102592571150095) 8))) + (xushrL (xw64 ((xandL (xw64 ((xw64 ((xandL (xw64 (a0 - (xandL (xushrL a0 1) 6148914691236517205))) 3689348814741910323) + (xandL (xushrL (xw64 (a0 - (xandL (xushrL a0 1) 6148914691236517205))) 2) 3689348814741910323))) + (xushrL (xw64 ((xandL (xw64 (a0 - (xandL (xushrL a0 1) 6148914691236517205))) 3689348814741910323) + (xandL (xushrL (xw64 (a0 - (xandL (xushrL a0 1) 6148914691236517205))) 2) 3689348814741910323))) 4))) 1085102592571150095) + (xushrL (xandL (xw64 ((xw64 ((xandL (xw64 (a0 - (xandL (xushrL a0 1) 6148914691236517205))) 3689348814741910323) + (xandL (xushrL (xw64 (a0 - (xandL (xushrL a0 1) 6148914691236517205))) 2) 3689348814741910323))) + (xushrL (xw64 ((xandL (xw64 (a0 - (xandL (xushrL a0 1) 6148914691236517205))) 3689348814741910323) + (xandL (xushrL (xw64 (a0 - (xandL (xushrL a0 1) 6148914691236517205))) 2) 3689348814741910323))) 4))) 1085102592571150095) 8))) 16))) + (xushrL (xw64 ((xw64 ((xandL (xw64 ((xw64 ((xandL (xw64 (a0 - (xandL (xushrL a0 1) 6148914691236517205))) 3689348814741910323) + (xandL (xushrL (xw64 (a0 - (xandL (xushrL a0 1) 6148914691236517205))) 2) 3689348814741910323))) + (xushrL (xw64 ((xandL (xw64 (a0 - (xandL (xushrL a0 1) 6148914691236517205))) 3689348814741910323) + (xandL (xushrL (xw64 (a0 - (xandL (xushrL a0 1) 6148914691236517205))) 2) 3689348814741910323))) 4))) 1085102592571150095) + (xushrL (xandL (xw64 ((xw64 ((xandL (xw64 (a0 - (xandL (xushrL a0 1) 6148914691236517205))) 3689348814741910323) + (xandL (xushrL (xw64 (a0 - (xandL (xushrL a0 1) 6148914691236517205))) 2) 3689348814741910323))) + (xushrL (xw64 ((xandL (xw64 (a0 - (xandL (xushrL a0 1) 6148914691236517205))) 3689348814741910323) + (xandL (xushrL (xw64 (a0 - (xandL (xushrL a0 1) 6148914691236517205))) 2) 3689348814741910323))) 4))) 1085102592571150095) 8))) + (xushrL (xw64 ((xandL (xw64 ((xw64 ((xandL (xw64 (a0 - (xandL (xushrL a0 1) 6148914691236517205))) 3689348814741910323) + (xandL (xushrL (xw64 (a0 - (xandL (xushrL a0 1) 6148914691236517205))) 2) 3689348814741910323))) + (xushrL (xw64 ((xandL (xw64 (a0 - (xandL (xushrL a0 1) 6148914691236517205))) 3689348814741910323) + (xandL (xushrL (xw64 (a0 - (xandL (xushrL a0 1) 6148914691236517205))) 2) 3689348814741910323))) 4))) 1085102592571150095) + (xushrL (xandL (xw64 ((xw64 ((xandL (xw64 (a0 - (xandL (xushrL a0 1) 6148914691236517205))) 3689348814741910323) + (xandL (xushrL (xw64 (a0 - (xandL (xushrL a0 1) 6148914691236517205))) 2) 3689348814741910323))) + (xushrL (xw64 ((xandL (xw64 (a0 - (xandL (xushrL a0 1) 6148914691236517205))) 3689348814741910323) + (xandL (xushrL (xw64 (a0 - (xandL (xushrL a0 1) 6148914691236517205))) 2) 3689348814741910323))) 4))) 1085102592571150095) 8))) 16))) 32)))) 127)
theorem hJL_bitCount (a0 : Int) (M : xM) (r : Int) (h : fJL_bitCount a0 M = r) : xEv (298, 0, [some (1, a0), none], [], M) (some (0, r), M) := by
  unfold fJL_bitCount at h
  refine xEvG_n xml xfetch 48 (y := (298, 60, [some (1, (xw64 ((xw64 ((xw64 ((xandL (xw64 ((xw64 ((xandL (xw64 (a0 - (xandL (xushrL a0 1) 6148914691236517205))) 3689348814741910323) + (xandL (xushrL (xw64 (a0 - (xandL (xushrL a0 1) 6148914691236517205))) 2) 3689348814741910323))) + (xushrL (xw64 ((xandL (xw64 (a0 - (xandL (xushrL a0 1) 6148914691236517205))) 3689348814741910323) + (xandL (xushrL (xw64 (a0 - (xandL (xushrL a0 1) 6148914691236517205))) 2) 3689348814741910323))) 4))) 1085102592571150095) + (xushrL (xandL (xw64 ((xw64 ((xandL (xw64 (a0 - (xandL (xushrL a0 1) 6148914691236517205))) 3689348814741910323) + (xandL (xushrL (xw64 (a0 - (xandL (xushrL a0 1) 6148914691236517205))) 2) 3689348814741910323))) + (xushrL (xw64 ((xandL (xw64 (a0 - (xandL (xushrL a0 1) 6148914691236517205))) 3689348814741910323) + (xandL (xushrL (xw64 (a0 - (xandL (xushrL a0 1) 6148914691236517205))) 2) 3689348814741910323))) 4))) 1085102592571150095) 8))) + (xushrL (xw64 ((xandL (xw64 ((xw64 ((xandL (xw64 (a0 - (xandL (xushrL a0 1) 6148914691236517205))) 3689348814741910323) + (xandL (xushrL (xw64 (a0 - (xandL (xushrL a0 1) 6148914691236517205))) 2) 3689348814741910323))) + (xushrL (xw64 ((xandL (xw64 (a0 - (xandL (xushrL a0 1) 6148914691236517205))) 3689348814741910323) + (xandL (xushrL (xw64 (a0 - (xandL (xushrL a0 1) 6148914691236517205))) 2) 3689348814741910323))) 4))) 1085102592571150095) + (xushrL (xandL (xw64 ((xw64 ((xandL (xw64 (a0 - (xandL (xushrL a0 1) 6148914691236517205))) 3689348814741910323) + (xandL (xushrL (xw64 (a0 - (xandL (xushrL a0 1) 6148914691236517205))) 2) 3689348814741910323))) + (xushrL (xw64 ((xandL (xw64 (a0 - (xandL (xushrL a0 1) 6148914691236517205))) 3689348814741910323) + (xandL (xushrL (xw64 (a0 - (xandL (xushrL a0 1) 6148914691236517205))) 2) 3689348814741910323))) 4))) 1085102592571150095) 8))) 16))) + (xushrL (xw64 ((xw64 ((xandL (xw64 ((xw64 ((xandL (xw64 (a0 - (xandL (xushrL a0 1) 6148914691236517205))) 3689348814741910323) + (xandL (xushrL (xw64 (a0 - (xandL (xushrL a0 1) 6148914691236517205))) 2) 3689348814741910323))) + (xushrL (xw64 ((xandL (xw64 (a0 - (xandL (xushrL a0 1) 6148914691236517205))) 3689348814741910323) + (xandL (xushrL (xw64 (a0 - (xandL (xushrL a0 1) 6148914691236517205))) 2) 3689348814741910323))) 4))) 1085102592571150095) + (xushrL (xandL (xw64 ((xw64 ((xandL (xw64 (a0 - (xandL (xushrL a0 1) 6148914691236517205))) 3689348814741910323) + (xandL (xushrL (xw64 (a0 - (xandL (xushrL a0 1) 6148914691236517205))) 2) 3689348814741910323))) + (xushrL (xw64 ((xandL (xw64 (a0 - (xandL (xushrL a0 1) 6148914691236517205))) 3689348814741910323) + (xandL (xushrL (xw64 (a0 - (xandL (xushrL a0 1) 6148914691236517205))) 2) 3689348814741910323))) 4))) 1085102592571150095) 8))) + (xushrL (xw64 ((xandL (xw64 ((xw64 ((xandL (xw64 (a0 - (xandL (xushrL a0 1) 6148914691236517205))) 3689348814741910323) + (xandL (xushrL (xw64 (a0 - (xandL (xushrL a0 1) 6148914691236517205))) 2) 3689348814741910323))) + (xushrL (xw64 ((xandL (xw64 (a0 - (xandL (xushrL a0 1) 6148914691236517205))) 3689348814741910323) + (xandL (xushrL (xw64 (a0 - (xandL (xushrL a0 1) 6148914691236517205))) 2) 3689348814741910323))) 4))) 1085102592571150095) + (xushrL (xandL (xw64 ((xw64 ((xandL (xw64 (a0 - (xandL (xushrL a0 1) 6148914691236517205))) 3689348814741910323) + (xandL (xushrL (xw64 (a0 - (xandL (xushrL a0 1) 6148914691236517205))) 2) 3689348814741910323))) + (xushrL (xw64 ((xandL (xw64 (a0 - (xandL (xushrL a0 1) 6148914691236517205))) 3689348814741910323) + (xandL (xushrL (xw64 (a0 - (xandL (xushrL a0 1) 6148914691236517205))) 2) 3689348814741910323))) 4))) 1085102592571150095) 8))) 16))) 32)))), none], [(0, (xand (xw32 (xw64 ((xw64 ((xw64 ((xandL (xw64 ((xw64 ((xandL (xw64 (a0 - (xandL (xushrL a0 1) 6148914691236517205))) 3689348814741910323) + (xandL (xushrL (xw64 (a0 - (xandL (xushrL a0 1) 6148914691236517205))) 2) 3689348814741910323))) + (xushrL (xw64 ((xandL (xw64 (a0 - (xandL (xushrL a0 1) 6148914691236517205))) 3689348814741910323) + (xandL (xushrL (xw64 (a0 - (xandL (xushrL a0 1) 6148914691236517205))) 2) 3689348814741910323))) 4))) 1085102592571150095) + (xushrL (xandL (xw64 ((xw64 ((xandL (xw64 (a0 - (xandL (xushrL a0 1) 6148914691236517205))) 3689348814741910323) + (xandL (xushrL (xw64 (a0 - (xandL (xushrL a0 1) 6148914691236517205))) 2) 3689348814741910323))) + (xushrL (xw64 ((xandL (xw64 (a0 - (xandL (xushrL a0 1) 6148914691236517205))) 3689348814741910323) + (xandL (xushrL (xw64 (a0 - (xandL (xushrL a0 1) 6148914691236517205))) 2) 3689348814741910323))) 4))) 1085102592571150095) 8))) + (xushrL (xw64 ((xandL (xw64 ((xw64 ((xandL (xw64 (a0 - (xandL (xushrL a0 1) 6148914691236517205))) 3689348814741910323) + (xandL (xushrL (xw64 (a0 - (xandL (xushrL a0 1) 6148914691236517205))) 2) 3689348814741910323))) + (xushrL (xw64 ((xandL (xw64 (a0 - (xandL (xushrL a0 1) 6148914691236517205))) 3689348814741910323) + (xandL (xushrL (xw64 (a0 - (xandL (xushrL a0 1) 6148914691236517205))) 2) 3689348814741910323))) 4))) 1085102592571150095) + (xushrL (xandL (xw64 ((xw64 ((xandL (xw64 (a0 - (xandL (xushrL a0 1) 6148914691236517205))) 3689348814741910323) + (xandL (xushrL (xw64 (a0 - (xandL (xushrL a0 1) 6148914691236517205))) 2) 3689348814741910323))) + (xushrL (xw64 ((xandL (xw64 (a0 - (xandL (xushrL a0 1) 6148914691236517205))) 3689348814741910323) + (xandL (xushrL (xw64 (a0 - (xandL (xushrL a0 1) 6148914691236517205))) 2) 3689348814741910323))) 4))) 1085102592571150095) 8))) 16))) + (xushrL (xw64 ((xw64 ((xandL (xw64 ((xw64 ((xandL (xw64 (a0 - (xandL (xushrL a0 1) 6148914691236517205))) 3689348814741910323) + (xandL (xushrL (xw64 (a0 - (xandL (xushrL a0 1) 6148914691236517205))) 2) 3689348814741910323))) + (xushrL (xw64 ((xandL (xw64 (a0 - (xandL (xushrL a0 1) 6148914691236517205))) 3689348814741910323) + (xandL (xushrL (xw64 (a0 - (xandL (xushrL a0 1) 6148914691236517205))) 2) 3689348814741910323))) 4))) 1085102592571150095) + (xushrL (xandL (xw64 ((xw64 ((xandL (xw64 (a0 - (xandL (xushrL a0 1) 6148914691236517205))) 3689348814741910323) + (xandL (xushrL (xw64 (a0 - (xandL (xushrL a0 1) 6148914691236517205))) 2) 3689348814741910323))) + (xushrL (xw64 ((xandL (xw64 (a0 - (xandL (xushrL a0 1) 6148914691236517205))) 3689348814741910323) + (xandL (xushrL (xw64 (a0 - (xandL (xushrL a0 1) 6148914691236517205))) 2) 3689348814741910323))) 4))) 1085102592571150095) 8))) + (xushrL (xw64 ((xandL (xw64 ((xw64 ((xandL (xw64 (a0 - (xandL (xushrL a0 1) 6148914691236517205))) 3689348814741910323) + (xandL (xushrL (xw64 (a0 - (xandL (xushrL a0 1) 6148914691236517205))) 2) 3689348814741910323))) + (xushrL (xw64 ((xandL (xw64 (a0 - (xandL (xushrL a0 1) 6148914691236517205))) 3689348814741910323) + (xandL (xushrL (xw64 (a0 - (xandL (xushrL a0 1) 6148914691236517205))) 2) 3689348814741910323))) 4))) 1085102592571150095) + (xushrL (xandL (xw64 ((xw64 ((xandL (xw64 (a0 - (xandL (xushrL a0 1) 6148914691236517205))) 3689348814741910323) + (xandL (xushrL (xw64 (a0 - (xandL (xushrL a0 1) 6148914691236517205))) 2) 3689348814741910323))) + (xushrL (xw64 ((xandL (xw64 (a0 - (xandL (xushrL a0 1) 6148914691236517205))) 3689348814741910323) + (xandL (xushrL (xw64 (a0 - (xandL (xushrL a0 1) 6148914691236517205))) 2) 3689348814741910323))) 4))) 1085102592571150095) 8))) 16))) 32)))) 127))], M)) rfl trivial ?_
  subst h
  exact xEvG_ret xml xfetch rfl

def fSets_size_L4 : Nat → Int → Int → Int → xM → Option Int
  | 0, _, _, _, _ => none
  | g + 1, x0, x1, x2, M => if x2 < 8 then (xA (0 ≤ x2 ∧ x2 < 8) ((fSets_size_L4 g) x0 (xw32 (x1 + (fJL_bitCount (M (x0 + 1) x2) M))) (xw32 (x2 + 1)) M)) else (some x1)
theorem hSets_size_L4 : ∀ (g : Nat) (x0 x1 x2 : Int) (M : xM) (r : Int) (h : fSets_size_L4 g x0 x1 x2 M = some r), xEv (281, 4, [some (10, x0), some (0, x1), some (0, x2)], [], M) (some (0, r), M)
  | 0, _, _, _, _, _, h => by cases h
  | g + 1, x0, x1, x2, M, r, h => by
    unfold fSets_size_L4 at h
    refine xEvG_n xml xfetch 3 (y := (281, if x2 < 8 then 10 else 28, [some (10, x0), some (0, x1), some (0, x2)], [], M)) rfl trivial ?_
    refine xEvG_br xml xfetch (fun c_ => ?_) (fun c_ => ?_)
    · have h := xif_t c_ h
      have a0_ := (xA_t h).1
      have h := (xA_t h).2
      refine xEvG_n xml xfetch 5 (y := (281, 17, [some (10, x0), some (0, x1), some (0, x2)], [(1, (M (x0 + 1) x2)), (0, x1)], M)) rfl ⟨a0_, trivial⟩ ?_
      refine xEvG_call xml xfetch (q := (some (0, fJL_bitCount (M (x0 + 1) x2) M), M)) rfl (hJL_bitCount (M (x0 + 1) x2) M _ rfl) ?_
      show xEv (281, 20, [some (10, x0), some (0, x1), some (0, x2)], [(0, (fJL_bitCount (M (x0 + 1) x2) M)), (0, x1)], M) _
      refine xEvG_n xml xfetch 4 (y := (281, 4, [some (10, x0), some (0, (xw32 (x1 + (fJL_bitCount (M (x0 + 1) x2) M)))), some (0, (xw32 (x2 + 1)))], [], M)) rfl trivial ?_
      refine xEvG_mask xml xfetch [true, true, true] ?_
      exact (hSets_size_L4 g) x0 (xw32 (x1 + (fJL_bitCount (M (x0 + 1) x2) M))) (xw32 (x2 + 1)) M _ h
    · have h := xif_f c_ h
      refine xEvG_n xml xfetch 1 (y := (281, 29, [some (10, x0), some (0, x1), some (0, x2)], [(0, x1)], M)) rfl trivial ?_
      cases h
      exact xEvG_ret xml xfetch rfl
/-- ConsentDoors$Sets.size()I -/
def fSets_size (a0 : Int) (M : xM) : Option Int := fSets_size_L4 20001 a0 0 0 M
theorem hSets_size (a0 : Int) (M : xM) (r : Int) (h : fSets_size a0 M = some r) : xEv (281, 0, [some (10, a0), none, none], [], M) (some (0, r), M) := by
  unfold fSets_size at h
  refine xEvG_n xml xfetch 4 (y := (281, 4, [some (10, a0), some (0, 0), some (0, 0)], [], M)) rfl trivial ?_
  refine xEvG_mask xml xfetch [true, true, true] ?_
  exact hSets_size_L4 20001 a0 0 0 M _ h

/-- ConsentDoors.sets(I)I -/
def fD_sets (a0 a1 : Int) (M : xM) : Option Int := if (fPrison_hasHour (a0 + 15) a1 M) = 0 then (some (-2)) else (xA (0 ≤ (xw32 (a1 + 1)) ∧ (xw32 (a1 + 1)) < 25) (xB (fSets_size (((a0 + 37) + 7) + 2 + 4 * (xw32 (a1 + 1))) M) (fun v2 => some v2)))
theorem hD_sets (a0 a1 : Int) (M : xM) (r : Int) (h : fD_sets a0 a1 M = some r) : xEv (24, 0, [some (2, a0), some (0, a1)], [], M) (some (0, r), M) := by
  unfold fD_sets at h
  refine xEvG_n xml xfetch 3 (y := (24, 5, [some (2, a0), some (0, a1)], [(0, a1), (8, (a0 + 15))], M)) rfl trivial ?_
  refine xEvG_call xml xfetch (q := (some (0, fPrison_hasHour (a0 + 15) a1 M), M)) rfl (hPrison_hasHour (a0 + 15) a1 M _ rfl) ?_
  show xEv (24, 8, [some (2, a0), some (0, a1)], [(0, (fPrison_hasHour (a0 + 15) a1 M))], M) _
  refine xEvG_n xml xfetch 1 (y := (24, if (fPrison_hasHour (a0 + 15) a1 M) = 0 then 28 else 11, [some (2, a0), some (0, a1)], [], M)) rfl trivial ?_
  refine xEvG_br xml xfetch (fun c_ => ?_) (fun c_ => ?_)
  · have h := xif_t c_ h
    refine xEvG_n xml xfetch 1 (y := (24, 30, [some (2, a0), some (0, a1)], [(0, (-2))], M)) rfl trivial ?_
    cases h
    exact xEvG_ret xml xfetch rfl
  · have h := xif_f c_ h
    have a0_ := (xA_t h).1
    have h := (xA_t h).2
    refine xEvG_n xml xfetch 7 (y := (24, 22, [some (2, a0), some (0, a1)], [(10, (((a0 + 37) + 7) + 2 + 4 * (xw32 (a1 + 1))))], M)) rfl ⟨a0_, trivial⟩ ?_
    obtain ⟨v2, e_, h⟩ := xB_t h
    refine xEvG_call xml xfetch (q := (some (0, v2), M)) rfl (hSets_size (((a0 + 37) + 7) + 2 + 4 * (xw32 (a1 + 1))) M _ e_) ?_
    show xEv (24, 25, [some (2, a0), some (0, a1)], [(0, v2)], M) _
    refine xEvG_n xml xfetch 1 (y := (24, 30, [some (2, a0), some (0, a1)], [(0, v2)], M)) rfl trivial ?_
    cases h
    exact xEvG_ret xml xfetch rfl

def fD_together_L32 : Nat → Int → Int → Int → xM → Option Int
  | 0, _, _, _, _ => none
  | g + 1, x0, x1, x2, M => if x2 < (M (x0 + 15) 1) then (xA (0 ≤ (xw32 (x2 + 1)) ∧ (xw32 (x2 + 1)) < 25) (xB (fSets_largestWith (((x0 + 37) + 7) + 2 + 4 * (xw32 (x2 + 1))) x1 M) (fun v2 => if v2 = (-1) then ((fD_together_L32 g) x0 x1 (xw32 (x2 + 1)) M) else (some x2)))) else (some (-1))
theorem hD_together_L32 : ∀ (g : Nat) (x0 x1 x2 : Int) (M : xM) (r : Int) (h : fD_together_L32 g x0 x1 x2 M = some r), xEv (25, 32, [some (2, x0), some (0, x1), some (0, x2)], [], M) (some (0, r), M)
  | 0, _, _, _, _, _, h => by cases h
  | g + 1, x0, x1, x2, M, r, h => by
    unfold fD_together_L32 at h
    refine xEvG_n xml xfetch 5 (y := (25, if x2 < (M (x0 + 15) 1) then 43 else 70, [some (2, x0), some (0, x1), some (0, x2)], [], M)) rfl trivial ?_
    refine xEvG_br xml xfetch (fun c_ => ?_) (fun c_ => ?_)
    · have h := xif_t c_ h
      have a0_ := (xA_t h).1
      have h := (xA_t h).2
      refine xEvG_n xml xfetch 8 (y := (25, 55, [some (2, x0), some (0, x1), some (0, x2)], [(0, x1), (10, (((x0 + 37) + 7) + 2 + 4 * (xw32 (x2 + 1))))], M)) rfl ⟨a0_, trivial⟩ ?_
      obtain ⟨v2, e_, h⟩ := xB_t h
      refine xEvG_call xml xfetch (q := (some (0, v2), M)) rfl (hSets_largestWith (((x0 + 37) + 7) + 2 + 4 * (xw32 (x2 + 1))) x1 M _ e_) ?_
      show xEv (25, 58, [some (2, x0), some (0, x1), some (0, x2)], [(0, v2)], M) _
      refine xEvG_n xml xfetch 2 (y := (25, if v2 = (-1) then 64 else 62, [some (2, x0), some (0, x1), some (0, x2)], [], M)) rfl trivial ?_
      refine xEvG_br xml xfetch (fun c_ => ?_) (fun c_ => ?_)
      · have h := xif_t c_ h
        refine xEvG_n xml xfetch 2 (y := (25, 32, [some (2, x0), some (0, x1), some (0, (xw32 (x2 + 1)))], [], M)) rfl trivial ?_
        refine xEvG_mask xml xfetch [true, true, true] ?_
        exact (hD_together_L32 g) x0 x1 (xw32 (x2 + 1)) M _ h
      · have h := xif_f c_ h
        refine xEvG_n xml xfetch 1 (y := (25, 63, [some (2, x0), some (0, x1), some (0, x2)], [(0, x2)], M)) rfl trivial ?_
        cases h
        exact xEvG_ret xml xfetch rfl
    · have h := xif_f c_ h
      refine xEvG_n xml xfetch 1 (y := (25, 71, [some (2, x0), some (0, x1), some (0, x2)], [(0, (-1))], M)) rfl trivial ?_
      cases h
      exact xEvG_ret xml xfetch rfl
/-- ConsentDoors.together(I)I -/
def fD_together (a0 a1 : Int) (M : xM) : Option Int := if (fPrison_stands (a0 + 15) M) = 0 then (some (-2)) else (if a1 < 0 then (some (-2)) else (if a1 < (xshl 1 (M (a0 + 15) 0)) then (fD_together_L32 20001 a0 a1 0 M) else (some (-2))))
theorem hD_together (a0 a1 : Int) (M : xM) (r : Int) (h : fD_together a0 a1 M = some r) : xEv (25, 0, [some (2, a0), some (0, a1), none], [], M) (some (0, r), M) := by
  unfold fD_together at h
  refine xEvG_n xml xfetch 2 (y := (25, 4, [some (2, a0), some (0, a1), none], [(8, (a0 + 15))], M)) rfl trivial ?_
  refine xEvG_call xml xfetch (q := (some (0, fPrison_stands (a0 + 15) M), M)) rfl (hPrison_stands (a0 + 15) M _ rfl) ?_
  show xEv (25, 7, [some (2, a0), some (0, a1), none], [(0, (fPrison_stands (a0 + 15) M))], M) _
  refine xEvG_n xml xfetch 1 (y := (25, if (fPrison_stands (a0 + 15) M) = 0 then 27 else 10, [some (2, a0), some (0, a1), none], [], M)) rfl trivial ?_
  refine xEvG_br xml xfetch (fun c_ => ?_) (fun c_ => ?_)
  · have h := xif_t c_ h
    refine xEvG_n xml xfetch 1 (y := (25, 29, [some (2, a0), some (0, a1), none], [(0, (-2))], M)) rfl trivial ?_
    cases h
    exact xEvG_ret xml xfetch rfl
  · have h := xif_f c_ h
    refine xEvG_n xml xfetch 2 (y := (25, if a1 < 0 then 27 else 14, [some (2, a0), some (0, a1), none], [], M)) rfl trivial ?_
    refine xEvG_br xml xfetch (fun c_ => ?_) (fun c_ => ?_)
    · have h := xif_t c_ h
      refine xEvG_n xml xfetch 1 (y := (25, 29, [some (2, a0), some (0, a1), none], [(0, (-2))], M)) rfl trivial ?_
      cases h
      exact xEvG_ret xml xfetch rfl
    · have h := xif_f c_ h
      refine xEvG_n xml xfetch 7 (y := (25, if a1 < (xshl 1 (M (a0 + 15) 0)) then 30 else 27, [some (2, a0), some (0, a1), none], [], M)) rfl trivial ?_
      refine xEvG_br xml xfetch (fun c_ => ?_) (fun c_ => ?_)
      · have h := xif_t c_ h
        refine xEvG_n xml xfetch 2 (y := (25, 32, [some (2, a0), some (0, a1), some (0, 0)], [], M)) rfl trivial ?_
        refine xEvG_mask xml xfetch [true, true, true] ?_
        exact hD_together_L32 20001 a0 a1 0 M _ h
      · have h := xif_f c_ h
        refine xEvG_n xml xfetch 1 (y := (25, 29, [some (2, a0), some (0, a1), none], [(0, (-2))], M)) rfl trivial ?_
        cases h
        exact xEvG_ret xml xfetch rfl

def fD_locked_L17 : Nat → Int → Int → Int → xM → Option Int
  | 0, _, _, _, _ => none
  | g + 1, x0, x1, x2, M => if x2 < (M (x0 + 15) 0) then (xB (fOutlook_atLast (x0 + 37) M) (fun v2 => xB (fSets_largestWith v2 (xshl 1 x2) M) (fun v3 => if v3 = (-1) then ((fD_locked_L17 g) x0 (xor32 x1 (xshl 1 x2)) (xw32 (x2 + 1)) M) else ((fD_locked_L17 g) x0 x1 (xw32 (x2 + 1)) M)))) else (some x1)
theorem hD_locked_L17 : ∀ (g : Nat) (x0 x1 x2 : Int) (M : xM) (r : Int) (h : fD_locked_L17 g x0 x1 x2 M = some r), xEv (26, 17, [some (2, x0), some (0, x1), some (0, x2)], [], M) (some (0, r), M)
  | 0, _, _, _, _, _, h => by cases h
  | g + 1, x0, x1, x2, M, r, h => by
    unfold fD_locked_L17 at h
    refine xEvG_n xml xfetch 5 (y := (26, if x2 < (M (x0 + 15) 0) then 28 else 57, [some (2, x0), some (0, x1), some (0, x2)], [], M)) rfl trivial ?_
    refine xEvG_br xml xfetch (fun c_ => ?_) (fun c_ => ?_)
    · have h := xif_t c_ h
      refine xEvG_n xml xfetch 2 (y := (26, 32, [some (2, x0), some (0, x1), some (0, x2)], [(7, (x0 + 37))], M)) rfl trivial ?_
      obtain ⟨v2, e_, h⟩ := xB_t h
      refine xEvG_call xml xfetch (q := (some (10, v2), M)) rfl (hOutlook_atLast (x0 + 37) M _ e_) ?_
      show xEv (26, 35, [some (2, x0), some (0, x1), some (0, x2)], [(10, v2)], M) _
      refine xEvG_n xml xfetch 3 (y := (26, 38, [some (2, x0), some (0, x1), some (0, x2)], [(0, (xshl 1 x2)), (10, v2)], M)) rfl trivial ?_
      obtain ⟨v3, e_, h⟩ := xB_t h
      refine xEvG_call xml xfetch (q := (some (0, v3), M)) rfl (hSets_largestWith v2 (xshl 1 x2) M _ e_) ?_
      show xEv (26, 41, [some (2, x0), some (0, x1), some (0, x2)], [(0, v3)], M) _
      refine xEvG_n xml xfetch 2 (y := (26, if v3 = (-1) then 45 else 51, [some (2, x0), some (0, x1), some (0, x2)], [], M)) rfl trivial ?_
      refine xEvG_br xml xfetch (fun c_ => ?_) (fun c_ => ?_)
      · have h := xif_t c_ h
        refine xEvG_n xml xfetch 8 (y := (26, 17, [some (2, x0), some (0, (xor32 x1 (xshl 1 x2))), some (0, (xw32 (x2 + 1)))], [], M)) rfl trivial ?_
        refine xEvG_mask xml xfetch [true, true, true] ?_
        exact (hD_locked_L17 g) x0 (xor32 x1 (xshl 1 x2)) (xw32 (x2 + 1)) M _ h
      · have h := xif_f c_ h
        refine xEvG_n xml xfetch 2 (y := (26, 17, [some (2, x0), some (0, x1), some (0, (xw32 (x2 + 1)))], [], M)) rfl trivial ?_
        refine xEvG_mask xml xfetch [true, true, true] ?_
        exact (hD_locked_L17 g) x0 x1 (xw32 (x2 + 1)) M _ h
    · have h := xif_f c_ h
      refine xEvG_n xml xfetch 1 (y := (26, 58, [some (2, x0), some (0, x1), some (0, x2)], [(0, x1)], M)) rfl trivial ?_
      cases h
      exact xEvG_ret xml xfetch rfl
/-- ConsentDoors.locked()I -/
def fD_locked (a0 : Int) (M : xM) : Option Int := if (fPrison_stands (a0 + 15) M) = 0 then (some (-2)) else (fD_locked_L17 20001 a0 0 0 M)
theorem hD_locked (a0 : Int) (M : xM) (r : Int) (h : fD_locked a0 M = some r) : xEv (26, 0, [some (2, a0), none, none], [], M) (some (0, r), M) := by
  unfold fD_locked at h
  refine xEvG_n xml xfetch 2 (y := (26, 4, [some (2, a0), none, none], [(8, (a0 + 15))], M)) rfl trivial ?_
  refine xEvG_call xml xfetch (q := (some (0, fPrison_stands (a0 + 15) M), M)) rfl (hPrison_stands (a0 + 15) M _ rfl) ?_
  show xEv (26, 7, [some (2, a0), none, none], [(0, (fPrison_stands (a0 + 15) M))], M) _
  refine xEvG_n xml xfetch 1 (y := (26, if (fPrison_stands (a0 + 15) M) = 0 then 10 else 13, [some (2, a0), none, none], [], M)) rfl trivial ?_
  refine xEvG_br xml xfetch (fun c_ => ?_) (fun c_ => ?_)
  · have h := xif_t c_ h
    refine xEvG_n xml xfetch 1 (y := (26, 12, [some (2, a0), none, none], [(0, (-2))], M)) rfl trivial ?_
    cases h
    exact xEvG_ret xml xfetch rfl
  · have h := xif_f c_ h
    refine xEvG_n xml xfetch 4 (y := (26, 17, [some (2, a0), some (0, 0), some (0, 0)], [], M)) rfl trivial ?_
    refine xEvG_mask xml xfetch [true, true, true] ?_
    exact hD_locked_L17 20001 a0 0 0 M _ h

/-- ConsentDoors.others(I)I -/
def fD_others (a0 a1 : Int) (M : xM) : Option Int := if (fPrison_hasCell (a0 + 15) a1 M) = 0 then (some (-2)) else (xB (fOutlook_atLast (a0 + 37) M) (fun v2 => xB (fSets_largestWith v2 (xshl 1 a1) M) (fun v3 => some (if v3 = (-1) then (-1) else (xw32 (v3 - 1)) : Int))))
theorem hD_others (a0 a1 : Int) (M : xM) (r : Int) (h : fD_others a0 a1 M = some r) : xEv (27, 0, [some (2, a0), some (0, a1), none], [], M) (some (0, r), M) := by
  unfold fD_others at h
  refine xEvG_n xml xfetch 3 (y := (27, 5, [some (2, a0), some (0, a1), none], [(0, a1), (8, (a0 + 15))], M)) rfl trivial ?_
  refine xEvG_call xml xfetch (q := (some (0, fPrison_hasCell (a0 + 15) a1 M), M)) rfl (hPrison_hasCell (a0 + 15) a1 M _ rfl) ?_
  show xEv (27, 8, [some (2, a0), some (0, a1), none], [(0, (fPrison_hasCell (a0 + 15) a1 M))], M) _
  refine xEvG_n xml xfetch 1 (y := (27, if (fPrison_hasCell (a0 + 15) a1 M) = 0 then 11 else 14, [some (2, a0), some (0, a1), none], [], M)) rfl trivial ?_
  refine xEvG_br xml xfetch (fun c_ => ?_) (fun c_ => ?_)
  · have h := xif_t c_ h
    refine xEvG_n xml xfetch 1 (y := (27, 13, [some (2, a0), some (0, a1), none], [(0, (-2))], M)) rfl trivial ?_
    cases h
    exact xEvG_ret xml xfetch rfl
  · have h := xif_f c_ h
    refine xEvG_n xml xfetch 2 (y := (27, 18, [some (2, a0), some (0, a1), none], [(7, (a0 + 37))], M)) rfl trivial ?_
    obtain ⟨v2, e_, h⟩ := xB_t h
    refine xEvG_call xml xfetch (q := (some (10, v2), M)) rfl (hOutlook_atLast (a0 + 37) M _ e_) ?_
    show xEv (27, 21, [some (2, a0), some (0, a1), none], [(10, v2)], M) _
    refine xEvG_n xml xfetch 3 (y := (27, 24, [some (2, a0), some (0, a1), none], [(0, (xshl 1 a1)), (10, v2)], M)) rfl trivial ?_
    obtain ⟨v3, e_, h⟩ := xB_t h
    refine xEvG_call xml xfetch (q := (some (0, v3), M)) rfl (hSets_largestWith v2 (xshl 1 a1) M _ e_) ?_
    show xEv (27, 27, [some (2, a0), some (0, a1), none], [(0, v3)], M) _
    refine xEvG_n xml xfetch 3 (y := (27, 30, [some (2, a0), some (0, a1), some (0, v3)], [(0, (-1)), (0, v3)], M)) rfl trivial ?_
    have key_ : xEv (27, 40, [some (2, a0), some (0, a1), some (0, v3)], [(0, (if v3 = (-1) then (-1) else (xw32 (v3 - 1)) : Int))], M) (some (0, r), M) := by
      cases h
      exact xEvG_ret xml xfetch rfl
    refine xEvG_n xml xfetch 1 (y := (27, if v3 = (-1) then 33 else 37, [some (2, a0), some (0, a1), some (0, v3)], [], M)) rfl trivial ?_
    refine xEvG_br xml xfetch (fun c4_ => ?_) (fun c4_ => ?_)
    · refine xEvG_n xml xfetch 2 (y := (27, 40, [some (2, a0), some (0, a1), some (0, v3)], [(0, (-1))], M)) rfl trivial ?_
      try simp only [if_pos c4_] at key_
      try simp only [if_pos c4_]
      exact key_
    · refine xEvG_n xml xfetch 3 (y := (27, 40, [some (2, a0), some (0, a1), some (0, v3)], [(0, (xw32 (v3 - 1)))], M)) rfl trivial ?_
      try simp only [if_neg c4_] at key_
      try simp only [if_neg c4_]
      exact key_

def fD_latest_L24 : Nat → Int → Int → Int → xM → Option Int
  | 0, _, _, _, _ => none
  | g + 1, x0, x1, x2, M => if x2 < 0 then (some (-1)) else (xA (0 ≤ x1 ∧ x1 < 9) (if (fD_bit (M (((x0 + 37) + 1) + 2) x1) x2 M) = 1 then (some x2) else ((fD_latest_L24 g) x0 x1 (xw32 (x2 + (-1))) M)))
theorem hD_latest_L24 : ∀ (g : Nat) (x0 x1 x2 : Int) (M : xM) (r : Int) (h : fD_latest_L24 g x0 x1 x2 M = some r), xEv (28, 24, [some (2, x0), some (0, x1), some (0, x2)], [], M) (some (0, r), M)
  | 0, _, _, _, _, _, h => by cases h
  | g + 1, x0, x1, x2, M, r, h => by
    unfold fD_latest_L24 at h
    refine xEvG_n xml xfetch 2 (y := (28, if x2 < 0 then 56 else 28, [some (2, x0), some (0, x1), some (0, x2)], [], M)) rfl trivial ?_
    refine xEvG_br xml xfetch (fun c_ => ?_) (fun c_ => ?_)
    · have h := xif_t c_ h
      refine xEvG_n xml xfetch 1 (y := (28, 57, [some (2, x0), some (0, x1), some (0, x2)], [(0, (-1))], M)) rfl trivial ?_
      cases h
      exact xEvG_ret xml xfetch rfl
    · have h := xif_f c_ h
      have a0_ := (xA_t h).1
      have h := (xA_t h).2
      refine xEvG_n xml xfetch 7 (y := (28, 41, [some (2, x0), some (0, x1), some (0, x2)], [(0, x2), (0, (M (((x0 + 37) + 1) + 2) x1))], M)) rfl ⟨a0_, trivial⟩ ?_
      refine xEvG_call xml xfetch (q := (some (0, fD_bit (M (((x0 + 37) + 1) + 2) x1) x2 M), M)) rfl (hD_bit (M (((x0 + 37) + 1) + 2) x1) x2 M _ rfl) ?_
      show xEv (28, 44, [some (2, x0), some (0, x1), some (0, x2)], [(0, (fD_bit (M (((x0 + 37) + 1) + 2) x1) x2 M))], M) _
      refine xEvG_n xml xfetch 2 (y := (28, if (fD_bit (M (((x0 + 37) + 1) + 2) x1) x2 M) = 1 then 48 else 50, [some (2, x0), some (0, x1), some (0, x2)], [], M)) rfl trivial ?_
      refine xEvG_br xml xfetch (fun c_ => ?_) (fun c_ => ?_)
      · have h := xif_t c_ h
        refine xEvG_n xml xfetch 1 (y := (28, 49, [some (2, x0), some (0, x1), some (0, x2)], [(0, x2)], M)) rfl trivial ?_
        cases h
        exact xEvG_ret xml xfetch rfl
      · have h := xif_f c_ h
        refine xEvG_n xml xfetch 2 (y := (28, 24, [some (2, x0), some (0, x1), some (0, (xw32 (x2 + (-1))))], [], M)) rfl trivial ?_
        refine xEvG_mask xml xfetch [true, true, true] ?_
        exact (hD_latest_L24 g) x0 x1 (xw32 (x2 + (-1))) M _ h
/-- ConsentDoors.latest(I)I -/
def fD_latest (a0 a1 : Int) (M : xM) : Option Int := if (fPrison_hasCell (a0 + 15) a1 M) = 0 then (some (-2)) else (fD_latest_L24 20001 a0 a1 (xw32 ((M (a0 + 15) 1) - 1)) M)
theorem hD_latest (a0 a1 : Int) (M : xM) (r : Int) (h : fD_latest a0 a1 M = some r) : xEv (28, 0, [some (2, a0), some (0, a1), none], [], M) (some (0, r), M) := by
  unfold fD_latest at h
  refine xEvG_n xml xfetch 3 (y := (28, 5, [some (2, a0), some (0, a1), none], [(0, a1), (8, (a0 + 15))], M)) rfl trivial ?_
  refine xEvG_call xml xfetch (q := (some (0, fPrison_hasCell (a0 + 15) a1 M), M)) rfl (hPrison_hasCell (a0 + 15) a1 M _ rfl) ?_
  show xEv (28, 8, [some (2, a0), some (0, a1), none], [(0, (fPrison_hasCell (a0 + 15) a1 M))], M) _
  refine xEvG_n xml xfetch 1 (y := (28, if (fPrison_hasCell (a0 + 15) a1 M) = 0 then 11 else 14, [some (2, a0), some (0, a1), none], [], M)) rfl trivial ?_
  refine xEvG_br xml xfetch (fun c_ => ?_) (fun c_ => ?_)
  · have h := xif_t c_ h
    refine xEvG_n xml xfetch 1 (y := (28, 13, [some (2, a0), some (0, a1), none], [(0, (-2))], M)) rfl trivial ?_
    cases h
    exact xEvG_ret xml xfetch rfl
  · have h := xif_f c_ h
    refine xEvG_n xml xfetch 6 (y := (28, 24, [some (2, a0), some (0, a1), some (0, (xw32 ((M (a0 + 15) 1) - 1)))], [], M)) rfl trivial ?_
    refine xEvG_mask xml xfetch [true, true, true] ?_
    exact hD_latest_L24 20001 a0 a1 (xw32 ((M (a0 + 15) 1) - 1)) M _ h

def fD_earliest_L16 : Nat → Int → Int → Int → xM → Option Int
  | 0, _, _, _, _ => none
  | g + 1, x0, x1, x2, M => if x2 < (M (x0 + 15) 1) then (xA (0 ≤ x1 ∧ x1 < 9) (if (fD_bit (M (((x0 + 37) + 1) + 2) x1) x2 M) = 1 then (some x2) else ((fD_earliest_L16 g) x0 x1 (xw32 (x2 + 1)) M))) else (some (-1))
theorem hD_earliest_L16 : ∀ (g : Nat) (x0 x1 x2 : Int) (M : xM) (r : Int) (h : fD_earliest_L16 g x0 x1 x2 M = some r), xEv (29, 16, [some (2, x0), some (0, x1), some (0, x2)], [], M) (some (0, r), M)
  | 0, _, _, _, _, _, h => by cases h
  | g + 1, x0, x1, x2, M, r, h => by
    unfold fD_earliest_L16 at h
    refine xEvG_n xml xfetch 5 (y := (29, if x2 < (M (x0 + 15) 1) then 27 else 55, [some (2, x0), some (0, x1), some (0, x2)], [], M)) rfl trivial ?_
    refine xEvG_br xml xfetch (fun c_ => ?_) (fun c_ => ?_)
    · have h := xif_t c_ h
      have a0_ := (xA_t h).1
      have h := (xA_t h).2
      refine xEvG_n xml xfetch 7 (y := (29, 40, [some (2, x0), some (0, x1), some (0, x2)], [(0, x2), (0, (M (((x0 + 37) + 1) + 2) x1))], M)) rfl ⟨a0_, trivial⟩ ?_
      refine xEvG_call xml xfetch (q := (some (0, fD_bit (M (((x0 + 37) + 1) + 2) x1) x2 M), M)) rfl (hD_bit (M (((x0 + 37) + 1) + 2) x1) x2 M _ rfl) ?_
      show xEv (29, 43, [some (2, x0), some (0, x1), some (0, x2)], [(0, (fD_bit (M (((x0 + 37) + 1) + 2) x1) x2 M))], M) _
      refine xEvG_n xml xfetch 2 (y := (29, if (fD_bit (M (((x0 + 37) + 1) + 2) x1) x2 M) = 1 then 47 else 49, [some (2, x0), some (0, x1), some (0, x2)], [], M)) rfl trivial ?_
      refine xEvG_br xml xfetch (fun c_ => ?_) (fun c_ => ?_)
      · have h := xif_t c_ h
        refine xEvG_n xml xfetch 1 (y := (29, 48, [some (2, x0), some (0, x1), some (0, x2)], [(0, x2)], M)) rfl trivial ?_
        cases h
        exact xEvG_ret xml xfetch rfl
      · have h := xif_f c_ h
        refine xEvG_n xml xfetch 2 (y := (29, 16, [some (2, x0), some (0, x1), some (0, (xw32 (x2 + 1)))], [], M)) rfl trivial ?_
        refine xEvG_mask xml xfetch [true, true, true] ?_
        exact (hD_earliest_L16 g) x0 x1 (xw32 (x2 + 1)) M _ h
    · have h := xif_f c_ h
      refine xEvG_n xml xfetch 1 (y := (29, 56, [some (2, x0), some (0, x1), some (0, x2)], [(0, (-1))], M)) rfl trivial ?_
      cases h
      exact xEvG_ret xml xfetch rfl
/-- ConsentDoors.earliest(I)I -/
def fD_earliest (a0 a1 : Int) (M : xM) : Option Int := if (fPrison_hasCell (a0 + 15) a1 M) = 0 then (some (-2)) else (fD_earliest_L16 20001 a0 a1 0 M)
theorem hD_earliest (a0 a1 : Int) (M : xM) (r : Int) (h : fD_earliest a0 a1 M = some r) : xEv (29, 0, [some (2, a0), some (0, a1), none], [], M) (some (0, r), M) := by
  unfold fD_earliest at h
  refine xEvG_n xml xfetch 3 (y := (29, 5, [some (2, a0), some (0, a1), none], [(0, a1), (8, (a0 + 15))], M)) rfl trivial ?_
  refine xEvG_call xml xfetch (q := (some (0, fPrison_hasCell (a0 + 15) a1 M), M)) rfl (hPrison_hasCell (a0 + 15) a1 M _ rfl) ?_
  show xEv (29, 8, [some (2, a0), some (0, a1), none], [(0, (fPrison_hasCell (a0 + 15) a1 M))], M) _
  refine xEvG_n xml xfetch 1 (y := (29, if (fPrison_hasCell (a0 + 15) a1 M) = 0 then 11 else 14, [some (2, a0), some (0, a1), none], [], M)) rfl trivial ?_
  refine xEvG_br xml xfetch (fun c_ => ?_) (fun c_ => ?_)
  · have h := xif_t c_ h
    refine xEvG_n xml xfetch 1 (y := (29, 13, [some (2, a0), some (0, a1), none], [(0, (-2))], M)) rfl trivial ?_
    cases h
    exact xEvG_ret xml xfetch rfl
  · have h := xif_f c_ h
    refine xEvG_n xml xfetch 2 (y := (29, 16, [some (2, a0), some (0, a1), some (0, 0)], [], M)) rfl trivial ?_
    refine xEvG_mask xml xfetch [true, true, true] ?_
    exact hD_earliest_L16 20001 a0 a1 0 M _ h

def fD_astray_L22 : Nat → Int → Int → xM → Option (Int × xM)
  | 0, _, _, _ => none
  | g + 1, x0, x1, M => if x1 < (M (x0 + 15) 1) then (xA (0 ≤ (xw32 (x1 + 1)) ∧ (xw32 (x1 + 1)) < 25) (xA (0 ≤ x1 ∧ x1 < 24) (xB (fSets_has (((x0 + 37) + 8) + 3 + 4 * (xw32 (x1 + 1))) (M ((x0 + 255) + 2) x1) M) (fun v3 => if v3 = 0 then (some (x1, M)) else ((fD_astray_L22 g) x0 (xw32 (x1 + 1)) M))))) else (some ((-1), M))
theorem hD_astray_L22 : ∀ (g : Nat) (x0 x1 : Int) (M : xM) (r : Int × xM) (h : fD_astray_L22 g x0 x1 M = some r), xEv (30, 22, [some (2, x0), some (0, x1)], [], M) (some (0, r.1), r.2)
  | 0, _, _, _, _, h => by cases h
  | g + 1, x0, x1, M, r, h => by
    unfold fD_astray_L22 at h
    refine xEvG_n xml xfetch 5 (y := (30, if x1 < (M (x0 + 15) 1) then 33 else 67, [some (2, x0), some (0, x1)], [], M)) rfl trivial ?_
    refine xEvG_br xml xfetch (fun c_ => ?_) (fun c_ => ?_)
    · have h := xif_t c_ h
      have a0_ := (xA_t h).1
      have h := (xA_t h).2
      have a1_ := (xA_t h).1
      have h := (xA_t h).2
      refine xEvG_n xml xfetch 12 (y := (30, 53, [some (2, x0), some (0, x1)], [(0, (M ((x0 + 255) + 2) x1)), (10, (((x0 + 37) + 8) + 3 + 4 * (xw32 (x1 + 1))))], M)) rfl ⟨a0_, a1_, trivial⟩ ?_
      obtain ⟨v3, e_, h⟩ := xB_t h
      refine xEvG_call xml xfetch (q := (some (0, v3), M)) rfl (hSets_has (((x0 + 37) + 8) + 3 + 4 * (xw32 (x1 + 1))) (M ((x0 + 255) + 2) x1) M _ e_) ?_
      show xEv (30, 56, [some (2, x0), some (0, x1)], [(0, v3)], M) _
      refine xEvG_n xml xfetch 1 (y := (30, if v3 = 0 then 59 else 61, [some (2, x0), some (0, x1)], [], M)) rfl trivial ?_
      refine xEvG_br xml xfetch (fun c_ => ?_) (fun c_ => ?_)
      · have h := xif_t c_ h
        refine xEvG_n xml xfetch 1 (y := (30, 60, [some (2, x0), some (0, x1)], [(0, x1)], M)) rfl trivial ?_
        cases h
        exact xEvG_ret xml xfetch rfl
      · have h := xif_f c_ h
        refine xEvG_n xml xfetch 2 (y := (30, 22, [some (2, x0), some (0, (xw32 (x1 + 1)))], [], M)) rfl trivial ?_
        refine xEvG_mask xml xfetch [true, true] ?_
        exact (hD_astray_L22 g) x0 (xw32 (x1 + 1)) M _ h
    · have h := xif_f c_ h
      refine xEvG_n xml xfetch 1 (y := (30, 68, [some (2, x0), some (0, x1)], [(0, (-1))], M)) rfl trivial ?_
      cases h
      exact xEvG_ret xml xfetch rfl
/-- ConsentDoors.astray()I -/
def fD_astray (a0 : Int) (M : xM) : Option (Int × xM) := if (fPrison_stands (a0 + 15) M) = 0 then (some ((-2), M)) else (xB (fOutlook_aimAtMost (a0 + 37) M) (fun m2 => fD_astray_L22 20001 a0 0 m2))
theorem hD_astray (a0 : Int) (M : xM) (r : Int × xM) (h : fD_astray a0 M = some r) : xEv (30, 0, [some (2, a0), none], [], M) (some (0, r.1), r.2) := by
  unfold fD_astray at h
  refine xEvG_n xml xfetch 2 (y := (30, 4, [some (2, a0), none], [(8, (a0 + 15))], M)) rfl trivial ?_
  refine xEvG_call xml xfetch (q := (some (0, fPrison_stands (a0 + 15) M), M)) rfl (hPrison_stands (a0 + 15) M _ rfl) ?_
  show xEv (30, 7, [some (2, a0), none], [(0, (fPrison_stands (a0 + 15) M))], M) _
  refine xEvG_n xml xfetch 1 (y := (30, if (fPrison_stands (a0 + 15) M) = 0 then 10 else 13, [some (2, a0), none], [], M)) rfl trivial ?_
  refine xEvG_br xml xfetch (fun c_ => ?_) (fun c_ => ?_)
  · have h := xif_t c_ h
    refine xEvG_n xml xfetch 1 (y := (30, 12, [some (2, a0), none], [(0, (-2))], M)) rfl trivial ?_
    cases h
    exact xEvG_ret xml xfetch rfl
  · have h := xif_f c_ h
    refine xEvG_n xml xfetch 2 (y := (30, 17, [some (2, a0), none], [(7, (a0 + 37))], M)) rfl trivial ?_
    obtain ⟨m2, e_, h⟩ := xB_t h
    refine xEvG_call xml xfetch (q := (none, m2)) rfl (hOutlook_aimAtMost (a0 + 37) M _ e_) ?_
    show xEv (30, 20, [some (2, a0), none], [], m2) _
    refine xEvG_n xml xfetch 2 (y := (30, 22, [some (2, a0), some (0, 0)], [], m2)) rfl trivial ?_
    refine xEvG_mask xml xfetch [true, true] ?_
    exact hD_astray_L22 20001 a0 0 m2 _ h

def fPrison_price_L6 : Nat → Int → Int → Int → Int → Int → Int → xM → Option Int
  | 0, _, _, _, _, _, _, _ => none
  | g + 1, x0, x1, x2, x3, x4, x5, M => if 1 < x5 then (some x4) else (xB (fPrison_refusal x0 x1 x5 x2 0 M) (fun v1 => if v1 = 7 then (if x3 = 0 then (xA (0 ≤ (fPrison_neighbour x0 x1 x5 M) ∧ (fPrison_neighbour x0 x1 x5 M) < 9) (xB (fPrison_liking x0 (xw32 ((xw32 ((xw32 (2 * (fPrison_neighbour x0 x1 x5 M))) + 1)) - x5)) x2 M) (fun v3 => (fPrison_price_L6 g) x0 x1 x2 x3 (xw32 (x4 + (xw32 ((M (x0 + 3) (fPrison_neighbour x0 x1 x5 M)) - v3)))) (xw32 (x5 + 1)) M))) else ((fPrison_price_L6 g) x0 x1 x2 x3 (xw32 (x4 + 1)) (xw32 (x5 + 1)) M)) else (if 1 < v1 then (some (-1)) else ((fPrison_price_L6 g) x0 x1 x2 x3 x4 (xw32 (x5 + 1)) M))))
theorem hPrison_price_L6 : ∀ (g : Nat) (x0 x1 x2 x3 x4 x5 : Int) (M : xM) (r : Int) (h : fPrison_price_L6 g x0 x1 x2 x3 x4 x5 M = some r), xEv (259, 6, [some (8, x0), some (0, x1), some (0, x2), some (0, x3), some (0, x4), some (0, x5), none, none], [], M) (some (0, r), M)
  | 0, _, _, _, _, _, _, _, _, h => by cases h
  | g + 1, x0, x1, x2, x3, x4, x5, M, r, h => by
    unfold fPrison_price_L6 at h
    refine xEvG_n xml xfetch 3 (y := (259, if 1 < x5 then 91 else 12, [some (8, x0), some (0, x1), some (0, x2), some (0, x3), some (0, x4), some (0, x5), none, none], [], M)) rfl trivial ?_
    refine xEvG_br xml xfetch (fun c_ => ?_) (fun c_ => ?_)
    · have h := xif_t c_ h
      refine xEvG_n xml xfetch 1 (y := (259, 93, [some (8, x0), some (0, x1), some (0, x2), some (0, x3), some (0, x4), some (0, x5), none, none], [(0, x4)], M)) rfl trivial ?_
      cases h
      exact xEvG_ret xml xfetch rfl
    · have h := xif_f c_ h
      refine xEvG_n xml xfetch 5 (y := (259, 18, [some (8, x0), some (0, x1), some (0, x2), some (0, x3), some (0, x4), some (0, x5), none, none], [(0, 0), (0, x2), (0, x5), (0, x1), (8, x0)], M)) rfl trivial ?_
      obtain ⟨v1, e_, h⟩ := xB_t h
      refine xEvG_call xml xfetch (q := (some (0, v1), M)) rfl (hPrison_refusal x0 x1 x5 x2 0 M _ e_) ?_
      show xEv (259, 21, [some (8, x0), some (0, x1), some (0, x2), some (0, x3), some (0, x4), some (0, x5), none, none], [(0, v1)], M) _
      refine xEvG_n xml xfetch 4 (y := (259, if v1 = 7 then 30 else 77, [some (8, x0), some (0, x1), some (0, x2), some (0, x3), some (0, x4), some (0, x5), some (0, v1), none], [], M)) rfl trivial ?_
      refine xEvG_br xml xfetch (fun c_ => ?_) (fun c_ => ?_)
      · have h := xif_t c_ h
        refine xEvG_n xml xfetch 3 (y := (259, 34, [some (8, x0), some (0, x1), some (0, x2), some (0, x3), some (0, x4), some (0, x5), some (0, v1), none], [(0, x5), (0, x1), (8, x0)], M)) rfl trivial ?_
        refine xEvG_call xml xfetch (q := (some (0, fPrison_neighbour x0 x1 x5 M), M)) rfl (hPrison_neighbour x0 x1 x5 M _ rfl) ?_
        show xEv (259, 37, [some (8, x0), some (0, x1), some (0, x2), some (0, x3), some (0, x4), some (0, x5), some (0, v1), none], [(0, (fPrison_neighbour x0 x1 x5 M))], M) _
        refine xEvG_n xml xfetch 4 (y := (259, if x3 = 0 then 49 else 45, [some (8, x0), some (0, x1), some (0, x2), some (0, x3), some (0, x4), some (0, x5), some (0, v1), some (0, (fPrison_neighbour x0 x1 x5 M))], [(0, x4)], M)) rfl trivial ?_
        refine xEvG_br xml xfetch (fun c_ => ?_) (fun c_ => ?_)
        · have h := xif_t c_ h
          have a0_ := (xA_t h).1
          have h := (xA_t h).2
          refine xEvG_n xml xfetch 13 (y := (259, 67, [some (8, x0), some (0, x1), some (0, x2), some (0, x3), some (0, x4), some (0, x5), some (0, v1), some (0, (fPrison_neighbour x0 x1 x5 M))], [(0, x2), (0, (xw32 ((xw32 ((xw32 (2 * (fPrison_neighbour x0 x1 x5 M))) + 1)) - x5))), (8, x0), (0, (M (x0 + 3) (fPrison_neighbour x0 x1 x5 M))), (0, x4)], M)) rfl ⟨a0_, trivial⟩ ?_
          obtain ⟨v3, e_, h⟩ := xB_t h
          refine xEvG_call xml xfetch (q := (some (0, v3), M)) rfl (hPrison_liking x0 (xw32 ((xw32 ((xw32 (2 * (fPrison_neighbour x0 x1 x5 M))) + 1)) - x5)) x2 M _ e_) ?_
          show xEv (259, 70, [some (8, x0), some (0, x1), some (0, x2), some (0, x3), some (0, x4), some (0, x5), some (0, v1), some (0, (fPrison_neighbour x0 x1 x5 M))], [(0, v3), (0, (M (x0 + 3) (fPrison_neighbour x0 x1 x5 M))), (0, x4)], M) _
          refine xEvG_n xml xfetch 6 (y := (259, 6, [some (8, x0), some (0, x1), some (0, x2), some (0, x3), some (0, (xw32 (x4 + (xw32 ((M (x0 + 3) (fPrison_neighbour x0 x1 x5 M)) - v3))))), some (0, (xw32 (x5 + 1))), some (0, v1), some (0, (fPrison_neighbour x0 x1 x5 M))], [], M)) rfl trivial ?_
          refine xEvG_mask xml xfetch [true, true, true, true, true, true, false, false] ?_
          exact (hPrison_price_L6 g) x0 x1 x2 x3 (xw32 (x4 + (xw32 ((M (x0 + 3) (fPrison_neighbour x0 x1 x5 M)) - v3)))) (xw32 (x5 + 1)) M _ h
        · have h := xif_f c_ h
          refine xEvG_n xml xfetch 7 (y := (259, 6, [some (8, x0), some (0, x1), some (0, x2), some (0, x3), some (0, (xw32 (x4 + 1))), some (0, (xw32 (x5 + 1))), some (0, v1), some (0, (fPrison_neighbour x0 x1 x5 M))], [], M)) rfl trivial ?_
          refine xEvG_mask xml xfetch [true, true, true, true, true, true, false, false] ?_
          exact (hPrison_price_L6 g) x0 x1 x2 x3 (xw32 (x4 + 1)) (xw32 (x5 + 1)) M _ h
      · have h := xif_f c_ h
        refine xEvG_n xml xfetch 3 (y := (259, if 1 < v1 then 83 else 85, [some (8, x0), some (0, x1), some (0, x2), some (0, x3), some (0, x4), some (0, x5), some (0, v1), none], [], M)) rfl trivial ?_
        refine xEvG_br xml xfetch (fun c_ => ?_) (fun c_ => ?_)
        · have h := xif_t c_ h
          refine xEvG_n xml xfetch 1 (y := (259, 84, [some (8, x0), some (0, x1), some (0, x2), some (0, x3), some (0, x4), some (0, x5), some (0, v1), none], [(0, (-1))], M)) rfl trivial ?_
          cases h
          exact xEvG_ret xml xfetch rfl
        · have h := xif_f c_ h
          refine xEvG_n xml xfetch 2 (y := (259, 6, [some (8, x0), some (0, x1), some (0, x2), some (0, x3), some (0, x4), some (0, (xw32 (x5 + 1))), some (0, v1), none], [], M)) rfl trivial ?_
          refine xEvG_mask xml xfetch [true, true, true, true, true, true, false, false] ?_
          exact (hPrison_price_L6 g) x0 x1 x2 x3 x4 (xw32 (x5 + 1)) M _ h
/-- ConsentDoors$Prison.price(IIZ)I -/
def fPrison_price (a0 a1 a2 a3 : Int) (M : xM) : Option Int := fPrison_price_L6 20001 a0 a1 a2 a3 0 0 M
theorem hPrison_price (a0 a1 a2 a3 : Int) (M : xM) (r : Int) (h : fPrison_price a0 a1 a2 a3 M = some r) : xEv (259, 0, [some (8, a0), some (0, a1), some (0, a2), some (0, a3), none, none, none, none], [], M) (some (0, r), M) := by
  unfold fPrison_price at h
  refine xEvG_n xml xfetch 4 (y := (259, 6, [some (8, a0), some (0, a1), some (0, a2), some (0, a3), some (0, 0), some (0, 0), none, none], [], M)) rfl trivial ?_
  refine xEvG_mask xml xfetch [true, true, true, true, true, true, false, false] ?_
  exact hPrison_price_L6 20001 a0 a1 a2 a3 0 0 M _ h

/-- ConsentDoors.flatter(II)I -/
def fD_flatter (a0 a1 a2 : Int) (M : xM) : Option Int := if (fPrison_hasCell (a0 + 15) a1 M) = 0 then (some (-2)) else (if (fPrison_hasHour (a0 + 15) a2 M) = 0 then (some (-2)) else (xB (fPrison_price (a0 + 15) a1 a2 0 M) (fun v3 => some v3)))
theorem hD_flatter (a0 a1 a2 : Int) (M : xM) (r : Int) (h : fD_flatter a0 a1 a2 M = some r) : xEv (31, 0, [some (2, a0), some (0, a1), some (0, a2)], [], M) (some (0, r), M) := by
  unfold fD_flatter at h
  refine xEvG_n xml xfetch 3 (y := (31, 5, [some (2, a0), some (0, a1), some (0, a2)], [(0, a1), (8, (a0 + 15))], M)) rfl trivial ?_
  refine xEvG_call xml xfetch (q := (some (0, fPrison_hasCell (a0 + 15) a1 M), M)) rfl (hPrison_hasCell (a0 + 15) a1 M _ rfl) ?_
  show xEv (31, 8, [some (2, a0), some (0, a1), some (0, a2)], [(0, (fPrison_hasCell (a0 + 15) a1 M))], M) _
  refine xEvG_n xml xfetch 1 (y := (31, if (fPrison_hasCell (a0 + 15) a1 M) = 0 then 22 else 11, [some (2, a0), some (0, a1), some (0, a2)], [], M)) rfl trivial ?_
  refine xEvG_br xml xfetch (fun c_ => ?_) (fun c_ => ?_)
  · have h := xif_t c_ h
    refine xEvG_n xml xfetch 1 (y := (31, 24, [some (2, a0), some (0, a1), some (0, a2)], [(0, (-2))], M)) rfl trivial ?_
    cases h
    exact xEvG_ret xml xfetch rfl
  · have h := xif_f c_ h
    refine xEvG_n xml xfetch 3 (y := (31, 16, [some (2, a0), some (0, a1), some (0, a2)], [(0, a2), (8, (a0 + 15))], M)) rfl trivial ?_
    refine xEvG_call xml xfetch (q := (some (0, fPrison_hasHour (a0 + 15) a2 M), M)) rfl (hPrison_hasHour (a0 + 15) a2 M _ rfl) ?_
    show xEv (31, 19, [some (2, a0), some (0, a1), some (0, a2)], [(0, (fPrison_hasHour (a0 + 15) a2 M))], M) _
    refine xEvG_n xml xfetch 1 (y := (31, if (fPrison_hasHour (a0 + 15) a2 M) = 0 then 22 else 25, [some (2, a0), some (0, a1), some (0, a2)], [], M)) rfl trivial ?_
    refine xEvG_br xml xfetch (fun c_ => ?_) (fun c_ => ?_)
    · have h := xif_t c_ h
      refine xEvG_n xml xfetch 1 (y := (31, 24, [some (2, a0), some (0, a1), some (0, a2)], [(0, (-2))], M)) rfl trivial ?_
      cases h
      exact xEvG_ret xml xfetch rfl
    · have h := xif_f c_ h
      refine xEvG_n xml xfetch 5 (y := (31, 32, [some (2, a0), some (0, a1), some (0, a2)], [(0, 0), (0, a2), (0, a1), (8, (a0 + 15))], M)) rfl trivial ?_
      obtain ⟨v3, e_, h⟩ := xB_t h
      refine xEvG_call xml xfetch (q := (some (0, v3), M)) rfl (hPrison_price (a0 + 15) a1 a2 0 M _ e_) ?_
      show xEv (31, 35, [some (2, a0), some (0, a1), some (0, a2)], [(0, v3)], M) _
      cases h
      exact xEvG_ret xml xfetch rfl

def fD_when_L21 : Nat → Int → Int → Int → Int → Int → xM → Option Int
  | 0, _, _, _, _, _, _ => none
  | g + 1, x0, x1, x2, x3, x4, M => if x4 < (M (x0 + 15) 1) then (xB (fPrison_price (x0 + 15) x1 x4 0 M) (fun v2 => if v2 = (-1) then ((fD_when_L21 g) x0 x1 x2 x3 (xw32 (x4 + 1)) M) else (if x3 = (-1) then ((fD_when_L21 g) x0 x1 v2 x4 (xw32 (x4 + 1)) M) else (if v2 < x2 then ((fD_when_L21 g) x0 x1 v2 x4 (xw32 (x4 + 1)) M) else ((fD_when_L21 g) x0 x1 x2 x3 (xw32 (x4 + 1)) M))))) else (some x3)
theorem hD_when_L21 : ∀ (g : Nat) (x0 x1 x2 x3 x4 : Int) (M : xM) (r : Int) (h : fD_when_L21 g x0 x1 x2 x3 x4 M = some r), xEv (32, 21, [some (2, x0), some (0, x1), some (0, x2), some (0, x3), some (0, x4), none], [], M) (some (0, r), M)
  | 0, _, _, _, _, _, _, _, h => by cases h
  | g + 1, x0, x1, x2, x3, x4, M, r, h => by
    unfold fD_when_L21 at h
    refine xEvG_n xml xfetch 5 (y := (32, if x4 < (M (x0 + 15) 1) then 33 else 75, [some (2, x0), some (0, x1), some (0, x2), some (0, x3), some (0, x4), none], [], M)) rfl trivial ?_
    refine xEvG_br xml xfetch (fun c_ => ?_) (fun c_ => ?_)
    · have h := xif_t c_ h
      refine xEvG_n xml xfetch 5 (y := (32, 41, [some (2, x0), some (0, x1), some (0, x2), some (0, x3), some (0, x4), none], [(0, 0), (0, x4), (0, x1), (8, (x0 + 15))], M)) rfl trivial ?_
      obtain ⟨v2, e_, h⟩ := xB_t h
      refine xEvG_call xml xfetch (q := (some (0, v2), M)) rfl (hPrison_price (x0 + 15) x1 x4 0 M _ e_) ?_
      show xEv (32, 44, [some (2, x0), some (0, x1), some (0, x2), some (0, x3), some (0, x4), none], [(0, v2)], M) _
      refine xEvG_n xml xfetch 4 (y := (32, if v2 = (-1) then 69 else 52, [some (2, x0), some (0, x1), some (0, x2), some (0, x3), some (0, x4), some (0, v2)], [], M)) rfl trivial ?_
      refine xEvG_br xml xfetch (fun c_ => ?_) (fun c_ => ?_)
      · have h := xif_t c_ h
        refine xEvG_n xml xfetch 2 (y := (32, 21, [some (2, x0), some (0, x1), some (0, x2), some (0, x3), some (0, (xw32 (x4 + 1))), some (0, v2)], [], M)) rfl trivial ?_
        refine xEvG_mask xml xfetch [true, true, true, true, true, false] ?_
        exact (hD_when_L21 g) x0 x1 x2 x3 (xw32 (x4 + 1)) M _ h
      · have h := xif_f c_ h
        refine xEvG_n xml xfetch 3 (y := (32, if x3 = (-1) then 63 else 57, [some (2, x0), some (0, x1), some (0, x2), some (0, x3), some (0, x4), some (0, v2)], [], M)) rfl trivial ?_
        refine xEvG_br xml xfetch (fun c_ => ?_) (fun c_ => ?_)
        · have h := xif_t c_ h
          refine xEvG_n xml xfetch 6 (y := (32, 21, [some (2, x0), some (0, x1), some (0, v2), some (0, x4), some (0, (xw32 (x4 + 1))), some (0, v2)], [], M)) rfl trivial ?_
          refine xEvG_mask xml xfetch [true, true, true, true, true, false] ?_
          exact (hD_when_L21 g) x0 x1 v2 x4 (xw32 (x4 + 1)) M _ h
        · have h := xif_f c_ h
          refine xEvG_n xml xfetch 3 (y := (32, if v2 < x2 then 63 else 69, [some (2, x0), some (0, x1), some (0, x2), some (0, x3), some (0, x4), some (0, v2)], [], M)) rfl trivial ?_
          refine xEvG_br xml xfetch (fun c_ => ?_) (fun c_ => ?_)
          · have h := xif_t c_ h
            refine xEvG_n xml xfetch 6 (y := (32, 21, [some (2, x0), some (0, x1), some (0, v2), some (0, x4), some (0, (xw32 (x4 + 1))), some (0, v2)], [], M)) rfl trivial ?_
            refine xEvG_mask xml xfetch [true, true, true, true, true, false] ?_
            exact (hD_when_L21 g) x0 x1 v2 x4 (xw32 (x4 + 1)) M _ h
          · have h := xif_f c_ h
            refine xEvG_n xml xfetch 2 (y := (32, 21, [some (2, x0), some (0, x1), some (0, x2), some (0, x3), some (0, (xw32 (x4 + 1))), some (0, v2)], [], M)) rfl trivial ?_
            refine xEvG_mask xml xfetch [true, true, true, true, true, false] ?_
            exact (hD_when_L21 g) x0 x1 x2 x3 (xw32 (x4 + 1)) M _ h
    · have h := xif_f c_ h
      refine xEvG_n xml xfetch 1 (y := (32, 76, [some (2, x0), some (0, x1), some (0, x2), some (0, x3), some (0, x4), none], [(0, x3)], M)) rfl trivial ?_
      cases h
      exact xEvG_ret xml xfetch rfl
/-- ConsentDoors.when(I)I -/
def fD_when (a0 a1 : Int) (M : xM) : Option Int := if (fPrison_hasCell (a0 + 15) a1 M) = 0 then (some (-2)) else (fD_when_L21 20001 a0 a1 (-1) (-1) 0 M)
theorem hD_when (a0 a1 : Int) (M : xM) (r : Int) (h : fD_when a0 a1 M = some r) : xEv (32, 0, [some (2, a0), some (0, a1), none, none, none, none], [], M) (some (0, r), M) := by
  unfold fD_when at h
  refine xEvG_n xml xfetch 3 (y := (32, 5, [some (2, a0), some (0, a1), none, none, none, none], [(0, a1), (8, (a0 + 15))], M)) rfl trivial ?_
  refine xEvG_call xml xfetch (q := (some (0, fPrison_hasCell (a0 + 15) a1 M), M)) rfl (hPrison_hasCell (a0 + 15) a1 M _ rfl) ?_
  show xEv (32, 8, [some (2, a0), some (0, a1), none, none, none, none], [(0, (fPrison_hasCell (a0 + 15) a1 M))], M) _
  refine xEvG_n xml xfetch 1 (y := (32, if (fPrison_hasCell (a0 + 15) a1 M) = 0 then 11 else 14, [some (2, a0), some (0, a1), none, none, none, none], [], M)) rfl trivial ?_
  refine xEvG_br xml xfetch (fun c_ => ?_) (fun c_ => ?_)
  · have h := xif_t c_ h
    refine xEvG_n xml xfetch 1 (y := (32, 13, [some (2, a0), some (0, a1), none, none, none, none], [(0, (-2))], M)) rfl trivial ?_
    cases h
    exact xEvG_ret xml xfetch rfl
  · have h := xif_f c_ h
    refine xEvG_n xml xfetch 6 (y := (32, 21, [some (2, a0), some (0, a1), some (0, (-1)), some (0, (-1)), some (0, 0), none], [], M)) rfl trivial ?_
    refine xEvG_mask xml xfetch [true, true, true, true, true, false] ?_
    exact hD_when_L21 20001 a0 a1 (-1) (-1) 0 M _ h

def fPrison_stretch_L8 : Nat → Int → Int → Int → Int → Int → xM → Option Int
  | 0, _, _, _, _, _, _ => none
  | g + 1, x0, x2, x3, x4, x5, M => if x5 < (M x0 0) then (if x4 = (-1) then (some x3) else (if x4 = x2 then ((fPrison_stretch_L8 g) x0 x2 (xor32 x3 (xshl 1 x4)) (-1) (xw32 (x5 + 1)) M) else ((fPrison_stretch_L8 g) x0 x2 (xor32 x3 (xshl 1 x4)) (fPrison_neighbour x0 x4 1 M) (xw32 (x5 + 1)) M))) else (some x3)
theorem hPrison_stretch_L8 : ∀ (g : Nat) (x0 x2 x3 x4 x5 : Int) (M : xM) (r : Int) (h : fPrison_stretch_L8 g x0 x2 x3 x4 x5 M = some r), xEv (251, 8, [some (8, x0), none, some (0, x2), some (0, x3), some (0, x4), some (0, x5)], [], M) (some (0, r), M)
  | 0, _, _, _, _, _, _, _, h => by cases h
  | g + 1, x0, x2, x3, x4, x5, M, r, h => by
    unfold fPrison_stretch_L8 at h
    refine xEvG_n xml xfetch 4 (y := (251, if x5 < (M x0 0) then 17 else 55, [some (8, x0), none, some (0, x2), some (0, x3), some (0, x4), some (0, x5)], [], M)) rfl trivial ?_
    refine xEvG_br xml xfetch (fun c_ => ?_) (fun c_ => ?_)
    · have h := xif_t c_ h
      refine xEvG_n xml xfetch 3 (y := (251, if x4 = (-1) then 55 else 23, [some (8, x0), none, some (0, x2), some (0, x3), some (0, x4), some (0, x5)], [], M)) rfl trivial ?_
      refine xEvG_br xml xfetch (fun c_ => ?_) (fun c_ => ?_)
      · have h := xif_t c_ h
        refine xEvG_n xml xfetch 1 (y := (251, 56, [some (8, x0), none, some (0, x2), some (0, x3), some (0, x4), some (0, x5)], [(0, x3)], M)) rfl trivial ?_
        cases h
        exact xEvG_ret xml xfetch rfl
      · have h := xif_f c_ h
        refine xEvG_n xml xfetch 9 (y := (251, if x4 = x2 then 36 else 40, [some (8, x0), none, some (0, x2), some (0, (xor32 x3 (xshl 1 x4))), some (0, x4), some (0, x5)], [], M)) rfl trivial ?_
        refine xEvG_br xml xfetch (fun c_ => ?_) (fun c_ => ?_)
        · have h := xif_t c_ h
          refine xEvG_n xml xfetch 5 (y := (251, 8, [some (8, x0), none, some (0, x2), some (0, (xor32 x3 (xshl 1 x4))), some (0, (-1)), some (0, (xw32 (x5 + 1)))], [], M)) rfl trivial ?_
          refine xEvG_mask xml xfetch [true, false, true, true, true, true] ?_
          exact (hPrison_stretch_L8 g) x0 x2 (xor32 x3 (xshl 1 x4)) (-1) (xw32 (x5 + 1)) M _ h
        · have h := xif_f c_ h
          refine xEvG_n xml xfetch 3 (y := (251, 44, [some (8, x0), none, some (0, x2), some (0, (xor32 x3 (xshl 1 x4))), some (0, x4), some (0, x5)], [(0, 1), (0, x4), (8, x0)], M)) rfl trivial ?_
          refine xEvG_call xml xfetch (q := (some (0, fPrison_neighbour x0 x4 1 M), M)) rfl (hPrison_neighbour x0 x4 1 M _ rfl) ?_
          show xEv (251, 47, [some (8, x0), none, some (0, x2), some (0, (xor32 x3 (xshl 1 x4))), some (0, x4), some (0, x5)], [(0, (fPrison_neighbour x0 x4 1 M))], M) _
          refine xEvG_n xml xfetch 3 (y := (251, 8, [some (8, x0), none, some (0, x2), some (0, (xor32 x3 (xshl 1 x4))), some (0, (fPrison_neighbour x0 x4 1 M)), some (0, (xw32 (x5 + 1)))], [], M)) rfl trivial ?_
          refine xEvG_mask xml xfetch [true, false, true, true, true, true] ?_
          exact (hPrison_stretch_L8 g) x0 x2 (xor32 x3 (xshl 1 x4)) (fPrison_neighbour x0 x4 1 M) (xw32 (x5 + 1)) M _ h
    · have h := xif_f c_ h
      refine xEvG_n xml xfetch 1 (y := (251, 56, [some (8, x0), none, some (0, x2), some (0, x3), some (0, x4), some (0, x5)], [(0, x3)], M)) rfl trivial ?_
      cases h
      exact xEvG_ret xml xfetch rfl
/-- ConsentDoors$Prison.stretch(II)I -/
def fPrison_stretch (a0 a1 a2 : Int) (M : xM) : Option Int := fPrison_stretch_L8 20001 a0 a2 0 a1 0 M
theorem hPrison_stretch (a0 a1 a2 : Int) (M : xM) (r : Int) (h : fPrison_stretch a0 a1 a2 M = some r) : xEv (251, 0, [some (8, a0), some (0, a1), some (0, a2), none, none, none], [], M) (some (0, r), M) := by
  unfold fPrison_stretch at h
  refine xEvG_n xml xfetch 6 (y := (251, 8, [some (8, a0), some (0, a1), some (0, a2), some (0, 0), some (0, a1), some (0, 0)], [], M)) rfl trivial ?_
  refine xEvG_mask xml xfetch [true, false, true, true, true, true] ?_
  exact hPrison_stretch_L8 20001 a0 a2 0 a1 0 M _ h

def fJA_fill_k26_L5 : Nat → Int → Int → Int → Int → xM → Option xM
  | 0, _, _, _, _, _ => none
  | g + 1, x0, x1, x2, x3, M => if x2 < x3 then (xA (0 ≤ x2 ∧ x2 < 512) ((fJA_fill_k26_L5 g) x0 x1 (xw32 (x2 + 1)) x3 (xwr M x0 x2 x1))) else (some M)
theorem hJA_fill_k26_L5 : ∀ (g : Nat) (x0 x1 x2 x3 : Int) (M : xM) (r : xM) (h : fJA_fill_k26_L5 g x0 x1 x2 x3 M = some r), xEv (301, 5, [some (28, x0), some (0, x1), some (0, x2), some (0, x3)], [], M) (none, r)
  | 0, _, _, _, _, _, _, h => by cases h
  | g + 1, x0, x1, x2, x3, M, r, h => by
    unfold fJA_fill_k26_L5 at h
    refine xEvG_n xml xfetch 3 (y := (301, if x2 < x3 then 10 else 20, [some (28, x0), some (0, x1), some (0, x2), some (0, x3)], [], M)) rfl trivial ?_
    refine xEvG_br xml xfetch (fun c_ => ?_) (fun c_ => ?_)
    · have h := xif_t c_ h
      have a0_ := (xA_t h).1
      have h := (xA_t h).2
      refine xEvG_n xml xfetch 6 (y := (301, 5, [some (28, x0), some (0, x1), some (0, (xw32 (x2 + 1))), some (0, x3)], [], (xwr M x0 x2 x1))) rfl ⟨a0_, trivial⟩ ?_
      refine xEvG_mask xml xfetch [true, true, true, true] ?_
      exact (hJA_fill_k26_L5 g) x0 x1 (xw32 (x2 + 1)) x3 (xwr M x0 x2 x1) _ h
    · have h := xif_f c_ h
      cases h
      exact xEvG_ret xml xfetch rfl
/-- java/util/Arrays.fill([II)V -/
def fJA_fill_k26 (a0 a1 : Int) (M : xM) : Option xM := fJA_fill_k26_L5 20001 a0 a1 0 512 M
theorem hJA_fill_k26 (a0 a1 : Int) (M : xM) (r : xM) (h : fJA_fill_k26 a0 a1 M = some r) : xEv (301, 0, [some (28, a0), some (0, a1), none, none], [], M) (none, r) := by
  unfold fJA_fill_k26 at h
  refine xEvG_n xml xfetch 5 (y := (301, 5, [some (28, a0), some (0, a1), some (0, 0), some (0, 512)], [], M)) rfl trivial ?_
  refine xEvG_mask xml xfetch [true, true, true, true] ?_
  exact hJA_fill_k26_L5 20001 a0 a1 0 512 M _ h

def fCorridor_openOneMore_L2 : Nat → Int → Int → Int → Int → xM → Option xM
  | 0, _, _, _, _, _ => none
  | g + 1, x0, x1, x2, x3, M => if x3 < (M x1 0) then (xA (0 ≤ x3 ∧ x3 < 9) (if (M (x0 + 2) x3) = (-1) then ((fCorridor_openOneMore_L2 g) x0 x1 x2 (xw32 (x3 + 1)) M) else (xA (0 ≤ x3 ∧ x3 < 9) (if (xand (M (x1 + 4) x3) x2) = 0 then (xA (0 ≤ (xor32 x2 (xshl 1 x3)) ∧ (xor32 x2 (xshl 1 x3)) < 512) (xA (0 ≤ x2 ∧ x2 < 512) (xA (0 ≤ x3 ∧ x3 < 9) (xA (0 ≤ (xor32 x2 (xshl 1 x3)) ∧ (xor32 x2 (xshl 1 x3)) < 512) ((fCorridor_openOneMore_L2 g) x0 x1 x2 (xw32 (x3 + 1)) (xwr M (x0 + 1) (xor32 x2 (xshl 1 x3)) (fJM_min (M (x0 + 1) (xor32 x2 (xshl 1 x3))) (xw32 ((M (x0 + 1) x2) + (M (x0 + 2) x3))) M))))))) else ((fCorridor_openOneMore_L2 g) x0 x1 x2 (xw32 (x3 + 1)) M))))) else (some M)
theorem hCorridor_openOneMore_L2 : ∀ (g : Nat) (x0 x1 x2 x3 : Int) (M : xM) (r : xM) (h : fCorridor_openOneMore_L2 g x0 x1 x2 x3 M = some r), xEv (229, 2, [some (3, x0), some (6, x1), some (0, x2), some (0, x3), none], [], M) (none, r)
  | 0, _, _, _, _, _, _, h => by cases h
  | g + 1, x0, x1, x2, x3, M, r, h => by
    unfold fCorridor_openOneMore_L2 at h
    refine xEvG_n xml xfetch 4 (y := (229, if x3 < (M x1 0) then 10 else 74, [some (3, x0), some (6, x1), some (0, x2), some (0, x3), none], [], M)) rfl trivial ?_
    refine xEvG_br xml xfetch (fun c_ => ?_) (fun c_ => ?_)
    · have h := xif_t c_ h
      have a0_ := (xA_t h).1
      have h := (xA_t h).2
      refine xEvG_n xml xfetch 6 (y := (229, if (M (x0 + 2) x3) = (-1) then 68 else 20, [some (3, x0), some (6, x1), some (0, x2), some (0, x3), none], [], M)) rfl ⟨a0_, trivial⟩ ?_
      refine xEvG_br xml xfetch (fun c_ => ?_) (fun c_ => ?_)
      · have h := xif_t c_ h
        refine xEvG_n xml xfetch 2 (y := (229, 2, [some (3, x0), some (6, x1), some (0, x2), some (0, (xw32 (x3 + 1))), none], [], M)) rfl trivial ?_
        refine xEvG_mask xml xfetch [true, true, true, true, false] ?_
        exact (hCorridor_openOneMore_L2 g) x0 x1 x2 (xw32 (x3 + 1)) M _ h
      · have h := xif_f c_ h
        have a0_ := (xA_t h).1
        have h := (xA_t h).2
        refine xEvG_n xml xfetch 7 (y := (229, if (xand (M (x1 + 4) x3) x2) = 0 then 31 else 68, [some (3, x0), some (6, x1), some (0, x2), some (0, x3), none], [], M)) rfl ⟨a0_, trivial⟩ ?_
        refine xEvG_br xml xfetch (fun c_ => ?_) (fun c_ => ?_)
        · have h := xif_t c_ h
          have a0_ := (xA_t h).1
          have h := (xA_t h).2
          have a1_ := (xA_t h).1
          have h := (xA_t h).2
          have a2_ := (xA_t h).1
          have h := (xA_t h).2
          refine xEvG_n xml xfetch 22 (y := (229, 64, [some (3, x0), some (6, x1), some (0, x2), some (0, x3), some (0, (xor32 x2 (xshl 1 x3)))], [(0, (xw32 ((M (x0 + 1) x2) + (M (x0 + 2) x3)))), (0, (M (x0 + 1) (xor32 x2 (xshl 1 x3)))), (0, (xor32 x2 (xshl 1 x3))), (28, (x0 + 1))], M)) rfl ⟨a0_, a1_, a2_, trivial⟩ ?_
          refine xEvG_call xml xfetch (q := (some (0, fJM_min (M (x0 + 1) (xor32 x2 (xshl 1 x3))) (xw32 ((M (x0 + 1) x2) + (M (x0 + 2) x3))) M), M)) rfl (hJM_min (M (x0 + 1) (xor32 x2 (xshl 1 x3))) (xw32 ((M (x0 + 1) x2) + (M (x0 + 2) x3))) M _ rfl) ?_
          show xEv (229, 67, [some (3, x0), some (6, x1), some (0, x2), some (0, x3), some (0, (xor32 x2 (xshl 1 x3)))], [(0, (fJM_min (M (x0 + 1) (xor32 x2 (xshl 1 x3))) (xw32 ((M (x0 + 1) x2) + (M (x0 + 2) x3))) M)), (0, (xor32 x2 (xshl 1 x3))), (28, (x0 + 1))], M) _
          have a0_ := (xA_t h).1
          have h := (xA_t h).2
          refine xEvG_n xml xfetch 3 (y := (229, 2, [some (3, x0), some (6, x1), some (0, x2), some (0, (xw32 (x3 + 1))), some (0, (xor32 x2 (xshl 1 x3)))], [], (xwr M (x0 + 1) (xor32 x2 (xshl 1 x3)) (fJM_min (M (x0 + 1) (xor32 x2 (xshl 1 x3))) (xw32 ((M (x0 + 1) x2) + (M (x0 + 2) x3))) M)))) rfl ⟨a0_, trivial⟩ ?_
          refine xEvG_mask xml xfetch [true, true, true, true, false] ?_
          exact (hCorridor_openOneMore_L2 g) x0 x1 x2 (xw32 (x3 + 1)) (xwr M (x0 + 1) (xor32 x2 (xshl 1 x3)) (fJM_min (M (x0 + 1) (xor32 x2 (xshl 1 x3))) (xw32 ((M (x0 + 1) x2) + (M (x0 + 2) x3))) M)) _ h
        · have h := xif_f c_ h
          refine xEvG_n xml xfetch 2 (y := (229, 2, [some (3, x0), some (6, x1), some (0, x2), some (0, (xw32 (x3 + 1))), none], [], M)) rfl trivial ?_
          refine xEvG_mask xml xfetch [true, true, true, true, false] ?_
          exact (hCorridor_openOneMore_L2 g) x0 x1 x2 (xw32 (x3 + 1)) M _ h
    · have h := xif_f c_ h
      cases h
      exact xEvG_ret xml xfetch rfl
/-- ConsentDoors$Corridor.openOneMore(LConsentDoors$Keys;I)V -/
def fCorridor_openOneMore (a0 a1 a2 : Int) (M : xM) : Option xM := fCorridor_openOneMore_L2 20001 a0 a1 a2 0 M
theorem hCorridor_openOneMore (a0 a1 a2 : Int) (M : xM) (r : xM) (h : fCorridor_openOneMore a0 a1 a2 M = some r) : xEv (229, 0, [some (3, a0), some (6, a1), some (0, a2), none, none], [], M) (none, r) := by
  unfold fCorridor_openOneMore at h
  refine xEvG_n xml xfetch 2 (y := (229, 2, [some (3, a0), some (6, a1), some (0, a2), some (0, 0), none], [], M)) rfl trivial ?_
  refine xEvG_mask xml xfetch [true, true, true, true, false] ?_
  exact hCorridor_openOneMore_L2 20001 a0 a1 a2 0 M _ h

def fCorridor_cheapest_L80 (k_19 : Int → Int → Int → Int → Int → Int → xM → Option (Int × xM)) : Nat → Int → Int → Int → Int → Int → Int → Int → xM → Option (Int × xM)
  | 0, _, _, _, _, _, _, _, _ => none
  | g + 1, x0, x1, x2, x3, x4, x5, x6, M => if x6 < 0 then (k_19 x0 x1 x2 x3 x4 (xw32 (x5 + 1)) M) else (xA (0 ≤ x6 ∧ x6 < 512) (if (M (x0 + 1) x6) < 1000000 then (xB (fCorridor_openOneMore x0 x2 x6 M) (fun m4 => (fCorridor_cheapest_L80 k_19 g) x0 x1 x2 x3 x4 x5 (xw32 (x6 + (-1))) m4)) else ((fCorridor_cheapest_L80 k_19 g) x0 x1 x2 x3 x4 x5 (xw32 (x6 + (-1))) M)))
theorem hCorridor_cheapest_L80 (k_19 : Int → Int → Int → Int → Int → Int → xM → Option (Int × xM)) (hk_19 : ∀ (x0 x1 x2 x3 x4 x5 : Int) (M : xM) (r : Int × xM), k_19 x0 x1 x2 x3 x4 x5 M = some r → xEv (228, 19, [some (3, x0), some (8, x1), some (6, x2), some (0, x3), some (0, x4), some (0, x5), none], [], M) (some (0, r.1), r.2)) : ∀ (g : Nat) (x0 x1 x2 x3 x4 x5 x6 : Int) (M : xM) (r : Int × xM) (h : fCorridor_cheapest_L80 k_19 g x0 x1 x2 x3 x4 x5 x6 M = some r), xEv (228, 80, [some (3, x0), some (8, x1), some (6, x2), some (0, x3), some (0, x4), some (0, x5), some (0, x6)], [], M) (some (0, r.1), r.2)
  | 0, _, _, _, _, _, _, _, _, _, h => by cases h
  | g + 1, x0, x1, x2, x3, x4, x5, x6, M, r, h => by
    unfold fCorridor_cheapest_L80 at h
    refine xEvG_n xml xfetch 2 (y := (228, if x6 < 0 then 110 else 85, [some (3, x0), some (8, x1), some (6, x2), some (0, x3), some (0, x4), some (0, x5), some (0, x6)], [], M)) rfl trivial ?_
    refine xEvG_br xml xfetch (fun c_ => ?_) (fun c_ => ?_)
    · have h := xif_t c_ h
      refine xEvG_n xml xfetch 2 (y := (228, 19, [some (3, x0), some (8, x1), some (6, x2), some (0, x3), some (0, x4), some (0, (xw32 (x5 + 1))), some (0, x6)], [], M)) rfl trivial ?_
      refine xEvG_mask xml xfetch [true, true, true, true, true, true, false] ?_
      exact hk_19 x0 x1 x2 x3 x4 (xw32 (x5 + 1)) M _ h
    · have h := xif_f c_ h
      have a0_ := (xA_t h).1
      have h := (xA_t h).2
      refine xEvG_n xml xfetch 6 (y := (228, if (M (x0 + 1) x6) < 1000000 then 97 else 104, [some (3, x0), some (8, x1), some (6, x2), some (0, x3), some (0, x4), some (0, x5), some (0, x6)], [], M)) rfl ⟨a0_, trivial⟩ ?_
      refine xEvG_br xml xfetch (fun c_ => ?_) (fun c_ => ?_)
      · have h := xif_t c_ h
        refine xEvG_n xml xfetch 3 (y := (228, 101, [some (3, x0), some (8, x1), some (6, x2), some (0, x3), some (0, x4), some (0, x5), some (0, x6)], [(0, x6), (6, x2), (3, x0)], M)) rfl trivial ?_
        obtain ⟨m4, e_, h⟩ := xB_t h
        refine xEvG_call xml xfetch (q := (none, m4)) rfl (hCorridor_openOneMore x0 x2 x6 M _ e_) ?_
        show xEv (228, 104, [some (3, x0), some (8, x1), some (6, x2), some (0, x3), some (0, x4), some (0, x5), some (0, x6)], [], m4) _
        refine xEvG_n xml xfetch 2 (y := (228, 80, [some (3, x0), some (8, x1), some (6, x2), some (0, x3), some (0, x4), some (0, x5), some (0, (xw32 (x6 + (-1))))], [], m4)) rfl trivial ?_
        refine xEvG_mask xml xfetch [true, true, true, true, true, true, true] ?_
        exact (hCorridor_cheapest_L80 k_19 hk_19 g) x0 x1 x2 x3 x4 x5 (xw32 (x6 + (-1))) m4 _ h
      · have h := xif_f c_ h
        refine xEvG_n xml xfetch 2 (y := (228, 80, [some (3, x0), some (8, x1), some (6, x2), some (0, x3), some (0, x4), some (0, x5), some (0, (xw32 (x6 + (-1))))], [], M)) rfl trivial ?_
        refine xEvG_mask xml xfetch [true, true, true, true, true, true, true] ?_
        exact (hCorridor_cheapest_L80 k_19 hk_19 g) x0 x1 x2 x3 x4 x5 (xw32 (x6 + (-1))) M _ h
def fCorridor_cheapest_L31 (k_19 : Int → Int → Int → Int → Int → Int → xM → Option (Int × xM)) : Nat → Int → Int → Int → Int → Int → Int → Int → xM → Option (Int × xM)
  | 0, _, _, _, _, _, _, _, _ => none
  | g + 1, x0, x1, x2, x3, x4, x5, x6, M => if x6 < (M x1 0) then (if (fD_bit x3 x6 M) = 1 then (xB (fPrison_price x1 x6 x5 x4 M) (fun v3 => xA (0 ≤ x6 ∧ x6 < 9) ((fCorridor_cheapest_L31 k_19 g) x0 x1 x2 x3 x4 x5 (xw32 (x6 + 1)) (xwr M (x0 + 2) x6 v3)))) else (xA (0 ≤ x6 ∧ x6 < 9) ((fCorridor_cheapest_L31 k_19 g) x0 x1 x2 x3 x4 x5 (xw32 (x6 + 1)) (xwr M (x0 + 2) x6 (-1))))) else (fCorridor_cheapest_L80 k_19 20001 x0 x1 x2 x3 x4 x5 x3 M)
theorem hCorridor_cheapest_L31 (k_19 : Int → Int → Int → Int → Int → Int → xM → Option (Int × xM)) (hk_19 : ∀ (x0 x1 x2 x3 x4 x5 : Int) (M : xM) (r : Int × xM), k_19 x0 x1 x2 x3 x4 x5 M = some r → xEv (228, 19, [some (3, x0), some (8, x1), some (6, x2), some (0, x3), some (0, x4), some (0, x5), none], [], M) (some (0, r.1), r.2)) : ∀ (g : Nat) (x0 x1 x2 x3 x4 x5 x6 : Int) (M : xM) (r : Int × xM) (h : fCorridor_cheapest_L31 k_19 g x0 x1 x2 x3 x4 x5 x6 M = some r), xEv (228, 31, [some (3, x0), some (8, x1), some (6, x2), some (0, x3), some (0, x4), some (0, x5), some (0, x6)], [], M) (some (0, r.1), r.2)
  | 0, _, _, _, _, _, _, _, _, _, h => by cases h
  | g + 1, x0, x1, x2, x3, x4, x5, x6, M, r, h => by
    unfold fCorridor_cheapest_L31 at h
    refine xEvG_n xml xfetch 4 (y := (228, if x6 < (M x1 0) then 40 else 77, [some (3, x0), some (8, x1), some (6, x2), some (0, x3), some (0, x4), some (0, x5), some (0, x6)], [], M)) rfl trivial ?_
    refine xEvG_br xml xfetch (fun c_ => ?_) (fun c_ => ?_)
    · have h := xif_t c_ h
      refine xEvG_n xml xfetch 5 (y := (228, 49, [some (3, x0), some (8, x1), some (6, x2), some (0, x3), some (0, x4), some (0, x5), some (0, x6)], [(0, x6), (0, x3), (0, x6), (23, (x0 + 2))], M)) rfl trivial ?_
      refine xEvG_call xml xfetch (q := (some (0, fD_bit x3 x6 M), M)) rfl (hD_bit x3 x6 M _ rfl) ?_
      show xEv (228, 52, [some (3, x0), some (8, x1), some (6, x2), some (0, x3), some (0, x4), some (0, x5), some (0, x6)], [(0, (fD_bit x3 x6 M)), (0, x6), (23, (x0 + 2))], M) _
      refine xEvG_n xml xfetch 2 (y := (228, if (fD_bit x3 x6 M) = 1 then 56 else 69, [some (3, x0), some (8, x1), some (6, x2), some (0, x3), some (0, x4), some (0, x5), some (0, x6)], [(0, x6), (23, (x0 + 2))], M)) rfl trivial ?_
      refine xEvG_br xml xfetch (fun c_ => ?_) (fun c_ => ?_)
      · have h := xif_t c_ h
        refine xEvG_n xml xfetch 4 (y := (228, 63, [some (3, x0), some (8, x1), some (6, x2), some (0, x3), some (0, x4), some (0, x5), some (0, x6)], [(0, x4), (0, x5), (0, x6), (8, x1), (0, x6), (23, (x0 + 2))], M)) rfl trivial ?_
        obtain ⟨v3, e_, h⟩ := xB_t h
        refine xEvG_call xml xfetch (q := (some (0, v3), M)) rfl (hPrison_price x1 x6 x5 x4 M _ e_) ?_
        show xEv (228, 66, [some (3, x0), some (8, x1), some (6, x2), some (0, x3), some (0, x4), some (0, x5), some (0, x6)], [(0, v3), (0, x6), (23, (x0 + 2))], M) _
        have a0_ := (xA_t h).1
        have h := (xA_t h).2
        refine xEvG_n xml xfetch 4 (y := (228, 31, [some (3, x0), some (8, x1), some (6, x2), some (0, x3), some (0, x4), some (0, x5), some (0, (xw32 (x6 + 1)))], [], (xwr M (x0 + 2) x6 v3))) rfl ⟨a0_, trivial⟩ ?_
        refine xEvG_mask xml xfetch [true, true, true, true, true, true, true] ?_
        exact (hCorridor_cheapest_L31 k_19 hk_19 g) x0 x1 x2 x3 x4 x5 (xw32 (x6 + 1)) (xwr M (x0 + 2) x6 v3) _ h
      · have h := xif_f c_ h
        have a0_ := (xA_t h).1
        have h := (xA_t h).2
        refine xEvG_n xml xfetch 4 (y := (228, 31, [some (3, x0), some (8, x1), some (6, x2), some (0, x3), some (0, x4), some (0, x5), some (0, (xw32 (x6 + 1)))], [], (xwr M (x0 + 2) x6 (-1)))) rfl ⟨a0_, trivial⟩ ?_
        refine xEvG_mask xml xfetch [true, true, true, true, true, true, true] ?_
        exact (hCorridor_cheapest_L31 k_19 hk_19 g) x0 x1 x2 x3 x4 x5 (xw32 (x6 + 1)) (xwr M (x0 + 2) x6 (-1)) _ h
    · have h := xif_f c_ h
      refine xEvG_n xml xfetch 2 (y := (228, 80, [some (3, x0), some (8, x1), some (6, x2), some (0, x3), some (0, x4), some (0, x5), some (0, x3)], [], M)) rfl trivial ?_
      refine xEvG_mask xml xfetch [true, true, true, true, true, true, true] ?_
      exact hCorridor_cheapest_L80 k_19 hk_19 20001 x0 x1 x2 x3 x4 x5 x3 M _ h
def fCorridor_cheapest_L19 : Nat → Int → Int → Int → Int → Int → Int → xM → Option (Int × xM)
  | 0, _, _, _, _, _, _, _ => none
  | g + 1, x0, x1, x2, x3, x4, x5, M => if x5 < (M x1 1) then (fCorridor_cheapest_L31 (fCorridor_cheapest_L19 g) 20001 x0 x1 x2 x3 x4 x5 0 M) else (xA (0 ≤ x3 ∧ x3 < 512) (if (M (x0 + 1) x3) < 1000000 then (xA (0 ≤ x3 ∧ x3 < 512) (some ((M (x0 + 1) x3), M))) else (some ((-1), M))))
theorem hCorridor_cheapest_L19 : ∀ (g : Nat) (x0 x1 x2 x3 x4 x5 : Int) (M : xM) (r : Int × xM) (h : fCorridor_cheapest_L19 g x0 x1 x2 x3 x4 x5 M = some r), xEv (228, 19, [some (3, x0), some (8, x1), some (6, x2), some (0, x3), some (0, x4), some (0, x5), none], [], M) (some (0, r.1), r.2)
  | 0, _, _, _, _, _, _, _, _, h => by cases h
  | g + 1, x0, x1, x2, x3, x4, x5, M, r, h => by
    unfold fCorridor_cheapest_L19 at h
    refine xEvG_n xml xfetch 4 (y := (228, if x5 < (M x1 1) then 28 else 116, [some (3, x0), some (8, x1), some (6, x2), some (0, x3), some (0, x4), some (0, x5), none], [], M)) rfl trivial ?_
    refine xEvG_br xml xfetch (fun c_ => ?_) (fun c_ => ?_)
    · have h := xif_t c_ h
      refine xEvG_n xml xfetch 2 (y := (228, 31, [some (3, x0), some (8, x1), some (6, x2), some (0, x3), some (0, x4), some (0, x5), some (0, 0)], [], M)) rfl trivial ?_
      refine xEvG_mask xml xfetch [true, true, true, true, true, true, true] ?_
      exact hCorridor_cheapest_L31 (fCorridor_cheapest_L19 g) (hCorridor_cheapest_L19 g) 20001 x0 x1 x2 x3 x4 x5 0 M _ h
    · have h := xif_f c_ h
      have a0_ := (xA_t h).1
      have h := (xA_t h).2
      refine xEvG_n xml xfetch 6 (y := (228, if (M (x0 + 1) x3) < 1000000 then 127 else 136, [some (3, x0), some (8, x1), some (6, x2), some (0, x3), some (0, x4), some (0, x5), none], [], M)) rfl ⟨a0_, trivial⟩ ?_
      refine xEvG_br xml xfetch (fun c_ => ?_) (fun c_ => ?_)
      · have h := xif_t c_ h
        have a0_ := (xA_t h).1
        have h := (xA_t h).2
        refine xEvG_n xml xfetch 5 (y := (228, 137, [some (3, x0), some (8, x1), some (6, x2), some (0, x3), some (0, x4), some (0, x5), none], [(0, (M (x0 + 1) x3))], M)) rfl ⟨a0_, trivial⟩ ?_
        cases h
        exact xEvG_ret xml xfetch rfl
      · have h := xif_f c_ h
        refine xEvG_n xml xfetch 1 (y := (228, 137, [some (3, x0), some (8, x1), some (6, x2), some (0, x3), some (0, x4), some (0, x5), none], [(0, (-1))], M)) rfl trivial ?_
        cases h
        exact xEvG_ret xml xfetch rfl
/-- ConsentDoors$Corridor.cheapest(LConsentDoors$Prison;LConsentDoors$Keys;IZ)I -/
def fCorridor_cheapest (a0 a1 a2 a3 a4 : Int) (M : xM) : Option (Int × xM) := xB (fJA_fill_k26 (a0 + 1) 1000000 M) (fun m1 => fCorridor_cheapest_L19 20001 a0 a1 a2 a3 a4 0 (xwr m1 (a0 + 1) 0 0))
theorem hCorridor_cheapest (a0 a1 a2 a3 a4 : Int) (M : xM) (r : Int × xM) (h : fCorridor_cheapest a0 a1 a2 a3 a4 M = some r) : xEv (228, 0, [some (3, a0), some (8, a1), some (6, a2), some (0, a3), some (0, a4), none, none], [], M) (some (0, r.1), r.2) := by
  unfold fCorridor_cheapest at h
  refine xEvG_n xml xfetch 3 (y := (228, 6, [some (3, a0), some (8, a1), some (6, a2), some (0, a3), some (0, a4), none, none], [(0, 1000000), (28, (a0 + 1))], M)) rfl trivial ?_
  obtain ⟨m1, e_, h⟩ := xB_t h
  refine xEvG_call xml xfetch (q := (none, m1)) rfl (hJA_fill_k26 (a0 + 1) 1000000 M _ e_) ?_
  show xEv (228, 9, [some (3, a0), some (8, a1), some (6, a2), some (0, a3), some (0, a4), none, none], [], m1) _
  refine xEvG_n xml xfetch 7 (y := (228, 19, [some (3, a0), some (8, a1), some (6, a2), some (0, a3), some (0, a4), some (0, 0), none], [], (xwr m1 (a0 + 1) 0 0))) rfl ⟨by decide, trivial⟩ ?_
  refine xEvG_mask xml xfetch [true, true, true, true, true, true, false] ?_
  exact hCorridor_cheapest_L19 20001 a0 a1 a2 a3 a4 0 (xwr m1 (a0 + 1) 0 0) _ h

/-- ConsentDoors.cheapestCorridor(IIZ)I -/
def fD_cheapestCorridor (a0 a1 a2 a3 : Int) (M : xM) : Option (Int × xM) := if (fPrison_hasCell (a0 + 15) a1 M) = 0 then (some ((-2), M)) else (if (fPrison_hasCell (a0 + 15) a2 M) = 0 then (some ((-2), M)) else (if (M (a0 + 15) 3) = 0 then (if a2 < a1 then (some ((-2), M)) else (xB (fPrison_stretch (a0 + 15) a1 a2 M) (fun v3 => xB (fCorridor_cheapest (a0 + 261) (a0 + 15) ((a0 + 37) + 1) v3 a3 M) (fun q_ => match q_ with | (v4, m4) => some (v4, m4))))) else (xB (fPrison_stretch (a0 + 15) a1 a2 M) (fun v5 => xB (fCorridor_cheapest (a0 + 261) (a0 + 15) ((a0 + 37) + 1) v5 a3 M) (fun q_ => match q_ with | (v6, m6) => some (v6, m6))))))
theorem hD_cheapestCorridor (a0 a1 a2 a3 : Int) (M : xM) (r : Int × xM) (h : fD_cheapestCorridor a0 a1 a2 a3 M = some r) : xEv (35, 0, [some (2, a0), some (0, a1), some (0, a2), some (0, a3)], [], M) (some (0, r.1), r.2) := by
  unfold fD_cheapestCorridor at h
  refine xEvG_n xml xfetch 3 (y := (35, 5, [some (2, a0), some (0, a1), some (0, a2), some (0, a3)], [(0, a1), (8, (a0 + 15))], M)) rfl trivial ?_
  refine xEvG_call xml xfetch (q := (some (0, fPrison_hasCell (a0 + 15) a1 M), M)) rfl (hPrison_hasCell (a0 + 15) a1 M _ rfl) ?_
  show xEv (35, 8, [some (2, a0), some (0, a1), some (0, a2), some (0, a3)], [(0, (fPrison_hasCell (a0 + 15) a1 M))], M) _
  refine xEvG_n xml xfetch 1 (y := (35, if (fPrison_hasCell (a0 + 15) a1 M) = 0 then 37 else 11, [some (2, a0), some (0, a1), some (0, a2), some (0, a3)], [], M)) rfl trivial ?_
  refine xEvG_br xml xfetch (fun c_ => ?_) (fun c_ => ?_)
  · have h := xif_t c_ h
    refine xEvG_n xml xfetch 1 (y := (35, 39, [some (2, a0), some (0, a1), some (0, a2), some (0, a3)], [(0, (-2))], M)) rfl trivial ?_
    cases h
    exact xEvG_ret xml xfetch rfl
  · have h := xif_f c_ h
    refine xEvG_n xml xfetch 3 (y := (35, 16, [some (2, a0), some (0, a1), some (0, a2), some (0, a3)], [(0, a2), (8, (a0 + 15))], M)) rfl trivial ?_
    refine xEvG_call xml xfetch (q := (some (0, fPrison_hasCell (a0 + 15) a2 M), M)) rfl (hPrison_hasCell (a0 + 15) a2 M _ rfl) ?_
    show xEv (35, 19, [some (2, a0), some (0, a1), some (0, a2), some (0, a3)], [(0, (fPrison_hasCell (a0 + 15) a2 M))], M) _
    refine xEvG_n xml xfetch 1 (y := (35, if (fPrison_hasCell (a0 + 15) a2 M) = 0 then 37 else 22, [some (2, a0), some (0, a1), some (0, a2), some (0, a3)], [], M)) rfl trivial ?_
    refine xEvG_br xml xfetch (fun c_ => ?_) (fun c_ => ?_)
    · have h := xif_t c_ h
      refine xEvG_n xml xfetch 1 (y := (35, 39, [some (2, a0), some (0, a1), some (0, a2), some (0, a3)], [(0, (-2))], M)) rfl trivial ?_
      cases h
      exact xEvG_ret xml xfetch rfl
    · have h := xif_f c_ h
      refine xEvG_n xml xfetch 4 (y := (35, if (M (a0 + 15) 3) = 0 then 32 else 40, [some (2, a0), some (0, a1), some (0, a2), some (0, a3)], [], M)) rfl trivial ?_
      refine xEvG_br xml xfetch (fun c_ => ?_) (fun c_ => ?_)
      · have h := xif_t c_ h
        refine xEvG_n xml xfetch 3 (y := (35, if a2 < a1 then 37 else 40, [some (2, a0), some (0, a1), some (0, a2), some (0, a3)], [], M)) rfl trivial ?_
        refine xEvG_br xml xfetch (fun c_ => ?_) (fun c_ => ?_)
        · have h := xif_t c_ h
          refine xEvG_n xml xfetch 1 (y := (35, 39, [some (2, a0), some (0, a1), some (0, a2), some (0, a3)], [(0, (-2))], M)) rfl trivial ?_
          cases h
          exact xEvG_ret xml xfetch rfl
        · have h := xif_f c_ h
          refine xEvG_n xml xfetch 11 (y := (35, 61, [some (2, a0), some (0, a1), some (0, a2), some (0, a3)], [(0, a2), (0, a1), (8, (a0 + 15)), (6, ((a0 + 37) + 1)), (8, (a0 + 15)), (3, (a0 + 261))], M)) rfl trivial ?_
          obtain ⟨v3, e_, h⟩ := xB_t h
          refine xEvG_call xml xfetch (q := (some (0, v3), M)) rfl (hPrison_stretch (a0 + 15) a1 a2 M _ e_) ?_
          show xEv (35, 64, [some (2, a0), some (0, a1), some (0, a2), some (0, a3)], [(0, v3), (6, ((a0 + 37) + 1)), (8, (a0 + 15)), (3, (a0 + 261))], M) _
          refine xEvG_n xml xfetch 1 (y := (35, 65, [some (2, a0), some (0, a1), some (0, a2), some (0, a3)], [(0, a3), (0, v3), (6, ((a0 + 37) + 1)), (8, (a0 + 15)), (3, (a0 + 261))], M)) rfl trivial ?_
          obtain ⟨⟨v4, m4⟩, e_, h⟩ := xB_t h
          refine xEvG_call xml xfetch (q := (some (0, v4), m4)) rfl (hCorridor_cheapest (a0 + 261) (a0 + 15) ((a0 + 37) + 1) v3 a3 M _ e_) ?_
          show xEv (35, 68, [some (2, a0), some (0, a1), some (0, a2), some (0, a3)], [(0, v4)], m4) _
          cases h
          exact xEvG_ret xml xfetch rfl
      · have h := xif_f c_ h
        refine xEvG_n xml xfetch 11 (y := (35, 61, [some (2, a0), some (0, a1), some (0, a2), some (0, a3)], [(0, a2), (0, a1), (8, (a0 + 15)), (6, ((a0 + 37) + 1)), (8, (a0 + 15)), (3, (a0 + 261))], M)) rfl trivial ?_
        obtain ⟨v5, e_, h⟩ := xB_t h
        refine xEvG_call xml xfetch (q := (some (0, v5), M)) rfl (hPrison_stretch (a0 + 15) a1 a2 M _ e_) ?_
        show xEv (35, 64, [some (2, a0), some (0, a1), some (0, a2), some (0, a3)], [(0, v5), (6, ((a0 + 37) + 1)), (8, (a0 + 15)), (3, (a0 + 261))], M) _
        refine xEvG_n xml xfetch 1 (y := (35, 65, [some (2, a0), some (0, a1), some (0, a2), some (0, a3)], [(0, a3), (0, v5), (6, ((a0 + 37) + 1)), (8, (a0 + 15)), (3, (a0 + 261))], M)) rfl trivial ?_
        obtain ⟨⟨v6, m6⟩, e_, h⟩ := xB_t h
        refine xEvG_call xml xfetch (q := (some (0, v6), m6)) rfl (hCorridor_cheapest (a0 + 261) (a0 + 15) ((a0 + 37) + 1) v5 a3 M _ e_) ?_
        show xEv (35, 68, [some (2, a0), some (0, a1), some (0, a2), some (0, a3)], [(0, v6)], m6) _
        cases h
        exact xEvG_ret xml xfetch rfl

/-- ConsentDoors.corridor(II)I -/
def fD_corridor (a0 a1 a2 : Int) (M : xM) : Option (Int × xM) := xB (fD_cheapestCorridor a0 a1 a2 0 M) (fun q_ => match q_ with | (v1, m1) => some (v1, m1))
theorem hD_corridor (a0 a1 a2 : Int) (M : xM) (r : Int × xM) (h : fD_corridor a0 a1 a2 M = some r) : xEv (33, 0, [some (2, a0), some (0, a1), some (0, a2)], [], M) (some (0, r.1), r.2) := by
  unfold fD_corridor at h
  refine xEvG_n xml xfetch 4 (y := (33, 4, [some (2, a0), some (0, a1), some (0, a2)], [(0, 0), (0, a2), (0, a1), (2, a0)], M)) rfl trivial ?_
  obtain ⟨⟨v1, m1⟩, e_, h⟩ := xB_t h
  refine xEvG_call xml xfetch (q := (some (0, v1), m1)) rfl (hD_cheapestCorridor a0 a1 a2 0 M _ e_) ?_
  show xEv (33, 7, [some (2, a0), some (0, a1), some (0, a2)], [(0, v1)], m1) _
  cases h
  exact xEvG_ret xml xfetch rfl

/-- ConsentDoors.friends(II)I -/
def fD_friends (a0 a1 a2 : Int) (M : xM) : Option (Int × xM) := xB (fD_cheapestCorridor a0 a1 a2 1 M) (fun q_ => match q_ with | (v1, m1) => some (v1, m1))
theorem hD_friends (a0 a1 a2 : Int) (M : xM) (r : Int × xM) (h : fD_friends a0 a1 a2 M = some r) : xEv (34, 0, [some (2, a0), some (0, a1), some (0, a2)], [], M) (some (0, r.1), r.2) := by
  unfold fD_friends at h
  refine xEvG_n xml xfetch 4 (y := (34, 4, [some (2, a0), some (0, a1), some (0, a2)], [(0, 1), (0, a2), (0, a1), (2, a0)], M)) rfl trivial ?_
  obtain ⟨⟨v1, m1⟩, e_, h⟩ := xB_t h
  refine xEvG_call xml xfetch (q := (some (0, v1), m1)) rfl (hD_cheapestCorridor a0 a1 a2 1 M _ e_) ?_
  show xEv (34, 7, [some (2, a0), some (0, a1), some (0, a2)], [(0, v1)], m1) _
  cases h
  exact xEvG_ret xml xfetch rfl

/-- ConsentDoors.mostIfMended(I)I -/
def fD_mostIfMended (a0 a1 : Int) (M : xM) : Option (Int × xM) := xB (fOutlook_explore (a0 + 146) (a0 + 26) (xwr M (a0 + 26) 5 (xand (M (a0 + 15) 5) (xxor a1 (-1))))) (fun m1 => xB (fOutlook_atLast (a0 + 146) m1) (fun v2 => xB (fSets_largestWith v2 0 m1) (fun v3 => some (v3, m1))))
theorem hD_mostIfMended (a0 a1 : Int) (M : xM) (r : Int × xM) (h : fD_mostIfMended a0 a1 M = some r) : xEv (39, 0, [some (2, a0), some (0, a1)], [], M) (some (0, r.1), r.2) := by
  unfold fD_mostIfMended at h
  refine xEvG_n xml xfetch 14 (y := (39, 26, [some (2, a0), some (0, a1)], [(8, (a0 + 26)), (7, (a0 + 146))], (xwr M (a0 + 26) 5 (xand (M (a0 + 15) 5) (xxor a1 (-1)))))) rfl trivial ?_
  obtain ⟨m1, e_, h⟩ := xB_t h
  refine xEvG_call xml xfetch (q := (none, m1)) rfl (hOutlook_explore (a0 + 146) (a0 + 26) (xwr M (a0 + 26) 5 (xand (M (a0 + 15) 5) (xxor a1 (-1)))) _ e_) ?_
  show xEv (39, 29, [some (2, a0), some (0, a1)], [], m1) _
  refine xEvG_n xml xfetch 2 (y := (39, 33, [some (2, a0), some (0, a1)], [(7, (a0 + 146))], m1)) rfl trivial ?_
  obtain ⟨v2, e_, h⟩ := xB_t h
  refine xEvG_call xml xfetch (q := (some (10, v2), m1)) rfl (hOutlook_atLast (a0 + 146) m1 _ e_) ?_
  show xEv (39, 36, [some (2, a0), some (0, a1)], [(10, v2)], m1) _
  refine xEvG_n xml xfetch 1 (y := (39, 37, [some (2, a0), some (0, a1)], [(0, 0), (10, v2)], m1)) rfl trivial ?_
  obtain ⟨v3, e_, h⟩ := xB_t h
  refine xEvG_call xml xfetch (q := (some (0, v3), m1)) rfl (hSets_largestWith v2 0 m1 _ e_) ?_
  show xEv (39, 40, [some (2, a0), some (0, a1)], [(0, v3)], m1) _
  cases h
  exact xEvG_ret xml xfetch rfl

def fD_neededMends_L4 : Nat → Int → Int → Int → Int → xM → Option (Int × xM)
  | 0, _, _, _, _, _ => none
  | g + 1, x0, x1, x2, x3, M => if x3 < (M (x0 + 15) 0) then (if (xand (M (x0 + 15) 5) (xshl 1 x3)) = 0 then ((fD_neededMends_L4 g) x0 x1 x2 (xw32 (x3 + 1)) M) else (xB (fD_mostIfMended x0 (xand (M (x0 + 15) 5) (xxor (xand (M (x0 + 15) 5) (xshl 1 x3)) (-1))) M) (fun q_ => match q_ with | (v1, m1) => if v1 < x1 then ((fD_neededMends_L4 g) x0 x1 (xor32 x2 (xand (M (x0 + 15) 5) (xshl 1 x3))) (xw32 (x3 + 1)) m1) else ((fD_neededMends_L4 g) x0 x1 x2 (xw32 (x3 + 1)) m1)))) else (some (x2, M))
theorem hD_neededMends_L4 : ∀ (g : Nat) (x0 x1 x2 x3 : Int) (M : xM) (r : Int × xM) (h : fD_neededMends_L4 g x0 x1 x2 x3 M = some r), xEv (38, 4, [some (2, x0), some (0, x1), some (0, x2), some (0, x3), none], [], M) (some (0, r.1), r.2)
  | 0, _, _, _, _, _, _, h => by cases h
  | g + 1, x0, x1, x2, x3, M, r, h => by
    unfold fD_neededMends_L4 at h
    refine xEvG_n xml xfetch 5 (y := (38, if x3 < (M (x0 + 15) 0) then 15 else 64, [some (2, x0), some (0, x1), some (0, x2), some (0, x3), none], [], M)) rfl trivial ?_
    refine xEvG_br xml xfetch (fun c_ => ?_) (fun c_ => ?_)
    · have h := xif_t c_ h
      refine xEvG_n xml xfetch 10 (y := (38, if (xand (M (x0 + 15) 5) (xshl 1 x3)) = 0 then 58 else 33, [some (2, x0), some (0, x1), some (0, x2), some (0, x3), some (0, (xand (M (x0 + 15) 5) (xshl 1 x3)))], [], M)) rfl trivial ?_
      refine xEvG_br xml xfetch (fun c_ => ?_) (fun c_ => ?_)
      · have h := xif_t c_ h
        refine xEvG_n xml xfetch 2 (y := (38, 4, [some (2, x0), some (0, x1), some (0, x2), some (0, (xw32 (x3 + 1))), some (0, (xand (M (x0 + 15) 5) (xshl 1 x3)))], [], M)) rfl trivial ?_
        refine xEvG_mask xml xfetch [true, true, true, true, false] ?_
        exact (hD_neededMends_L4 g) x0 x1 x2 (xw32 (x3 + 1)) M _ h
      · have h := xif_f c_ h
        refine xEvG_n xml xfetch 8 (y := (38, 46, [some (2, x0), some (0, x1), some (0, x2), some (0, x3), some (0, (xand (M (x0 + 15) 5) (xshl 1 x3)))], [(0, (xand (M (x0 + 15) 5) (xxor (xand (M (x0 + 15) 5) (xshl 1 x3)) (-1)))), (2, x0)], M)) rfl trivial ?_
        obtain ⟨⟨v1, m1⟩, e_, h⟩ := xB_t h
        refine xEvG_call xml xfetch (q := (some (0, v1), m1)) rfl (hD_mostIfMended x0 (xand (M (x0 + 15) 5) (xxor (xand (M (x0 + 15) 5) (xshl 1 x3)) (-1))) M _ e_) ?_
        show xEv (38, 49, [some (2, x0), some (0, x1), some (0, x2), some (0, x3), some (0, (xand (M (x0 + 15) 5) (xshl 1 x3)))], [(0, v1)], m1) _
        refine xEvG_n xml xfetch 2 (y := (38, if v1 < x1 then 53 else 58, [some (2, x0), some (0, x1), some (0, x2), some (0, x3), some (0, (xand (M (x0 + 15) 5) (xshl 1 x3)))], [], m1)) rfl trivial ?_
        refine xEvG_br xml xfetch (fun c_ => ?_) (fun c_ => ?_)
        · have h := xif_t c_ h
          refine xEvG_n xml xfetch 6 (y := (38, 4, [some (2, x0), some (0, x1), some (0, (xor32 x2 (xand (M (x0 + 15) 5) (xshl 1 x3)))), some (0, (xw32 (x3 + 1))), some (0, (xand (M (x0 + 15) 5) (xshl 1 x3)))], [], m1)) rfl trivial ?_
          refine xEvG_mask xml xfetch [true, true, true, true, false] ?_
          exact (hD_neededMends_L4 g) x0 x1 (xor32 x2 (xand (M (x0 + 15) 5) (xshl 1 x3))) (xw32 (x3 + 1)) m1 _ h
        · have h := xif_f c_ h
          refine xEvG_n xml xfetch 2 (y := (38, 4, [some (2, x0), some (0, x1), some (0, x2), some (0, (xw32 (x3 + 1))), some (0, (xand (M (x0 + 15) 5) (xshl 1 x3)))], [], m1)) rfl trivial ?_
          refine xEvG_mask xml xfetch [true, true, true, true, false] ?_
          exact (hD_neededMends_L4 g) x0 x1 x2 (xw32 (x3 + 1)) m1 _ h
    · have h := xif_f c_ h
      refine xEvG_n xml xfetch 1 (y := (38, 65, [some (2, x0), some (0, x1), some (0, x2), some (0, x3), none], [(0, x2)], M)) rfl trivial ?_
      cases h
      exact xEvG_ret xml xfetch rfl
/-- ConsentDoors.neededMends(I)I -/
def fD_neededMends (a0 a1 : Int) (M : xM) : Option (Int × xM) := fD_neededMends_L4 20001 a0 a1 0 0 M
theorem hD_neededMends (a0 a1 : Int) (M : xM) (r : Int × xM) (h : fD_neededMends a0 a1 M = some r) : xEv (38, 0, [some (2, a0), some (0, a1), none, none, none], [], M) (some (0, r.1), r.2) := by
  unfold fD_neededMends at h
  refine xEvG_n xml xfetch 4 (y := (38, 4, [some (2, a0), some (0, a1), some (0, 0), some (0, 0), none], [], M)) rfl trivial ?_
  refine xEvG_mask xml xfetch [true, true, true, true, false] ?_
  exact hD_neededMends_L4 20001 a0 a1 0 0 M _ h

def fD_leastMending_L63 (k_14 : Int → Int → Int → Int → Int → Int → xM → Option (Int × xM)) (x0 x1 x2 x3 x4 x5 x6 y0 : Int) (M : xM) : Option (Int × xM) := if x6 = 0 then (k_14 x0 x1 x2 x3 x4 (xw32 (x5 + 1)) M) else (if y0 = 0 then (k_14 x0 x1 x2 x3 x4 (xw32 (x5 + 1)) M) else (xB (fD_mostIfMended x0 x5 M) (fun q_ => match q_ with | (v3, m3) => if v3 < x1 then (k_14 x0 x1 x2 x3 x4 (xw32 (x5 + 1)) m3) else (k_14 x0 x1 x2 x3 x5 (xw32 (x5 + 1)) m3))))
theorem hD_leastMending_L63 (k_14 : Int → Int → Int → Int → Int → Int → xM → Option (Int × xM)) (hk_14 : ∀ (x0 x1 x2 x3 x4 x5 : Int) (M : xM) (r : Int × xM), k_14 x0 x1 x2 x3 x4 x5 M = some r → xEv (37, 14, [some (2, x0), some (0, x1), some (0, x2), some (0, x3), some (0, x4), some (0, x5), none, none], [], M) (some (0, r.1), r.2)) (x0 x1 x2 x3 x4 x5 x6 y0 : Int) (M : xM) (r : Int × xM) (h : fD_leastMending_L63 k_14 x0 x1 x2 x3 x4 x5 x6 y0 M = some r) : xEv (37, 63, [some (2, x0), some (0, x1), some (0, x2), some (0, x3), some (0, x4), some (0, x5), some (0, x6), none], [(0, y0)], M) (some (0, r.1), r.2) := by
  unfold fD_leastMending_L63 at h
  refine xEvG_n xml xfetch 3 (y := (37, if x6 = 0 then 89 else 70, [some (2, x0), some (0, x1), some (0, x2), some (0, x3), some (0, x4), some (0, x5), some (0, x6), some (0, y0)], [], M)) rfl trivial ?_
  refine xEvG_br xml xfetch (fun c_ => ?_) (fun c_ => ?_)
  · have h := xif_t c_ h
    refine xEvG_n xml xfetch 2 (y := (37, 14, [some (2, x0), some (0, x1), some (0, x2), some (0, x3), some (0, x4), some (0, (xw32 (x5 + 1))), some (0, x6), some (0, y0)], [], M)) rfl trivial ?_
    refine xEvG_mask xml xfetch [true, true, true, true, true, true, false, false] ?_
    exact hk_14 x0 x1 x2 x3 x4 (xw32 (x5 + 1)) M _ h
  · have h := xif_f c_ h
    refine xEvG_n xml xfetch 2 (y := (37, if y0 = 0 then 89 else 75, [some (2, x0), some (0, x1), some (0, x2), some (0, x3), some (0, x4), some (0, x5), some (0, x6), some (0, y0)], [], M)) rfl trivial ?_
    refine xEvG_br xml xfetch (fun c_ => ?_) (fun c_ => ?_)
    · have h := xif_t c_ h
      refine xEvG_n xml xfetch 2 (y := (37, 14, [some (2, x0), some (0, x1), some (0, x2), some (0, x3), some (0, x4), some (0, (xw32 (x5 + 1))), some (0, x6), some (0, y0)], [], M)) rfl trivial ?_
      refine xEvG_mask xml xfetch [true, true, true, true, true, true, false, false] ?_
      exact hk_14 x0 x1 x2 x3 x4 (xw32 (x5 + 1)) M _ h
    · have h := xif_f c_ h
      refine xEvG_n xml xfetch 2 (y := (37, 78, [some (2, x0), some (0, x1), some (0, x2), some (0, x3), some (0, x4), some (0, x5), some (0, x6), some (0, y0)], [(0, x5), (2, x0)], M)) rfl trivial ?_
      obtain ⟨⟨v3, m3⟩, e_, h⟩ := xB_t h
      refine xEvG_call xml xfetch (q := (some (0, v3), m3)) rfl (hD_mostIfMended x0 x5 M _ e_) ?_
      show xEv (37, 81, [some (2, x0), some (0, x1), some (0, x2), some (0, x3), some (0, x4), some (0, x5), some (0, x6), some (0, y0)], [(0, v3)], m3) _
      refine xEvG_n xml xfetch 2 (y := (37, if v3 < x1 then 89 else 85, [some (2, x0), some (0, x1), some (0, x2), some (0, x3), some (0, x4), some (0, x5), some (0, x6), some (0, y0)], [], m3)) rfl trivial ?_
      refine xEvG_br xml xfetch (fun c_ => ?_) (fun c_ => ?_)
      · have h := xif_t c_ h
        refine xEvG_n xml xfetch 2 (y := (37, 14, [some (2, x0), some (0, x1), some (0, x2), some (0, x3), some (0, x4), some (0, (xw32 (x5 + 1))), some (0, x6), some (0, y0)], [], m3)) rfl trivial ?_
        refine xEvG_mask xml xfetch [true, true, true, true, true, true, false, false] ?_
        exact hk_14 x0 x1 x2 x3 x4 (xw32 (x5 + 1)) m3 _ h
      · have h := xif_f c_ h
        refine xEvG_n xml xfetch 4 (y := (37, 14, [some (2, x0), some (0, x1), some (0, x2), some (0, x3), some (0, x5), some (0, (xw32 (x5 + 1))), some (0, x6), some (0, y0)], [], m3)) rfl trivial ?_
        refine xEvG_mask xml xfetch [true, true, true, true, true, true, false, false] ?_
        exact hk_14 x0 x1 x2 x3 x5 (xw32 (x5 + 1)) m3 _ h
def fD_leastMending_L38 (k_14 : Int → Int → Int → Int → Int → Int → xM → Option (Int × xM)) (x0 x1 x2 x3 x4 x5 y0 : Int) (M : xM) : Option (Int × xM) := if (xand x5 (xxor x3 (-1))) = 0 then (if (xand x2 (xxor x5 (-1))) = 0 then (fD_leastMending_L63 k_14 x0 x1 x2 x3 x4 x5 y0 1 M) else (fD_leastMending_L63 k_14 x0 x1 x2 x3 x4 x5 y0 0 M)) else (fD_leastMending_L63 k_14 x0 x1 x2 x3 x4 x5 y0 0 M)
theorem hD_leastMending_L38 (k_14 : Int → Int → Int → Int → Int → Int → xM → Option (Int × xM)) (hk_14 : ∀ (x0 x1 x2 x3 x4 x5 : Int) (M : xM) (r : Int × xM), k_14 x0 x1 x2 x3 x4 x5 M = some r → xEv (37, 14, [some (2, x0), some (0, x1), some (0, x2), some (0, x3), some (0, x4), some (0, x5), none, none], [], M) (some (0, r.1), r.2)) (x0 x1 x2 x3 x4 x5 y0 : Int) (M : xM) (r : Int × xM) (h : fD_leastMending_L38 k_14 x0 x1 x2 x3 x4 x5 y0 M = some r) : xEv (37, 38, [some (2, x0), some (0, x1), some (0, x2), some (0, x3), some (0, x4), some (0, x5), none, none], [(0, y0)], M) (some (0, r.1), r.2) := by
  unfold fD_leastMending_L38 at h
  refine xEvG_n xml xfetch 7 (y := (37, if (xand x5 (xxor x3 (-1))) = 0 then 49 else 62, [some (2, x0), some (0, x1), some (0, x2), some (0, x3), some (0, x4), some (0, x5), some (0, y0), none], [], M)) rfl trivial ?_
  refine xEvG_br xml xfetch (fun c_ => ?_) (fun c_ => ?_)
  · have h := xif_t c_ h
    refine xEvG_n xml xfetch 6 (y := (37, if (xand x2 (xxor x5 (-1))) = 0 then 58 else 62, [some (2, x0), some (0, x1), some (0, x2), some (0, x3), some (0, x4), some (0, x5), some (0, y0), none], [], M)) rfl trivial ?_
    refine xEvG_br xml xfetch (fun c_ => ?_) (fun c_ => ?_)
    · have h := xif_t c_ h
      refine xEvG_n xml xfetch 2 (y := (37, 63, [some (2, x0), some (0, x1), some (0, x2), some (0, x3), some (0, x4), some (0, x5), some (0, y0), none], [(0, 1)], M)) rfl trivial ?_
      refine xEvG_mask xml xfetch [true, true, true, true, true, true, true, false] ?_
      exact hD_leastMending_L63 k_14 hk_14 x0 x1 x2 x3 x4 x5 y0 1 M _ h
    · have h := xif_f c_ h
      refine xEvG_n xml xfetch 1 (y := (37, 63, [some (2, x0), some (0, x1), some (0, x2), some (0, x3), some (0, x4), some (0, x5), some (0, y0), none], [(0, 0)], M)) rfl trivial ?_
      refine xEvG_mask xml xfetch [true, true, true, true, true, true, true, false] ?_
      exact hD_leastMending_L63 k_14 hk_14 x0 x1 x2 x3 x4 x5 y0 0 M _ h
  · have h := xif_f c_ h
    refine xEvG_n xml xfetch 1 (y := (37, 63, [some (2, x0), some (0, x1), some (0, x2), some (0, x3), some (0, x4), some (0, x5), some (0, y0), none], [(0, 0)], M)) rfl trivial ?_
    refine xEvG_mask xml xfetch [true, true, true, true, true, true, true, false] ?_
    exact hD_leastMending_L63 k_14 hk_14 x0 x1 x2 x3 x4 x5 y0 0 M _ h
def fD_leastMending_L14 : Nat → Int → Int → Int → Int → Int → Int → xM → Option (Int × xM)
  | 0, _, _, _, _, _, _, _ => none
  | g + 1, x0, x1, x2, x3, x4, x5, M => if x5 < x3 then (if (fJI_bitCount x5 M) < (fJI_bitCount x4 M) then (fD_leastMending_L38 (fD_leastMending_L14 g) x0 x1 x2 x3 x4 x5 1 M) else (fD_leastMending_L38 (fD_leastMending_L14 g) x0 x1 x2 x3 x4 x5 0 M)) else (some (x4, M))
theorem hD_leastMending_L14 : ∀ (g : Nat) (x0 x1 x2 x3 x4 x5 : Int) (M : xM) (r : Int × xM) (h : fD_leastMending_L14 g x0 x1 x2 x3 x4 x5 M = some r), xEv (37, 14, [some (2, x0), some (0, x1), some (0, x2), some (0, x3), some (0, x4), some (0, x5), none, none], [], M) (some (0, r.1), r.2)
  | 0, _, _, _, _, _, _, _, _, h => by cases h
  | g + 1, x0, x1, x2, x3, x4, x5, M, r, h => by
    unfold fD_leastMending_L14 at h
    refine xEvG_n xml xfetch 3 (y := (37, if x5 < x3 then 20 else 95, [some (2, x0), some (0, x1), some (0, x2), some (0, x3), some (0, x4), some (0, x5), none, none], [], M)) rfl trivial ?_
    refine xEvG_br xml xfetch (fun c_ => ?_) (fun c_ => ?_)
    · have h := xif_t c_ h
      refine xEvG_n xml xfetch 1 (y := (37, 22, [some (2, x0), some (0, x1), some (0, x2), some (0, x3), some (0, x4), some (0, x5), none, none], [(0, x5)], M)) rfl trivial ?_
      refine xEvG_call xml xfetch (q := (some (0, fJI_bitCount x5 M), M)) rfl (hJI_bitCount x5 M _ rfl) ?_
      show xEv (37, 25, [some (2, x0), some (0, x1), some (0, x2), some (0, x3), some (0, x4), some (0, x5), none, none], [(0, (fJI_bitCount x5 M))], M) _
      refine xEvG_n xml xfetch 1 (y := (37, 27, [some (2, x0), some (0, x1), some (0, x2), some (0, x3), some (0, x4), some (0, x5), none, none], [(0, x4), (0, (fJI_bitCount x5 M))], M)) rfl trivial ?_
      refine xEvG_call xml xfetch (q := (some (0, fJI_bitCount x4 M), M)) rfl (hJI_bitCount x4 M _ rfl) ?_
      show xEv (37, 30, [some (2, x0), some (0, x1), some (0, x2), some (0, x3), some (0, x4), some (0, x5), none, none], [(0, (fJI_bitCount x4 M)), (0, (fJI_bitCount x5 M))], M) _
      refine xEvG_n xml xfetch 1 (y := (37, if (fJI_bitCount x5 M) < (fJI_bitCount x4 M) then 33 else 37, [some (2, x0), some (0, x1), some (0, x2), some (0, x3), some (0, x4), some (0, x5), none, none], [], M)) rfl trivial ?_
      refine xEvG_br xml xfetch (fun c_ => ?_) (fun c_ => ?_)
      · have h := xif_t c_ h
        refine xEvG_n xml xfetch 2 (y := (37, 38, [some (2, x0), some (0, x1), some (0, x2), some (0, x3), some (0, x4), some (0, x5), none, none], [(0, 1)], M)) rfl trivial ?_
        refine xEvG_mask xml xfetch [true, true, true, true, true, true, false, false] ?_
        exact hD_leastMending_L38 (fD_leastMending_L14 g) (hD_leastMending_L14 g) x0 x1 x2 x3 x4 x5 1 M _ h
      · have h := xif_f c_ h
        refine xEvG_n xml xfetch 1 (y := (37, 38, [some (2, x0), some (0, x1), some (0, x2), some (0, x3), some (0, x4), some (0, x5), none, none], [(0, 0)], M)) rfl trivial ?_
        refine xEvG_mask xml xfetch [true, true, true, true, true, true, false, false] ?_
        exact hD_leastMending_L38 (fD_leastMending_L14 g) (hD_leastMending_L14 g) x0 x1 x2 x3 x4 x5 0 M _ h
    · have h := xif_f c_ h
      refine xEvG_n xml xfetch 1 (y := (37, 97, [some (2, x0), some (0, x1), some (0, x2), some (0, x3), some (0, x4), some (0, x5), none, none], [(0, x4)], M)) rfl trivial ?_
      cases h
      exact xEvG_ret xml xfetch rfl
/-- ConsentDoors.leastMending(II)I -/
def fD_leastMending (a0 a1 a2 : Int) (M : xM) : Option (Int × xM) := fD_leastMending_L14 20001 a0 a1 a2 (M (a0 + 15) 5) (M (a0 + 15) 5) a2 M
theorem hD_leastMending (a0 a1 a2 : Int) (M : xM) (r : Int × xM) (h : fD_leastMending a0 a1 a2 M = some r) : xEv (37, 0, [some (2, a0), some (0, a1), some (0, a2), none, none, none, none, none], [], M) (some (0, r.1), r.2) := by
  unfold fD_leastMending at h
  refine xEvG_n xml xfetch 8 (y := (37, 14, [some (2, a0), some (0, a1), some (0, a2), some (0, (M (a0 + 15) 5)), some (0, (M (a0 + 15) 5)), some (0, a2), none, none], [], M)) rfl trivial ?_
  refine xEvG_mask xml xfetch [true, true, true, true, true, true, false, false] ?_
  exact hD_leastMending_L14 20001 a0 a1 a2 (M (a0 + 15) 5) (M (a0 + 15) 5) a2 M _ h

/-- ConsentDoors.mends(II)I -/
def fD_mends (a0 a1 a2 : Int) (M : xM) : Option (Int × xM) := if (fPrison_stands (a0 + 15) M) = 0 then (some ((-2), M)) else (if a1 < 0 then (some ((-2), M)) else (if 9 < a1 then (some ((-2), M)) else (if a2 < 0 then (some ((-2), M)) else (if 1 < a2 then (some ((-2), M)) else (xB (fPrison_copy (a0 + 26) (a0 + 15) M) (fun m2 => xB (fD_mostIfMended a0 (m2 (a0 + 15) 5) m2) (fun q_ => match q_ with | (v3, m3) => if v3 < a1 then (some ((-1), m3)) else (xB (fD_neededMends a0 a1 m3) (fun q_ => match q_ with | (v4, m4) => xB (fD_leastMending a0 a1 v4 m4) (fun q_ => match q_ with | (v5, m5) => if a2 = 0 then (some ((fJI_bitCount v5 m5), m5)) else (some (v5, m5))))))))))))
theorem hD_mends (a0 a1 a2 : Int) (M : xM) (r : Int × xM) (h : fD_mends a0 a1 a2 M = some r) : xEv (36, 0, [some (2, a0), some (0, a1), some (0, a2), none], [], M) (some (0, r.1), r.2) := by
  unfold fD_mends at h
  refine xEvG_n xml xfetch 2 (y := (36, 4, [some (2, a0), some (0, a1), some (0, a2), none], [(8, (a0 + 15))], M)) rfl trivial ?_
  refine xEvG_call xml xfetch (q := (some (0, fPrison_stands (a0 + 15) M), M)) rfl (hPrison_stands (a0 + 15) M _ rfl) ?_
  show xEv (36, 7, [some (2, a0), some (0, a1), some (0, a2), none], [(0, (fPrison_stands (a0 + 15) M))], M) _
  refine xEvG_n xml xfetch 1 (y := (36, if (fPrison_stands (a0 + 15) M) = 0 then 29 else 10, [some (2, a0), some (0, a1), some (0, a2), none], [], M)) rfl trivial ?_
  refine xEvG_br xml xfetch (fun c_ => ?_) (fun c_ => ?_)
  · have h := xif_t c_ h
    refine xEvG_n xml xfetch 1 (y := (36, 31, [some (2, a0), some (0, a1), some (0, a2), none], [(0, (-2))], M)) rfl trivial ?_
    cases h
    exact xEvG_ret xml xfetch rfl
  · have h := xif_f c_ h
    refine xEvG_n xml xfetch 2 (y := (36, if a1 < 0 then 29 else 14, [some (2, a0), some (0, a1), some (0, a2), none], [], M)) rfl trivial ?_
    refine xEvG_br xml xfetch (fun c_ => ?_) (fun c_ => ?_)
    · have h := xif_t c_ h
      refine xEvG_n xml xfetch 1 (y := (36, 31, [some (2, a0), some (0, a1), some (0, a2), none], [(0, (-2))], M)) rfl trivial ?_
      cases h
      exact xEvG_ret xml xfetch rfl
    · have h := xif_f c_ h
      refine xEvG_n xml xfetch 3 (y := (36, if 9 < a1 then 29 else 20, [some (2, a0), some (0, a1), some (0, a2), none], [], M)) rfl trivial ?_
      refine xEvG_br xml xfetch (fun c_ => ?_) (fun c_ => ?_)
      · have h := xif_t c_ h
        refine xEvG_n xml xfetch 1 (y := (36, 31, [some (2, a0), some (0, a1), some (0, a2), none], [(0, (-2))], M)) rfl trivial ?_
        cases h
        exact xEvG_ret xml xfetch rfl
      · have h := xif_f c_ h
        refine xEvG_n xml xfetch 2 (y := (36, if a2 < 0 then 29 else 24, [some (2, a0), some (0, a1), some (0, a2), none], [], M)) rfl trivial ?_
        refine xEvG_br xml xfetch (fun c_ => ?_) (fun c_ => ?_)
        · have h := xif_t c_ h
          refine xEvG_n xml xfetch 1 (y := (36, 31, [some (2, a0), some (0, a1), some (0, a2), none], [(0, (-2))], M)) rfl trivial ?_
          cases h
          exact xEvG_ret xml xfetch rfl
        · have h := xif_f c_ h
          refine xEvG_n xml xfetch 3 (y := (36, if 1 < a2 then 29 else 32, [some (2, a0), some (0, a1), some (0, a2), none], [], M)) rfl trivial ?_
          refine xEvG_br xml xfetch (fun c_ => ?_) (fun c_ => ?_)
          · have h := xif_t c_ h
            refine xEvG_n xml xfetch 1 (y := (36, 31, [some (2, a0), some (0, a1), some (0, a2), none], [(0, (-2))], M)) rfl trivial ?_
            cases h
            exact xEvG_ret xml xfetch rfl
          · have h := xif_f c_ h
            refine xEvG_n xml xfetch 4 (y := (36, 40, [some (2, a0), some (0, a1), some (0, a2), none], [(8, (a0 + 15)), (8, (a0 + 26))], M)) rfl trivial ?_
            obtain ⟨m2, e_, h⟩ := xB_t h
            refine xEvG_call xml xfetch (q := (none, m2)) rfl (hPrison_copy (a0 + 26) (a0 + 15) M _ e_) ?_
            show xEv (36, 43, [some (2, a0), some (0, a1), some (0, a2), none], [], m2) _
            refine xEvG_n xml xfetch 4 (y := (36, 51, [some (2, a0), some (0, a1), some (0, a2), none], [(0, (m2 (a0 + 15) 5)), (2, a0)], m2)) rfl trivial ?_
            obtain ⟨⟨v3, m3⟩, e_, h⟩ := xB_t h
            refine xEvG_call xml xfetch (q := (some (0, v3), m3)) rfl (hD_mostIfMended a0 (m2 (a0 + 15) 5) m2 _ e_) ?_
            show xEv (36, 54, [some (2, a0), some (0, a1), some (0, a2), none], [(0, v3)], m3) _
            refine xEvG_n xml xfetch 2 (y := (36, if v3 < a1 then 58 else 60, [some (2, a0), some (0, a1), some (0, a2), none], [], m3)) rfl trivial ?_
            refine xEvG_br xml xfetch (fun c_ => ?_) (fun c_ => ?_)
            · have h := xif_t c_ h
              refine xEvG_n xml xfetch 1 (y := (36, 59, [some (2, a0), some (0, a1), some (0, a2), none], [(0, (-1))], m3)) rfl trivial ?_
              cases h
              exact xEvG_ret xml xfetch rfl
            · have h := xif_f c_ h
              refine xEvG_n xml xfetch 4 (y := (36, 64, [some (2, a0), some (0, a1), some (0, a2), none], [(0, a1), (2, a0), (0, a1), (2, a0)], m3)) rfl trivial ?_
              obtain ⟨⟨v4, m4⟩, e_, h⟩ := xB_t h
              refine xEvG_call xml xfetch (q := (some (0, v4), m4)) rfl (hD_neededMends a0 a1 m3 _ e_) ?_
              show xEv (36, 67, [some (2, a0), some (0, a1), some (0, a2), none], [(0, v4), (0, a1), (2, a0)], m4) _
              obtain ⟨⟨v5, m5⟩, e_, h⟩ := xB_t h
              refine xEvG_call xml xfetch (q := (some (0, v5), m5)) rfl (hD_leastMending a0 a1 v4 m4 _ e_) ?_
              show xEv (36, 70, [some (2, a0), some (0, a1), some (0, a2), none], [(0, v5)], m5) _
              refine xEvG_n xml xfetch 3 (y := (36, if a2 = 0 then 75 else 82, [some (2, a0), some (0, a1), some (0, a2), some (0, v5)], [], m5)) rfl trivial ?_
              refine xEvG_br xml xfetch (fun c_ => ?_) (fun c_ => ?_)
              · have h := xif_t c_ h
                refine xEvG_n xml xfetch 1 (y := (36, 76, [some (2, a0), some (0, a1), some (0, a2), some (0, v5)], [(0, v5)], m5)) rfl trivial ?_
                refine xEvG_call xml xfetch (q := (some (0, fJI_bitCount v5 m5), m5)) rfl (hJI_bitCount v5 m5 _ rfl) ?_
                show xEv (36, 79, [some (2, a0), some (0, a1), some (0, a2), some (0, v5)], [(0, (fJI_bitCount v5 m5))], m5) _
                refine xEvG_n xml xfetch 1 (y := (36, 83, [some (2, a0), some (0, a1), some (0, a2), some (0, v5)], [(0, (fJI_bitCount v5 m5))], m5)) rfl trivial ?_
                cases h
                exact xEvG_ret xml xfetch rfl
              · have h := xif_f c_ h
                refine xEvG_n xml xfetch 1 (y := (36, 83, [some (2, a0), some (0, a1), some (0, a2), some (0, v5)], [(0, v5)], m5)) rfl trivial ?_
                cases h
                exact xEvG_ret xml xfetch rfl

/-- ConsentDoors.mostNow()I -/
def fD_mostNow (a0 : Int) (M : xM) : Option Int := xB (fOutlook_atLast (a0 + 37) M) (fun v1 => xB (fSets_largestWith v1 0 M) (fun v2 => some v2))
theorem hD_mostNow (a0 : Int) (M : xM) (r : Int) (h : fD_mostNow a0 M = some r) : xEv (41, 0, [some (2, a0)], [], M) (some (0, r), M) := by
  unfold fD_mostNow at h
  refine xEvG_n xml xfetch 2 (y := (41, 4, [some (2, a0)], [(7, (a0 + 37))], M)) rfl trivial ?_
  obtain ⟨v1, e_, h⟩ := xB_t h
  refine xEvG_call xml xfetch (q := (some (10, v1), M)) rfl (hOutlook_atLast (a0 + 37) M _ e_) ?_
  show xEv (41, 7, [some (2, a0)], [(10, v1)], M) _
  refine xEvG_n xml xfetch 1 (y := (41, 8, [some (2, a0)], [(0, 0), (10, v1)], M)) rfl trivial ?_
  obtain ⟨v2, e_, h⟩ := xB_t h
  refine xEvG_call xml xfetch (q := (some (0, v2), M)) rfl (hSets_largestWith v1 0 M _ e_) ?_
  show xEv (41, 11, [some (2, a0)], [(0, v2)], M) _
  cases h
  exact xEvG_ret xml xfetch rfl

/-- ConsentDoors.mostOfDraft()I -/
def fD_mostOfDraft (a0 : Int) (M : xM) : Option (Int × xM) := xB (fOutlook_explore (a0 + 146) (a0 + 26) M) (fun m1 => xB (fOutlook_atLast (a0 + 146) m1) (fun v2 => xB (fSets_largestWith v2 0 m1) (fun v3 => some (v3, m1))))
theorem hD_mostOfDraft (a0 : Int) (M : xM) (r : Int × xM) (h : fD_mostOfDraft a0 M = some r) : xEv (40, 0, [some (2, a0)], [], M) (some (0, r.1), r.2) := by
  unfold fD_mostOfDraft at h
  refine xEvG_n xml xfetch 4 (y := (40, 8, [some (2, a0)], [(8, (a0 + 26)), (7, (a0 + 146))], M)) rfl trivial ?_
  obtain ⟨m1, e_, h⟩ := xB_t h
  refine xEvG_call xml xfetch (q := (none, m1)) rfl (hOutlook_explore (a0 + 146) (a0 + 26) M _ e_) ?_
  show xEv (40, 11, [some (2, a0)], [], m1) _
  refine xEvG_n xml xfetch 2 (y := (40, 15, [some (2, a0)], [(7, (a0 + 146))], m1)) rfl trivial ?_
  obtain ⟨v2, e_, h⟩ := xB_t h
  refine xEvG_call xml xfetch (q := (some (10, v2), m1)) rfl (hOutlook_atLast (a0 + 146) m1 _ e_) ?_
  show xEv (40, 18, [some (2, a0)], [(10, v2)], m1) _
  refine xEvG_n xml xfetch 1 (y := (40, 19, [some (2, a0)], [(0, 0), (10, v2)], m1)) rfl trivial ?_
  obtain ⟨v3, e_, h⟩ := xB_t h
  refine xEvG_call xml xfetch (q := (some (0, v3), m1)) rfl (hSets_largestWith v2 0 m1 _ e_) ?_
  show xEv (40, 22, [some (2, a0)], [(0, v3)], m1) _
  cases h
  exact xEvG_ret xml xfetch rfl

end
