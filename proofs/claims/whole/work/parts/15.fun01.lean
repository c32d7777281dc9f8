/-! the methods as functions, each with its proof (printed by wip/tools/fgen.py) -/
noncomputable section
def fPrison_addSleep_L3 : Nat → Int → Int → Int → Int → xM → Option xM
  | 0, _, _, _, _, _ => none
  | g + 1, x0, x1, x3, x4, M => if x3 < x4 then (xA (0 ≤ x1 ∧ x1 < 9) (xA (0 ≤ x1 ∧ x1 < 9) (some (xwr (xwr M (x0 + 4) x1 (xw32 ((M (x0 + 4) x1) + 1))) x0 6 (xw32 (((xwr M (x0 + 4) x1 (xw32 ((M (x0 + 4) x1) + 1))) x0 6) + 1)))))) else (if x4 < 24 then (xA (0 ≤ x1 ∧ x1 < 9) (xA (0 ≤ x1 ∧ x1 < 9) ((fPrison_addSleep_L3 g) x0 x1 x3 (xw32 (x4 + 1)) (xwr M (x0 + 5) x1 (xor32 (M (x0 + 5) x1) (xshl 1 x4)))))) else (xA (0 ≤ x1 ∧ x1 < 9) (xA (0 ≤ x1 ∧ x1 < 9) (some (xwr (xwr M (x0 + 4) x1 (xw32 ((M (x0 + 4) x1) + 1))) x0 6 (xw32 (((xwr M (x0 + 4) x1 (xw32 ((M (x0 + 4) x1) + 1))) x0 6) + 1)))))))
theorem hPrison_addSleep_L3 : ∀ (g : Nat) (x0 x1 x3 x4 : Int) (M : xM) (r : xM) (h : fPrison_addSleep_L3 g x0 x1 x3 x4 M = some r), xEv (253, 3, [some (8, x0), some (0, x1), none, some (0, x3), some (0, x4)], [], M) (none, r)
  | 0, _, _, _, _, _, _, h => by cases h
  | g + 1, x0, x1, x3, x4, M, r, h => by
    unfold fPrison_addSleep_L3 at h
    refine xEvG_n xml xfetch 3 (y := (253, if x3 < x4 then 35 else 9, [some (8, x0), some (0, x1), none, some (0, x3), some (0, x4)], [], M)) rfl trivial ?_
    refine xEvG_br xml xfetch (fun c_ => ?_) (fun c_ => ?_)
    · have h := xif_t c_ h
      have a0_ := (xA_t h).1
      have h := (xA_t h).2
      have a1_ := (xA_t h).1
      have h := (xA_t h).2
      refine xEvG_n xml xfetch 14 (y := (253, 55, [some (8, x0), some (0, x1), none, some (0, x3), some (0, x4)], [], (xwr (xwr M (x0 + 4) x1 (xw32 ((M (x0 + 4) x1) + 1))) x0 6 (xw32 (((xwr M (x0 + 4) x1 (xw32 ((M (x0 + 4) x1) + 1))) x0 6) + 1))))) rfl ⟨a0_, a1_, trivial⟩ ?_
      cases h
      exact xEvG_ret xml xfetch rfl
    · have h := xif_f c_ h
      refine xEvG_n xml xfetch 3 (y := (253, if x4 < 24 then 16 else 35, [some (8, x0), some (0, x1), none, some (0, x3), some (0, x4)], [], M)) rfl trivial ?_
      refine xEvG_br xml xfetch (fun c_ => ?_) (fun c_ => ?_)
      · have h := xif_t c_ h
        have a0_ := (xA_t h).1
        have h := (xA_t h).2
        have a1_ := (xA_t h).1
        have h := (xA_t h).2
        refine xEvG_n xml xfetch 12 (y := (253, 3, [some (8, x0), some (0, x1), none, some (0, x3), some (0, (xw32 (x4 + 1)))], [], (xwr M (x0 + 5) x1 (xor32 (M (x0 + 5) x1) (xshl 1 x4))))) rfl ⟨a0_, a1_, trivial⟩ ?_
        refine xEvG_mask xml xfetch [true, true, false, true, true] ?_
        exact (hPrison_addSleep_L3 g) x0 x1 x3 (xw32 (x4 + 1)) (xwr M (x0 + 5) x1 (xor32 (M (x0 + 5) x1) (xshl 1 x4))) _ h
      · have h := xif_f c_ h
        have a0_ := (xA_t h).1
        have h := (xA_t h).2
        have a1_ := (xA_t h).1
        have h := (xA_t h).2
        refine xEvG_n xml xfetch 14 (y := (253, 55, [some (8, x0), some (0, x1), none, some (0, x3), some (0, x4)], [], (xwr (xwr M (x0 + 4) x1 (xw32 ((M (x0 + 4) x1) + 1))) x0 6 (xw32 (((xwr M (x0 + 4) x1 (xw32 ((M (x0 + 4) x1) + 1))) x0 6) + 1))))) rfl ⟨a0_, a1_, trivial⟩ ?_
        cases h
        exact xEvG_ret xml xfetch rfl
/-- ConsentDoors$Prison.addSleep(III)V -/
def fPrison_addSleep (a0 a1 a2 a3 : Int) (M : xM) : Option xM := fPrison_addSleep_L3 20001 a0 a1 a3 a2 M
theorem hPrison_addSleep (a0 a1 a2 a3 : Int) (M : xM) (r : xM) (h : fPrison_addSleep a0 a1 a2 a3 M = some r) : xEv (253, 0, [some (8, a0), some (0, a1), some (0, a2), some (0, a3), none], [], M) (none, r) := by
  unfold fPrison_addSleep at h
  refine xEvG_n xml xfetch 2 (y := (253, 3, [some (8, a0), some (0, a1), some (0, a2), some (0, a3), some (0, a2)], [], M)) rfl trivial ?_
  refine xEvG_mask xml xfetch [true, true, false, true, true] ?_
  exact hPrison_addSleep_L3 20001 a0 a1 a3 a2 M _ h

/-- ConsentDoors$Reader.readSleeps()V -/
def fReader_readSleeps (a0 : Int) (M : xM) : Option xM := if (M (a0 + 3) 6) < 8 then (xB (fReader_takeWord a0 2 M) (fun m1 => xB (fReader_takeNumber a0 0 (xw32 ((m1 (a0 + 3) 0) - 1)) m1) (fun q_ => match q_ with | (v2, m2) => xB (fReader_takeWord a0 14 m2) (fun m3 => xB (fReader_takeNumber a0 0 (xw32 ((m3 (a0 + 3) 1) - 1)) m3) (fun q_ => match q_ with | (v4, m4) => xB (fReader_takeWord a0 15 m4) (fun m5 => xB (fReader_takeNumber a0 v4 (xw32 ((m5 (a0 + 3) 1) - 1)) m5) (fun q_ => match q_ with | (v6, m6) => xB (fReader_takeSign a0 m6) (fun m7 => if (m7 a0 7) = 0 then (xB (fPrison_addSleep (a0 + 3) v2 v4 v6 m7) (fun m8 => some m8)) else (some m7))))))))) else (xB (fReader_takeWord a0 2 (fReader_fail a0 3 M)) (fun m10 => xB (fReader_takeNumber a0 0 (xw32 ((m10 (a0 + 3) 0) - 1)) m10) (fun q_ => match q_ with | (v11, m11) => xB (fReader_takeWord a0 14 m11) (fun m12 => xB (fReader_takeNumber a0 0 (xw32 ((m12 (a0 + 3) 1) - 1)) m12) (fun q_ => match q_ with | (v13, m13) => xB (fReader_takeWord a0 15 m13) (fun m14 => xB (fReader_takeNumber a0 v13 (xw32 ((m14 (a0 + 3) 1) - 1)) m14) (fun q_ => match q_ with | (v15, m15) => xB (fReader_takeSign a0 m15) (fun m16 => if (m16 a0 7) = 0 then (xB (fPrison_addSleep (a0 + 3) v11 v13 v15 m16) (fun m17 => some m17)) else (some m16)))))))))
theorem hReader_readSleeps (a0 : Int) (M : xM) (r : xM) (h : fReader_readSleeps a0 M = some r) : xEv (266, 0, [some (9, a0), none, none, none], [], M) (none, r) := by
  unfold fReader_readSleeps at h
  refine xEvG_n xml xfetch 5 (y := (266, if (M (a0 + 3) 6) < 8 then 17 else 12, [some (9, a0), none, none, none], [], M)) rfl trivial ?_
  refine xEvG_br xml xfetch (fun c_ => ?_) (fun c_ => ?_)
  · have h := xif_t c_ h
    refine xEvG_n xml xfetch 2 (y := (266, 20, [some (9, a0), none, none, none], [(54, 2), (9, a0)], M)) rfl trivial ?_
    obtain ⟨m1, e_, h⟩ := xB_t h
    refine xEvG_call xml xfetch (q := (none, m1)) rfl (hReader_takeWord a0 2 M _ e_) ?_
    show xEv (266, 23, [some (9, a0), none, none, none], [], m1) _
    refine xEvG_n xml xfetch 7 (y := (266, 34, [some (9, a0), none, none, none], [(0, (xw32 ((m1 (a0 + 3) 0) - 1))), (0, 0), (9, a0)], m1)) rfl trivial ?_
    obtain ⟨⟨v2, m2⟩, e_, h⟩ := xB_t h
    refine xEvG_call xml xfetch (q := (some (0, v2), m2)) rfl (hReader_takeNumber a0 0 (xw32 ((m1 (a0 + 3) 0) - 1)) m1 _ e_) ?_
    show xEv (266, 37, [some (9, a0), none, none, none], [(0, v2)], m2) _
    refine xEvG_n xml xfetch 3 (y := (266, 41, [some (9, a0), some (0, v2), none, none], [(54, 14), (9, a0)], m2)) rfl trivial ?_
    obtain ⟨m3, e_, h⟩ := xB_t h
    refine xEvG_call xml xfetch (q := (none, m3)) rfl (hReader_takeWord a0 14 m2 _ e_) ?_
    show xEv (266, 44, [some (9, a0), some (0, v2), none, none], [], m3) _
    refine xEvG_n xml xfetch 7 (y := (266, 55, [some (9, a0), some (0, v2), none, none], [(0, (xw32 ((m3 (a0 + 3) 1) - 1))), (0, 0), (9, a0)], m3)) rfl trivial ?_
    obtain ⟨⟨v4, m4⟩, e_, h⟩ := xB_t h
    refine xEvG_call xml xfetch (q := (some (0, v4), m4)) rfl (hReader_takeNumber a0 0 (xw32 ((m3 (a0 + 3) 1) - 1)) m3 _ e_) ?_
    show xEv (266, 58, [some (9, a0), some (0, v2), none, none], [(0, v4)], m4) _
    refine xEvG_n xml xfetch 3 (y := (266, 62, [some (9, a0), some (0, v2), some (0, v4), none], [(54, 15), (9, a0)], m4)) rfl trivial ?_
    obtain ⟨m5, e_, h⟩ := xB_t h
    refine xEvG_call xml xfetch (q := (none, m5)) rfl (hReader_takeWord a0 15 m4 _ e_) ?_
    show xEv (266, 65, [some (9, a0), some (0, v2), some (0, v4), none], [], m5) _
    refine xEvG_n xml xfetch 7 (y := (266, 76, [some (9, a0), some (0, v2), some (0, v4), none], [(0, (xw32 ((m5 (a0 + 3) 1) - 1))), (0, v4), (9, a0)], m5)) rfl trivial ?_
    obtain ⟨⟨v6, m6⟩, e_, h⟩ := xB_t h
    refine xEvG_call xml xfetch (q := (some (0, v6), m6)) rfl (hReader_takeNumber a0 v4 (xw32 ((m5 (a0 + 3) 1) - 1)) m5 _ e_) ?_
    show xEv (266, 79, [some (9, a0), some (0, v2), some (0, v4), none], [(0, v6)], m6) _
    refine xEvG_n xml xfetch 2 (y := (266, 81, [some (9, a0), some (0, v2), some (0, v4), some (0, v6)], [(9, a0)], m6)) rfl trivial ?_
    obtain ⟨m7, e_, h⟩ := xB_t h
    refine xEvG_call xml xfetch (q := (none, m7)) rfl (hReader_takeSign a0 m6 _ e_) ?_
    show xEv (266, 84, [some (9, a0), some (0, v2), some (0, v4), some (0, v6)], [], m7) _
    refine xEvG_n xml xfetch 3 (y := (266, if (m7 a0 7) = 0 then 91 else 101, [some (9, a0), some (0, v2), some (0, v4), some (0, v6)], [], m7)) rfl trivial ?_
    refine xEvG_br xml xfetch (fun c_ => ?_) (fun c_ => ?_)
    · have h := xif_t c_ h
      refine xEvG_n xml xfetch 5 (y := (266, 98, [some (9, a0), some (0, v2), some (0, v4), some (0, v6)], [(0, v6), (0, v4), (0, v2), (8, (a0 + 3))], m7)) rfl trivial ?_
      obtain ⟨m8, e_, h⟩ := xB_t h
      refine xEvG_call xml xfetch (q := (none, m8)) rfl (hPrison_addSleep (a0 + 3) v2 v4 v6 m7 _ e_) ?_
      show xEv (266, 101, [some (9, a0), some (0, v2), some (0, v4), some (0, v6)], [], m8) _
      cases h
      exact xEvG_ret xml xfetch rfl
    · have h := xif_f c_ h
      cases h
      exact xEvG_ret xml xfetch rfl
  · have h := xif_f c_ h
    refine xEvG_n xml xfetch 2 (y := (266, 14, [some (9, a0), none, none, none], [(0, 3), (9, a0)], M)) rfl trivial ?_
    refine xEvG_call xml xfetch (q := (none, fReader_fail a0 3 M)) rfl (hReader_fail a0 3 M _ rfl) ?_
    show xEv (266, 17, [some (9, a0), none, none, none], [], (fReader_fail a0 3 M)) _
    refine xEvG_n xml xfetch 2 (y := (266, 20, [some (9, a0), none, none, none], [(54, 2), (9, a0)], (fReader_fail a0 3 M))) rfl trivial ?_
    obtain ⟨m10, e_, h⟩ := xB_t h
    refine xEvG_call xml xfetch (q := (none, m10)) rfl (hReader_takeWord a0 2 (fReader_fail a0 3 M) _ e_) ?_
    show xEv (266, 23, [some (9, a0), none, none, none], [], m10) _
    refine xEvG_n xml xfetch 7 (y := (266, 34, [some (9, a0), none, none, none], [(0, (xw32 ((m10 (a0 + 3) 0) - 1))), (0, 0), (9, a0)], m10)) rfl trivial ?_
    obtain ⟨⟨v11, m11⟩, e_, h⟩ := xB_t h
    refine xEvG_call xml xfetch (q := (some (0, v11), m11)) rfl (hReader_takeNumber a0 0 (xw32 ((m10 (a0 + 3) 0) - 1)) m10 _ e_) ?_
    show xEv (266, 37, [some (9, a0), none, none, none], [(0, v11)], m11) _
    refine xEvG_n xml xfetch 3 (y := (266, 41, [some (9, a0), some (0, v11), none, none], [(54, 14), (9, a0)], m11)) rfl trivial ?_
    obtain ⟨m12, e_, h⟩ := xB_t h
    refine xEvG_call xml xfetch (q := (none, m12)) rfl (hReader_takeWord a0 14 m11 _ e_) ?_
    show xEv (266, 44, [some (9, a0), some (0, v11), none, none], [], m12) _
    refine xEvG_n xml xfetch 7 (y := (266, 55, [some (9, a0), some (0, v11), none, none], [(0, (xw32 ((m12 (a0 + 3) 1) - 1))), (0, 0), (9, a0)], m12)) rfl trivial ?_
    obtain ⟨⟨v13, m13⟩, e_, h⟩ := xB_t h
    refine xEvG_call xml xfetch (q := (some (0, v13), m13)) rfl (hReader_takeNumber a0 0 (xw32 ((m12 (a0 + 3) 1) - 1)) m12 _ e_) ?_
    show xEv (266, 58, [some (9, a0), some (0, v11), none, none], [(0, v13)], m13) _
    refine xEvG_n xml xfetch 3 (y := (266, 62, [some (9, a0), some (0, v11), some (0, v13), none], [(54, 15), (9, a0)], m13)) rfl trivial ?_
    obtain ⟨m14, e_, h⟩ := xB_t h
    refine xEvG_call xml xfetch (q := (none, m14)) rfl (hReader_takeWord a0 15 m13 _ e_) ?_
    show xEv (266, 65, [some (9, a0), some (0, v11), some (0, v13), none], [], m14) _
    refine xEvG_n xml xfetch 7 (y := (266, 76, [some (9, a0), some (0, v11), some (0, v13), none], [(0, (xw32 ((m14 (a0 + 3) 1) - 1))), (0, v13), (9, a0)], m14)) rfl trivial ?_
    obtain ⟨⟨v15, m15⟩, e_, h⟩ := xB_t h
    refine xEvG_call xml xfetch (q := (some (0, v15), m15)) rfl (hReader_takeNumber a0 v13 (xw32 ((m14 (a0 + 3) 1) - 1)) m14 _ e_) ?_
    show xEv (266, 79, [some (9, a0), some (0, v11), some (0, v13), none], [(0, v15)], m15) _
    refine xEvG_n xml xfetch 2 (y := (266, 81, [some (9, a0), some (0, v11), some (0, v13), some (0, v15)], [(9, a0)], m15)) rfl trivial ?_
    obtain ⟨m16, e_, h⟩ := xB_t h
    refine xEvG_call xml xfetch (q := (none, m16)) rfl (hReader_takeSign a0 m15 _ e_) ?_
    show xEv (266, 84, [some (9, a0), some (0, v11), some (0, v13), some (0, v15)], [], m16) _
    refine xEvG_n xml xfetch 3 (y := (266, if (m16 a0 7) = 0 then 91 else 101, [some (9, a0), some (0, v11), some (0, v13), some (0, v15)], [], m16)) rfl trivial ?_
    refine xEvG_br xml xfetch (fun c_ => ?_) (fun c_ => ?_)
    · have h := xif_t c_ h
      refine xEvG_n xml xfetch 5 (y := (266, 98, [some (9, a0), some (0, v11), some (0, v13), some (0, v15)], [(0, v15), (0, v13), (0, v11), (8, (a0 + 3))], m16)) rfl trivial ?_
      obtain ⟨m17, e_, h⟩ := xB_t h
      refine xEvG_call xml xfetch (q := (none, m17)) rfl (hPrison_addSleep (a0 + 3) v11 v13 v15 m16 _ e_) ?_
      show xEv (266, 101, [some (9, a0), some (0, v11), some (0, v13), some (0, v15)], [], m17) _
      cases h
      exact xEvG_ret xml xfetch rfl
    · have h := xif_f c_ h
      cases h
      exact xEvG_ret xml xfetch rfl

/-- ConsentDoors$Prison.hasCell(I)Z -/
def fPrison_hasCell (a0 a1 : Int) (M : xM) : Int := (if a1 < 0 then 0 else (if a1 < (M a0 0) then 1 else 0 : Int) : Int)
theorem hPrison_hasCell (a0 a1 : Int) (M : xM) (r : Int) (h : fPrison_hasCell a0 a1 M = r) : xEv (248, 0, [some (8, a0), some (0, a1)], [], M) (some (0, r), M) := by
  unfold fPrison_hasCell at h
  refine xEvG_n xml xfetch 1 (y := (248, 1, [some (8, a0), some (0, a1)], [(0, a1)], M)) rfl trivial ?_
  have key_ : xEv (248, 17, [some (8, a0), some (0, a1)], [(0, (if a1 < 0 then 0 else (if a1 < (M a0 0) then 1 else 0 : Int) : Int))], M) (some (0, r), M) := by
    subst h
    exact xEvG_retc xml xfetch rfl (by (repeat' split) <;> first | exact Or.inl rfl | exact Or.inr rfl)
  refine xEvG_n xml xfetch 1 (y := (248, if a1 < 0 then 16 else 4, [some (8, a0), some (0, a1)], [], M)) rfl trivial ?_
  refine xEvG_br xml xfetch (fun c2_ => ?_) (fun c2_ => ?_)
  · refine xEvG_n xml xfetch 1 (y := (248, 17, [some (8, a0), some (0, a1)], [(0, 0)], M)) rfl trivial ?_
    try simp only [if_pos c2_] at key_
    try simp only [if_pos c2_]
    exact key_
  · refine xEvG_n xml xfetch 4 (y := (248, if a1 < (M a0 0) then 12 else 16, [some (8, a0), some (0, a1)], [], M)) rfl trivial ?_
    refine xEvG_br xml xfetch (fun c4_ => ?_) (fun c4_ => ?_)
    · refine xEvG_n xml xfetch 2 (y := (248, 17, [some (8, a0), some (0, a1)], [(0, 1)], M)) rfl trivial ?_
      try simp only [if_neg c2_, if_pos c4_] at key_
      try simp only [if_neg c2_, if_pos c4_]
      exact key_
    · refine xEvG_n xml xfetch 1 (y := (248, 17, [some (8, a0), some (0, a1)], [(0, 0)], M)) rfl trivial ?_
      try simp only [if_neg c2_, if_neg c4_] at key_
      try simp only [if_neg c2_, if_neg c4_]
      exact key_
theorem bPrison_hasCell (a0 a1 : Int) (M : xM) : fPrison_hasCell a0 a1 M = 0 ∨ fPrison_hasCell a0 a1 M = 1 := by
  unfold fPrison_hasCell
  (repeat' split) <;> first | exact Or.inl rfl | exact Or.inr rfl

/-- ConsentDoors.bit(II)I -/
def fD_bit (a0 a1 : Int) (M : xM) : Int := (xand (xshr a0 a1) 1)
theorem hD_bit (a0 a1 : Int) (M : xM) (r : Int) (h : fD_bit a0 a1 M = r) : xEv (82, 0, [some (0, a0), some (0, a1)], [], M) (some (0, r), M) := by
  unfold fD_bit at h
  refine xEvG_n xml xfetch 5 (y := (82, 5, [some (0, a0), some (0, a1)], [(0, (xand (xshr a0 a1) 1))], M)) rfl trivial ?_
  subst h
  exact xEvG_ret xml xfetch rfl

def fReader_readQuarrel_L33 (x0 y0 : Int) (M : xM) : Option xM := if y0 = 0 then (xB (fReader_takeNumber x0 0 (xw32 ((M (x0 + 3) 0) - 1)) M) (fun q_ => match q_ with | (v15, m15) => xB (fReader_takeSign x0 m15) (fun m16 => if (m16 x0 7) = 0 then (some (xwr m16 (x0 + 3) 5 (xor32 (m16 (x0 + 3) 5) (xshl 1 v15)))) else (some m16)))) else (if (fPrison_neighbour (x0 + 3) (M x0 5) 1 M) = (-1) then (xB (fReader_takeNumber x0 0 (xw32 (((fReader_fail x0 2 M) (x0 + 3) 0) - 1)) (fReader_fail x0 2 M)) (fun q_ => match q_ with | (v19, m19) => xB (fReader_takeSign x0 m19) (fun m20 => if (m20 x0 7) = 0 then (some (xwr m20 (x0 + 3) 5 (xor32 (m20 (x0 + 3) 5) (xshl 1 v19)))) else (some m20)))) else (if (fD_bit (M (x0 + 3) 5) (M x0 5) M) = 1 then (xB (fReader_takeNumber x0 0 (xw32 (((fReader_fail x0 2 M) (x0 + 3) 0) - 1)) (fReader_fail x0 2 M)) (fun q_ => match q_ with | (v23, m23) => xB (fReader_takeSign x0 m23) (fun m24 => if (m24 x0 7) = 0 then (some (xwr m24 (x0 + 3) 5 (xor32 (m24 (x0 + 3) 5) (xshl 1 v23)))) else (some m24)))) else (xB (fReader_takeNumber x0 0 (xw32 ((M (x0 + 3) 0) - 1)) M) (fun q_ => match q_ with | (v25, m25) => xB (fReader_takeSign x0 m25) (fun m26 => if (m26 x0 7) = 0 then (some (xwr m26 (x0 + 3) 5 (xor32 (m26 (x0 + 3) 5) (xshl 1 v25)))) else (some m26))))))
theorem hReader_readQuarrel_L33 (x0 y0 : Int) (M : xM) (r : xM) (h : fReader_readQuarrel_L33 x0 y0 M = some r) : xEv (265, 33, [some (9, x0), none, none], [(0, y0)], M) (none, r) := by
  unfold fReader_readQuarrel_L33 at h
  refine xEvG_n xml xfetch 3 (y := (265, if y0 = 0 then 77 else 38, [some (9, x0), some (0, y0), none], [], M)) rfl trivial ?_
  refine xEvG_br xml xfetch (fun c_ => ?_) (fun c_ => ?_)
  · have h := xif_t c_ h
    refine xEvG_n xml xfetch 7 (y := (265, 88, [some (9, x0), some (0, y0), none], [(0, (xw32 ((M (x0 + 3) 0) - 1))), (0, 0), (9, x0)], M)) rfl trivial ?_
    obtain ⟨⟨v15, m15⟩, e_, h⟩ := xB_t h
    refine xEvG_call xml xfetch (q := (some (0, v15), m15)) rfl (hReader_takeNumber x0 0 (xw32 ((M (x0 + 3) 0) - 1)) M _ e_) ?_
    show xEv (265, 91, [some (9, x0), some (0, y0), none], [(0, v15)], m15) _
    refine xEvG_n xml xfetch 2 (y := (265, 93, [some (9, x0), some (0, y0), some (0, v15)], [(9, x0)], m15)) rfl trivial ?_
    obtain ⟨m16, e_, h⟩ := xB_t h
    refine xEvG_call xml xfetch (q := (none, m16)) rfl (hReader_takeSign x0 m15 _ e_) ?_
    show xEv (265, 96, [some (9, x0), some (0, y0), some (0, v15)], [], m16) _
    refine xEvG_n xml xfetch 3 (y := (265, if (m16 x0 7) = 0 then 103 else 118, [some (9, x0), some (0, y0), some (0, v15)], [], m16)) rfl trivial ?_
    refine xEvG_br xml xfetch (fun c_ => ?_) (fun c_ => ?_)
    · have h := xif_t c_ h
      refine xEvG_n xml xfetch 9 (y := (265, 118, [some (9, x0), some (0, y0), some (0, v15)], [], (xwr m16 (x0 + 3) 5 (xor32 (m16 (x0 + 3) 5) (xshl 1 v15))))) rfl trivial ?_
      cases h
      exact xEvG_ret xml xfetch rfl
    · have h := xif_f c_ h
      cases h
      exact xEvG_ret xml xfetch rfl
  · have h := xif_f c_ h
    refine xEvG_n xml xfetch 5 (y := (265, 47, [some (9, x0), some (0, y0), none], [(0, 1), (0, (M x0 5)), (8, (x0 + 3))], M)) rfl trivial ?_
    refine xEvG_call xml xfetch (q := (some (0, fPrison_neighbour (x0 + 3) (M x0 5) 1 M), M)) rfl (hPrison_neighbour (x0 + 3) (M x0 5) 1 M _ rfl) ?_
    show xEv (265, 50, [some (9, x0), some (0, y0), none], [(0, (fPrison_neighbour (x0 + 3) (M x0 5) 1 M))], M) _
    refine xEvG_n xml xfetch 2 (y := (265, if (fPrison_neighbour (x0 + 3) (M x0 5) 1 M) = (-1) then 72 else 54, [some (9, x0), some (0, y0), none], [], M)) rfl trivial ?_
    refine xEvG_br xml xfetch (fun c_ => ?_) (fun c_ => ?_)
    · have h := xif_t c_ h
      refine xEvG_n xml xfetch 2 (y := (265, 74, [some (9, x0), some (0, y0), none], [(0, 2), (9, x0)], M)) rfl trivial ?_
      refine xEvG_call xml xfetch (q := (none, fReader_fail x0 2 M)) rfl (hReader_fail x0 2 M _ rfl) ?_
      show xEv (265, 77, [some (9, x0), some (0, y0), none], [], (fReader_fail x0 2 M)) _
      refine xEvG_n xml xfetch 7 (y := (265, 88, [some (9, x0), some (0, y0), none], [(0, (xw32 (((fReader_fail x0 2 M) (x0 + 3) 0) - 1))), (0, 0), (9, x0)], (fReader_fail x0 2 M))) rfl trivial ?_
      obtain ⟨⟨v19, m19⟩, e_, h⟩ := xB_t h
      refine xEvG_call xml xfetch (q := (some (0, v19), m19)) rfl (hReader_takeNumber x0 0 (xw32 (((fReader_fail x0 2 M) (x0 + 3) 0) - 1)) (fReader_fail x0 2 M) _ e_) ?_
      show xEv (265, 91, [some (9, x0), some (0, y0), none], [(0, v19)], m19) _
      refine xEvG_n xml xfetch 2 (y := (265, 93, [some (9, x0), some (0, y0), some (0, v19)], [(9, x0)], m19)) rfl trivial ?_
      obtain ⟨m20, e_, h⟩ := xB_t h
      refine xEvG_call xml xfetch (q := (none, m20)) rfl (hReader_takeSign x0 m19 _ e_) ?_
      show xEv (265, 96, [some (9, x0), some (0, y0), some (0, v19)], [], m20) _
      refine xEvG_n xml xfetch 3 (y := (265, if (m20 x0 7) = 0 then 103 else 118, [some (9, x0), some (0, y0), some (0, v19)], [], m20)) rfl trivial ?_
      refine xEvG_br xml xfetch (fun c_ => ?_) (fun c_ => ?_)
      · have h := xif_t c_ h
        refine xEvG_n xml xfetch 9 (y := (265, 118, [some (9, x0), some (0, y0), some (0, v19)], [], (xwr m20 (x0 + 3) 5 (xor32 (m20 (x0 + 3) 5) (xshl 1 v19))))) rfl trivial ?_
        cases h
        exact xEvG_ret xml xfetch rfl
      · have h := xif_f c_ h
        cases h
        exact xEvG_ret xml xfetch rfl
    · have h := xif_f c_ h
      refine xEvG_n xml xfetch 5 (y := (265, 65, [some (9, x0), some (0, y0), none], [(0, (M x0 5)), (0, (M (x0 + 3) 5))], M)) rfl trivial ?_
      refine xEvG_call xml xfetch (q := (some (0, fD_bit (M (x0 + 3) 5) (M x0 5) M), M)) rfl (hD_bit (M (x0 + 3) 5) (M x0 5) M _ rfl) ?_
      show xEv (265, 68, [some (9, x0), some (0, y0), none], [(0, (fD_bit (M (x0 + 3) 5) (M x0 5) M))], M) _
      refine xEvG_n xml xfetch 2 (y := (265, if (fD_bit (M (x0 + 3) 5) (M x0 5) M) = 1 then 72 else 77, [some (9, x0), some (0, y0), none], [], M)) rfl trivial ?_
      refine xEvG_br xml xfetch (fun c_ => ?_) (fun c_ => ?_)
      · have h := xif_t c_ h
        refine xEvG_n xml xfetch 2 (y := (265, 74, [some (9, x0), some (0, y0), none], [(0, 2), (9, x0)], M)) rfl trivial ?_
        refine xEvG_call xml xfetch (q := (none, fReader_fail x0 2 M)) rfl (hReader_fail x0 2 M _ rfl) ?_
        show xEv (265, 77, [some (9, x0), some (0, y0), none], [], (fReader_fail x0 2 M)) _
        refine xEvG_n xml xfetch 7 (y := (265, 88, [some (9, x0), some (0, y0), none], [(0, (xw32 (((fReader_fail x0 2 M) (x0 + 3) 0) - 1))), (0, 0), (9, x0)], (fReader_fail x0 2 M))) rfl trivial ?_
        obtain ⟨⟨v23, m23⟩, e_, h⟩ := xB_t h
        refine xEvG_call xml xfetch (q := (some (0, v23), m23)) rfl (hReader_takeNumber x0 0 (xw32 (((fReader_fail x0 2 M) (x0 + 3) 0) - 1)) (fReader_fail x0 2 M) _ e_) ?_
        show xEv (265, 91, [some (9, x0), some (0, y0), none], [(0, v23)], m23) _
        refine xEvG_n xml xfetch 2 (y := (265, 93, [some (9, x0), some (0, y0), some (0, v23)], [(9, x0)], m23)) rfl trivial ?_
        obtain ⟨m24, e_, h⟩ := xB_t h
        refine xEvG_call xml xfetch (q := (none, m24)) rfl (hReader_takeSign x0 m23 _ e_) ?_
        show xEv (265, 96, [some (9, x0), some (0, y0), some (0, v23)], [], m24) _
        refine xEvG_n xml xfetch 3 (y := (265, if (m24 x0 7) = 0 then 103 else 118, [some (9, x0), some (0, y0), some (0, v23)], [], m24)) rfl trivial ?_
        refine xEvG_br xml xfetch (fun c_ => ?_) (fun c_ => ?_)
        · have h := xif_t c_ h
          refine xEvG_n xml xfetch 9 (y := (265, 118, [some (9, x0), some (0, y0), some (0, v23)], [], (xwr m24 (x0 + 3) 5 (xor32 (m24 (x0 + 3) 5) (xshl 1 v23))))) rfl trivial ?_
          cases h
          exact xEvG_ret xml xfetch rfl
        · have h := xif_f c_ h
          cases h
          exact xEvG_ret xml xfetch rfl
      · have h := xif_f c_ h
        refine xEvG_n xml xfetch 7 (y := (265, 88, [some (9, x0), some (0, y0), none], [(0, (xw32 ((M (x0 + 3) 0) - 1))), (0, 0), (9, x0)], M)) rfl trivial ?_
        obtain ⟨⟨v25, m25⟩, e_, h⟩ := xB_t h
        refine xEvG_call xml xfetch (q := (some (0, v25), m25)) rfl (hReader_takeNumber x0 0 (xw32 ((M (x0 + 3) 0) - 1)) M _ e_) ?_
        show xEv (265, 91, [some (9, x0), some (0, y0), none], [(0, v25)], m25) _
        refine xEvG_n xml xfetch 2 (y := (265, 93, [some (9, x0), some (0, y0), some (0, v25)], [(9, x0)], m25)) rfl trivial ?_
        obtain ⟨m26, e_, h⟩ := xB_t h
        refine xEvG_call xml xfetch (q := (none, m26)) rfl (hReader_takeSign x0 m25 _ e_) ?_
        show xEv (265, 96, [some (9, x0), some (0, y0), some (0, v25)], [], m26) _
        refine xEvG_n xml xfetch 3 (y := (265, if (m26 x0 7) = 0 then 103 else 118, [some (9, x0), some (0, y0), some (0, v25)], [], m26)) rfl trivial ?_
        refine xEvG_br xml xfetch (fun c_ => ?_) (fun c_ => ?_)
        · have h := xif_t c_ h
          refine xEvG_n xml xfetch 9 (y := (265, 118, [some (9, x0), some (0, y0), some (0, v25)], [], (xwr m26 (x0 + 3) 5 (xor32 (m26 (x0 + 3) 5) (xshl 1 v25))))) rfl trivial ?_
          cases h
          exact xEvG_ret xml xfetch rfl
        · have h := xif_f c_ h
          cases h
          exact xEvG_ret xml xfetch rfl
/-- ConsentDoors$Reader.readQuarrel()V -/
def fReader_readQuarrel (a0 : Int) (M : xM) : Option xM := xB (fReader_takeWord a0 1 M) (fun m1 => if (m1 a0 4) = 2 then (if (if (fPrison_hasCell (a0 + 3) (m1 a0 5) m1) = 0 then 0 else 1 : Int) = 0 then (xB (fReader_takeNumber a0 0 (xw32 ((m1 (a0 + 3) 0) - 1)) m1) (fun q_ => match q_ with | (v3, m3) => xB (fReader_takeSign a0 m3) (fun m4 => if (m4 a0 7) = 0 then (some (xwr m4 (a0 + 3) 5 (xor32 (m4 (a0 + 3) 5) (xshl 1 v3)))) else (some m4)))) else (if (fPrison_neighbour (a0 + 3) (m1 a0 5) 1 m1) = (-1) then (xB (fReader_takeNumber a0 0 (xw32 (((fReader_fail a0 2 m1) (a0 + 3) 0) - 1)) (fReader_fail a0 2 m1)) (fun q_ => match q_ with | (v7, m7) => xB (fReader_takeSign a0 m7) (fun m8 => if (m8 a0 7) = 0 then (some (xwr m8 (a0 + 3) 5 (xor32 (m8 (a0 + 3) 5) (xshl 1 v7)))) else (some m8)))) else (if (fD_bit (m1 (a0 + 3) 5) (m1 a0 5) m1) = 1 then (xB (fReader_takeNumber a0 0 (xw32 (((fReader_fail a0 2 m1) (a0 + 3) 0) - 1)) (fReader_fail a0 2 m1)) (fun q_ => match q_ with | (v11, m11) => xB (fReader_takeSign a0 m11) (fun m12 => if (m12 a0 7) = 0 then (some (xwr m12 (a0 + 3) 5 (xor32 (m12 (a0 + 3) 5) (xshl 1 v11)))) else (some m12)))) else (xB (fReader_takeNumber a0 0 (xw32 ((m1 (a0 + 3) 0) - 1)) m1) (fun q_ => match q_ with | (v13, m13) => xB (fReader_takeSign a0 m13) (fun m14 => if (m14 a0 7) = 0 then (some (xwr m14 (a0 + 3) 5 (xor32 (m14 (a0 + 3) 5) (xshl 1 v13)))) else (some m14))))))) else (fReader_readQuarrel_L33 a0 0 m1))
theorem hReader_readQuarrel (a0 : Int) (M : xM) (r : xM) (h : fReader_readQuarrel a0 M = some r) : xEv (265, 0, [some (9, a0), none, none], [], M) (none, r) := by
  unfold fReader_readQuarrel at h
  refine xEvG_n xml xfetch 2 (y := (265, 3, [some (9, a0), none, none], [(54, 1), (9, a0)], M)) rfl trivial ?_
  obtain ⟨m1, e_, h⟩ := xB_t h
  refine xEvG_call xml xfetch (q := (none, m1)) rfl (hReader_takeWord a0 1 M _ e_) ?_
  show xEv (265, 6, [some (9, a0), none, none], [], m1) _
  refine xEvG_n xml xfetch 4 (y := (265, if (m1 a0 4) = 2 then 14 else 32, [some (9, a0), none, none], [], m1)) rfl trivial ?_
  refine xEvG_br xml xfetch (fun c_ => ?_) (fun c_ => ?_)
  · have h := xif_t c_ h
    refine xEvG_n xml xfetch 4 (y := (265, 22, [some (9, a0), none, none], [(0, (m1 a0 5)), (8, (a0 + 3))], m1)) rfl trivial ?_
    refine xEvG_call xml xfetch (q := (some (0, fPrison_hasCell (a0 + 3) (m1 a0 5) m1), m1)) rfl (hPrison_hasCell (a0 + 3) (m1 a0 5) m1 _ rfl) ?_
    show xEv (265, 25, [some (9, a0), none, none], [(0, (fPrison_hasCell (a0 + 3) (m1 a0 5) m1))], m1) _
    have key_ : xEv (265, 33, [some (9, a0), none, none], [(0, (if (fPrison_hasCell (a0 + 3) (m1 a0 5) m1) = 0 then 0 else 1 : Int))], m1) (none, r) := by
      refine xEvG_n xml xfetch 3 (y := (265, if (if (fPrison_hasCell (a0 + 3) (m1 a0 5) m1) = 0 then 0 else 1 : Int) = 0 then 77 else 38, [some (9, a0), some (0, (if (fPrison_hasCell (a0 + 3) (m1 a0 5) m1) = 0 then 0 else 1 : Int)), none], [], m1)) rfl trivial ?_
      refine xEvG_br xml xfetch (fun c_ => ?_) (fun c_ => ?_)
      · have h := xif_t c_ h
        refine xEvG_n xml xfetch 7 (y := (265, 88, [some (9, a0), some (0, (if (fPrison_hasCell (a0 + 3) (m1 a0 5) m1) = 0 then 0 else 1 : Int)), none], [(0, (xw32 ((m1 (a0 + 3) 0) - 1))), (0, 0), (9, a0)], m1)) rfl trivial ?_
        obtain ⟨⟨v3, m3⟩, e_, h⟩ := xB_t h
        refine xEvG_call xml xfetch (q := (some (0, v3), m3)) rfl (hReader_takeNumber a0 0 (xw32 ((m1 (a0 + 3) 0) - 1)) m1 _ e_) ?_
        show xEv (265, 91, [some (9, a0), some (0, (if (fPrison_hasCell (a0 + 3) (m1 a0 5) m1) = 0 then 0 else 1 : Int)), none], [(0, v3)], m3) _
        refine xEvG_n xml xfetch 2 (y := (265, 93, [some (9, a0), some (0, (if (fPrison_hasCell (a0 + 3) (m1 a0 5) m1) = 0 then 0 else 1 : Int)), some (0, v3)], [(9, a0)], m3)) rfl trivial ?_
        obtain ⟨m4, e_, h⟩ := xB_t h
        refine xEvG_call xml xfetch (q := (none, m4)) rfl (hReader_takeSign a0 m3 _ e_) ?_
        show xEv (265, 96, [some (9, a0), some (0, (if (fPrison_hasCell (a0 + 3) (m1 a0 5) m1) = 0 then 0 else 1 : Int)), some (0, v3)], [], m4) _
        refine xEvG_n xml xfetch 3 (y := (265, if (m4 a0 7) = 0 then 103 else 118, [some (9, a0), some (0, (if (fPrison_hasCell (a0 + 3) (m1 a0 5) m1) = 0 then 0 else 1 : Int)), some (0, v3)], [], m4)) rfl trivial ?_
        refine xEvG_br xml xfetch (fun c_ => ?_) (fun c_ => ?_)
        · have h := xif_t c_ h
          refine xEvG_n xml xfetch 9 (y := (265, 118, [some (9, a0), some (0, (if (fPrison_hasCell (a0 + 3) (m1 a0 5) m1) = 0 then 0 else 1 : Int)), some (0, v3)], [], (xwr m4 (a0 + 3) 5 (xor32 (m4 (a0 + 3) 5) (xshl 1 v3))))) rfl trivial ?_
          cases h
          exact xEvG_ret xml xfetch rfl
        · have h := xif_f c_ h
          cases h
          exact xEvG_ret xml xfetch rfl
      · have h := xif_f c_ h
        refine xEvG_n xml xfetch 5 (y := (265, 47, [some (9, a0), some (0, (if (fPrison_hasCell (a0 + 3) (m1 a0 5) m1) = 0 then 0 else 1 : Int)), none], [(0, 1), (0, (m1 a0 5)), (8, (a0 + 3))], m1)) rfl trivial ?_
        refine xEvG_call xml xfetch (q := (some (0, fPrison_neighbour (a0 + 3) (m1 a0 5) 1 m1), m1)) rfl (hPrison_neighbour (a0 + 3) (m1 a0 5) 1 m1 _ rfl) ?_
        show xEv (265, 50, [some (9, a0), some (0, (if (fPrison_hasCell (a0 + 3) (m1 a0 5) m1) = 0 then 0 else 1 : Int)), none], [(0, (fPrison_neighbour (a0 + 3) (m1 a0 5) 1 m1))], m1) _
        refine xEvG_n xml xfetch 2 (y := (265, if (fPrison_neighbour (a0 + 3) (m1 a0 5) 1 m1) = (-1) then 72 else 54, [some (9, a0), some (0, (if (fPrison_hasCell (a0 + 3) (m1 a0 5) m1) = 0 then 0 else 1 : Int)), none], [], m1)) rfl trivial ?_
        refine xEvG_br xml xfetch (fun c_ => ?_) (fun c_ => ?_)
        · have h := xif_t c_ h
          refine xEvG_n xml xfetch 2 (y := (265, 74, [some (9, a0), some (0, (if (fPrison_hasCell (a0 + 3) (m1 a0 5) m1) = 0 then 0 else 1 : Int)), none], [(0, 2), (9, a0)], m1)) rfl trivial ?_
          refine xEvG_call xml xfetch (q := (none, fReader_fail a0 2 m1)) rfl (hReader_fail a0 2 m1 _ rfl) ?_
          show xEv (265, 77, [some (9, a0), some (0, (if (fPrison_hasCell (a0 + 3) (m1 a0 5) m1) = 0 then 0 else 1 : Int)), none], [], (fReader_fail a0 2 m1)) _
          refine xEvG_n xml xfetch 7 (y := (265, 88, [some (9, a0), some (0, (if (fPrison_hasCell (a0 + 3) (m1 a0 5) m1) = 0 then 0 else 1 : Int)), none], [(0, (xw32 (((fReader_fail a0 2 m1) (a0 + 3) 0) - 1))), (0, 0), (9, a0)], (fReader_fail a0 2 m1))) rfl trivial ?_
          obtain ⟨⟨v7, m7⟩, e_, h⟩ := xB_t h
          refine xEvG_call xml xfetch (q := (some (0, v7), m7)) rfl (hReader_takeNumber a0 0 (xw32 (((fReader_fail a0 2 m1) (a0 + 3) 0) - 1)) (fReader_fail a0 2 m1) _ e_) ?_
          show xEv (265, 91, [some (9, a0), some (0, (if (fPrison_hasCell (a0 + 3) (m1 a0 5) m1) = 0 then 0 else 1 : Int)), none], [(0, v7)], m7) _
          refine xEvG_n xml xfetch 2 (y := (265, 93, [some (9, a0), some (0, (if (fPrison_hasCell (a0 + 3) (m1 a0 5) m1) = 0 then 0 else 1 : Int)), some (0, v7)], [(9, a0)], m7)) rfl trivial ?_
          obtain ⟨m8, e_, h⟩ := xB_t h
          refine xEvG_call xml xfetch (q := (none, m8)) rfl (hReader_takeSign a0 m7 _ e_) ?_
          show xEv (265, 96, [some (9, a0), some (0, (if (fPrison_hasCell (a0 + 3) (m1 a0 5) m1) = 0 then 0 else 1 : Int)), some (0, v7)], [], m8) _
          refine xEvG_n xml xfetch 3 (y := (265, if (m8 a0 7) = 0 then 103 else 118, [some (9, a0), some (0, (if (fPrison_hasCell (a0 + 3) (m1 a0 5) m1) = 0 then 0 else 1 : Int)), some (0, v7)], [], m8)) rfl trivial ?_
          refine xEvG_br xml xfetch (fun c_ => ?_) (fun c_ => ?_)
          · have h := xif_t c_ h
            refine xEvG_n xml xfetch 9 (y := (265, 118, [some (9, a0), some (0, (if (fPrison_hasCell (a0 + 3) (m1 a0 5) m1) = 0 then 0 else 1 : Int)), some (0, v7)], [], (xwr m8 (a0 + 3) 5 (xor32 (m8 (a0 + 3) 5) (xshl 1 v7))))) rfl trivial ?_
            cases h
            exact xEvG_ret xml xfetch rfl
          · have h := xif_f c_ h
            cases h
            exact xEvG_ret xml xfetch rfl
        · have h := xif_f c_ h
          refine xEvG_n xml xfetch 5 (y := (265, 65, [some (9, a0), some (0, (if (fPrison_hasCell (a0 + 3) (m1 a0 5) m1) = 0 then 0 else 1 : Int)), none], [(0, (m1 a0 5)), (0, (m1 (a0 + 3) 5))], m1)) rfl trivial ?_
          refine xEvG_call xml xfetch (q := (some (0, fD_bit (m1 (a0 + 3) 5) (m1 a0 5) m1), m1)) rfl (hD_bit (m1 (a0 + 3) 5) (m1 a0 5) m1 _ rfl) ?_
          show xEv (265, 68, [some (9, a0), some (0, (if (fPrison_hasCell (a0 + 3) (m1 a0 5) m1) = 0 then 0 else 1 : Int)), none], [(0, (fD_bit (m1 (a0 + 3) 5) (m1 a0 5) m1))], m1) _
          refine xEvG_n xml xfetch 2 (y := (265, if (fD_bit (m1 (a0 + 3) 5) (m1 a0 5) m1) = 1 then 72 else 77, [some (9, a0), some (0, (if (fPrison_hasCell (a0 + 3) (m1 a0 5) m1) = 0 then 0 else 1 : Int)), none], [], m1)) rfl trivial ?_
          refine xEvG_br xml xfetch (fun c_ => ?_) (fun c_ => ?_)
          · have h := xif_t c_ h
            refine xEvG_n xml xfetch 2 (y := (265, 74, [some (9, a0), some (0, (if (fPrison_hasCell (a0 + 3) (m1 a0 5) m1) = 0 then 0 else 1 : Int)), none], [(0, 2), (9, a0)], m1)) rfl trivial ?_
            refine xEvG_call xml xfetch (q := (none, fReader_fail a0 2 m1)) rfl (hReader_fail a0 2 m1 _ rfl) ?_
            show xEv (265, 77, [some (9, a0), some (0, (if (fPrison_hasCell (a0 + 3) (m1 a0 5) m1) = 0 then 0 else 1 : Int)), none], [], (fReader_fail a0 2 m1)) _
            refine xEvG_n xml xfetch 7 (y := (265, 88, [some (9, a0), some (0, (if (fPrison_hasCell (a0 + 3) (m1 a0 5) m1) = 0 then 0 else 1 : Int)), none], [(0, (xw32 (((fReader_fail a0 2 m1) (a0 + 3) 0) - 1))), (0, 0), (9, a0)], (fReader_fail a0 2 m1))) rfl trivial ?_
            obtain ⟨⟨v11, m11⟩, e_, h⟩ := xB_t h
            refine xEvG_call xml xfetch (q := (some (0, v11), m11)) rfl (hReader_takeNumber a0 0 (xw32 (((fReader_fail a0 2 m1) (a0 + 3) 0) - 1)) (fReader_fail a0 2 m1) _ e_) ?_
            show xEv (265, 91, [some (9, a0), some (0, (if (fPrison_hasCell (a0 + 3) (m1 a0 5) m1) = 0 then 0 else 1 : Int)), none], [(0, v11)], m11) _
            refine xEvG_n xml xfetch 2 (y := (265, 93, [some (9, a0), some (0, (if (fPrison_hasCell (a0 + 3) (m1 a0 5) m1) = 0 then 0 else 1 : Int)), some (0, v11)], [(9, a0)], m11)) rfl trivial ?_
            obtain ⟨m12, e_, h⟩ := xB_t h
            refine xEvG_call xml xfetch (q := (none, m12)) rfl (hReader_takeSign a0 m11 _ e_) ?_
            show xEv (265, 96, [some (9, a0), some (0, (if (fPrison_hasCell (a0 + 3) (m1 a0 5) m1) = 0 then 0 else 1 : Int)), some (0, v11)], [], m12) _
            refine xEvG_n xml xfetch 3 (y := (265, if (m12 a0 7) = 0 then 103 else 118, [some (9, a0), some (0, (if (fPrison_hasCell (a0 + 3) (m1 a0 5) m1) = 0 then 0 else 1 : Int)), some (0, v11)], [], m12)) rfl trivial ?_
            refine xEvG_br xml xfetch (fun c_ => ?_) (fun c_ => ?_)
            · have h := xif_t c_ h
              refine xEvG_n xml xfetch 9 (y := (265, 118, [some (9, a0), some (0, (if (fPrison_hasCell (a0 + 3) (m1 a0 5) m1) = 0 then 0 else 1 : Int)), some (0, v11)], [], (xwr m12 (a0 + 3) 5 (xor32 (m12 (a0 + 3) 5) (xshl 1 v11))))) rfl trivial ?_
              cases h
              exact xEvG_ret xml xfetch rfl
            · have h := xif_f c_ h
              cases h
              exact xEvG_ret xml xfetch rfl
          · have h := xif_f c_ h
            refine xEvG_n xml xfetch 7 (y := (265, 88, [some (9, a0), some (0, (if (fPrison_hasCell (a0 + 3) (m1 a0 5) m1) = 0 then 0 else 1 : Int)), none], [(0, (xw32 ((m1 (a0 + 3) 0) - 1))), (0, 0), (9, a0)], m1)) rfl trivial ?_
            obtain ⟨⟨v13, m13⟩, e_, h⟩ := xB_t h
            refine xEvG_call xml xfetch (q := (some (0, v13), m13)) rfl (hReader_takeNumber a0 0 (xw32 ((m1 (a0 + 3) 0) - 1)) m1 _ e_) ?_
            show xEv (265, 91, [some (9, a0), some (0, (if (fPrison_hasCell (a0 + 3) (m1 a0 5) m1) = 0 then 0 else 1 : Int)), none], [(0, v13)], m13) _
            refine xEvG_n xml xfetch 2 (y := (265, 93, [some (9, a0), some (0, (if (fPrison_hasCell (a0 + 3) (m1 a0 5) m1) = 0 then 0 else 1 : Int)), some (0, v13)], [(9, a0)], m13)) rfl trivial ?_
            obtain ⟨m14, e_, h⟩ := xB_t h
            refine xEvG_call xml xfetch (q := (none, m14)) rfl (hReader_takeSign a0 m13 _ e_) ?_
            show xEv (265, 96, [some (9, a0), some (0, (if (fPrison_hasCell (a0 + 3) (m1 a0 5) m1) = 0 then 0 else 1 : Int)), some (0, v13)], [], m14) _
            refine xEvG_n xml xfetch 3 (y := (265, if (m14 a0 7) = 0 then 103 else 118, [some (9, a0), some (0, (if (fPrison_hasCell (a0 + 3) (m1 a0 5) m1) = 0 then 0 else 1 : Int)), some (0, v13)], [], m14)) rfl trivial ?_
            refine xEvG_br xml xfetch (fun c_ => ?_) (fun c_ => ?_)
            · have h := xif_t c_ h
              refine xEvG_n xml xfetch 9 (y := (265, 118, [some (9, a0), some (0, (if (fPrison_hasCell (a0 + 3) (m1 a0 5) m1) = 0 then 0 else 1 : Int)), some (0, v13)], [], (xwr m14 (a0 + 3) 5 (xor32 (m14 (a0 + 3) 5) (xshl 1 v13))))) rfl trivial ?_
              cases h
              exact xEvG_ret xml xfetch rfl
            · have h := xif_f c_ h
              cases h
              exact xEvG_ret xml xfetch rfl
    refine xEvG_n xml xfetch 1 (y := (265, if (fPrison_hasCell (a0 + 3) (m1 a0 5) m1) = 0 then 32 else 28, [some (9, a0), none, none], [], m1)) rfl trivial ?_
    refine xEvG_br xml xfetch (fun c4_ => ?_) (fun c4_ => ?_)
    · refine xEvG_n xml xfetch 1 (y := (265, 33, [some (9, a0), none, none], [(0, 0)], m1)) rfl trivial ?_
      try simp only [if_pos c4_] at key_
      try simp only [if_pos c4_]
      exact key_
    · refine xEvG_n xml xfetch 2 (y := (265, 33, [some (9, a0), none, none], [(0, 1)], m1)) rfl trivial ?_
      try simp only [if_neg c4_] at key_
      try simp only [if_neg c4_]
      exact key_
  · have h := xif_f c_ h
    refine xEvG_n xml xfetch 1 (y := (265, 33, [some (9, a0), none, none], [(0, 0)], m1)) rfl trivial ?_
    refine xEvG_mask xml xfetch [true, false, false] ?_
    exact hReader_readQuarrel_L33 a0 0 m1 _ h

def fReader_takeKind_L55 (x0 x1 : Int) (M : xM) : Option (Int × xM) := if x1 = (-1) then (xB (fReader_advance x0 (fReader_fail x0 1 M)) (fun m9 => some (x1, m9))) else (xB (fReader_advance x0 M) (fun m10 => some (x1, m10)))
theorem hReader_takeKind_L55 (x0 x1 : Int) (M : xM) (r : Int × xM) (h : fReader_takeKind_L55 x0 x1 M = some r) : xEv (269, 55, [some (9, x0), some (0, x1)], [], M) (some (0, r.1), r.2) := by
  unfold fReader_takeKind_L55 at h
  refine xEvG_n xml xfetch 3 (y := (269, if x1 = (-1) then 60 else 65, [some (9, x0), some (0, x1)], [], M)) rfl trivial ?_
  refine xEvG_br xml xfetch (fun c_ => ?_) (fun c_ => ?_)
  · have h := xif_t c_ h
    refine xEvG_n xml xfetch 2 (y := (269, 62, [some (9, x0), some (0, x1)], [(0, 1), (9, x0)], M)) rfl trivial ?_
    refine xEvG_call xml xfetch (q := (none, fReader_fail x0 1 M)) rfl (hReader_fail x0 1 M _ rfl) ?_
    show xEv (269, 65, [some (9, x0), some (0, x1)], [], (fReader_fail x0 1 M)) _
    refine xEvG_n xml xfetch 1 (y := (269, 66, [some (9, x0), some (0, x1)], [(9, x0)], (fReader_fail x0 1 M))) rfl trivial ?_
    obtain ⟨m9, e_, h⟩ := xB_t h
    refine xEvG_call xml xfetch (q := (none, m9)) rfl (hReader_advance x0 (fReader_fail x0 1 M) _ e_) ?_
    show xEv (269, 69, [some (9, x0), some (0, x1)], [], m9) _
    refine xEvG_n xml xfetch 1 (y := (269, 70, [some (9, x0), some (0, x1)], [(0, x1)], m9)) rfl trivial ?_
    cases h
    exact xEvG_ret xml xfetch rfl
  · have h := xif_f c_ h
    refine xEvG_n xml xfetch 1 (y := (269, 66, [some (9, x0), some (0, x1)], [(9, x0)], M)) rfl trivial ?_
    obtain ⟨m10, e_, h⟩ := xB_t h
    refine xEvG_call xml xfetch (q := (none, m10)) rfl (hReader_advance x0 M _ e_) ?_
    show xEv (269, 69, [some (9, x0), some (0, x1)], [], m10) _
    refine xEvG_n xml xfetch 1 (y := (269, 70, [some (9, x0), some (0, x1)], [(0, x1)], m10)) rfl trivial ?_
    cases h
    exact xEvG_ret xml xfetch rfl
/-- ConsentDoors$Reader.takeKind()I -/
def fReader_takeKind (a0 : Int) (M : xM) : Option (Int × xM) := xB (fReader_isWord a0 18 M) (fun v1 => if v1 = 0 then (xB (fReader_isWord a0 19 M) (fun v2 => if v2 = 0 then (xB (fReader_isWord a0 20 M) (fun v3 => if v3 = 0 then (xB (fReader_isWord a0 21 M) (fun v4 => if (if v4 = 0 then (-1) else 3 : Int) = (-1) then (xB (fReader_advance a0 (fReader_fail a0 1 M)) (fun m6 => some ((if v4 = 0 then (-1) else 3 : Int), m6))) else (xB (fReader_advance a0 M) (fun m7 => some ((if v4 = 0 then (-1) else 3 : Int), m7))))) else (fReader_takeKind_L55 a0 2 M))) else (fReader_takeKind_L55 a0 1 M))) else (fReader_takeKind_L55 a0 0 M))
theorem hReader_takeKind (a0 : Int) (M : xM) (r : Int × xM) (h : fReader_takeKind a0 M = some r) : xEv (269, 0, [some (9, a0), none], [], M) (some (0, r.1), r.2) := by
  unfold fReader_takeKind at h
  refine xEvG_n xml xfetch 4 (y := (269, 5, [some (9, a0), some (0, (-1))], [(54, 18), (9, a0)], M)) rfl trivial ?_
  obtain ⟨v1, e_, h⟩ := xB_t h
  refine xEvG_call xml xfetch (q := (some (0, v1), M)) rfl (hReader_isWord a0 18 M _ e_) ?_
  show xEv (269, 8, [some (9, a0), some (0, (-1))], [(0, v1)], M) _
  refine xEvG_n xml xfetch 1 (y := (269, if v1 = 0 then 16 else 11, [some (9, a0), some (0, (-1))], [], M)) rfl trivial ?_
  refine xEvG_br xml xfetch (fun c_ => ?_) (fun c_ => ?_)
  · have h := xif_t c_ h
    refine xEvG_n xml xfetch 2 (y := (269, 19, [some (9, a0), some (0, (-1))], [(54, 19), (9, a0)], M)) rfl trivial ?_
    obtain ⟨v2, e_, h⟩ := xB_t h
    refine xEvG_call xml xfetch (q := (some (0, v2), M)) rfl (hReader_isWord a0 19 M _ e_) ?_
    show xEv (269, 22, [some (9, a0), some (0, (-1))], [(0, v2)], M) _
    refine xEvG_n xml xfetch 1 (y := (269, if v2 = 0 then 30 else 25, [some (9, a0), some (0, (-1))], [], M)) rfl trivial ?_
    refine xEvG_br xml xfetch (fun c_ => ?_) (fun c_ => ?_)
    · have h := xif_t c_ h
      refine xEvG_n xml xfetch 2 (y := (269, 33, [some (9, a0), some (0, (-1))], [(54, 20), (9, a0)], M)) rfl trivial ?_
      obtain ⟨v3, e_, h⟩ := xB_t h
      refine xEvG_call xml xfetch (q := (some (0, v3), M)) rfl (hReader_isWord a0 20 M _ e_) ?_
      show xEv (269, 36, [some (9, a0), some (0, (-1))], [(0, v3)], M) _
      refine xEvG_n xml xfetch 1 (y := (269, if v3 = 0 then 44 else 39, [some (9, a0), some (0, (-1))], [], M)) rfl trivial ?_
      refine xEvG_br xml xfetch (fun c_ => ?_) (fun c_ => ?_)
      · have h := xif_t c_ h
        refine xEvG_n xml xfetch 2 (y := (269, 47, [some (9, a0), some (0, (-1))], [(54, 21), (9, a0)], M)) rfl trivial ?_
        obtain ⟨v4, e_, h⟩ := xB_t h
        refine xEvG_call xml xfetch (q := (some (0, v4), M)) rfl (hReader_isWord a0 21 M _ e_) ?_
        show xEv (269, 50, [some (9, a0), some (0, (-1))], [(0, v4)], M) _
        have key_ : xEv (269, 55, [some (9, a0), some (0, (if v4 = 0 then (-1) else 3 : Int))], [], M) (some (0, r.1), r.2) := by
          refine xEvG_n xml xfetch 3 (y := (269, if (if v4 = 0 then (-1) else 3 : Int) = (-1) then 60 else 65, [some (9, a0), some (0, (if v4 = 0 then (-1) else 3 : Int))], [], M)) rfl trivial ?_
          refine xEvG_br xml xfetch (fun c_ => ?_) (fun c_ => ?_)
          · have h := xif_t c_ h
            refine xEvG_n xml xfetch 2 (y := (269, 62, [some (9, a0), some (0, (if v4 = 0 then (-1) else 3 : Int))], [(0, 1), (9, a0)], M)) rfl trivial ?_
            refine xEvG_call xml xfetch (q := (none, fReader_fail a0 1 M)) rfl (hReader_fail a0 1 M _ rfl) ?_
            show xEv (269, 65, [some (9, a0), some (0, (if v4 = 0 then (-1) else 3 : Int))], [], (fReader_fail a0 1 M)) _
            refine xEvG_n xml xfetch 1 (y := (269, 66, [some (9, a0), some (0, (if v4 = 0 then (-1) else 3 : Int))], [(9, a0)], (fReader_fail a0 1 M))) rfl trivial ?_
            obtain ⟨m6, e_, h⟩ := xB_t h
            refine xEvG_call xml xfetch (q := (none, m6)) rfl (hReader_advance a0 (fReader_fail a0 1 M) _ e_) ?_
            show xEv (269, 69, [some (9, a0), some (0, (if v4 = 0 then (-1) else 3 : Int))], [], m6) _
            refine xEvG_n xml xfetch 1 (y := (269, 70, [some (9, a0), some (0, (if v4 = 0 then (-1) else 3 : Int))], [(0, (if v4 = 0 then (-1) else 3 : Int))], m6)) rfl trivial ?_
            cases h
            exact xEvG_ret xml xfetch rfl
          · have h := xif_f c_ h
            refine xEvG_n xml xfetch 1 (y := (269, 66, [some (9, a0), some (0, (if v4 = 0 then (-1) else 3 : Int))], [(9, a0)], M)) rfl trivial ?_
            obtain ⟨m7, e_, h⟩ := xB_t h
            refine xEvG_call xml xfetch (q := (none, m7)) rfl (hReader_advance a0 M _ e_) ?_
            show xEv (269, 69, [some (9, a0), some (0, (if v4 = 0 then (-1) else 3 : Int))], [], m7) _
            refine xEvG_n xml xfetch 1 (y := (269, 70, [some (9, a0), some (0, (if v4 = 0 then (-1) else 3 : Int))], [(0, (if v4 = 0 then (-1) else 3 : Int))], m7)) rfl trivial ?_
            cases h
            exact xEvG_ret xml xfetch rfl
        refine xEvG_n xml xfetch 1 (y := (269, if v4 = 0 then 55 else 53, [some (9, a0), some (0, (-1))], [], M)) rfl trivial ?_
        refine xEvG_br xml xfetch (fun c8_ => ?_) (fun c8_ => ?_)
        · try simp only [if_pos c8_] at key_
          try simp only [if_pos c8_]
          exact key_
        · refine xEvG_n xml xfetch 2 (y := (269, 55, [some (9, a0), some (0, 3)], [], M)) rfl trivial ?_
          try simp only [if_neg c8_] at key_
          try simp only [if_neg c8_]
          exact key_
      · have h := xif_f c_ h
        refine xEvG_n xml xfetch 3 (y := (269, 55, [some (9, a0), some (0, 2)], [], M)) rfl trivial ?_
        refine xEvG_mask xml xfetch [true, true] ?_
        exact hReader_takeKind_L55 a0 2 M _ h
    · have h := xif_f c_ h
      refine xEvG_n xml xfetch 3 (y := (269, 55, [some (9, a0), some (0, 1)], [], M)) rfl trivial ?_
      refine xEvG_mask xml xfetch [true, true] ?_
      exact hReader_takeKind_L55 a0 1 M _ h
  · have h := xif_f c_ h
    refine xEvG_n xml xfetch 3 (y := (269, 55, [some (9, a0), some (0, 0)], [], M)) rfl trivial ?_
    refine xEvG_mask xml xfetch [true, true] ?_
    exact hReader_takeKind_L55 a0 0 M _ h

def fReader_readCell_L46 (x0 x1 y0 : Int) (M : xM) : Option xM := xB (fReader_takeWord x0 10 M) (fun m4 => xB (fReader_takeNumber x0 0 9 m4) (fun q_ => match q_ with | (v5, m5) => xB (fReader_takeWord x0 11 m5) (fun m6 => xB (fReader_takeNumber x0 0 9 m6) (fun q_ => match q_ with | (v7, m7) => xB (fReader_takeWord x0 12 m7) (fun m8 => xB (fReader_takeNumber x0 0 9 m8) (fun q_ => match q_ with | (v9, m9) => xB (fReader_isWord x0 13 m9) (fun v10 => if v10 = 0 then (xB (fReader_takeSign x0 m9) (fun m11 => if (m11 x0 7) = 0 then (xA (0 ≤ (m11 x0 6) ∧ (m11 x0 6) < 9) (xA (0 ≤ ((xwr m11 ((x0 + 3) + 1) (m11 x0 6) x1) x0 6) ∧ ((xwr m11 ((x0 + 3) + 1) (m11 x0 6) x1) x0 6) < 9) (xA (0 ≤ ((xwr (xwr m11 ((x0 + 3) + 1) (m11 x0 6) x1) ((x0 + 3) + 2) ((xwr m11 ((x0 + 3) + 1) (m11 x0 6) x1) x0 6) y0) x0 6) ∧ ((xwr (xwr m11 ((x0 + 3) + 1) (m11 x0 6) x1) ((x0 + 3) + 2) ((xwr m11 ((x0 + 3) + 1) (m11 x0 6) x1) x0 6) y0) x0 6) < 9) (xA (0 ≤ (xw32 ((xw32 (2 * ((xwr (xwr (xwr m11 ((x0 + 3) + 1) (m11 x0 6) x1) ((x0 + 3) + 2) ((xwr m11 ((x0 + 3) + 1) (m11 x0 6) x1) x0 6) y0) ((x0 + 3) + 3) ((xwr (xwr m11 ((x0 + 3) + 1) (m11 x0 6) x1) ((x0 + 3) + 2) ((xwr m11 ((x0 + 3) + 1) (m11 x0 6) x1) x0 6) y0) x0 6) v5) x0 6))) + 0)) ∧ (xw32 ((xw32 (2 * ((xwr (xwr (xwr m11 ((x0 + 3) + 1) (m11 x0 6) x1) ((x0 + 3) + 2) ((xwr m11 ((x0 + 3) + 1) (m11 x0 6) x1) x0 6) y0) ((x0 + 3) + 3) ((xwr (xwr m11 ((x0 + 3) + 1) (m11 x0 6) x1) ((x0 + 3) + 2) ((xwr m11 ((x0 + 3) + 1) (m11 x0 6) x1) x0 6) y0) x0 6) v5) x0 6))) + 0)) < 18) (xA (0 ≤ (xw32 ((xw32 (2 * ((xwr (xwr (xwr (xwr m11 ((x0 + 3) + 1) (m11 x0 6) x1) ((x0 + 3) + 2) ((xwr m11 ((x0 + 3) + 1) (m11 x0 6) x1) x0 6) y0) ((x0 + 3) + 3) ((xwr (xwr m11 ((x0 + 3) + 1) (m11 x0 6) x1) ((x0 + 3) + 2) ((xwr m11 ((x0 + 3) + 1) (m11 x0 6) x1) x0 6) y0) x0 6) v5) ((x0 + 3) + 6) (xw32 ((xw32 (2 * ((xwr (xwr (xwr m11 ((x0 + 3) + 1) (m11 x0 6) x1) ((x0 + 3) + 2) ((xwr m11 ((x0 + 3) + 1) (m11 x0 6) x1) x0 6) y0) ((x0 + 3) + 3) ((xwr (xwr m11 ((x0 + 3) + 1) (m11 x0 6) x1) ((x0 + 3) + 2) ((xwr m11 ((x0 + 3) + 1) (m11 x0 6) x1) x0 6) y0) x0 6) v5) x0 6))) + 0)) v7) x0 6))) + 1)) ∧ (xw32 ((xw32 (2 * ((xwr (xwr (xwr (xwr m11 ((x0 + 3) + 1) (m11 x0 6) x1) ((x0 + 3) + 2) ((xwr m11 ((x0 + 3) + 1) (m11 x0 6) x1) x0 6) y0) ((x0 + 3) + 3) ((xwr (xwr m11 ((x0 + 3) + 1) (m11 x0 6) x1) ((x0 + 3) + 2) ((xwr m11 ((x0 + 3) + 1) (m11 x0 6) x1) x0 6) y0) x0 6) v5) ((x0 + 3) + 6) (xw32 ((xw32 (2 * ((xwr (xwr (xwr m11 ((x0 + 3) + 1) (m11 x0 6) x1) ((x0 + 3) + 2) ((xwr m11 ((x0 + 3) + 1) (m11 x0 6) x1) x0 6) y0) ((x0 + 3) + 3) ((xwr (xwr m11 ((x0 + 3) + 1) (m11 x0 6) x1) ((x0 + 3) + 2) ((xwr m11 ((x0 + 3) + 1) (m11 x0 6) x1) x0 6) y0) x0 6) v5) x0 6))) + 0)) v7) x0 6))) + 1)) < 18) (some (xwr (xwr (xwr (xwr (xwr (xwr (xwr m11 ((x0 + 3) + 1) (m11 x0 6) x1) ((x0 + 3) + 2) ((xwr m11 ((x0 + 3) + 1) (m11 x0 6) x1) x0 6) y0) ((x0 + 3) + 3) ((xwr (xwr m11 ((x0 + 3) + 1) (m11 x0 6) x1) ((x0 + 3) + 2) ((xwr m11 ((x0 + 3) + 1) (m11 x0 6) x1) x0 6) y0) x0 6) v5) ((x0 + 3) + 6) (xw32 ((xw32 (2 * ((xwr (xwr (xwr m11 ((x0 + 3) + 1) (m11 x0 6) x1) ((x0 + 3) + 2) ((xwr m11 ((x0 + 3) + 1) (m11 x0 6) x1) x0 6) y0) ((x0 + 3) + 3) ((xwr (xwr m11 ((x0 + 3) + 1) (m11 x0 6) x1) ((x0 + 3) + 2) ((xwr m11 ((x0 + 3) + 1) (m11 x0 6) x1) x0 6) y0) x0 6) v5) x0 6))) + 0)) v7) ((x0 + 3) + 6) (xw32 ((xw32 (2 * ((xwr (xwr (xwr (xwr m11 ((x0 + 3) + 1) (m11 x0 6) x1) ((x0 + 3) + 2) ((xwr m11 ((x0 + 3) + 1) (m11 x0 6) x1) x0 6) y0) ((x0 + 3) + 3) ((xwr (xwr m11 ((x0 + 3) + 1) (m11 x0 6) x1) ((x0 + 3) + 2) ((xwr m11 ((x0 + 3) + 1) (m11 x0 6) x1) x0 6) y0) x0 6) v5) ((x0 + 3) + 6) (xw32 ((xw32 (2 * ((xwr (xwr (xwr m11 ((x0 + 3) + 1) (m11 x0 6) x1) ((x0 + 3) + 2) ((xwr m11 ((x0 + 3) + 1) (m11 x0 6) x1) x0 6) y0) ((x0 + 3) + 3) ((xwr (xwr m11 ((x0 + 3) + 1) (m11 x0 6) x1) ((x0 + 3) + 2) ((xwr m11 ((x0 + 3) + 1) (m11 x0 6) x1) x0 6) y0) x0 6) v5) x0 6))) + 0)) v7) x0 6))) + 1)) v9) (x0 + 3) 4 (xor32 ((xwr (xwr (xwr (xwr (xwr m11 ((x0 + 3) + 1) (m11 x0 6) x1) ((x0 + 3) + 2) ((xwr m11 ((x0 + 3) + 1) (m11 x0 6) x1) x0 6) y0) ((x0 + 3) + 3) ((xwr (xwr m11 ((x0 + 3) + 1) (m11 x0 6) x1) ((x0 + 3) + 2) ((xwr m11 ((x0 + 3) + 1) (m11 x0 6) x1) x0 6) y0) x0 6) v5) ((x0 + 3) + 6) (xw32 ((xw32 (2 * ((xwr (xwr (xwr m11 ((x0 + 3) + 1) (m11 x0 6) x1) ((x0 + 3) + 2) ((xwr m11 ((x0 + 3) + 1) (m11 x0 6) x1) x0 6) y0) ((x0 + 3) + 3) ((xwr (xwr m11 ((x0 + 3) + 1) (m11 x0 6) x1) ((x0 + 3) + 2) ((xwr m11 ((x0 + 3) + 1) (m11 x0 6) x1) x0 6) y0) x0 6) v5) x0 6))) + 0)) v7) ((x0 + 3) + 6) (xw32 ((xw32 (2 * ((xwr (xwr (xwr (xwr m11 ((x0 + 3) + 1) (m11 x0 6) x1) ((x0 + 3) + 2) ((xwr m11 ((x0 + 3) + 1) (m11 x0 6) x1) x0 6) y0) ((x0 + 3) + 3) ((xwr (xwr m11 ((x0 + 3) + 1) (m11 x0 6) x1) ((x0 + 3) + 2) ((xwr m11 ((x0 + 3) + 1) (m11 x0 6) x1) x0 6) y0) x0 6) v5) ((x0 + 3) + 6) (xw32 ((xw32 (2 * ((xwr (xwr (xwr m11 ((x0 + 3) + 1) (m11 x0 6) x1) ((x0 + 3) + 2) ((xwr m11 ((x0 + 3) + 1) (m11 x0 6) x1) x0 6) y0) ((x0 + 3) + 3) ((xwr (xwr m11 ((x0 + 3) + 1) (m11 x0 6) x1) ((x0 + 3) + 2) ((xwr m11 ((x0 + 3) + 1) (m11 x0 6) x1) x0 6) y0) x0 6) v5) x0 6))) + 0)) v7) x0 6))) + 1)) v9) (x0 + 3) 4) (if v10 = 0 then 0 else (xshl 1 ((xwr (xwr (xwr (xwr (xwr m11 ((x0 + 3) + 1) (m11 x0 6) x1) ((x0 + 3) + 2) ((xwr m11 ((x0 + 3) + 1) (m11 x0 6) x1) x0 6) y0) ((x0 + 3) + 3) ((xwr (xwr m11 ((x0 + 3) + 1) (m11 x0 6) x1) ((x0 + 3) + 2) ((xwr m11 ((x0 + 3) + 1) (m11 x0 6) x1) x0 6) y0) x0 6) v5) ((x0 + 3) + 6) (xw32 ((xw32 (2 * ((xwr (xwr (xwr m11 ((x0 + 3) + 1) (m11 x0 6) x1) ((x0 + 3) + 2) ((xwr m11 ((x0 + 3) + 1) (m11 x0 6) x1) x0 6) y0) ((x0 + 3) + 3) ((xwr (xwr m11 ((x0 + 3) + 1) (m11 x0 6) x1) ((x0 + 3) + 2) ((xwr m11 ((x0 + 3) + 1) (m11 x0 6) x1) x0 6) y0) x0 6) v5) x0 6))) + 0)) v7) ((x0 + 3) + 6) (xw32 ((xw32 (2 * ((xwr (xwr (xwr (xwr m11 ((x0 + 3) + 1) (m11 x0 6) x1) ((x0 + 3) + 2) ((xwr m11 ((x0 + 3) + 1) (m11 x0 6) x1) x0 6) y0) ((x0 + 3) + 3) ((xwr (xwr m11 ((x0 + 3) + 1) (m11 x0 6) x1) ((x0 + 3) + 2) ((xwr m11 ((x0 + 3) + 1) (m11 x0 6) x1) x0 6) y0) x0 6) v5) ((x0 + 3) + 6) (xw32 ((xw32 (2 * ((xwr (xwr (xwr m11 ((x0 + 3) + 1) (m11 x0 6) x1) ((x0 + 3) + 2) ((xwr m11 ((x0 + 3) + 1) (m11 x0 6) x1) x0 6) y0) ((x0 + 3) + 3) ((xwr (xwr m11 ((x0 + 3) + 1) (m11 x0 6) x1) ((x0 + 3) + 2) ((xwr m11 ((x0 + 3) + 1) (m11 x0 6) x1) x0 6) y0) x0 6) v5) x0 6))) + 0)) v7) x0 6))) + 1)) v9) x0 6)) : Int))) x0 6 (xw32 (((xwr (xwr (xwr (xwr (xwr (xwr m11 ((x0 + 3) + 1) (m11 x0 6) x1) ((x0 + 3) + 2) ((xwr m11 ((x0 + 3) + 1) (m11 x0 6) x1) x0 6) y0) ((x0 + 3) + 3) ((xwr (xwr m11 ((x0 + 3) + 1) (m11 x0 6) x1) ((x0 + 3) + 2) ((xwr m11 ((x0 + 3) + 1) (m11 x0 6) x1) x0 6) y0) x0 6) v5) ((x0 + 3) + 6) (xw32 ((xw32 (2 * ((xwr (xwr (xwr m11 ((x0 + 3) + 1) (m11 x0 6) x1) ((x0 + 3) + 2) ((xwr m11 ((x0 + 3) + 1) (m11 x0 6) x1) x0 6) y0) ((x0 + 3) + 3) ((xwr (xwr m11 ((x0 + 3) + 1) (m11 x0 6) x1) ((x0 + 3) + 2) ((xwr m11 ((x0 + 3) + 1) (m11 x0 6) x1) x0 6) y0) x0 6) v5) x0 6))) + 0)) v7) ((x0 + 3) + 6) (xw32 ((xw32 (2 * ((xwr (xwr (xwr (xwr m11 ((x0 + 3) + 1) (m11 x0 6) x1) ((x0 + 3) + 2) ((xwr m11 ((x0 + 3) + 1) (m11 x0 6) x1) x0 6) y0) ((x0 + 3) + 3) ((xwr (xwr m11 ((x0 + 3) + 1) (m11 x0 6) x1) ((x0 + 3) + 2) ((xwr m11 ((x0 + 3) + 1) (m11 x0 6) x1) x0 6) y0) x0 6) v5) ((x0 + 3) + 6) (xw32 ((xw32 (2 * ((xwr (xwr (xwr m11 ((x0 + 3) + 1) (m11 x0 6) x1) ((x0 + 3) + 2) ((xwr m11 ((x0 + 3) + 1) (m11 x0 6) x1) x0 6) y0) ((x0 + 3) + 3) ((xwr (xwr m11 ((x0 + 3) + 1) (m11 x0 6) x1) ((x0 + 3) + 2) ((xwr m11 ((x0 + 3) + 1) (m11 x0 6) x1) x0 6) y0) x0 6) v5) x0 6))) + 0)) v7) x0 6))) + 1)) v9) (x0 + 3) 4 (xor32 ((xwr (xwr (xwr (xwr (xwr m11 ((x0 + 3) + 1) (m11 x0 6) x1) ((x0 + 3) + 2) ((xwr m11 ((x0 + 3) + 1) (m11 x0 6) x1) x0 6) y0) ((x0 + 3) + 3) ((xwr (xwr m11 ((x0 + 3) + 1) (m11 x0 6) x1) ((x0 + 3) + 2) ((xwr m11 ((x0 + 3) + 1) (m11 x0 6) x1) x0 6) y0) x0 6) v5) ((x0 + 3) + 6) (xw32 ((xw32 (2 * ((xwr (xwr (xwr m11 ((x0 + 3) + 1) (m11 x0 6) x1) ((x0 + 3) + 2) ((xwr m11 ((x0 + 3) + 1) (m11 x0 6) x1) x0 6) y0) ((x0 + 3) + 3) ((xwr (xwr m11 ((x0 + 3) + 1) (m11 x0 6) x1) ((x0 + 3) + 2) ((xwr m11 ((x0 + 3) + 1) (m11 x0 6) x1) x0 6) y0) x0 6) v5) x0 6))) + 0)) v7) ((x0 + 3) + 6) (xw32 ((xw32 (2 * ((xwr (xwr (xwr (xwr m11 ((x0 + 3) + 1) (m11 x0 6) x1) ((x0 + 3) + 2) ((xwr m11 ((x0 + 3) + 1) (m11 x0 6) x1) x0 6) y0) ((x0 + 3) + 3) ((xwr (xwr m11 ((x0 + 3) + 1) (m11 x0 6) x1) ((x0 + 3) + 2) ((xwr m11 ((x0 + 3) + 1) (m11 x0 6) x1) x0 6) y0) x0 6) v5) ((x0 + 3) + 6) (xw32 ((xw32 (2 * ((xwr (xwr (xwr m11 ((x0 + 3) + 1) (m11 x0 6) x1) ((x0 + 3) + 2) ((xwr m11 ((x0 + 3) + 1) (m11 x0 6) x1) x0 6) y0) ((x0 + 3) + 3) ((xwr (xwr m11 ((x0 + 3) + 1) (m11 x0 6) x1) ((x0 + 3) + 2) ((xwr m11 ((x0 + 3) + 1) (m11 x0 6) x1) x0 6) y0) x0 6) v5) x0 6))) + 0)) v7) x0 6))) + 1)) v9) (x0 + 3) 4) (if v10 = 0 then 0 else (xshl 1 ((xwr (xwr (xwr (xwr (xwr m11 ((x0 + 3) + 1) (m11 x0 6) x1) ((x0 + 3) + 2) ((xwr m11 ((x0 + 3) + 1) (m11 x0 6) x1) x0 6) y0) ((x0 + 3) + 3) ((xwr (xwr m11 ((x0 + 3) + 1) (m11 x0 6) x1) ((x0 + 3) + 2) ((xwr m11 ((x0 + 3) + 1) (m11 x0 6) x1) x0 6) y0) x0 6) v5) ((x0 + 3) + 6) (xw32 ((xw32 (2 * ((xwr (xwr (xwr m11 ((x0 + 3) + 1) (m11 x0 6) x1) ((x0 + 3) + 2) ((xwr m11 ((x0 + 3) + 1) (m11 x0 6) x1) x0 6) y0) ((x0 + 3) + 3) ((xwr (xwr m11 ((x0 + 3) + 1) (m11 x0 6) x1) ((x0 + 3) + 2) ((xwr m11 ((x0 + 3) + 1) (m11 x0 6) x1) x0 6) y0) x0 6) v5) x0 6))) + 0)) v7) ((x0 + 3) + 6) (xw32 ((xw32 (2 * ((xwr (xwr (xwr (xwr m11 ((x0 + 3) + 1) (m11 x0 6) x1) ((x0 + 3) + 2) ((xwr m11 ((x0 + 3) + 1) (m11 x0 6) x1) x0 6) y0) ((x0 + 3) + 3) ((xwr (xwr m11 ((x0 + 3) + 1) (m11 x0 6) x1) ((x0 + 3) + 2) ((xwr m11 ((x0 + 3) + 1) (m11 x0 6) x1) x0 6) y0) x0 6) v5) ((x0 + 3) + 6) (xw32 ((xw32 (2 * ((xwr (xwr (xwr m11 ((x0 + 3) + 1) (m11 x0 6) x1) ((x0 + 3) + 2) ((xwr m11 ((x0 + 3) + 1) (m11 x0 6) x1) x0 6) y0) ((x0 + 3) + 3) ((xwr (xwr m11 ((x0 + 3) + 1) (m11 x0 6) x1) ((x0 + 3) + 2) ((xwr m11 ((x0 + 3) + 1) (m11 x0 6) x1) x0 6) y0) x0 6) v5) x0 6))) + 0)) v7) x0 6))) + 1)) v9) x0 6)) : Int))) x0 6) + 1))))))))) else (some m11))) else (xB (fReader_takeWord x0 13 m9) (fun m12 => xB (fReader_takeSign x0 m12) (fun m13 => if (m13 x0 7) = 0 then (xA (0 ≤ (m13 x0 6) ∧ (m13 x0 6) < 9) (xA (0 ≤ ((xwr m13 ((x0 + 3) + 1) (m13 x0 6) x1) x0 6) ∧ ((xwr m13 ((x0 + 3) + 1) (m13 x0 6) x1) x0 6) < 9) (xA (0 ≤ ((xwr (xwr m13 ((x0 + 3) + 1) (m13 x0 6) x1) ((x0 + 3) + 2) ((xwr m13 ((x0 + 3) + 1) (m13 x0 6) x1) x0 6) y0) x0 6) ∧ ((xwr (xwr m13 ((x0 + 3) + 1) (m13 x0 6) x1) ((x0 + 3) + 2) ((xwr m13 ((x0 + 3) + 1) (m13 x0 6) x1) x0 6) y0) x0 6) < 9) (xA (0 ≤ (xw32 ((xw32 (2 * ((xwr (xwr (xwr m13 ((x0 + 3) + 1) (m13 x0 6) x1) ((x0 + 3) + 2) ((xwr m13 ((x0 + 3) + 1) (m13 x0 6) x1) x0 6) y0) ((x0 + 3) + 3) ((xwr (xwr m13 ((x0 + 3) + 1) (m13 x0 6) x1) ((x0 + 3) + 2) ((xwr m13 ((x0 + 3) + 1) (m13 x0 6) x1) x0 6) y0) x0 6) v5) x0 6))) + 0)) ∧ (xw32 ((xw32 (2 * ((xwr (xwr (xwr m13 ((x0 + 3) + 1) (m13 x0 6) x1) ((x0 + 3) + 2) ((xwr m13 ((x0 + 3) + 1) (m13 x0 6) x1) x0 6) y0) ((x0 + 3) + 3) ((xwr (xwr m13 ((x0 + 3) + 1) (m13 x0 6) x1) ((x0 + 3) + 2) ((xwr m13 ((x0 + 3) + 1) (m13 x0 6) x1) x0 6) y0) x0 6) v5) x0 6))) + 0)) < 18) (xA (0 ≤ (xw32 ((xw32 (2 * ((xwr (xwr (xwr (xwr m13 ((x0 + 3) + 1) (m13 x0 6) x1) ((x0 + 3) + 2) ((xwr m13 ((x0 + 3) + 1) (m13 x0 6) x1) x0 6) y0) ((x0 + 3) + 3) ((xwr (xwr m13 ((x0 + 3) + 1) (m13 x0 6) x1) ((x0 + 3) + 2) ((xwr m13 ((x0 + 3) + 1) (m13 x0 6) x1) x0 6) y0) x0 6) v5) ((x0 + 3) + 6) (xw32 ((xw32 (2 * ((xwr (xwr (xwr m13 ((x0 + 3) + 1) (m13 x0 6) x1) ((x0 + 3) + 2) ((xwr m13 ((x0 + 3) + 1) (m13 x0 6) x1) x0 6) y0) ((x0 + 3) + 3) ((xwr (xwr m13 ((x0 + 3) + 1) (m13 x0 6) x1) ((x0 + 3) + 2) ((xwr m13 ((x0 + 3) + 1) (m13 x0 6) x1) x0 6) y0) x0 6) v5) x0 6))) + 0)) v7) x0 6))) + 1)) ∧ (xw32 ((xw32 (2 * ((xwr (xwr (xwr (xwr m13 ((x0 + 3) + 1) (m13 x0 6) x1) ((x0 + 3) + 2) ((xwr m13 ((x0 + 3) + 1) (m13 x0 6) x1) x0 6) y0) ((x0 + 3) + 3) ((xwr (xwr m13 ((x0 + 3) + 1) (m13 x0 6) x1) ((x0 + 3) + 2) ((xwr m13 ((x0 + 3) + 1) (m13 x0 6) x1) x0 6) y0) x0 6) v5) ((x0 + 3) + 6) (xw32 ((xw32 (2 * ((xwr (xwr (xwr m13 ((x0 + 3) + 1) (m13 x0 6) x1) ((x0 + 3) + 2) ((xwr m13 ((x0 + 3) + 1) (m13 x0 6) x1) x0 6) y0) ((x0 + 3) + 3) ((xwr (xwr m13 ((x0 + 3) + 1) (m13 x0 6) x1) ((x0 + 3) + 2) ((xwr m13 ((x0 + 3) + 1) (m13 x0 6) x1) x0 6) y0) x0 6) v5) x0 6))) + 0)) v7) x0 6))) + 1)) < 18) (some (xwr (xwr (xwr (xwr (xwr (xwr (xwr m13 ((x0 + 3) + 1) (m13 x0 6) x1) ((x0 + 3) + 2) ((xwr m13 ((x0 + 3) + 1) (m13 x0 6) x1) x0 6) y0) ((x0 + 3) + 3) ((xwr (xwr m13 ((x0 + 3) + 1) (m13 x0 6) x1) ((x0 + 3) + 2) ((xwr m13 ((x0 + 3) + 1) (m13 x0 6) x1) x0 6) y0) x0 6) v5) ((x0 + 3) + 6) (xw32 ((xw32 (2 * ((xwr (xwr (xwr m13 ((x0 + 3) + 1) (m13 x0 6) x1) ((x0 + 3) + 2) ((xwr m13 ((x0 + 3) + 1) (m13 x0 6) x1) x0 6) y0) ((x0 + 3) + 3) ((xwr (xwr m13 ((x0 + 3) + 1) (m13 x0 6) x1) ((x0 + 3) + 2) ((xwr m13 ((x0 + 3) + 1) (m13 x0 6) x1) x0 6) y0) x0 6) v5) x0 6))) + 0)) v7) ((x0 + 3) + 6) (xw32 ((xw32 (2 * ((xwr (xwr (xwr (xwr m13 ((x0 + 3) + 1) (m13 x0 6) x1) ((x0 + 3) + 2) ((xwr m13 ((x0 + 3) + 1) (m13 x0 6) x1) x0 6) y0) ((x0 + 3) + 3) ((xwr (xwr m13 ((x0 + 3) + 1) (m13 x0 6) x1) ((x0 + 3) + 2) ((xwr m13 ((x0 + 3) + 1) (m13 x0 6) x1) x0 6) y0) x0 6) v5) ((x0 + 3) + 6) (xw32 ((xw32 (2 * ((xwr (xwr (xwr m13 ((x0 + 3) + 1) (m13 x0 6) x1) ((x0 + 3) + 2) ((xwr m13 ((x0 + 3) + 1) (m13 x0 6) x1) x0 6) y0) ((x0 + 3) + 3) ((xwr (xwr m13 ((x0 + 3) + 1) (m13 x0 6) x1) ((x0 + 3) + 2) ((xwr m13 ((x0 + 3) + 1) (m13 x0 6) x1) x0 6) y0) x0 6) v5) x0 6))) + 0)) v7) x0 6))) + 1)) v9) (x0 + 3) 4 (xor32 ((xwr (xwr (xwr (xwr (xwr m13 ((x0 + 3) + 1) (m13 x0 6) x1) ((x0 + 3) + 2) ((xwr m13 ((x0 + 3) + 1) (m13 x0 6) x1) x0 6) y0) ((x0 + 3) + 3) ((xwr (xwr m13 ((x0 + 3) + 1) (m13 x0 6) x1) ((x0 + 3) + 2) ((xwr m13 ((x0 + 3) + 1) (m13 x0 6) x1) x0 6) y0) x0 6) v5) ((x0 + 3) + 6) (xw32 ((xw32 (2 * ((xwr (xwr (xwr m13 ((x0 + 3) + 1) (m13 x0 6) x1) ((x0 + 3) + 2) ((xwr m13 ((x0 + 3) + 1) (m13 x0 6) x1) x0 6) y0) ((x0 + 3) + 3) ((xwr (xwr m13 ((x0 + 3) + 1) (m13 x0 6) x1) ((x0 + 3) + 2) ((xwr m13 ((x0 + 3) + 1) (m13 x0 6) x1) x0 6) y0) x0 6) v5) x0 6))) + 0)) v7) ((x0 + 3) + 6) (xw32 ((xw32 (2 * ((xwr (xwr (xwr (xwr m13 ((x0 + 3) + 1) (m13 x0 6) x1) ((x0 + 3) + 2) ((xwr m13 ((x0 + 3) + 1) (m13 x0 6) x1) x0 6) y0) ((x0 + 3) + 3) ((xwr (xwr m13 ((x0 + 3) + 1) (m13 x0 6) x1) ((x0 + 3) + 2) ((xwr m13 ((x0 + 3) + 1) (m13 x0 6) x1) x0 6) y0) x0 6) v5) ((x0 + 3) + 6) (xw32 ((xw32 (2 * ((xwr (xwr (xwr m13 ((x0 + 3) + 1) (m13 x0 6) x1) ((x0 + 3) + 2) ((xwr m13 ((x0 + 3) + 1) (m13 x0 6) x1) x0 6) y0) ((x0 + 3) + 3) ((xwr (xwr m13 ((x0 + 3) + 1) (m13 x0 6) x1) ((x0 + 3) + 2) ((xwr m13 ((x0 + 3) + 1) (m13 x0 6) x1) x0 6) y0) x0 6) v5) x0 6))) + 0)) v7) x0 6))) + 1)) v9) (x0 + 3) 4) (if v10 = 0 then 0 else (xshl 1 ((xwr (xwr (xwr (xwr (xwr m13 ((x0 + 3) + 1) (m13 x0 6) x1) ((x0 + 3) + 2) ((xwr m13 ((x0 + 3) + 1) (m13 x0 6) x1) x0 6) y0) ((x0 + 3) + 3) ((xwr (xwr m13 ((x0 + 3) + 1) (m13 x0 6) x1) ((x0 + 3) + 2) ((xwr m13 ((x0 + 3) + 1) (m13 x0 6) x1) x0 6) y0) x0 6) v5) ((x0 + 3) + 6) (xw32 ((xw32 (2 * ((xwr (xwr (xwr m13 ((x0 + 3) + 1) (m13 x0 6) x1) ((x0 + 3) + 2) ((xwr m13 ((x0 + 3) + 1) (m13 x0 6) x1) x0 6) y0) ((x0 + 3) + 3) ((xwr (xwr m13 ((x0 + 3) + 1) (m13 x0 6) x1) ((x0 + 3) + 2) ((xwr m13 ((x0 + 3) + 1) (m13 x0 6) x1) x0 6) y0) x0 6) v5) x0 6))) + 0)) v7) ((x0 + 3) + 6) (xw32 ((xw32 (2 * ((xwr (xwr (xwr (xwr m13 ((x0 + 3) + 1) (m13 x0 6) x1) ((x0 + 3) + 2) ((xwr m13 ((x0 + 3) + 1) (m13 x0 6) x1) x0 6) y0) ((x0 + 3) + 3) ((xwr (xwr m13 ((x0 + 3) + 1) (m13 x0 6) x1) ((x0 + 3) + 2) ((xwr m13 ((x0 + 3) + 1) (m13 x0 6) x1) x0 6) y0) x0 6) v5) ((x0 + 3) + 6) (xw32 ((xw32 (2 * ((xwr (xwr (xwr m13 ((x0 + 3) + 1) (m13 x0 6) x1) ((x0 + 3) + 2) ((xwr m13 ((x0 + 3) + 1) (m13 x0 6) x1) x0 6) y0) ((x0 + 3) + 3) ((xwr (xwr m13 ((x0 + 3) + 1) (m13 x0 6) x1) ((x0 + 3) + 2) ((xwr m13 ((x0 + 3) + 1) (m13 x0 6) x1) x0 6) y0) x0 6) v5) x0 6))) + 0)) v7) x0 6))) + 1)) v9) x0 6)) : Int))) x0 6 (xw32 (((xwr (xwr (xwr (xwr (xwr (xwr m13 ((x0 + 3) + 1) (m13 x0 6) x1) ((x0 + 3) + 2) ((xwr m13 ((x0 + 3) + 1) (m13 x0 6) x1) x0 6) y0) ((x0 + 3) + 3) ((xwr (xwr m13 ((x0 + 3) + 1) (m13 x0 6) x1) ((x0 + 3) + 2) ((xwr m13 ((x0 + 3) + 1) (m13 x0 6) x1) x0 6) y0) x0 6) v5) ((x0 + 3) + 6) (xw32 ((xw32 (2 * ((xwr (xwr (xwr m13 ((x0 + 3) + 1) (m13 x0 6) x1) ((x0 + 3) + 2) ((xwr m13 ((x0 + 3) + 1) (m13 x0 6) x1) x0 6) y0) ((x0 + 3) + 3) ((xwr (xwr m13 ((x0 + 3) + 1) (m13 x0 6) x1) ((x0 + 3) + 2) ((xwr m13 ((x0 + 3) + 1) (m13 x0 6) x1) x0 6) y0) x0 6) v5) x0 6))) + 0)) v7) ((x0 + 3) + 6) (xw32 ((xw32 (2 * ((xwr (xwr (xwr (xwr m13 ((x0 + 3) + 1) (m13 x0 6) x1) ((x0 + 3) + 2) ((xwr m13 ((x0 + 3) + 1) (m13 x0 6) x1) x0 6) y0) ((x0 + 3) + 3) ((xwr (xwr m13 ((x0 + 3) + 1) (m13 x0 6) x1) ((x0 + 3) + 2) ((xwr m13 ((x0 + 3) + 1) (m13 x0 6) x1) x0 6) y0) x0 6) v5) ((x0 + 3) + 6) (xw32 ((xw32 (2 * ((xwr (xwr (xwr m13 ((x0 + 3) + 1) (m13 x0 6) x1) ((x0 + 3) + 2) ((xwr m13 ((x0 + 3) + 1) (m13 x0 6) x1) x0 6) y0) ((x0 + 3) + 3) ((xwr (xwr m13 ((x0 + 3) + 1) (m13 x0 6) x1) ((x0 + 3) + 2) ((xwr m13 ((x0 + 3) + 1) (m13 x0 6) x1) x0 6) y0) x0 6) v5) x0 6))) + 0)) v7) x0 6))) + 1)) v9) (x0 + 3) 4 (xor32 ((xwr (xwr (xwr (xwr (xwr m13 ((x0 + 3) + 1) (m13 x0 6) x1) ((x0 + 3) + 2) ((xwr m13 ((x0 + 3) + 1) (m13 x0 6) x1) x0 6) y0) ((x0 + 3) + 3) ((xwr (xwr m13 ((x0 + 3) + 1) (m13 x0 6) x1) ((x0 + 3) + 2) ((xwr m13 ((x0 + 3) + 1) (m13 x0 6) x1) x0 6) y0) x0 6) v5) ((x0 + 3) + 6) (xw32 ((xw32 (2 * ((xwr (xwr (xwr m13 ((x0 + 3) + 1) (m13 x0 6) x1) ((x0 + 3) + 2) ((xwr m13 ((x0 + 3) + 1) (m13 x0 6) x1) x0 6) y0) ((x0 + 3) + 3) ((xwr (xwr m13 ((x0 + 3) + 1) (m13 x0 6) x1) ((x0 + 3) + 2) ((xwr m13 ((x0 + 3) + 1) (m13 x0 6) x1) x0 6) y0) x0 6) v5) x0 6))) + 0)) v7) ((x0 + 3) + 6) (xw32 ((xw32 (2 * ((xwr (xwr (xwr (xwr m13 ((x0 + 3) + 1) (m13 x0 6) x1) ((x0 + 3) + 2) ((xwr m13 ((x0 + 3) + 1) (m13 x0 6) x1) x0 6) y0) ((x0 + 3) + 3) ((xwr (xwr m13 ((x0 + 3) + 1) (m13 x0 6) x1) ((x0 + 3) + 2) ((xwr m13 ((x0 + 3) + 1) (m13 x0 6) x1) x0 6) y0) x0 6) v5) ((x0 + 3) + 6) (xw32 ((xw32 (2 * ((xwr (xwr (xwr m13 ((x0 + 3) + 1) (m13 x0 6) x1) ((x0 + 3) + 2) ((xwr m13 ((x0 + 3) + 1) (m13 x0 6) x1) x0 6) y0) ((x0 + 3) + 3) ((xwr (xwr m13 ((x0 + 3) + 1) (m13 x0 6) x1) ((x0 + 3) + 2) ((xwr m13 ((x0 + 3) + 1) (m13 x0 6) x1) x0 6) y0) x0 6) v5) x0 6))) + 0)) v7) x0 6))) + 1)) v9) (x0 + 3) 4) (if v10 = 0 then 0 else (xshl 1 ((xwr (xwr (xwr (xwr (xwr m13 ((x0 + 3) + 1) (m13 x0 6) x1) ((x0 + 3) + 2) ((xwr m13 ((x0 + 3) + 1) (m13 x0 6) x1) x0 6) y0) ((x0 + 3) + 3) ((xwr (xwr m13 ((x0 + 3) + 1) (m13 x0 6) x1) ((x0 + 3) + 2) ((xwr m13 ((x0 + 3) + 1) (m13 x0 6) x1) x0 6) y0) x0 6) v5) ((x0 + 3) + 6) (xw32 ((xw32 (2 * ((xwr (xwr (xwr m13 ((x0 + 3) + 1) (m13 x0 6) x1) ((x0 + 3) + 2) ((xwr m13 ((x0 + 3) + 1) (m13 x0 6) x1) x0 6) y0) ((x0 + 3) + 3) ((xwr (xwr m13 ((x0 + 3) + 1) (m13 x0 6) x1) ((x0 + 3) + 2) ((xwr m13 ((x0 + 3) + 1) (m13 x0 6) x1) x0 6) y0) x0 6) v5) x0 6))) + 0)) v7) ((x0 + 3) + 6) (xw32 ((xw32 (2 * ((xwr (xwr (xwr (xwr m13 ((x0 + 3) + 1) (m13 x0 6) x1) ((x0 + 3) + 2) ((xwr m13 ((x0 + 3) + 1) (m13 x0 6) x1) x0 6) y0) ((x0 + 3) + 3) ((xwr (xwr m13 ((x0 + 3) + 1) (m13 x0 6) x1) ((x0 + 3) + 2) ((xwr m13 ((x0 + 3) + 1) (m13 x0 6) x1) x0 6) y0) x0 6) v5) ((x0 + 3) + 6) (xw32 ((xw32 (2 * ((xwr (xwr (xwr m13 ((x0 + 3) + 1) (m13 x0 6) x1) ((x0 + 3) + 2) ((xwr m13 ((x0 + 3) + 1) (m13 x0 6) x1) x0 6) y0) ((x0 + 3) + 3) ((xwr (xwr m13 ((x0 + 3) + 1) (m13 x0 6) x1) ((x0 + 3) + 2) ((xwr m13 ((x0 + 3) + 1) (m13 x0 6) x1) x0 6) y0) x0 6) v5) x0 6))) + 0)) v7) x0 6))) + 1)) v9) x0 6)) : Int))) x0 6) + 1))))))))) else (some m13)))))))))))
theorem hReader_readCell_L46 (x0 x1 y0 : Int) (M : xM) (r : xM) (h : fReader_readCell_L46 x0 x1 y0 M = some r) : xEv (264, 46, [some (9, x0), some (0, x1), none, none, none, none, none], [(0, y0)], M) (none, r) := by
  unfold fReader_readCell_L46 at h
  refine xEvG_n xml xfetch 3 (y := (264, 50, [some (9, x0), some (0, x1), some (0, y0), none, none, none, none], [(54, 10), (9, x0)], M)) rfl trivial ?_
  obtain ⟨m4, e_, h⟩ := xB_t h
  refine xEvG_call xml xfetch (q := (none, m4)) rfl (hReader_takeWord x0 10 M _ e_) ?_
  show xEv (264, 53, [some (9, x0), some (0, x1), some (0, y0), none, none, none, none], [], m4) _
  refine xEvG_n xml xfetch 3 (y := (264, 57, [some (9, x0), some (0, x1), some (0, y0), none, none, none, none], [(0, 9), (0, 0), (9, x0)], m4)) rfl trivial ?_
  obtain ⟨⟨v5, m5⟩, e_, h⟩ := xB_t h
  refine xEvG_call xml xfetch (q := (some (0, v5), m5)) rfl (hReader_takeNumber x0 0 9 m4 _ e_) ?_
  show xEv (264, 60, [some (9, x0), some (0, x1), some (0, y0), none, none, none, none], [(0, v5)], m5) _
  refine xEvG_n xml xfetch 3 (y := (264, 64, [some (9, x0), some (0, x1), some (0, y0), some (0, v5), none, none, none], [(54, 11), (9, x0)], m5)) rfl trivial ?_
  obtain ⟨m6, e_, h⟩ := xB_t h
  refine xEvG_call xml xfetch (q := (none, m6)) rfl (hReader_takeWord x0 11 m5 _ e_) ?_
  show xEv (264, 67, [some (9, x0), some (0, x1), some (0, y0), some (0, v5), none, none, none], [], m6) _
  refine xEvG_n xml xfetch 3 (y := (264, 71, [some (9, x0), some (0, x1), some (0, y0), some (0, v5), none, none, none], [(0, 9), (0, 0), (9, x0)], m6)) rfl trivial ?_
  obtain ⟨⟨v7, m7⟩, e_, h⟩ := xB_t h
  refine xEvG_call xml xfetch (q := (some (0, v7), m7)) rfl (hReader_takeNumber x0 0 9 m6 _ e_) ?_
  show xEv (264, 74, [some (9, x0), some (0, x1), some (0, y0), some (0, v5), none, none, none], [(0, v7)], m7) _
  refine xEvG_n xml xfetch 3 (y := (264, 79, [some (9, x0), some (0, x1), some (0, y0), some (0, v5), some (0, v7), none, none], [(54, 12), (9, x0)], m7)) rfl trivial ?_
  obtain ⟨m8, e_, h⟩ := xB_t h
  refine xEvG_call xml xfetch (q := (none, m8)) rfl (hReader_takeWord x0 12 m7 _ e_) ?_
  show xEv (264, 82, [some (9, x0), some (0, x1), some (0, y0), some (0, v5), some (0, v7), none, none], [], m8) _
  refine xEvG_n xml xfetch 3 (y := (264, 86, [some (9, x0), some (0, x1), some (0, y0), some (0, v5), some (0, v7), none, none], [(0, 9), (0, 0), (9, x0)], m8)) rfl trivial ?_
  obtain ⟨⟨v9, m9⟩, e_, h⟩ := xB_t h
  refine xEvG_call xml xfetch (q := (some (0, v9), m9)) rfl (hReader_takeNumber x0 0 9 m8 _ e_) ?_
  show xEv (264, 89, [some (9, x0), some (0, x1), some (0, y0), some (0, v5), some (0, v7), none, none], [(0, v9)], m9) _
  refine xEvG_n xml xfetch 3 (y := (264, 94, [some (9, x0), some (0, x1), some (0, y0), some (0, v5), some (0, v7), some (0, v9), none], [(54, 13), (9, x0)], m9)) rfl trivial ?_
  obtain ⟨v10, e_, h⟩ := xB_t h
  refine xEvG_call xml xfetch (q := (some (0, v10), m9)) rfl (hReader_isWord x0 13 m9 _ e_) ?_
  show xEv (264, 97, [some (9, x0), some (0, x1), some (0, y0), some (0, v5), some (0, v7), some (0, v9), none], [(0, v10)], m9) _
  refine xEvG_n xml xfetch 3 (y := (264, if v10 = 0 then 110 else 104, [some (9, x0), some (0, x1), some (0, y0), some (0, v5), some (0, v7), some (0, v9), some (0, v10)], [], m9)) rfl trivial ?_
  refine xEvG_br xml xfetch (fun c_ => ?_) (fun c_ => ?_)
  · have h := xif_t c_ h
    refine xEvG_n xml xfetch 1 (y := (264, 111, [some (9, x0), some (0, x1), some (0, y0), some (0, v5), some (0, v7), some (0, v9), some (0, v10)], [(9, x0)], m9)) rfl trivial ?_
    obtain ⟨m11, e_, h⟩ := xB_t h
    refine xEvG_call xml xfetch (q := (none, m11)) rfl (hReader_takeSign x0 m9 _ e_) ?_
    show xEv (264, 114, [some (9, x0), some (0, x1), some (0, y0), some (0, v5), some (0, v7), some (0, v9), some (0, v10)], [], m11) _
    refine xEvG_n xml xfetch 3 (y := (264, if (m11 x0 7) = 0 then 121 else 233, [some (9, x0), some (0, x1), some (0, y0), some (0, v5), some (0, v7), some (0, v9), some (0, v10)], [], m11)) rfl trivial ?_
    refine xEvG_br xml xfetch (fun c_ => ?_) (fun c_ => ?_)
    · have h := xif_t c_ h
      have a0_ := (xA_t h).1
      have h := (xA_t h).2
      have a1_ := (xA_t h).1
      have h := (xA_t h).2
      have a2_ := (xA_t h).1
      have h := (xA_t h).2
      have a3_ := (xA_t h).1
      have h := (xA_t h).2
      have a4_ := (xA_t h).1
      have h := (xA_t h).2
      refine xEvG_n xml xfetch 48 (y := (264, 206, [some (9, x0), some (0, x1), some (0, y0), some (0, v5), some (0, v7), some (0, v9), some (0, v10)], [(0, v10), (0, ((xwr (xwr (xwr (xwr (xwr m11 ((x0 + 3) + 1) (m11 x0 6) x1) ((x0 + 3) + 2) ((xwr m11 ((x0 + 3) + 1) (m11 x0 6) x1) x0 6) y0) ((x0 + 3) + 3) ((xwr (xwr m11 ((x0 + 3) + 1) (m11 x0 6) x1) ((x0 + 3) + 2) ((xwr m11 ((x0 + 3) + 1) (m11 x0 6) x1) x0 6) y0) x0 6) v5) ((x0 + 3) + 6) (xw32 ((xw32 (2 * ((xwr (xwr (xwr m11 ((x0 + 3) + 1) (m11 x0 6) x1) ((x0 + 3) + 2) ((xwr m11 ((x0 + 3) + 1) (m11 x0 6) x1) x0 6) y0) ((x0 + 3) + 3) ((xwr (xwr m11 ((x0 + 3) + 1) (m11 x0 6) x1) ((x0 + 3) + 2) ((xwr m11 ((x0 + 3) + 1) (m11 x0 6) x1) x0 6) y0) x0 6) v5) x0 6))) + 0)) v7) ((x0 + 3) + 6) (xw32 ((xw32 (2 * ((xwr (xwr (xwr (xwr m11 ((x0 + 3) + 1) (m11 x0 6) x1) ((x0 + 3) + 2) ((xwr m11 ((x0 + 3) + 1) (m11 x0 6) x1) x0 6) y0) ((x0 + 3) + 3) ((xwr (xwr m11 ((x0 + 3) + 1) (m11 x0 6) x1) ((x0 + 3) + 2) ((xwr m11 ((x0 + 3) + 1) (m11 x0 6) x1) x0 6) y0) x0 6) v5) ((x0 + 3) + 6) (xw32 ((xw32 (2 * ((xwr (xwr (xwr m11 ((x0 + 3) + 1) (m11 x0 6) x1) ((x0 + 3) + 2) ((xwr m11 ((x0 + 3) + 1) (m11 x0 6) x1) x0 6) y0) ((x0 + 3) + 3) ((xwr (xwr m11 ((x0 + 3) + 1) (m11 x0 6) x1) ((x0 + 3) + 2) ((xwr m11 ((x0 + 3) + 1) (m11 x0 6) x1) x0 6) y0) x0 6) v5) x0 6))) + 0)) v7) x0 6))) + 1)) v9) (x0 + 3) 4)), (8, (x0 + 3))], (xwr (xwr (xwr (xwr (xwr m11 ((x0 + 3) + 1) (m11 x0 6) x1) ((x0 + 3) + 2) ((xwr m11 ((x0 + 3) + 1) (m11 x0 6) x1) x0 6) y0) ((x0 + 3) + 3) ((xwr (xwr m11 ((x0 + 3) + 1) (m11 x0 6) x1) ((x0 + 3) + 2) ((xwr m11 ((x0 + 3) + 1) (m11 x0 6) x1) x0 6) y0) x0 6) v5) ((x0 + 3) + 6) (xw32 ((xw32 (2 * ((xwr (xwr (xwr m11 ((x0 + 3) + 1) (m11 x0 6) x1) ((x0 + 3) + 2) ((xwr m11 ((x0 + 3) + 1) (m11 x0 6) x1) x0 6) y0) ((x0 + 3) + 3) ((xwr (xwr m11 ((x0 + 3) + 1) (m11 x0 6) x1) ((x0 + 3) + 2) ((xwr m11 ((x0 + 3) + 1) (m11 x0 6) x1) x0 6) y0) x0 6) v5) x0 6))) + 0)) v7) ((x0 + 3) + 6) (xw32 ((xw32 (2 * ((xwr (xwr (xwr (xwr m11 ((x0 + 3) + 1) (m11 x0 6) x1) ((x0 + 3) + 2) ((xwr m11 ((x0 + 3) + 1) (m11 x0 6) x1) x0 6) y0) ((x0 + 3) + 3) ((xwr (xwr m11 ((x0 + 3) + 1) (m11 x0 6) x1) ((x0 + 3) + 2) ((xwr m11 ((x0 + 3) + 1) (m11 x0 6) x1) x0 6) y0) x0 6) v5) ((x0 + 3) + 6) (xw32 ((xw32 (2 * ((xwr (xwr (xwr m11 ((x0 + 3) + 1) (m11 x0 6) x1) ((x0 + 3) + 2) ((xwr m11 ((x0 + 3) + 1) (m11 x0 6) x1) x0 6) y0) ((x0 + 3) + 3) ((xwr (xwr m11 ((x0 + 3) + 1) (m11 x0 6) x1) ((x0 + 3) + 2) ((xwr m11 ((x0 + 3) + 1) (m11 x0 6) x1) x0 6) y0) x0 6) v5) x0 6))) + 0)) v7) x0 6))) + 1)) v9))) rfl ⟨a0_, a1_, a2_, a3_, a4_, trivial⟩ ?_
      have key_ : xEv (264, 219, [some (9, x0), some (0, x1), some (0, y0), some (0, v5), some (0, v7), some (0, v9), some (0, v10)], [(0, (if v10 = 0 then 0 else (xshl 1 ((xwr (xwr (xwr (xwr (xwr m11 ((x0 + 3) + 1) (m11 x0 6) x1) ((x0 + 3) + 2) ((xwr m11 ((x0 + 3) + 1) (m11 x0 6) x1) x0 6) y0) ((x0 + 3) + 3) ((xwr (xwr m11 ((x0 + 3) + 1) (m11 x0 6) x1) ((x0 + 3) + 2) ((xwr m11 ((x0 + 3) + 1) (m11 x0 6) x1) x0 6) y0) x0 6) v5) ((x0 + 3) + 6) (xw32 ((xw32 (2 * ((xwr (xwr (xwr m11 ((x0 + 3) + 1) (m11 x0 6) x1) ((x0 + 3) + 2) ((xwr m11 ((x0 + 3) + 1) (m11 x0 6) x1) x0 6) y0) ((x0 + 3) + 3) ((xwr (xwr m11 ((x0 + 3) + 1) (m11 x0 6) x1) ((x0 + 3) + 2) ((xwr m11 ((x0 + 3) + 1) (m11 x0 6) x1) x0 6) y0) x0 6) v5) x0 6))) + 0)) v7) ((x0 + 3) + 6) (xw32 ((xw32 (2 * ((xwr (xwr (xwr (xwr m11 ((x0 + 3) + 1) (m11 x0 6) x1) ((x0 + 3) + 2) ((xwr m11 ((x0 + 3) + 1) (m11 x0 6) x1) x0 6) y0) ((x0 + 3) + 3) ((xwr (xwr m11 ((x0 + 3) + 1) (m11 x0 6) x1) ((x0 + 3) + 2) ((xwr m11 ((x0 + 3) + 1) (m11 x0 6) x1) x0 6) y0) x0 6) v5) ((x0 + 3) + 6) (xw32 ((xw32 (2 * ((xwr (xwr (xwr m11 ((x0 + 3) + 1) (m11 x0 6) x1) ((x0 + 3) + 2) ((xwr m11 ((x0 + 3) + 1) (m11 x0 6) x1) x0 6) y0) ((x0 + 3) + 3) ((xwr (xwr m11 ((x0 + 3) + 1) (m11 x0 6) x1) ((x0 + 3) + 2) ((xwr m11 ((x0 + 3) + 1) (m11 x0 6) x1) x0 6) y0) x0 6) v5) x0 6))) + 0)) v7) x0 6))) + 1)) v9) x0 6)) : Int)), (0, ((xwr (xwr (xwr (xwr (xwr m11 ((x0 + 3) + 1) (m11 x0 6) x1) ((x0 + 3) + 2) ((xwr m11 ((x0 + 3) + 1) (m11 x0 6) x1) x0 6) y0) ((x0 + 3) + 3) ((xwr (xwr m11 ((x0 + 3) + 1) (m11 x0 6) x1) ((x0 + 3) + 2) ((xwr m11 ((x0 + 3) + 1) (m11 x0 6) x1) x0 6) y0) x0 6) v5) ((x0 + 3) + 6) (xw32 ((xw32 (2 * ((xwr (xwr (xwr m11 ((x0 + 3) + 1) (m11 x0 6) x1) ((x0 + 3) + 2) ((xwr m11 ((x0 + 3) + 1) (m11 x0 6) x1) x0 6) y0) ((x0 + 3) + 3) ((xwr (xwr m11 ((x0 + 3) + 1) (m11 x0 6) x1) ((x0 + 3) + 2) ((xwr m11 ((x0 + 3) + 1) (m11 x0 6) x1) x0 6) y0) x0 6) v5) x0 6))) + 0)) v7) ((x0 + 3) + 6) (xw32 ((xw32 (2 * ((xwr (xwr (xwr (xwr m11 ((x0 + 3) + 1) (m11 x0 6) x1) ((x0 + 3) + 2) ((xwr m11 ((x0 + 3) + 1) (m11 x0 6) x1) x0 6) y0) ((x0 + 3) + 3) ((xwr (xwr m11 ((x0 + 3) + 1) (m11 x0 6) x1) ((x0 + 3) + 2) ((xwr m11 ((x0 + 3) + 1) (m11 x0 6) x1) x0 6) y0) x0 6) v5) ((x0 + 3) + 6) (xw32 ((xw32 (2 * ((xwr (xwr (xwr m11 ((x0 + 3) + 1) (m11 x0 6) x1) ((x0 + 3) + 2) ((xwr m11 ((x0 + 3) + 1) (m11 x0 6) x1) x0 6) y0) ((x0 + 3) + 3) ((xwr (xwr m11 ((x0 + 3) + 1) (m11 x0 6) x1) ((x0 + 3) + 2) ((xwr m11 ((x0 + 3) + 1) (m11 x0 6) x1) x0 6) y0) x0 6) v5) x0 6))) + 0)) v7) x0 6))) + 1)) v9) (x0 + 3) 4)), (8, (x0 + 3))], (xwr (xwr (xwr (xwr (xwr m11 ((x0 + 3) + 1) (m11 x0 6) x1) ((x0 + 3) + 2) ((xwr m11 ((x0 + 3) + 1) (m11 x0 6) x1) x0 6) y0) ((x0 + 3) + 3) ((xwr (xwr m11 ((x0 + 3) + 1) (m11 x0 6) x1) ((x0 + 3) + 2) ((xwr m11 ((x0 + 3) + 1) (m11 x0 6) x1) x0 6) y0) x0 6) v5) ((x0 + 3) + 6) (xw32 ((xw32 (2 * ((xwr (xwr (xwr m11 ((x0 + 3) + 1) (m11 x0 6) x1) ((x0 + 3) + 2) ((xwr m11 ((x0 + 3) + 1) (m11 x0 6) x1) x0 6) y0) ((x0 + 3) + 3) ((xwr (xwr m11 ((x0 + 3) + 1) (m11 x0 6) x1) ((x0 + 3) + 2) ((xwr m11 ((x0 + 3) + 1) (m11 x0 6) x1) x0 6) y0) x0 6) v5) x0 6))) + 0)) v7) ((x0 + 3) + 6) (xw32 ((xw32 (2 * ((xwr (xwr (xwr (xwr m11 ((x0 + 3) + 1) (m11 x0 6) x1) ((x0 + 3) + 2) ((xwr m11 ((x0 + 3) + 1) (m11 x0 6) x1) x0 6) y0) ((x0 + 3) + 3) ((xwr (xwr m11 ((x0 + 3) + 1) (m11 x0 6) x1) ((x0 + 3) + 2) ((xwr m11 ((x0 + 3) + 1) (m11 x0 6) x1) x0 6) y0) x0 6) v5) ((x0 + 3) + 6) (xw32 ((xw32 (2 * ((xwr (xwr (xwr m11 ((x0 + 3) + 1) (m11 x0 6) x1) ((x0 + 3) + 2) ((xwr m11 ((x0 + 3) + 1) (m11 x0 6) x1) x0 6) y0) ((x0 + 3) + 3) ((xwr (xwr m11 ((x0 + 3) + 1) (m11 x0 6) x1) ((x0 + 3) + 2) ((xwr m11 ((x0 + 3) + 1) (m11 x0 6) x1) x0 6) y0) x0 6) v5) x0 6))) + 0)) v7) x0 6))) + 1)) v9)) (none, r) := by
        refine xEvG_n xml xfetch 8 (y := (264, 233, [some (9, x0), some (0, x1), some (0, y0), some (0, v5), some (0, v7), some (0, v9), some (0, v10)], [], (xwr (xwr (xwr (xwr (xwr (xwr (xwr m11 ((x0 + 3) + 1) (m11 x0 6) x1) ((x0 + 3) + 2) ((xwr m11 ((x0 + 3) + 1) (m11 x0 6) x1) x0 6) y0) ((x0 + 3) + 3) ((xwr (xwr m11 ((x0 + 3) + 1) (m11 x0 6) x1) ((x0 + 3) + 2) ((xwr m11 ((x0 + 3) + 1) (m11 x0 6) x1) x0 6) y0) x0 6) v5) ((x0 + 3) + 6) (xw32 ((xw32 (2 * ((xwr (xwr (xwr m11 ((x0 + 3) + 1) (m11 x0 6) x1) ((x0 + 3) + 2) ((xwr m11 ((x0 + 3) + 1) (m11 x0 6) x1) x0 6) y0) ((x0 + 3) + 3) ((xwr (xwr m11 ((x0 + 3) + 1) (m11 x0 6) x1) ((x0 + 3) + 2) ((xwr m11 ((x0 + 3) + 1) (m11 x0 6) x1) x0 6) y0) x0 6) v5) x0 6))) + 0)) v7) ((x0 + 3) + 6) (xw32 ((xw32 (2 * ((xwr (xwr (xwr (xwr m11 ((x0 + 3) + 1) (m11 x0 6) x1) ((x0 + 3) + 2) ((xwr m11 ((x0 + 3) + 1) (m11 x0 6) x1) x0 6) y0) ((x0 + 3) + 3) ((xwr (xwr m11 ((x0 + 3) + 1) (m11 x0 6) x1) ((x0 + 3) + 2) ((xwr m11 ((x0 + 3) + 1) (m11 x0 6) x1) x0 6) y0) x0 6) v5) ((x0 + 3) + 6) (xw32 ((xw32 (2 * ((xwr (xwr (xwr m11 ((x0 + 3) + 1) (m11 x0 6) x1) ((x0 + 3) + 2) ((xwr m11 ((x0 + 3) + 1) (m11 x0 6) x1) x0 6) y0) ((x0 + 3) + 3) ((xwr (xwr m11 ((x0 + 3) + 1) (m11 x0 6) x1) ((x0 + 3) + 2) ((xwr m11 ((x0 + 3) + 1) (m11 x0 6) x1) x0 6) y0) x0 6) v5) x0 6))) + 0)) v7) x0 6))) + 1)) v9) (x0 + 3) 4 (xor32 ((xwr (xwr (xwr (xwr (xwr m11 ((x0 + 3) + 1) (m11 x0 6) x1) ((x0 + 3) + 2) ((xwr m11 ((x0 + 3) + 1) (m11 x0 6) x1) x0 6) y0) ((x0 + 3) + 3) ((xwr (xwr m11 ((x0 + 3) + 1) (m11 x0 6) x1) ((x0 + 3) + 2) ((xwr m11 ((x0 + 3) + 1) (m11 x0 6) x1) x0 6) y0) x0 6) v5) ((x0 + 3) + 6) (xw32 ((xw32 (2 * ((xwr (xwr (xwr m11 ((x0 + 3) + 1) (m11 x0 6) x1) ((x0 + 3) + 2) ((xwr m11 ((x0 + 3) + 1) (m11 x0 6) x1) x0 6) y0) ((x0 + 3) + 3) ((xwr (xwr m11 ((x0 + 3) + 1) (m11 x0 6) x1) ((x0 + 3) + 2) ((xwr m11 ((x0 + 3) + 1) (m11 x0 6) x1) x0 6) y0) x0 6) v5) x0 6))) + 0)) v7) ((x0 + 3) + 6) (xw32 ((xw32 (2 * ((xwr (xwr (xwr (xwr m11 ((x0 + 3) + 1) (m11 x0 6) x1) ((x0 + 3) + 2) ((xwr m11 ((x0 + 3) + 1) (m11 x0 6) x1) x0 6) y0) ((x0 + 3) + 3) ((xwr (xwr m11 ((x0 + 3) + 1) (m11 x0 6) x1) ((x0 + 3) + 2) ((xwr m11 ((x0 + 3) + 1) (m11 x0 6) x1) x0 6) y0) x0 6) v5) ((x0 + 3) + 6) (xw32 ((xw32 (2 * ((xwr (xwr (xwr m11 ((x0 + 3) + 1) (m11 x0 6) x1) ((x0 + 3) + 2) ((xwr m11 ((x0 + 3) + 1) (m11 x0 6) x1) x0 6) y0) ((x0 + 3) + 3) ((xwr (xwr m11 ((x0 + 3) + 1) (m11 x0 6) x1) ((x0 + 3) + 2) ((xwr m11 ((x0 + 3) + 1) (m11 x0 6) x1) x0 6) y0) x0 6) v5) x0 6))) + 0)) v7) x0 6))) + 1)) v9) (x0 + 3) 4) (if v10 = 0 then 0 else (xshl 1 ((xwr (xwr (xwr (xwr (xwr m11 ((x0 + 3) + 1) (m11 x0 6) x1) ((x0 + 3) + 2) ((xwr m11 ((x0 + 3) + 1) (m11 x0 6) x1) x0 6) y0) ((x0 + 3) + 3) ((xwr (xwr m11 ((x0 + 3) + 1) (m11 x0 6) x1) ((x0 + 3) + 2) ((xwr m11 ((x0 + 3) + 1) (m11 x0 6) x1) x0 6) y0) x0 6) v5) ((x0 + 3) + 6) (xw32 ((xw32 (2 * ((xwr (xwr (xwr m11 ((x0 + 3) + 1) (m11 x0 6) x1) ((x0 + 3) + 2) ((xwr m11 ((x0 + 3) + 1) (m11 x0 6) x1) x0 6) y0) ((x0 + 3) + 3) ((xwr (xwr m11 ((x0 + 3) + 1) (m11 x0 6) x1) ((x0 + 3) + 2) ((xwr m11 ((x0 + 3) + 1) (m11 x0 6) x1) x0 6) y0) x0 6) v5) x0 6))) + 0)) v7) ((x0 + 3) + 6) (xw32 ((xw32 (2 * ((xwr (xwr (xwr (xwr m11 ((x0 + 3) + 1) (m11 x0 6) x1) ((x0 + 3) + 2) ((xwr m11 ((x0 + 3) + 1) (m11 x0 6) x1) x0 6) y0) ((x0 + 3) + 3) ((xwr (xwr m11 ((x0 + 3) + 1) (m11 x0 6) x1) ((x0 + 3) + 2) ((xwr m11 ((x0 + 3) + 1) (m11 x0 6) x1) x0 6) y0) x0 6) v5) ((x0 + 3) + 6) (xw32 ((xw32 (2 * ((xwr (xwr (xwr m11 ((x0 + 3) + 1) (m11 x0 6) x1) ((x0 + 3) + 2) ((xwr m11 ((x0 + 3) + 1) (m11 x0 6) x1) x0 6) y0) ((x0 + 3) + 3) ((xwr (xwr m11 ((x0 + 3) + 1) (m11 x0 6) x1) ((x0 + 3) + 2) ((xwr m11 ((x0 + 3) + 1) (m11 x0 6) x1) x0 6) y0) x0 6) v5) x0 6))) + 0)) v7) x0 6))) + 1)) v9) x0 6)) : Int))) x0 6 (xw32 (((xwr (xwr (xwr (xwr (xwr (xwr m11 ((x0 + 3) + 1) (m11 x0 6) x1) ((x0 + 3) + 2) ((xwr m11 ((x0 + 3) + 1) (m11 x0 6) x1) x0 6) y0) ((x0 + 3) + 3) ((xwr (xwr m11 ((x0 + 3) + 1) (m11 x0 6) x1) ((x0 + 3) + 2) ((xwr m11 ((x0 + 3) + 1) (m11 x0 6) x1) x0 6) y0) x0 6) v5) ((x0 + 3) + 6) (xw32 ((xw32 (2 * ((xwr (xwr (xwr m11 ((x0 + 3) + 1) (m11 x0 6) x1) ((x0 + 3) + 2) ((xwr m11 ((x0 + 3) + 1) (m11 x0 6) x1) x0 6) y0) ((x0 + 3) + 3) ((xwr (xwr m11 ((x0 + 3) + 1) (m11 x0 6) x1) ((x0 + 3) + 2) ((xwr m11 ((x0 + 3) + 1) (m11 x0 6) x1) x0 6) y0) x0 6) v5) x0 6))) + 0)) v7) ((x0 + 3) + 6) (xw32 ((xw32 (2 * ((xwr (xwr (xwr (xwr m11 ((x0 + 3) + 1) (m11 x0 6) x1) ((x0 + 3) + 2) ((xwr m11 ((x0 + 3) + 1) (m11 x0 6) x1) x0 6) y0) ((x0 + 3) + 3) ((xwr (xwr m11 ((x0 + 3) + 1) (m11 x0 6) x1) ((x0 + 3) + 2) ((xwr m11 ((x0 + 3) + 1) (m11 x0 6) x1) x0 6) y0) x0 6) v5) ((x0 + 3) + 6) (xw32 ((xw32 (2 * ((xwr (xwr (xwr m11 ((x0 + 3) + 1) (m11 x0 6) x1) ((x0 + 3) + 2) ((xwr m11 ((x0 + 3) + 1) (m11 x0 6) x1) x0 6) y0) ((x0 + 3) + 3) ((xwr (xwr m11 ((x0 + 3) + 1) (m11 x0 6) x1) ((x0 + 3) + 2) ((xwr m11 ((x0 + 3) + 1) (m11 x0 6) x1) x0 6) y0) x0 6) v5) x0 6))) + 0)) v7) x0 6))) + 1)) v9) (x0 + 3) 4 (xor32 ((xwr (xwr (xwr (xwr (xwr m11 ((x0 + 3) + 1) (m11 x0 6) x1) ((x0 + 3) + 2) ((xwr m11 ((x0 + 3) + 1) (m11 x0 6) x1) x0 6) y0) ((x0 + 3) + 3) ((xwr (xwr m11 ((x0 + 3) + 1) (m11 x0 6) x1) ((x0 + 3) + 2) ((xwr m11 ((x0 + 3) + 1) (m11 x0 6) x1) x0 6) y0) x0 6) v5) ((x0 + 3) + 6) (xw32 ((xw32 (2 * ((xwr (xwr (xwr m11 ((x0 + 3) + 1) (m11 x0 6) x1) ((x0 + 3) + 2) ((xwr m11 ((x0 + 3) + 1) (m11 x0 6) x1) x0 6) y0) ((x0 + 3) + 3) ((xwr (xwr m11 ((x0 + 3) + 1) (m11 x0 6) x1) ((x0 + 3) + 2) ((xwr m11 ((x0 + 3) + 1) (m11 x0 6) x1) x0 6) y0) x0 6) v5) x0 6))) + 0)) v7) ((x0 + 3) + 6) (xw32 ((xw32 (2 * ((xwr (xwr (xwr (xwr m11 ((x0 + 3) + 1) (m11 x0 6) x1) ((x0 + 3) + 2) ((xwr m11 ((x0 + 3) + 1) (m11 x0 6) x1) x0 6) y0) ((x0 + 3) + 3) ((xwr (xwr m11 ((x0 + 3) + 1) (m11 x0 6) x1) ((x0 + 3) + 2) ((xwr m11 ((x0 + 3) + 1) (m11 x0 6) x1) x0 6) y0) x0 6) v5) ((x0 + 3) + 6) (xw32 ((xw32 (2 * ((xwr (xwr (xwr m11 ((x0 + 3) + 1) (m11 x0 6) x1) ((x0 + 3) + 2) ((xwr m11 ((x0 + 3) + 1) (m11 x0 6) x1) x0 6) y0) ((x0 + 3) + 3) ((xwr (xwr m11 ((x0 + 3) + 1) (m11 x0 6) x1) ((x0 + 3) + 2) ((xwr m11 ((x0 + 3) + 1) (m11 x0 6) x1) x0 6) y0) x0 6) v5) x0 6))) + 0)) v7) x0 6))) + 1)) v9) (x0 + 3) 4) (if v10 = 0 then 0 else (xshl 1 ((xwr (xwr (xwr (xwr (xwr m11 ((x0 + 3) + 1) (m11 x0 6) x1) ((x0 + 3) + 2) ((xwr m11 ((x0 + 3) + 1) (m11 x0 6) x1) x0 6) y0) ((x0 + 3) + 3) ((xwr (xwr m11 ((x0 + 3) + 1) (m11 x0 6) x1) ((x0 + 3) + 2) ((xwr m11 ((x0 + 3) + 1) (m11 x0 6) x1) x0 6) y0) x0 6) v5) ((x0 + 3) + 6) (xw32 ((xw32 (2 * ((xwr (xwr (xwr m11 ((x0 + 3) + 1) (m11 x0 6) x1) ((x0 + 3) + 2) ((xwr m11 ((x0 + 3) + 1) (m11 x0 6) x1) x0 6) y0) ((x0 + 3) + 3) ((xwr (xwr m11 ((x0 + 3) + 1) (m11 x0 6) x1) ((x0 + 3) + 2) ((xwr m11 ((x0 + 3) + 1) (m11 x0 6) x1) x0 6) y0) x0 6) v5) x0 6))) + 0)) v7) ((x0 + 3) + 6) (xw32 ((xw32 (2 * ((xwr (xwr (xwr (xwr m11 ((x0 + 3) + 1) (m11 x0 6) x1) ((x0 + 3) + 2) ((xwr m11 ((x0 + 3) + 1) (m11 x0 6) x1) x0 6) y0) ((x0 + 3) + 3) ((xwr (xwr m11 ((x0 + 3) + 1) (m11 x0 6) x1) ((x0 + 3) + 2) ((xwr m11 ((x0 + 3) + 1) (m11 x0 6) x1) x0 6) y0) x0 6) v5) ((x0 + 3) + 6) (xw32 ((xw32 (2 * ((xwr (xwr (xwr m11 ((x0 + 3) + 1) (m11 x0 6) x1) ((x0 + 3) + 2) ((xwr m11 ((x0 + 3) + 1) (m11 x0 6) x1) x0 6) y0) ((x0 + 3) + 3) ((xwr (xwr m11 ((x0 + 3) + 1) (m11 x0 6) x1) ((x0 + 3) + 2) ((xwr m11 ((x0 + 3) + 1) (m11 x0 6) x1) x0 6) y0) x0 6) v5) x0 6))) + 0)) v7) x0 6))) + 1)) v9) x0 6)) : Int))) x0 6) + 1))))) rfl trivial ?_
        cases h
        exact xEvG_ret xml xfetch rfl
      refine xEvG_n xml xfetch 1 (y := (264, if v10 = 0 then 218 else 209, [some (9, x0), some (0, x1), some (0, y0), some (0, v5), some (0, v7), some (0, v9), some (0, v10)], [(0, ((xwr (xwr (xwr (xwr (xwr m11 ((x0 + 3) + 1) (m11 x0 6) x1) ((x0 + 3) + 2) ((xwr m11 ((x0 + 3) + 1) (m11 x0 6) x1) x0 6) y0) ((x0 + 3) + 3) ((xwr (xwr m11 ((x0 + 3) + 1) (m11 x0 6) x1) ((x0 + 3) + 2) ((xwr m11 ((x0 + 3) + 1) (m11 x0 6) x1) x0 6) y0) x0 6) v5) ((x0 + 3) + 6) (xw32 ((xw32 (2 * ((xwr (xwr (xwr m11 ((x0 + 3) + 1) (m11 x0 6) x1) ((x0 + 3) + 2) ((xwr m11 ((x0 + 3) + 1) (m11 x0 6) x1) x0 6) y0) ((x0 + 3) + 3) ((xwr (xwr m11 ((x0 + 3) + 1) (m11 x0 6) x1) ((x0 + 3) + 2) ((xwr m11 ((x0 + 3) + 1) (m11 x0 6) x1) x0 6) y0) x0 6) v5) x0 6))) + 0)) v7) ((x0 + 3) + 6) (xw32 ((xw32 (2 * ((xwr (xwr (xwr (xwr m11 ((x0 + 3) + 1) (m11 x0 6) x1) ((x0 + 3) + 2) ((xwr m11 ((x0 + 3) + 1) (m11 x0 6) x1) x0 6) y0) ((x0 + 3) + 3) ((xwr (xwr m11 ((x0 + 3) + 1) (m11 x0 6) x1) ((x0 + 3) + 2) ((xwr m11 ((x0 + 3) + 1) (m11 x0 6) x1) x0 6) y0) x0 6) v5) ((x0 + 3) + 6) (xw32 ((xw32 (2 * ((xwr (xwr (xwr m11 ((x0 + 3) + 1) (m11 x0 6) x1) ((x0 + 3) + 2) ((xwr m11 ((x0 + 3) + 1) (m11 x0 6) x1) x0 6) y0) ((x0 + 3) + 3) ((xwr (xwr m11 ((x0 + 3) + 1) (m11 x0 6) x1) ((x0 + 3) + 2) ((xwr m11 ((x0 + 3) + 1) (m11 x0 6) x1) x0 6) y0) x0 6) v5) x0 6))) + 0)) v7) x0 6))) + 1)) v9) (x0 + 3) 4)), (8, (x0 + 3))], (xwr (xwr (xwr (xwr (xwr m11 ((x0 + 3) + 1) (m11 x0 6) x1) ((x0 + 3) + 2) ((xwr m11 ((x0 + 3) + 1) (m11 x0 6) x1) x0 6) y0) ((x0 + 3) + 3) ((xwr (xwr m11 ((x0 + 3) + 1) (m11 x0 6) x1) ((x0 + 3) + 2) ((xwr m11 ((x0 + 3) + 1) (m11 x0 6) x1) x0 6) y0) x0 6) v5) ((x0 + 3) + 6) (xw32 ((xw32 (2 * ((xwr (xwr (xwr m11 ((x0 + 3) + 1) (m11 x0 6) x1) ((x0 + 3) + 2) ((xwr m11 ((x0 + 3) + 1) (m11 x0 6) x1) x0 6) y0) ((x0 + 3) + 3) ((xwr (xwr m11 ((x0 + 3) + 1) (m11 x0 6) x1) ((x0 + 3) + 2) ((xwr m11 ((x0 + 3) + 1) (m11 x0 6) x1) x0 6) y0) x0 6) v5) x0 6))) + 0)) v7) ((x0 + 3) + 6) (xw32 ((xw32 (2 * ((xwr (xwr (xwr (xwr m11 ((x0 + 3) + 1) (m11 x0 6) x1) ((x0 + 3) + 2) ((xwr m11 ((x0 + 3) + 1) (m11 x0 6) x1) x0 6) y0) ((x0 + 3) + 3) ((xwr (xwr m11 ((x0 + 3) + 1) (m11 x0 6) x1) ((x0 + 3) + 2) ((xwr m11 ((x0 + 3) + 1) (m11 x0 6) x1) x0 6) y0) x0 6) v5) ((x0 + 3) + 6) (xw32 ((xw32 (2 * ((xwr (xwr (xwr m11 ((x0 + 3) + 1) (m11 x0 6) x1) ((x0 + 3) + 2) ((xwr m11 ((x0 + 3) + 1) (m11 x0 6) x1) x0 6) y0) ((x0 + 3) + 3) ((xwr (xwr m11 ((x0 + 3) + 1) (m11 x0 6) x1) ((x0 + 3) + 2) ((xwr m11 ((x0 + 3) + 1) (m11 x0 6) x1) x0 6) y0) x0 6) v5) x0 6))) + 0)) v7) x0 6))) + 1)) v9))) rfl trivial ?_
      refine xEvG_br xml xfetch (fun c6_ => ?_) (fun c6_ => ?_)
      · refine xEvG_n xml xfetch 1 (y := (264, 219, [some (9, x0), some (0, x1), some (0, y0), some (0, v5), some (0, v7), some (0, v9), some (0, v10)], [(0, 0), (0, ((xwr (xwr (xwr (xwr (xwr m11 ((x0 + 3) + 1) (m11 x0 6) x1) ((x0 + 3) + 2) ((xwr m11 ((x0 + 3) + 1) (m11 x0 6) x1) x0 6) y0) ((x0 + 3) + 3) ((xwr (xwr m11 ((x0 + 3) + 1) (m11 x0 6) x1) ((x0 + 3) + 2) ((xwr m11 ((x0 + 3) + 1) (m11 x0 6) x1) x0 6) y0) x0 6) v5) ((x0 + 3) + 6) (xw32 ((xw32 (2 * ((xwr (xwr (xwr m11 ((x0 + 3) + 1) (m11 x0 6) x1) ((x0 + 3) + 2) ((xwr m11 ((x0 + 3) + 1) (m11 x0 6) x1) x0 6) y0) ((x0 + 3) + 3) ((xwr (xwr m11 ((x0 + 3) + 1) (m11 x0 6) x1) ((x0 + 3) + 2) ((xwr m11 ((x0 + 3) + 1) (m11 x0 6) x1) x0 6) y0) x0 6) v5) x0 6))) + 0)) v7) ((x0 + 3) + 6) (xw32 ((xw32 (2 * ((xwr (xwr (xwr (xwr m11 ((x0 + 3) + 1) (m11 x0 6) x1) ((x0 + 3) + 2) ((xwr m11 ((x0 + 3) + 1) (m11 x0 6) x1) x0 6) y0) ((x0 + 3) + 3) ((xwr (xwr m11 ((x0 + 3) + 1) (m11 x0 6) x1) ((x0 + 3) + 2) ((xwr m11 ((x0 + 3) + 1) (m11 x0 6) x1) x0 6) y0) x0 6) v5) ((x0 + 3) + 6) (xw32 ((xw32 (2 * ((xwr (xwr (xwr m11 ((x0 + 3) + 1) (m11 x0 6) x1) ((x0 + 3) + 2) ((xwr m11 ((x0 + 3) + 1) (m11 x0 6) x1) x0 6) y0) ((x0 + 3) + 3) ((xwr (xwr m11 ((x0 + 3) + 1) (m11 x0 6) x1) ((x0 + 3) + 2) ((xwr m11 ((x0 + 3) + 1) (m11 x0 6) x1) x0 6) y0) x0 6) v5) x0 6))) + 0)) v7) x0 6))) + 1)) v9) (x0 + 3) 4)), (8, (x0 + 3))], (xwr (xwr (xwr (xwr (xwr m11 ((x0 + 3) + 1) (m11 x0 6) x1) ((x0 + 3) + 2) ((xwr m11 ((x0 + 3) + 1) (m11 x0 6) x1) x0 6) y0) ((x0 + 3) + 3) ((xwr (xwr m11 ((x0 + 3) + 1) (m11 x0 6) x1) ((x0 + 3) + 2) ((xwr m11 ((x0 + 3) + 1) (m11 x0 6) x1) x0 6) y0) x0 6) v5) ((x0 + 3) + 6) (xw32 ((xw32 (2 * ((xwr (xwr (xwr m11 ((x0 + 3) + 1) (m11 x0 6) x1) ((x0 + 3) + 2) ((xwr m11 ((x0 + 3) + 1) (m11 x0 6) x1) x0 6) y0) ((x0 + 3) + 3) ((xwr (xwr m11 ((x0 + 3) + 1) (m11 x0 6) x1) ((x0 + 3) + 2) ((xwr m11 ((x0 + 3) + 1) (m11 x0 6) x1) x0 6) y0) x0 6) v5) x0 6))) + 0)) v7) ((x0 + 3) + 6) (xw32 ((xw32 (2 * ((xwr (xwr (xwr (xwr m11 ((x0 + 3) + 1) (m11 x0 6) x1) ((x0 + 3) + 2) ((xwr m11 ((x0 + 3) + 1) (m11 x0 6) x1) x0 6) y0) ((x0 + 3) + 3) ((xwr (xwr m11 ((x0 + 3) + 1) (m11 x0 6) x1) ((x0 + 3) + 2) ((xwr m11 ((x0 + 3) + 1) (m11 x0 6) x1) x0 6) y0) x0 6) v5) ((x0 + 3) + 6) (xw32 ((xw32 (2 * ((xwr (xwr (xwr m11 ((x0 + 3) + 1) (m11 x0 6) x1) ((x0 + 3) + 2) ((xwr m11 ((x0 + 3) + 1) (m11 x0 6) x1) x0 6) y0) ((x0 + 3) + 3) ((xwr (xwr m11 ((x0 + 3) + 1) (m11 x0 6) x1) ((x0 + 3) + 2) ((xwr m11 ((x0 + 3) + 1) (m11 x0 6) x1) x0 6) y0) x0 6) v5) x0 6))) + 0)) v7) x0 6))) + 1)) v9))) rfl trivial ?_
        try simp only [if_pos c6_] at key_
        try simp only [if_pos c6_]
        exact key_
      · refine xEvG_n xml xfetch 5 (y := (264, 219, [some (9, x0), some (0, x1), some (0, y0), some (0, v5), some (0, v7), some (0, v9), some (0, v10)], [(0, (xshl 1 ((xwr (xwr (xwr (xwr (xwr m11 ((x0 + 3) + 1) (m11 x0 6) x1) ((x0 + 3) + 2) ((xwr m11 ((x0 + 3) + 1) (m11 x0 6) x1) x0 6) y0) ((x0 + 3) + 3) ((xwr (xwr m11 ((x0 + 3) + 1) (m11 x0 6) x1) ((x0 + 3) + 2) ((xwr m11 ((x0 + 3) + 1) (m11 x0 6) x1) x0 6) y0) x0 6) v5) ((x0 + 3) + 6) (xw32 ((xw32 (2 * ((xwr (xwr (xwr m11 ((x0 + 3) + 1) (m11 x0 6) x1) ((x0 + 3) + 2) ((xwr m11 ((x0 + 3) + 1) (m11 x0 6) x1) x0 6) y0) ((x0 + 3) + 3) ((xwr (xwr m11 ((x0 + 3) + 1) (m11 x0 6) x1) ((x0 + 3) + 2) ((xwr m11 ((x0 + 3) + 1) (m11 x0 6) x1) x0 6) y0) x0 6) v5) x0 6))) + 0)) v7) ((x0 + 3) + 6) (xw32 ((xw32 (2 * ((xwr (xwr (xwr (xwr m11 ((x0 + 3) + 1) (m11 x0 6) x1) ((x0 + 3) + 2) ((xwr m11 ((x0 + 3) + 1) (m11 x0 6) x1) x0 6) y0) ((x0 + 3) + 3) ((xwr (xwr m11 ((x0 + 3) + 1) (m11 x0 6) x1) ((x0 + 3) + 2) ((xwr m11 ((x0 + 3) + 1) (m11 x0 6) x1) x0 6) y0) x0 6) v5) ((x0 + 3) + 6) (xw32 ((xw32 (2 * ((xwr (xwr (xwr m11 ((x0 + 3) + 1) (m11 x0 6) x1) ((x0 + 3) + 2) ((xwr m11 ((x0 + 3) + 1) (m11 x0 6) x1) x0 6) y0) ((x0 + 3) + 3) ((xwr (xwr m11 ((x0 + 3) + 1) (m11 x0 6) x1) ((x0 + 3) + 2) ((xwr m11 ((x0 + 3) + 1) (m11 x0 6) x1) x0 6) y0) x0 6) v5) x0 6))) + 0)) v7) x0 6))) + 1)) v9) x0 6))), (0, ((xwr (xwr (xwr (xwr (xwr m11 ((x0 + 3) + 1) (m11 x0 6) x1) ((x0 + 3) + 2) ((xwr m11 ((x0 + 3) + 1) (m11 x0 6) x1) x0 6) y0) ((x0 + 3) + 3) ((xwr (xwr m11 ((x0 + 3) + 1) (m11 x0 6) x1) ((x0 + 3) + 2) ((xwr m11 ((x0 + 3) + 1) (m11 x0 6) x1) x0 6) y0) x0 6) v5) ((x0 + 3) + 6) (xw32 ((xw32 (2 * ((xwr (xwr (xwr m11 ((x0 + 3) + 1) (m11 x0 6) x1) ((x0 + 3) + 2) ((xwr m11 ((x0 + 3) + 1) (m11 x0 6) x1) x0 6) y0) ((x0 + 3) + 3) ((xwr (xwr m11 ((x0 + 3) + 1) (m11 x0 6) x1) ((x0 + 3) + 2) ((xwr m11 ((x0 + 3) + 1) (m11 x0 6) x1) x0 6) y0) x0 6) v5) x0 6))) + 0)) v7) ((x0 + 3) + 6) (xw32 ((xw32 (2 * ((xwr (xwr (xwr (xwr m11 ((x0 + 3) + 1) (m11 x0 6) x1) ((x0 + 3) + 2) ((xwr m11 ((x0 + 3) + 1) (m11 x0 6) x1) x0 6) y0) ((x0 + 3) + 3) ((xwr (xwr m11 ((x0 + 3) + 1) (m11 x0 6) x1) ((x0 + 3) + 2) ((xwr m11 ((x0 + 3) + 1) (m11 x0 6) x1) x0 6) y0) x0 6) v5) ((x0 + 3) + 6) (xw32 ((xw32 (2 * ((xwr (xwr (xwr m11 ((x0 + 3) + 1) (m11 x0 6) x1) ((x0 + 3) + 2) ((xwr m11 ((x0 + 3) + 1) (m11 x0 6) x1) x0 6) y0) ((x0 + 3) + 3) ((xwr (xwr m11 ((x0 + 3) + 1) (m11 x0 6) x1) ((x0 + 3) + 2) ((xwr m11 ((x0 + 3) + 1) (m11 x0 6) x1) x0 6) y0) x0 6) v5) x0 6))) + 0)) v7) x0 6))) + 1)) v9) (x0 + 3) 4)), (8, (x0 + 3))], (xwr (xwr (xwr (xwr (xwr m11 ((x0 + 3) + 1) (m11 x0 6) x1) ((x0 + 3) + 2) ((xwr m11 ((x0 + 3) + 1) (m11 x0 6) x1) x0 6) y0) ((x0 + 3) + 3) ((xwr (xwr m11 ((x0 + 3) + 1) (m11 x0 6) x1) ((x0 + 3) + 2) ((xwr m11 ((x0 + 3) + 1) (m11 x0 6) x1) x0 6) y0) x0 6) v5) ((x0 + 3) + 6) (xw32 ((xw32 (2 * ((xwr (xwr (xwr m11 ((x0 + 3) + 1) (m11 x0 6) x1) ((x0 + 3) + 2) ((xwr m11 ((x0 + 3) + 1) (m11 x0 6) x1) x0 6) y0) ((x0 + 3) + 3) ((xwr (xwr m11 ((x0 + 3) + 1) (m11 x0 6) x1) ((x0 + 3) + 2) ((xwr m11 ((x0 + 3) + 1) (m11 x0 6) x1) x0 6) y0) x0 6) v5) x0 6))) + 0)) v7) ((x0 + 3) + 6) (xw32 ((xw32 (2 * ((xwr (xwr (xwr (xwr m11 ((x0 + 3) + 1) (m11 x0 6) x1) ((x0 + 3) + 2) ((xwr m11 ((x0 + 3) + 1) (m11 x0 6) x1) x0 6) y0) ((x0 + 3) + 3) ((xwr (xwr m11 ((x0 + 3) + 1) (m11 x0 6) x1) ((x0 + 3) + 2) ((xwr m11 ((x0 + 3) + 1) (m11 x0 6) x1) x0 6) y0) x0 6) v5) ((x0 + 3) + 6) (xw32 ((xw32 (2 * ((xwr (xwr (xwr m11 ((x0 + 3) + 1) (m11 x0 6) x1) ((x0 + 3) + 2) ((xwr m11 ((x0 + 3) + 1) (m11 x0 6) x1) x0 6) y0) ((x0 + 3) + 3) ((xwr (xwr m11 ((x0 + 3) + 1) (m11 x0 6) x1) ((x0 + 3) + 2) ((xwr m11 ((x0 + 3) + 1) (m11 x0 6) x1) x0 6) y0) x0 6) v5) x0 6))) + 0)) v7) x0 6))) + 1)) v9))) rfl trivial ?_
        try simp only [if_neg c6_] at key_
        try simp only [if_neg c6_]
        exact key_
    · have h := xif_f c_ h
      cases h
      exact xEvG_ret xml xfetch rfl
  · have h := xif_f c_ h
    refine xEvG_n xml xfetch 2 (y := (264, 107, [some (9, x0), some (0, x1), some (0, y0), some (0, v5), some (0, v7), some (0, v9), some (0, v10)], [(54, 13), (9, x0)], m9)) rfl trivial ?_
    obtain ⟨m12, e_, h⟩ := xB_t h
    refine xEvG_call xml xfetch (q := (none, m12)) rfl (hReader_takeWord x0 13 m9 _ e_) ?_
    show xEv (264, 110, [some (9, x0), some (0, x1), some (0, y0), some (0, v5), some (0, v7), some (0, v9), some (0, v10)], [], m12) _
    refine xEvG_n xml xfetch 1 (y := (264, 111, [some (9, x0), some (0, x1), some (0, y0), some (0, v5), some (0, v7), some (0, v9), some (0, v10)], [(9, x0)], m12)) rfl trivial ?_
    obtain ⟨m13, e_, h⟩ := xB_t h
    refine xEvG_call xml xfetch (q := (none, m13)) rfl (hReader_takeSign x0 m12 _ e_) ?_
    show xEv (264, 114, [some (9, x0), some (0, x1), some (0, y0), some (0, v5), some (0, v7), some (0, v9), some (0, v10)], [], m13) _
    refine xEvG_n xml xfetch 3 (y := (264, if (m13 x0 7) = 0 then 121 else 233, [some (9, x0), some (0, x1), some (0, y0), some (0, v5), some (0, v7), some (0, v9), some (0, v10)], [], m13)) rfl trivial ?_
    refine xEvG_br xml xfetch (fun c_ => ?_) (fun c_ => ?_)
    · have h := xif_t c_ h
      have a0_ := (xA_t h).1
      have h := (xA_t h).2
      have a1_ := (xA_t h).1
      have h := (xA_t h).2
      have a2_ := (xA_t h).1
      have h := (xA_t h).2
      have a3_ := (xA_t h).1
      have h := (xA_t h).2
      have a4_ := (xA_t h).1
      have h := (xA_t h).2
      refine xEvG_n xml xfetch 48 (y := (264, 206, [some (9, x0), some (0, x1), some (0, y0), some (0, v5), some (0, v7), some (0, v9), some (0, v10)], [(0, v10), (0, ((xwr (xwr (xwr (xwr (xwr m13 ((x0 + 3) + 1) (m13 x0 6) x1) ((x0 + 3) + 2) ((xwr m13 ((x0 + 3) + 1) (m13 x0 6) x1) x0 6) y0) ((x0 + 3) + 3) ((xwr (xwr m13 ((x0 + 3) + 1) (m13 x0 6) x1) ((x0 + 3) + 2) ((xwr m13 ((x0 + 3) + 1) (m13 x0 6) x1) x0 6) y0) x0 6) v5) ((x0 + 3) + 6) (xw32 ((xw32 (2 * ((xwr (xwr (xwr m13 ((x0 + 3) + 1) (m13 x0 6) x1) ((x0 + 3) + 2) ((xwr m13 ((x0 + 3) + 1) (m13 x0 6) x1) x0 6) y0) ((x0 + 3) + 3) ((xwr (xwr m13 ((x0 + 3) + 1) (m13 x0 6) x1) ((x0 + 3) + 2) ((xwr m13 ((x0 + 3) + 1) (m13 x0 6) x1) x0 6) y0) x0 6) v5) x0 6))) + 0)) v7) ((x0 + 3) + 6) (xw32 ((xw32 (2 * ((xwr (xwr (xwr (xwr m13 ((x0 + 3) + 1) (m13 x0 6) x1) ((x0 + 3) + 2) ((xwr m13 ((x0 + 3) + 1) (m13 x0 6) x1) x0 6) y0) ((x0 + 3) + 3) ((xwr (xwr m13 ((x0 + 3) + 1) (m13 x0 6) x1) ((x0 + 3) + 2) ((xwr m13 ((x0 + 3) + 1) (m13 x0 6) x1) x0 6) y0) x0 6) v5) ((x0 + 3) + 6) (xw32 ((xw32 (2 * ((xwr (xwr (xwr m13 ((x0 + 3) + 1) (m13 x0 6) x1) ((x0 + 3) + 2) ((xwr m13 ((x0 + 3) + 1) (m13 x0 6) x1) x0 6) y0) ((x0 + 3) + 3) ((xwr (xwr m13 ((x0 + 3) + 1) (m13 x0 6) x1) ((x0 + 3) + 2) ((xwr m13 ((x0 + 3) + 1) (m13 x0 6) x1) x0 6) y0) x0 6) v5) x0 6))) + 0)) v7) x0 6))) + 1)) v9) (x0 + 3) 4)), (8, (x0 + 3))], (xwr (xwr (xwr (xwr (xwr m13 ((x0 + 3) + 1) (m13 x0 6) x1) ((x0 + 3) + 2) ((xwr m13 ((x0 + 3) + 1) (m13 x0 6) x1) x0 6) y0) ((x0 + 3) + 3) ((xwr (xwr m13 ((x0 + 3) + 1) (m13 x0 6) x1) ((x0 + 3) + 2) ((xwr m13 ((x0 + 3) + 1) (m13 x0 6) x1) x0 6) y0) x0 6) v5) ((x0 + 3) + 6) (xw32 ((xw32 (2 * ((xwr (xwr (xwr m13 ((x0 + 3) + 1) (m13 x0 6) x1) ((x0 + 3) + 2) ((xwr m13 ((x0 + 3) + 1) (m13 x0 6) x1) x0 6) y0) ((x0 + 3) + 3) ((xwr (xwr m13 ((x0 + 3) + 1) (m13 x0 6) x1) ((x0 + 3) + 2) ((xwr m13 ((x0 + 3) + 1) (m13 x0 6) x1) x0 6) y0) x0 6) v5) x0 6))) + 0)) v7) ((x0 + 3) + 6) (xw32 ((xw32 (2 * ((xwr (xwr (xwr (xwr m13 ((x0 + 3) + 1) (m13 x0 6) x1) ((x0 + 3) + 2) ((xwr m13 ((x0 + 3) + 1) (m13 x0 6) x1) x0 6) y0) ((x0 + 3) + 3) ((xwr (xwr m13 ((x0 + 3) + 1) (m13 x0 6) x1) ((x0 + 3) + 2) ((xwr m13 ((x0 + 3) + 1) (m13 x0 6) x1) x0 6) y0) x0 6) v5) ((x0 + 3) + 6) (xw32 ((xw32 (2 * ((xwr (xwr (xwr m13 ((x0 + 3) + 1) (m13 x0 6) x1) ((x0 + 3) + 2) ((xwr m13 ((x0 + 3) + 1) (m13 x0 6) x1) x0 6) y0) ((x0 + 3) + 3) ((xwr (xwr m13 ((x0 + 3) + 1) (m13 x0 6) x1) ((x0 + 3) + 2) ((xwr m13 ((x0 + 3) + 1) (m13 x0 6) x1) x0 6) y0) x0 6) v5) x0 6))) + 0)) v7) x0 6))) + 1)) v9))) rfl ⟨a0_, a1_, a2_, a3_, a4_, trivial⟩ ?_
      have key_ : xEv (264, 219, [some (9, x0), some (0, x1), some (0, y0), some (0, v5), some (0, v7), some (0, v9), some (0, v10)], [(0, (if v10 = 0 then 0 else (xshl 1 ((xwr (xwr (xwr (xwr (xwr m13 ((x0 + 3) + 1) (m13 x0 6) x1) ((x0 + 3) + 2) ((xwr m13 ((x0 + 3) + 1) (m13 x0 6) x1) x0 6) y0) ((x0 + 3) + 3) ((xwr (xwr m13 ((x0 + 3) + 1) (m13 x0 6) x1) ((x0 + 3) + 2) ((xwr m13 ((x0 + 3) + 1) (m13 x0 6) x1) x0 6) y0) x0 6) v5) ((x0 + 3) + 6) (xw32 ((xw32 (2 * ((xwr (xwr (xwr m13 ((x0 + 3) + 1) (m13 x0 6) x1) ((x0 + 3) + 2) ((xwr m13 ((x0 + 3) + 1) (m13 x0 6) x1) x0 6) y0) ((x0 + 3) + 3) ((xwr (xwr m13 ((x0 + 3) + 1) (m13 x0 6) x1) ((x0 + 3) + 2) ((xwr m13 ((x0 + 3) + 1) (m13 x0 6) x1) x0 6) y0) x0 6) v5) x0 6))) + 0)) v7) ((x0 + 3) + 6) (xw32 ((xw32 (2 * ((xwr (xwr (xwr (xwr m13 ((x0 + 3) + 1) (m13 x0 6) x1) ((x0 + 3) + 2) ((xwr m13 ((x0 + 3) + 1) (m13 x0 6) x1) x0 6) y0) ((x0 + 3) + 3) ((xwr (xwr m13 ((x0 + 3) + 1) (m13 x0 6) x1) ((x0 + 3) + 2) ((xwr m13 ((x0 + 3) + 1) (m13 x0 6) x1) x0 6) y0) x0 6) v5) ((x0 + 3) + 6) (xw32 ((xw32 (2 * ((xwr (xwr (xwr m13 ((x0 + 3) + 1) (m13 x0 6) x1) ((x0 + 3) + 2) ((xwr m13 ((x0 + 3) + 1) (m13 x0 6) x1) x0 6) y0) ((x0 + 3) + 3) ((xwr (xwr m13 ((x0 + 3) + 1) (m13 x0 6) x1) ((x0 + 3) + 2) ((xwr m13 ((x0 + 3) + 1) (m13 x0 6) x1) x0 6) y0) x0 6) v5) x0 6))) + 0)) v7) x0 6))) + 1)) v9) x0 6)) : Int)), (0, ((xwr (xwr (xwr (xwr (xwr m13 ((x0 + 3) + 1) (m13 x0 6) x1) ((x0 + 3) + 2) ((xwr m13 ((x0 + 3) + 1) (m13 x0 6) x1) x0 6) y0) ((x0 + 3) + 3) ((xwr (xwr m13 ((x0 + 3) + 1) (m13 x0 6) x1) ((x0 + 3) + 2) ((xwr m13 ((x0 + 3) + 1) (m13 x0 6) x1) x0 6) y0) x0 6) v5) ((x0 + 3) + 6) (xw32 ((xw32 (2 * ((xwr (xwr (xwr m13 ((x0 + 3) + 1) (m13 x0 6) x1) ((x0 + 3) + 2) ((xwr m13 ((x0 + 3) + 1) (m13 x0 6) x1) x0 6) y0) ((x0 + 3) + 3) ((xwr (xwr m13 ((x0 + 3) + 1) (m13 x0 6) x1) ((x0 + 3) + 2) ((xwr m13 ((x0 + 3) + 1) (m13 x0 6) x1) x0 6) y0) x0 6) v5) x0 6))) + 0)) v7) ((x0 + 3) + 6) (xw32 ((xw32 (2 * ((xwr (xwr (xwr (xwr m13 ((x0 + 3) + 1) (m13 x0 6) x1) ((x0 + 3) + 2) ((xwr m13 ((x0 + 3) + 1) (m13 x0 6) x1) x0 6) y0) ((x0 + 3) + 3) ((xwr (xwr m13 ((x0 + 3) + 1) (m13 x0 6) x1) ((x0 + 3) + 2) ((xwr m13 ((x0 + 3) + 1) (m13 x0 6) x1) x0 6) y0) x0 6) v5) ((x0 + 3) + 6) (xw32 ((xw32 (2 * ((xwr (xwr (xwr m13 ((x0 + 3) + 1) (m13 x0 6) x1) ((x0 + 3) + 2) ((xwr m13 ((x0 + 3) + 1) (m13 x0 6) x1) x0 6) y0) ((x0 + 3) + 3) ((xwr (xwr m13 ((x0 + 3) + 1) (m13 x0 6) x1) ((x0 + 3) + 2) ((xwr m13 ((x0 + 3) + 1) (m13 x0 6) x1) x0 6) y0) x0 6) v5) x0 6))) + 0)) v7) x0 6))) + 1)) v9) (x0 + 3) 4)), (8, (x0 + 3))], (xwr (xwr (xwr (xwr (xwr m13 ((x0 + 3) + 1) (m13 x0 6) x1) ((x0 + 3) + 2) ((xwr m13 ((x0 + 3) + 1) (m13 x0 6) x1) x0 6) y0) ((x0 + 3) + 3) ((xwr (xwr m13 ((x0 + 3) + 1) (m13 x0 6) x1) ((x0 + 3) + 2) ((xwr m13 ((x0 + 3) + 1) (m13 x0 6) x1) x0 6) y0) x0 6) v5) ((x0 + 3) + 6) (xw32 ((xw32 (2 * ((xwr (xwr (xwr m13 ((x0 + 3) + 1) (m13 x0 6) x1) ((x0 + 3) + 2) ((xwr m13 ((x0 + 3) + 1) (m13 x0 6) x1) x0 6) y0) ((x0 + 3) + 3) ((xwr (xwr m13 ((x0 + 3) + 1) (m13 x0 6) x1) ((x0 + 3) + 2) ((xwr m13 ((x0 + 3) + 1) (m13 x0 6) x1) x0 6) y0) x0 6) v5) x0 6))) + 0)) v7) ((x0 + 3) + 6) (xw32 ((xw32 (2 * ((xwr (xwr (xwr (xwr m13 ((x0 + 3) + 1) (m13 x0 6) x1) ((x0 + 3) + 2) ((xwr m13 ((x0 + 3) + 1) (m13 x0 6) x1) x0 6) y0) ((x0 + 3) + 3) ((xwr (xwr m13 ((x0 + 3) + 1) (m13 x0 6) x1) ((x0 + 3) + 2) ((xwr m13 ((x0 + 3) + 1) (m13 x0 6) x1) x0 6) y0) x0 6) v5) ((x0 + 3) + 6) (xw32 ((xw32 (2 * ((xwr (xwr (xwr m13 ((x0 + 3) + 1) (m13 x0 6) x1) ((x0 + 3) + 2) ((xwr m13 ((x0 + 3) + 1) (m13 x0 6) x1) x0 6) y0) ((x0 + 3) + 3) ((xwr (xwr m13 ((x0 + 3) + 1) (m13 x0 6) x1) ((x0 + 3) + 2) ((xwr m13 ((x0 + 3) + 1) (m13 x0 6) x1) x0 6) y0) x0 6) v5) x0 6))) + 0)) v7) x0 6))) + 1)) v9)) (none, r) := by
        refine xEvG_n xml xfetch 8 (y := (264, 233, [some (9, x0), some (0, x1), some (0, y0), some (0, v5), some (0, v7), some (0, v9), some (0, v10)], [], (xwr (xwr (xwr (xwr (xwr (xwr (xwr m13 ((x0 + 3) + 1) (m13 x0 6) x1) ((x0 + 3) + 2) ((xwr m13 ((x0 + 3) + 1) (m13 x0 6) x1) x0 6) y0) ((x0 + 3) + 3) ((xwr (xwr m13 ((x0 + 3) + 1) (m13 x0 6) x1) ((x0 + 3) + 2) ((xwr m13 ((x0 + 3) + 1) (m13 x0 6) x1) x0 6) y0) x0 6) v5) ((x0 + 3) + 6) (xw32 ((xw32 (2 * ((xwr (xwr (xwr m13 ((x0 + 3) + 1) (m13 x0 6) x1) ((x0 + 3) + 2) ((xwr m13 ((x0 + 3) + 1) (m13 x0 6) x1) x0 6) y0) ((x0 + 3) + 3) ((xwr (xwr m13 ((x0 + 3) + 1) (m13 x0 6) x1) ((x0 + 3) + 2) ((xwr m13 ((x0 + 3) + 1) (m13 x0 6) x1) x0 6) y0) x0 6) v5) x0 6))) + 0)) v7) ((x0 + 3) + 6) (xw32 ((xw32 (2 * ((xwr (xwr (xwr (xwr m13 ((x0 + 3) + 1) (m13 x0 6) x1) ((x0 + 3) + 2) ((xwr m13 ((x0 + 3) + 1) (m13 x0 6) x1) x0 6) y0) ((x0 + 3) + 3) ((xwr (xwr m13 ((x0 + 3) + 1) (m13 x0 6) x1) ((x0 + 3) + 2) ((xwr m13 ((x0 + 3) + 1) (m13 x0 6) x1) x0 6) y0) x0 6) v5) ((x0 + 3) + 6) (xw32 ((xw32 (2 * ((xwr (xwr (xwr m13 ((x0 + 3) + 1) (m13 x0 6) x1) ((x0 + 3) + 2) ((xwr m13 ((x0 + 3) + 1) (m13 x0 6) x1) x0 6) y0) ((x0 + 3) + 3) ((xwr (xwr m13 ((x0 + 3) + 1) (m13 x0 6) x1) ((x0 + 3) + 2) ((xwr m13 ((x0 + 3) + 1) (m13 x0 6) x1) x0 6) y0) x0 6) v5) x0 6))) + 0)) v7) x0 6))) + 1)) v9) (x0 + 3) 4 (xor32 ((xwr (xwr (xwr (xwr (xwr m13 ((x0 + 3) + 1) (m13 x0 6) x1) ((x0 + 3) + 2) ((xwr m13 ((x0 + 3) + 1) (m13 x0 6) x1) x0 6) y0) ((x0 + 3) + 3) ((xwr (xwr m13 ((x0 + 3) + 1) (m13 x0 6) x1) ((x0 + 3) + 2) ((xwr m13 ((x0 + 3) + 1) (m13 x0 6) x1) x0 6) y0) x0 6) v5) ((x0 + 3) + 6) (xw32 ((xw32 (2 * ((xwr (xwr (xwr m13 ((x0 + 3) + 1) (m13 x0 6) x1) ((x0 + 3) + 2) ((xwr m13 ((x0 + 3) + 1) (m13 x0 6) x1) x0 6) y0) ((x0 + 3) + 3) ((xwr (xwr m13 ((x0 + 3) + 1) (m13 x0 6) x1) ((x0 + 3) + 2) ((xwr m13 ((x0 + 3) + 1) (m13 x0 6) x1) x0 6) y0) x0 6) v5) x0 6))) + 0)) v7) ((x0 + 3) + 6) (xw32 ((xw32 (2 * ((xwr (xwr (xwr (xwr m13 ((x0 + 3) + 1) (m13 x0 6) x1) ((x0 + 3) + 2) ((xwr m13 ((x0 + 3) + 1) (m13 x0 6) x1) x0 6) y0) ((x0 + 3) + 3) ((xwr (xwr m13 ((x0 + 3) + 1) (m13 x0 6) x1) ((x0 + 3) + 2) ((xwr m13 ((x0 + 3) + 1) (m13 x0 6) x1) x0 6) y0) x0 6) v5) ((x0 + 3) + 6) (xw32 ((xw32 (2 * ((xwr (xwr (xwr m13 ((x0 + 3) + 1) (m13 x0 6) x1) ((x0 + 3) + 2) ((xwr m13 ((x0 + 3) + 1) (m13 x0 6) x1) x0 6) y0) ((x0 + 3) + 3) ((xwr (xwr m13 ((x0 + 3) + 1) (m13 x0 6) x1) ((x0 + 3) + 2) ((xwr m13 ((x0 + 3) + 1) (m13 x0 6) x1) x0 6) y0) x0 6) v5) x0 6))) + 0)) v7) x0 6))) + 1)) v9) (x0 + 3) 4) (if v10 = 0 then 0 else (xshl 1 ((xwr (xwr (xwr (xwr (xwr m13 ((x0 + 3) + 1) (m13 x0 6) x1) ((x0 + 3) + 2) ((xwr m13 ((x0 + 3) + 1) (m13 x0 6) x1) x0 6) y0) ((x0 + 3) + 3) ((xwr (xwr m13 ((x0 + 3) + 1) (m13 x0 6) x1) ((x0 + 3) + 2) ((xwr m13 ((x0 + 3) + 1) (m13 x0 6) x1) x0 6) y0) x0 6) v5) ((x0 + 3) + 6) (xw32 ((xw32 (2 * ((xwr (xwr (xwr m13 ((x0 + 3) + 1) (m13 x0 6) x1) ((x0 + 3) + 2) ((xwr m13 ((x0 + 3) + 1) (m13 x0 6) x1) x0 6) y0) ((x0 + 3) + 3) ((xwr (xwr m13 ((x0 + 3) + 1) (m13 x0 6) x1) ((x0 + 3) + 2) ((xwr m13 ((x0 + 3) + 1) (m13 x0 6) x1) x0 6) y0) x0 6) v5) x0 6))) + 0)) v7) ((x0 + 3) + 6) (xw32 ((xw32 (2 * ((xwr (xwr (xwr (xwr m13 ((x0 + 3) + 1) (m13 x0 6) x1) ((x0 + 3) + 2) ((xwr m13 ((x0 + 3) + 1) (m13 x0 6) x1) x0 6) y0) ((x0 + 3) + 3) ((xwr (xwr m13 ((x0 + 3) + 1) (m13 x0 6) x1) ((x0 + 3) + 2) ((xwr m13 ((x0 + 3) + 1) (m13 x0 6) x1) x0 6) y0) x0 6) v5) ((x0 + 3) + 6) (xw32 ((xw32 (2 * ((xwr (xwr (xwr m13 ((x0 + 3) + 1) (m13 x0 6) x1) ((x0 + 3) + 2) ((xwr m13 ((x0 + 3) + 1) (m13 x0 6) x1) x0 6) y0) ((x0 + 3) + 3) ((xwr (xwr m13 ((x0 + 3) + 1) (m13 x0 6) x1) ((x0 + 3) + 2) ((xwr m13 ((x0 + 3) + 1) (m13 x0 6) x1) x0 6) y0) x0 6) v5) x0 6))) + 0)) v7) x0 6))) + 1)) v9) x0 6)) : Int))) x0 6 (xw32 (((xwr (xwr (xwr (xwr (xwr (xwr m13 ((x0 + 3) + 1) (m13 x0 6) x1) ((x0 + 3) + 2) ((xwr m13 ((x0 + 3) + 1) (m13 x0 6) x1) x0 6) y0) ((x0 + 3) + 3) ((xwr (xwr m13 ((x0 + 3) + 1) (m13 x0 6) x1) ((x0 + 3) + 2) ((xwr m13 ((x0 + 3) + 1) (m13 x0 6) x1) x0 6) y0) x0 6) v5) ((x0 + 3) + 6) (xw32 ((xw32 (2 * ((xwr (xwr (xwr m13 ((x0 + 3) + 1) (m13 x0 6) x1) ((x0 + 3) + 2) ((xwr m13 ((x0 + 3) + 1) (m13 x0 6) x1) x0 6) y0) ((x0 + 3) + 3) ((xwr (xwr m13 ((x0 + 3) + 1) (m13 x0 6) x1) ((x0 + 3) + 2) ((xwr m13 ((x0 + 3) + 1) (m13 x0 6) x1) x0 6) y0) x0 6) v5) x0 6))) + 0)) v7) ((x0 + 3) + 6) (xw32 ((xw32 (2 * ((xwr (xwr (xwr (xwr m13 ((x0 + 3) + 1) (m13 x0 6) x1) ((x0 + 3) + 2) ((xwr m13 ((x0 + 3) + 1) (m13 x0 6) x1) x0 6) y0) ((x0 + 3) + 3) ((xwr (xwr m13 ((x0 + 3) + 1) (m13 x0 6) x1) ((x0 + 3) + 2) ((xwr m13 ((x0 + 3) + 1) (m13 x0 6) x1) x0 6) y0) x0 6) v5) ((x0 + 3) + 6) (xw32 ((xw32 (2 * ((xwr (xwr (xwr m13 ((x0 + 3) + 1) (m13 x0 6) x1) ((x0 + 3) + 2) ((xwr m13 ((x0 + 3) + 1) (m13 x0 6) x1) x0 6) y0) ((x0 + 3) + 3) ((xwr (xwr m13 ((x0 + 3) + 1) (m13 x0 6) x1) ((x0 + 3) + 2) ((xwr m13 ((x0 + 3) + 1) (m13 x0 6) x1) x0 6) y0) x0 6) v5) x0 6))) + 0)) v7) x0 6))) + 1)) v9) (x0 + 3) 4 (xor32 ((xwr (xwr (xwr (xwr (xwr m13 ((x0 + 3) + 1) (m13 x0 6) x1) ((x0 + 3) + 2) ((xwr m13 ((x0 + 3) + 1) (m13 x0 6) x1) x0 6) y0) ((x0 + 3) + 3) ((xwr (xwr m13 ((x0 + 3) + 1) (m13 x0 6) x1) ((x0 + 3) + 2) ((xwr m13 ((x0 + 3) + 1) (m13 x0 6) x1) x0 6) y0) x0 6) v5) ((x0 + 3) + 6) (xw32 ((xw32 (2 * ((xwr (xwr (xwr m13 ((x0 + 3) + 1) (m13 x0 6) x1) ((x0 + 3) + 2) ((xwr m13 ((x0 + 3) + 1) (m13 x0 6) x1) x0 6) y0) ((x0 + 3) + 3) ((xwr (xwr m13 ((x0 + 3) + 1) (m13 x0 6) x1) ((x0 + 3) + 2) ((xwr m13 ((x0 + 3) + 1) (m13 x0 6) x1) x0 6) y0) x0 6) v5) x0 6))) + 0)) v7) ((x0 + 3) + 6) (xw32 ((xw32 (2 * ((xwr (xwr (xwr (xwr m13 ((x0 + 3) + 1) (m13 x0 6) x1) ((x0 + 3) + 2) ((xwr m13 ((x0 + 3) + 1) (m13 x0 6) x1) x0 6) y0) ((x0 + 3) + 3) ((xwr (xwr m13 ((x0 + 3) + 1) (m13 x0 6) x1) ((x0 + 3) + 2) ((xwr m13 ((x0 + 3) + 1) (m13 x0 6) x1) x0 6) y0) x0 6) v5) ((x0 + 3) + 6) (xw32 ((xw32 (2 * ((xwr (xwr (xwr m13 ((x0 + 3) + 1) (m13 x0 6) x1) ((x0 + 3) + 2) ((xwr m13 ((x0 + 3) + 1) (m13 x0 6) x1) x0 6) y0) ((x0 + 3) + 3) ((xwr (xwr m13 ((x0 + 3) + 1) (m13 x0 6) x1) ((x0 + 3) + 2) ((xwr m13 ((x0 + 3) + 1) (m13 x0 6) x1) x0 6) y0) x0 6) v5) x0 6))) + 0)) v7) x0 6))) + 1)) v9) (x0 + 3) 4) (if v10 = 0 then 0 else (xshl 1 ((xwr (xwr (xwr (xwr (xwr m13 ((x0 + 3) + 1) (m13 x0 6) x1) ((x0 + 3) + 2) ((xwr m13 ((x0 + 3) + 1) (m13 x0 6) x1) x0 6) y0) ((x0 + 3) + 3) ((xwr (xwr m13 ((x0 + 3) + 1) (m13 x0 6) x1) ((x0 + 3) + 2) ((xwr m13 ((x0 + 3) + 1) (m13 x0 6) x1) x0 6) y0) x0 6) v5) ((x0 + 3) + 6) (xw32 ((xw32 (2 * ((xwr (xwr (xwr m13 ((x0 + 3) + 1) (m13 x0 6) x1) ((x0 + 3) + 2) ((xwr m13 ((x0 + 3) + 1) (m13 x0 6) x1) x0 6) y0) ((x0 + 3) + 3) ((xwr (xwr m13 ((x0 + 3) + 1) (m13 x0 6) x1) ((x0 + 3) + 2) ((xwr m13 ((x0 + 3) + 1) (m13 x0 6) x1) x0 6) y0) x0 6) v5) x0 6))) + 0)) v7) ((x0 + 3) + 6) (xw32 ((xw32 (2 * ((xwr (xwr (xwr (xwr m13 ((x0 + 3) + 1) (m13 x0 6) x1) ((x0 + 3) + 2) ((xwr m13 ((x0 + 3) + 1) (m13 x0 6) x1) x0 6) y0) ((x0 + 3) + 3) ((xwr (xwr m13 ((x0 + 3) + 1) (m13 x0 6) x1) ((x0 + 3) + 2) ((xwr m13 ((x0 + 3) + 1) (m13 x0 6) x1) x0 6) y0) x0 6) v5) ((x0 + 3) + 6) (xw32 ((xw32 (2 * ((xwr (xwr (xwr m13 ((x0 + 3) + 1) (m13 x0 6) x1) ((x0 + 3) + 2) ((xwr m13 ((x0 + 3) + 1) (m13 x0 6) x1) x0 6) y0) ((x0 + 3) + 3) ((xwr (xwr m13 ((x0 + 3) + 1) (m13 x0 6) x1) ((x0 + 3) + 2) ((xwr m13 ((x0 + 3) + 1) (m13 x0 6) x1) x0 6) y0) x0 6) v5) x0 6))) + 0)) v7) x0 6))) + 1)) v9) x0 6)) : Int))) x0 6) + 1))))) rfl trivial ?_
        cases h
        exact xEvG_ret xml xfetch rfl
      refine xEvG_n xml xfetch 1 (y := (264, if v10 = 0 then 218 else 209, [some (9, x0), some (0, x1), some (0, y0), some (0, v5), some (0, v7), some (0, v9), some (0, v10)], [(0, ((xwr (xwr (xwr (xwr (xwr m13 ((x0 + 3) + 1) (m13 x0 6) x1) ((x0 + 3) + 2) ((xwr m13 ((x0 + 3) + 1) (m13 x0 6) x1) x0 6) y0) ((x0 + 3) + 3) ((xwr (xwr m13 ((x0 + 3) + 1) (m13 x0 6) x1) ((x0 + 3) + 2) ((xwr m13 ((x0 + 3) + 1) (m13 x0 6) x1) x0 6) y0) x0 6) v5) ((x0 + 3) + 6) (xw32 ((xw32 (2 * ((xwr (xwr (xwr m13 ((x0 + 3) + 1) (m13 x0 6) x1) ((x0 + 3) + 2) ((xwr m13 ((x0 + 3) + 1) (m13 x0 6) x1) x0 6) y0) ((x0 + 3) + 3) ((xwr (xwr m13 ((x0 + 3) + 1) (m13 x0 6) x1) ((x0 + 3) + 2) ((xwr m13 ((x0 + 3) + 1) (m13 x0 6) x1) x0 6) y0) x0 6) v5) x0 6))) + 0)) v7) ((x0 + 3) + 6) (xw32 ((xw32 (2 * ((xwr (xwr (xwr (xwr m13 ((x0 + 3) + 1) (m13 x0 6) x1) ((x0 + 3) + 2) ((xwr m13 ((x0 + 3) + 1) (m13 x0 6) x1) x0 6) y0) ((x0 + 3) + 3) ((xwr (xwr m13 ((x0 + 3) + 1) (m13 x0 6) x1) ((x0 + 3) + 2) ((xwr m13 ((x0 + 3) + 1) (m13 x0 6) x1) x0 6) y0) x0 6) v5) ((x0 + 3) + 6) (xw32 ((xw32 (2 * ((xwr (xwr (xwr m13 ((x0 + 3) + 1) (m13 x0 6) x1) ((x0 + 3) + 2) ((xwr m13 ((x0 + 3) + 1) (m13 x0 6) x1) x0 6) y0) ((x0 + 3) + 3) ((xwr (xwr m13 ((x0 + 3) + 1) (m13 x0 6) x1) ((x0 + 3) + 2) ((xwr m13 ((x0 + 3) + 1) (m13 x0 6) x1) x0 6) y0) x0 6) v5) x0 6))) + 0)) v7) x0 6))) + 1)) v9) (x0 + 3) 4)), (8, (x0 + 3))], (xwr (xwr (xwr (xwr (xwr m13 ((x0 + 3) + 1) (m13 x0 6) x1) ((x0 + 3) + 2) ((xwr m13 ((x0 + 3) + 1) (m13 x0 6) x1) x0 6) y0) ((x0 + 3) + 3) ((xwr (xwr m13 ((x0 + 3) + 1) (m13 x0 6) x1) ((x0 + 3) + 2) ((xwr m13 ((x0 + 3) + 1) (m13 x0 6) x1) x0 6) y0) x0 6) v5) ((x0 + 3) + 6) (xw32 ((xw32 (2 * ((xwr (xwr (xwr m13 ((x0 + 3) + 1) (m13 x0 6) x1) ((x0 + 3) + 2) ((xwr m13 ((x0 + 3) + 1) (m13 x0 6) x1) x0 6) y0) ((x0 + 3) + 3) ((xwr (xwr m13 ((x0 + 3) + 1) (m13 x0 6) x1) ((x0 + 3) + 2) ((xwr m13 ((x0 + 3) + 1) (m13 x0 6) x1) x0 6) y0) x0 6) v5) x0 6))) + 0)) v7) ((x0 + 3) + 6) (xw32 ((xw32 (2 * ((xwr (xwr (xwr (xwr m13 ((x0 + 3) + 1) (m13 x0 6) x1) ((x0 + 3) + 2) ((xwr m13 ((x0 + 3) + 1) (m13 x0 6) x1) x0 6) y0) ((x0 + 3) + 3) ((xwr (xwr m13 ((x0 + 3) + 1) (m13 x0 6) x1) ((x0 + 3) + 2) ((xwr m13 ((x0 + 3) + 1) (m13 x0 6) x1) x0 6) y0) x0 6) v5) ((x0 + 3) + 6) (xw32 ((xw32 (2 * ((xwr (xwr (xwr m13 ((x0 + 3) + 1) (m13 x0 6) x1) ((x0 + 3) + 2) ((xwr m13 ((x0 + 3) + 1) (m13 x0 6) x1) x0 6) y0) ((x0 + 3) + 3) ((xwr (xwr m13 ((x0 + 3) + 1) (m13 x0 6) x1) ((x0 + 3) + 2) ((xwr m13 ((x0 + 3) + 1) (m13 x0 6) x1) x0 6) y0) x0 6) v5) x0 6))) + 0)) v7) x0 6))) + 1)) v9))) rfl trivial ?_
      refine xEvG_br xml xfetch (fun c6_ => ?_) (fun c6_ => ?_)
      · refine xEvG_n xml xfetch 1 (y := (264, 219, [some (9, x0), some (0, x1), some (0, y0), some (0, v5), some (0, v7), some (0, v9), some (0, v10)], [(0, 0), (0, ((xwr (xwr (xwr (xwr (xwr m13 ((x0 + 3) + 1) (m13 x0 6) x1) ((x0 + 3) + 2) ((xwr m13 ((x0 + 3) + 1) (m13 x0 6) x1) x0 6) y0) ((x0 + 3) + 3) ((xwr (xwr m13 ((x0 + 3) + 1) (m13 x0 6) x1) ((x0 + 3) + 2) ((xwr m13 ((x0 + 3) + 1) (m13 x0 6) x1) x0 6) y0) x0 6) v5) ((x0 + 3) + 6) (xw32 ((xw32 (2 * ((xwr (xwr (xwr m13 ((x0 + 3) + 1) (m13 x0 6) x1) ((x0 + 3) + 2) ((xwr m13 ((x0 + 3) + 1) (m13 x0 6) x1) x0 6) y0) ((x0 + 3) + 3) ((xwr (xwr m13 ((x0 + 3) + 1) (m13 x0 6) x1) ((x0 + 3) + 2) ((xwr m13 ((x0 + 3) + 1) (m13 x0 6) x1) x0 6) y0) x0 6) v5) x0 6))) + 0)) v7) ((x0 + 3) + 6) (xw32 ((xw32 (2 * ((xwr (xwr (xwr (xwr m13 ((x0 + 3) + 1) (m13 x0 6) x1) ((x0 + 3) + 2) ((xwr m13 ((x0 + 3) + 1) (m13 x0 6) x1) x0 6) y0) ((x0 + 3) + 3) ((xwr (xwr m13 ((x0 + 3) + 1) (m13 x0 6) x1) ((x0 + 3) + 2) ((xwr m13 ((x0 + 3) + 1) (m13 x0 6) x1) x0 6) y0) x0 6) v5) ((x0 + 3) + 6) (xw32 ((xw32 (2 * ((xwr (xwr (xwr m13 ((x0 + 3) + 1) (m13 x0 6) x1) ((x0 + 3) + 2) ((xwr m13 ((x0 + 3) + 1) (m13 x0 6) x1) x0 6) y0) ((x0 + 3) + 3) ((xwr (xwr m13 ((x0 + 3) + 1) (m13 x0 6) x1) ((x0 + 3) + 2) ((xwr m13 ((x0 + 3) + 1) (m13 x0 6) x1) x0 6) y0) x0 6) v5) x0 6))) + 0)) v7) x0 6))) + 1)) v9) (x0 + 3) 4)), (8, (x0 + 3))], (xwr (xwr (xwr (xwr (xwr m13 ((x0 + 3) + 1) (m13 x0 6) x1) ((x0 + 3) + 2) ((xwr m13 ((x0 + 3) + 1) (m13 x0 6) x1) x0 6) y0) ((x0 + 3) + 3) ((xwr (xwr m13 ((x0 + 3) + 1) (m13 x0 6) x1) ((x0 + 3) + 2) ((xwr m13 ((x0 + 3) + 1) (m13 x0 6) x1) x0 6) y0) x0 6) v5) ((x0 + 3) + 6) (xw32 ((xw32 (2 * ((xwr (xwr (xwr m13 ((x0 + 3) + 1) (m13 x0 6) x1) ((x0 + 3) + 2) ((xwr m13 ((x0 + 3) + 1) (m13 x0 6) x1) x0 6) y0) ((x0 + 3) + 3) ((xwr (xwr m13 ((x0 + 3) + 1) (m13 x0 6) x1) ((x0 + 3) + 2) ((xwr m13 ((x0 + 3) + 1) (m13 x0 6) x1) x0 6) y0) x0 6) v5) x0 6))) + 0)) v7) ((x0 + 3) + 6) (xw32 ((xw32 (2 * ((xwr (xwr (xwr (xwr m13 ((x0 + 3) + 1) (m13 x0 6) x1) ((x0 + 3) + 2) ((xwr m13 ((x0 + 3) + 1) (m13 x0 6) x1) x0 6) y0) ((x0 + 3) + 3) ((xwr (xwr m13 ((x0 + 3) + 1) (m13 x0 6) x1) ((x0 + 3) + 2) ((xwr m13 ((x0 + 3) + 1) (m13 x0 6) x1) x0 6) y0) x0 6) v5) ((x0 + 3) + 6) (xw32 ((xw32 (2 * ((xwr (xwr (xwr m13 ((x0 + 3) + 1) (m13 x0 6) x1) ((x0 + 3) + 2) ((xwr m13 ((x0 + 3) + 1) (m13 x0 6) x1) x0 6) y0) ((x0 + 3) + 3) ((xwr (xwr m13 ((x0 + 3) + 1) (m13 x0 6) x1) ((x0 + 3) + 2) ((xwr m13 ((x0 + 3) + 1) (m13 x0 6) x1) x0 6) y0) x0 6) v5) x0 6))) + 0)) v7) x0 6))) + 1)) v9))) rfl trivial ?_
        try simp only [if_pos c6_] at key_
        try simp only [if_pos c6_]
        exact key_
      · refine xEvG_n xml xfetch 5 (y := (264, 219, [some (9, x0), some (0, x1), some (0, y0), some (0, v5), some (0, v7), some (0, v9), some (0, v10)], [(0, (xshl 1 ((xwr (xwr (xwr (xwr (xwr m13 ((x0 + 3) + 1) (m13 x0 6) x1) ((x0 + 3) + 2) ((xwr m13 ((x0 + 3) + 1) (m13 x0 6) x1) x0 6) y0) ((x0 + 3) + 3) ((xwr (xwr m13 ((x0 + 3) + 1) (m13 x0 6) x1) ((x0 + 3) + 2) ((xwr m13 ((x0 + 3) + 1) (m13 x0 6) x1) x0 6) y0) x0 6) v5) ((x0 + 3) + 6) (xw32 ((xw32 (2 * ((xwr (xwr (xwr m13 ((x0 + 3) + 1) (m13 x0 6) x1) ((x0 + 3) + 2) ((xwr m13 ((x0 + 3) + 1) (m13 x0 6) x1) x0 6) y0) ((x0 + 3) + 3) ((xwr (xwr m13 ((x0 + 3) + 1) (m13 x0 6) x1) ((x0 + 3) + 2) ((xwr m13 ((x0 + 3) + 1) (m13 x0 6) x1) x0 6) y0) x0 6) v5) x0 6))) + 0)) v7) ((x0 + 3) + 6) (xw32 ((xw32 (2 * ((xwr (xwr (xwr (xwr m13 ((x0 + 3) + 1) (m13 x0 6) x1) ((x0 + 3) + 2) ((xwr m13 ((x0 + 3) + 1) (m13 x0 6) x1) x0 6) y0) ((x0 + 3) + 3) ((xwr (xwr m13 ((x0 + 3) + 1) (m13 x0 6) x1) ((x0 + 3) + 2) ((xwr m13 ((x0 + 3) + 1) (m13 x0 6) x1) x0 6) y0) x0 6) v5) ((x0 + 3) + 6) (xw32 ((xw32 (2 * ((xwr (xwr (xwr m13 ((x0 + 3) + 1) (m13 x0 6) x1) ((x0 + 3) + 2) ((xwr m13 ((x0 + 3) + 1) (m13 x0 6) x1) x0 6) y0) ((x0 + 3) + 3) ((xwr (xwr m13 ((x0 + 3) + 1) (m13 x0 6) x1) ((x0 + 3) + 2) ((xwr m13 ((x0 + 3) + 1) (m13 x0 6) x1) x0 6) y0) x0 6) v5) x0 6))) + 0)) v7) x0 6))) + 1)) v9) x0 6))), (0, ((xwr (xwr (xwr (xwr (xwr m13 ((x0 + 3) + 1) (m13 x0 6) x1) ((x0 + 3) + 2) ((xwr m13 ((x0 + 3) + 1) (m13 x0 6) x1) x0 6) y0) ((x0 + 3) + 3) ((xwr (xwr m13 ((x0 + 3) + 1) (m13 x0 6) x1) ((x0 + 3) + 2) ((xwr m13 ((x0 + 3) + 1) (m13 x0 6) x1) x0 6) y0) x0 6) v5) ((x0 + 3) + 6) (xw32 ((xw32 (2 * ((xwr (xwr (xwr m13 ((x0 + 3) + 1) (m13 x0 6) x1) ((x0 + 3) + 2) ((xwr m13 ((x0 + 3) + 1) (m13 x0 6) x1) x0 6) y0) ((x0 + 3) + 3) ((xwr (xwr m13 ((x0 + 3) + 1) (m13 x0 6) x1) ((x0 + 3) + 2) ((xwr m13 ((x0 + 3) + 1) (m13 x0 6) x1) x0 6) y0) x0 6) v5) x0 6))) + 0)) v7) ((x0 + 3) + 6) (xw32 ((xw32 (2 * ((xwr (xwr (xwr (xwr m13 ((x0 + 3) + 1) (m13 x0 6) x1) ((x0 + 3) + 2) ((xwr m13 ((x0 + 3) + 1) (m13 x0 6) x1) x0 6) y0) ((x0 + 3) + 3) ((xwr (xwr m13 ((x0 + 3) + 1) (m13 x0 6) x1) ((x0 + 3) + 2) ((xwr m13 ((x0 + 3) + 1) (m13 x0 6) x1) x0 6) y0) x0 6) v5) ((x0 + 3) + 6) (xw32 ((xw32 (2 * ((xwr (xwr (xwr m13 ((x0 + 3) + 1) (m13 x0 6) x1) ((x0 + 3) + 2) ((xwr m13 ((x0 + 3) + 1) (m13 x0 6) x1) x0 6) y0) ((x0 + 3) + 3) ((xwr (xwr m13 ((x0 + 3) + 1) (m13 x0 6) x1) ((x0 + 3) + 2) ((xwr m13 ((x0 + 3) + 1) (m13 x0 6) x1) x0 6) y0) x0 6) v5) x0 6))) + 0)) v7) x0 6))) + 1)) v9) (x0 + 3) 4)), (8, (x0 + 3))], (xwr (xwr (xwr (xwr (xwr m13 ((x0 + 3) + 1) (m13 x0 6) x1) ((x0 + 3) + 2) ((xwr m13 ((x0 + 3) + 1) (m13 x0 6) x1) x0 6) y0) ((x0 + 3) + 3) ((xwr (xwr m13 ((x0 + 3) + 1) (m13 x0 6) x1) ((x0 + 3) + 2) ((xwr m13 ((x0 + 3) + 1) (m13 x0 6) x1) x0 6) y0) x0 6) v5) ((x0 + 3) + 6) (xw32 ((xw32 (2 * ((xwr (xwr (xwr m13 ((x0 + 3) + 1) (m13 x0 6) x1) ((x0 + 3) + 2) ((xwr m13 ((x0 + 3) + 1) (m13 x0 6) x1) x0 6) y0) ((x0 + 3) + 3) ((xwr (xwr m13 ((x0 + 3) + 1) (m13 x0 6) x1) ((x0 + 3) + 2) ((xwr m13 ((x0 + 3) + 1) (m13 x0 6) x1) x0 6) y0) x0 6) v5) x0 6))) + 0)) v7) ((x0 + 3) + 6) (xw32 ((xw32 (2 * ((xwr (xwr (xwr (xwr m13 ((x0 + 3) + 1) (m13 x0 6) x1) ((x0 + 3) + 2) ((xwr m13 ((x0 + 3) + 1) (m13 x0 6) x1) x0 6) y0) ((x0 + 3) + 3) ((xwr (xwr m13 ((x0 + 3) + 1) (m13 x0 6) x1) ((x0 + 3) + 2) ((xwr m13 ((x0 + 3) + 1) (m13 x0 6) x1) x0 6) y0) x0 6) v5) ((x0 + 3) + 6) (xw32 ((xw32 (2 * ((xwr (xwr (xwr m13 ((x0 + 3) + 1) (m13 x0 6) x1) ((x0 + 3) + 2) ((xwr m13 ((x0 + 3) + 1) (m13 x0 6) x1) x0 6) y0) ((x0 + 3) + 3) ((xwr (xwr m13 ((x0 + 3) + 1) (m13 x0 6) x1) ((x0 + 3) + 2) ((xwr m13 ((x0 + 3) + 1) (m13 x0 6) x1) x0 6) y0) x0 6) v5) x0 6))) + 0)) v7) x0 6))) + 1)) v9))) rfl trivial ?_
        try simp only [if_neg c6_] at key_
        try simp only [if_neg c6_]
        exact key_
    · have h := xif_f c_ h
      cases h
      exact xEvG_ret xml xfetch rfl
/-- ConsentDoors$Reader.readCell()V -/
def fReader_readCell (a0 : Int) (M : xM) : Option xM := if (M a0 6) < (M (a0 + 3) 0) then (xB (fReader_takeWord a0 0 M) (fun m1 => xB (fReader_takeKind a0 m1) (fun q_ => match q_ with | (v2, m2) => if v2 = 2 then (xB (fReader_takeNumber a0 2 9 m2) (fun q_ => match q_ with | (v3, m3) => fReader_readCell_L46 a0 v2 v3 m3)) else (fReader_readCell_L46 a0 v2 0 m2)))) else (xB (fReader_takeWord a0 0 (fReader_fail a0 3 M)) (fun m15 => xB (fReader_takeKind a0 m15) (fun q_ => match q_ with | (v16, m16) => if v16 = 2 then (xB (fReader_takeNumber a0 2 9 m16) (fun q_ => match q_ with | (v17, m17) => fReader_readCell_L46 a0 v16 v17 m17)) else (fReader_readCell_L46 a0 v16 0 m16))))
theorem hReader_readCell (a0 : Int) (M : xM) (r : xM) (h : fReader_readCell a0 M = some r) : xEv (264, 0, [some (9, a0), none, none, none, none, none, none], [], M) (none, r) := by
  unfold fReader_readCell at h
  refine xEvG_n xml xfetch 6 (y := (264, if (M a0 6) < (M (a0 + 3) 0) then 19 else 14, [some (9, a0), none, none, none, none, none, none], [], M)) rfl trivial ?_
  refine xEvG_br xml xfetch (fun c_ => ?_) (fun c_ => ?_)
  · have h := xif_t c_ h
    refine xEvG_n xml xfetch 2 (y := (264, 22, [some (9, a0), none, none, none, none, none, none], [(54, 0), (9, a0)], M)) rfl trivial ?_
    obtain ⟨m1, e_, h⟩ := xB_t h
    refine xEvG_call xml xfetch (q := (none, m1)) rfl (hReader_takeWord a0 0 M _ e_) ?_
    show xEv (264, 25, [some (9, a0), none, none, none, none, none, none], [], m1) _
    refine xEvG_n xml xfetch 1 (y := (264, 26, [some (9, a0), none, none, none, none, none, none], [(9, a0)], m1)) rfl trivial ?_
    obtain ⟨⟨v2, m2⟩, e_, h⟩ := xB_t h
    refine xEvG_call xml xfetch (q := (some (0, v2), m2)) rfl (hReader_takeKind a0 m1 _ e_) ?_
    show xEv (264, 29, [some (9, a0), none, none, none, none, none, none], [(0, v2)], m2) _
    refine xEvG_n xml xfetch 4 (y := (264, if v2 = 2 then 35 else 45, [some (9, a0), some (0, v2), none, none, none, none, none], [], m2)) rfl trivial ?_
    refine xEvG_br xml xfetch (fun c_ => ?_) (fun c_ => ?_)
    · have h := xif_t c_ h
      refine xEvG_n xml xfetch 3 (y := (264, 39, [some (9, a0), some (0, v2), none, none, none, none, none], [(0, 9), (0, 2), (9, a0)], m2)) rfl trivial ?_
      obtain ⟨⟨v3, m3⟩, e_, h⟩ := xB_t h
      refine xEvG_call xml xfetch (q := (some (0, v3), m3)) rfl (hReader_takeNumber a0 2 9 m2 _ e_) ?_
      show xEv (264, 42, [some (9, a0), some (0, v2), none, none, none, none, none], [(0, v3)], m3) _
      refine xEvG_n xml xfetch 1 (y := (264, 46, [some (9, a0), some (0, v2), none, none, none, none, none], [(0, v3)], m3)) rfl trivial ?_
      refine xEvG_mask xml xfetch [true, true, false, false, false, false, false] ?_
      exact hReader_readCell_L46 a0 v2 v3 m3 _ h
    · have h := xif_f c_ h
      refine xEvG_n xml xfetch 1 (y := (264, 46, [some (9, a0), some (0, v2), none, none, none, none, none], [(0, 0)], m2)) rfl trivial ?_
      refine xEvG_mask xml xfetch [true, true, false, false, false, false, false] ?_
      exact hReader_readCell_L46 a0 v2 0 m2 _ h
  · have h := xif_f c_ h
    refine xEvG_n xml xfetch 2 (y := (264, 16, [some (9, a0), none, none, none, none, none, none], [(0, 3), (9, a0)], M)) rfl trivial ?_
    refine xEvG_call xml xfetch (q := (none, fReader_fail a0 3 M)) rfl (hReader_fail a0 3 M _ rfl) ?_
    show xEv (264, 19, [some (9, a0), none, none, none, none, none, none], [], (fReader_fail a0 3 M)) _
    refine xEvG_n xml xfetch 2 (y := (264, 22, [some (9, a0), none, none, none, none, none, none], [(54, 0), (9, a0)], (fReader_fail a0 3 M))) rfl trivial ?_
    obtain ⟨m15, e_, h⟩ := xB_t h
    refine xEvG_call xml xfetch (q := (none, m15)) rfl (hReader_takeWord a0 0 (fReader_fail a0 3 M) _ e_) ?_
    show xEv (264, 25, [some (9, a0), none, none, none, none, none, none], [], m15) _
    refine xEvG_n xml xfetch 1 (y := (264, 26, [some (9, a0), none, none, none, none, none, none], [(9, a0)], m15)) rfl trivial ?_
    obtain ⟨⟨v16, m16⟩, e_, h⟩ := xB_t h
    refine xEvG_call xml xfetch (q := (some (0, v16), m16)) rfl (hReader_takeKind a0 m15 _ e_) ?_
    show xEv (264, 29, [some (9, a0), none, none, none, none, none, none], [(0, v16)], m16) _
    refine xEvG_n xml xfetch 4 (y := (264, if v16 = 2 then 35 else 45, [some (9, a0), some (0, v16), none, none, none, none, none], [], m16)) rfl trivial ?_
    refine xEvG_br xml xfetch (fun c_ => ?_) (fun c_ => ?_)
    · have h := xif_t c_ h
      refine xEvG_n xml xfetch 3 (y := (264, 39, [some (9, a0), some (0, v16), none, none, none, none, none], [(0, 9), (0, 2), (9, a0)], m16)) rfl trivial ?_
      obtain ⟨⟨v17, m17⟩, e_, h⟩ := xB_t h
      refine xEvG_call xml xfetch (q := (some (0, v17), m17)) rfl (hReader_takeNumber a0 2 9 m16 _ e_) ?_
      show xEv (264, 42, [some (9, a0), some (0, v16), none, none, none, none, none], [(0, v17)], m17) _
      refine xEvG_n xml xfetch 1 (y := (264, 46, [some (9, a0), some (0, v16), none, none, none, none, none], [(0, v17)], m17)) rfl trivial ?_
      refine xEvG_mask xml xfetch [true, true, false, false, false, false, false] ?_
      exact hReader_readCell_L46 a0 v16 v17 m17 _ h
    · have h := xif_f c_ h
      refine xEvG_n xml xfetch 1 (y := (264, 46, [some (9, a0), some (0, v16), none, none, none, none, none], [(0, 0)], m16)) rfl trivial ?_
      refine xEvG_mask xml xfetch [true, true, false, false, false, false, false] ?_
      exact hReader_readCell_L46 a0 v16 0 m16 _ h

/-- ConsentDoors$Reader.readLine()V -/
def fReader_readLine (a0 : Int) (M : xM) : Option xM := if (M (a0 + 3) 2) = 0 then (xB (fReader_readPrison a0 M) (fun m1 => some m1)) else (xB (fReader_isWord a0 0 M) (fun v2 => if v2 = 0 then (xB (fReader_isWord a0 1 M) (fun v3 => if v3 = 0 then (xB (fReader_isWord a0 2 M) (fun v4 => if v4 = 0 then (xB (fReader_isWord a0 3 M) (fun v5 => if v5 = 0 then (xB (fReader_isWord a0 4 M) (fun v6 => if v6 = 0 then (some (fReader_fail a0 1 M)) else (xB (fReader_readPlan a0 M) (fun m8 => some m8)))) else (xB (fReader_readSoup a0 M) (fun m9 => some m9)))) else (xB (fReader_readSleeps a0 M) (fun m10 => some m10)))) else (xB (fReader_readQuarrel a0 M) (fun m11 => some m11)))) else (xB (fReader_readCell a0 M) (fun m12 => some m12))))
theorem hReader_readLine (a0 : Int) (M : xM) (r : xM) (h : fReader_readLine a0 M = some r) : xEv (262, 0, [some (9, a0)], [], M) (none, r) := by
  unfold fReader_readLine at h
  refine xEvG_n xml xfetch 4 (y := (262, if (M (a0 + 3) 2) = 0 then 10 else 17, [some (9, a0)], [], M)) rfl trivial ?_
  refine xEvG_br xml xfetch (fun c_ => ?_) (fun c_ => ?_)
  · have h := xif_t c_ h
    refine xEvG_n xml xfetch 1 (y := (262, 11, [some (9, a0)], [(9, a0)], M)) rfl trivial ?_
    obtain ⟨m1, e_, h⟩ := xB_t h
    refine xEvG_call xml xfetch (q := (none, m1)) rfl (hReader_readPrison a0 M _ e_) ?_
    show xEv (262, 14, [some (9, a0)], [], m1) _
    refine xEvG_n xml xfetch 1 (y := (262, 102, [some (9, a0)], [], m1)) rfl trivial ?_
    cases h
    exact xEvG_ret xml xfetch rfl
  · have h := xif_f c_ h
    refine xEvG_n xml xfetch 2 (y := (262, 20, [some (9, a0)], [(54, 0), (9, a0)], M)) rfl trivial ?_
    obtain ⟨v2, e_, h⟩ := xB_t h
    refine xEvG_call xml xfetch (q := (some (0, v2), M)) rfl (hReader_isWord a0 0 M _ e_) ?_
    show xEv (262, 23, [some (9, a0)], [(0, v2)], M) _
    refine xEvG_n xml xfetch 1 (y := (262, if v2 = 0 then 33 else 26, [some (9, a0)], [], M)) rfl trivial ?_
    refine xEvG_br xml xfetch (fun c_ => ?_) (fun c_ => ?_)
    · have h := xif_t c_ h
      refine xEvG_n xml xfetch 2 (y := (262, 36, [some (9, a0)], [(54, 1), (9, a0)], M)) rfl trivial ?_
      obtain ⟨v3, e_, h⟩ := xB_t h
      refine xEvG_call xml xfetch (q := (some (0, v3), M)) rfl (hReader_isWord a0 1 M _ e_) ?_
      show xEv (262, 39, [some (9, a0)], [(0, v3)], M) _
      refine xEvG_n xml xfetch 1 (y := (262, if v3 = 0 then 49 else 42, [some (9, a0)], [], M)) rfl trivial ?_
      refine xEvG_br xml xfetch (fun c_ => ?_) (fun c_ => ?_)
      · have h := xif_t c_ h
        refine xEvG_n xml xfetch 2 (y := (262, 52, [some (9, a0)], [(54, 2), (9, a0)], M)) rfl trivial ?_
        obtain ⟨v4, e_, h⟩ := xB_t h
        refine xEvG_call xml xfetch (q := (some (0, v4), M)) rfl (hReader_isWord a0 2 M _ e_) ?_
        show xEv (262, 55, [some (9, a0)], [(0, v4)], M) _
        refine xEvG_n xml xfetch 1 (y := (262, if v4 = 0 then 65 else 58, [some (9, a0)], [], M)) rfl trivial ?_
        refine xEvG_br xml xfetch (fun c_ => ?_) (fun c_ => ?_)
        · have h := xif_t c_ h
          refine xEvG_n xml xfetch 2 (y := (262, 68, [some (9, a0)], [(54, 3), (9, a0)], M)) rfl trivial ?_
          obtain ⟨v5, e_, h⟩ := xB_t h
          refine xEvG_call xml xfetch (q := (some (0, v5), M)) rfl (hReader_isWord a0 3 M _ e_) ?_
          show xEv (262, 71, [some (9, a0)], [(0, v5)], M) _
          refine xEvG_n xml xfetch 1 (y := (262, if v5 = 0 then 81 else 74, [some (9, a0)], [], M)) rfl trivial ?_
          refine xEvG_br xml xfetch (fun c_ => ?_) (fun c_ => ?_)
          · have h := xif_t c_ h
            refine xEvG_n xml xfetch 2 (y := (262, 84, [some (9, a0)], [(54, 4), (9, a0)], M)) rfl trivial ?_
            obtain ⟨v6, e_, h⟩ := xB_t h
            refine xEvG_call xml xfetch (q := (some (0, v6), M)) rfl (hReader_isWord a0 4 M _ e_) ?_
            show xEv (262, 87, [some (9, a0)], [(0, v6)], M) _
            refine xEvG_n xml xfetch 1 (y := (262, if v6 = 0 then 97 else 90, [some (9, a0)], [], M)) rfl trivial ?_
            refine xEvG_br xml xfetch (fun c_ => ?_) (fun c_ => ?_)
            · have h := xif_t c_ h
              refine xEvG_n xml xfetch 2 (y := (262, 99, [some (9, a0)], [(0, 1), (9, a0)], M)) rfl trivial ?_
              refine xEvG_call xml xfetch (q := (none, fReader_fail a0 1 M)) rfl (hReader_fail a0 1 M _ rfl) ?_
              show xEv (262, 102, [some (9, a0)], [], (fReader_fail a0 1 M)) _
              cases h
              exact xEvG_ret xml xfetch rfl
            · have h := xif_f c_ h
              refine xEvG_n xml xfetch 1 (y := (262, 91, [some (9, a0)], [(9, a0)], M)) rfl trivial ?_
              obtain ⟨m8, e_, h⟩ := xB_t h
              refine xEvG_call xml xfetch (q := (none, m8)) rfl (hReader_readPlan a0 M _ e_) ?_
              show xEv (262, 94, [some (9, a0)], [], m8) _
              refine xEvG_n xml xfetch 1 (y := (262, 102, [some (9, a0)], [], m8)) rfl trivial ?_
              cases h
              exact xEvG_ret xml xfetch rfl
          · have h := xif_f c_ h
            refine xEvG_n xml xfetch 1 (y := (262, 75, [some (9, a0)], [(9, a0)], M)) rfl trivial ?_
            obtain ⟨m9, e_, h⟩ := xB_t h
            refine xEvG_call xml xfetch (q := (none, m9)) rfl (hReader_readSoup a0 M _ e_) ?_
            show xEv (262, 78, [some (9, a0)], [], m9) _
            refine xEvG_n xml xfetch 1 (y := (262, 102, [some (9, a0)], [], m9)) rfl trivial ?_
            cases h
            exact xEvG_ret xml xfetch rfl
        · have h := xif_f c_ h
          refine xEvG_n xml xfetch 1 (y := (262, 59, [some (9, a0)], [(9, a0)], M)) rfl trivial ?_
          obtain ⟨m10, e_, h⟩ := xB_t h
          refine xEvG_call xml xfetch (q := (none, m10)) rfl (hReader_readSleeps a0 M _ e_) ?_
          show xEv (262, 62, [some (9, a0)], [], m10) _
          refine xEvG_n xml xfetch 1 (y := (262, 102, [some (9, a0)], [], m10)) rfl trivial ?_
          cases h
          exact xEvG_ret xml xfetch rfl
      · have h := xif_f c_ h
        refine xEvG_n xml xfetch 1 (y := (262, 43, [some (9, a0)], [(9, a0)], M)) rfl trivial ?_
        obtain ⟨m11, e_, h⟩ := xB_t h
        refine xEvG_call xml xfetch (q := (none, m11)) rfl (hReader_readQuarrel a0 M _ e_) ?_
        show xEv (262, 46, [some (9, a0)], [], m11) _
        refine xEvG_n xml xfetch 1 (y := (262, 102, [some (9, a0)], [], m11)) rfl trivial ?_
        cases h
        exact xEvG_ret xml xfetch rfl
    · have h := xif_f c_ h
      refine xEvG_n xml xfetch 1 (y := (262, 27, [some (9, a0)], [(9, a0)], M)) rfl trivial ?_
      obtain ⟨m12, e_, h⟩ := xB_t h
      refine xEvG_call xml xfetch (q := (none, m12)) rfl (hReader_readCell a0 M _ e_) ?_
      show xEv (262, 30, [some (9, a0)], [], m12) _
      refine xEvG_n xml xfetch 1 (y := (262, 102, [some (9, a0)], [], m12)) rfl trivial ?_
      cases h
      exact xEvG_ret xml xfetch rfl

def fReader_readTape_L33 : Nat → Int → Int → xM → Option (Int × xM)
  | 0, _, _, _ => none
  | g + 1, x0, x1, M => if x1 < 1600 then (if (M x0 7) = 0 then (if (M x0 4) = 0 then (some ((if (M x0 7) = 0 then 1 else 0 : Int), M)) else (xB (fReader_readLine x0 M) (fun m3 => (fReader_readTape_L33 g) x0 (xw32 (x1 + 1)) (xwr m3 (x0 + 3) 2 (xw32 ((m3 (x0 + 3) 2) + 1)))))) else (some ((if (M x0 7) = 0 then 1 else 0 : Int), M))) else (some ((if (M x0 7) = 0 then 1 else 0 : Int), M))
theorem hReader_readTape_L33 : ∀ (g : Nat) (x0 x1 : Int) (M : xM) (r : Int × xM) (h : fReader_readTape_L33 g x0 x1 M = some r), xEv (261, 33, [some (9, x0), some (0, x1)], [], M) (some (0, r.1), r.2)
  | 0, _, _, _, _, h => by cases h
  | g + 1, x0, x1, M, r, h => by
    unfold fReader_readTape_L33 at h
    refine xEvG_n xml xfetch 3 (y := (261, if x1 < 1600 then 40 else 77, [some (9, x0), some (0, x1)], [], M)) rfl trivial ?_
    refine xEvG_br xml xfetch (fun c_ => ?_) (fun c_ => ?_)
    · have h := xif_t c_ h
      refine xEvG_n xml xfetch 3 (y := (261, if (M x0 7) = 0 then 47 else 77, [some (9, x0), some (0, x1)], [], M)) rfl trivial ?_
      refine xEvG_br xml xfetch (fun c_ => ?_) (fun c_ => ?_)
      · have h := xif_t c_ h
        refine xEvG_n xml xfetch 3 (y := (261, if (M x0 4) = 0 then 77 else 54, [some (9, x0), some (0, x1)], [], M)) rfl trivial ?_
        refine xEvG_br xml xfetch (fun c_ => ?_) (fun c_ => ?_)
        · have h := xif_t c_ h
          refine xEvG_n xml xfetch 2 (y := (261, 81, [some (9, x0), some (0, x1)], [(0, (M x0 7))], M)) rfl trivial ?_
          have key_ : xEv (261, 89, [some (9, x0), some (0, x1)], [(0, (if (M x0 7) = 0 then 1 else 0 : Int))], M) (some (0, r.1), r.2) := by
            cases h
            exact xEvG_retc xml xfetch rfl (by (repeat' split) <;> first | exact Or.inl rfl | exact Or.inr rfl)
          refine xEvG_n xml xfetch 1 (y := (261, if (M x0 7) = 0 then 84 else 88, [some (9, x0), some (0, x1)], [], M)) rfl trivial ?_
          refine xEvG_br xml xfetch (fun c10_ => ?_) (fun c10_ => ?_)
          · refine xEvG_n xml xfetch 2 (y := (261, 89, [some (9, x0), some (0, x1)], [(0, 1)], M)) rfl trivial ?_
            try simp only [if_pos c10_] at key_
            try simp only [if_pos c10_]
            exact key_
          · refine xEvG_n xml xfetch 1 (y := (261, 89, [some (9, x0), some (0, x1)], [(0, 0)], M)) rfl trivial ?_
            try simp only [if_neg c10_] at key_
            try simp only [if_neg c10_]
            exact key_
        · have h := xif_f c_ h
          refine xEvG_n xml xfetch 1 (y := (261, 55, [some (9, x0), some (0, x1)], [(9, x0)], M)) rfl trivial ?_
          obtain ⟨m3, e_, h⟩ := xB_t h
          refine xEvG_call xml xfetch (q := (none, m3)) rfl (hReader_readLine x0 M _ e_) ?_
          show xEv (261, 58, [some (9, x0), some (0, x1)], [], m3) _
          refine xEvG_n xml xfetch 9 (y := (261, 33, [some (9, x0), some (0, (xw32 (x1 + 1)))], [], (xwr m3 (x0 + 3) 2 (xw32 ((m3 (x0 + 3) 2) + 1))))) rfl trivial ?_
          refine xEvG_mask xml xfetch [true, true] ?_
          exact (hReader_readTape_L33 g) x0 (xw32 (x1 + 1)) (xwr m3 (x0 + 3) 2 (xw32 ((m3 (x0 + 3) 2) + 1))) _ h
      · have h := xif_f c_ h
        refine xEvG_n xml xfetch 2 (y := (261, 81, [some (9, x0), some (0, x1)], [(0, (M x0 7))], M)) rfl trivial ?_
        have key_ : xEv (261, 89, [some (9, x0), some (0, x1)], [(0, (if (M x0 7) = 0 then 1 else 0 : Int))], M) (some (0, r.1), r.2) := by
          cases h
          exact xEvG_retc xml xfetch rfl (by (repeat' split) <;> first | exact Or.inl rfl | exact Or.inr rfl)
        refine xEvG_n xml xfetch 1 (y := (261, if (M x0 7) = 0 then 84 else 88, [some (9, x0), some (0, x1)], [], M)) rfl trivial ?_
        refine xEvG_br xml xfetch (fun c8_ => ?_) (fun c8_ => ?_)
        · refine xEvG_n xml xfetch 2 (y := (261, 89, [some (9, x0), some (0, x1)], [(0, 1)], M)) rfl trivial ?_
          try simp only [if_pos c8_] at key_
          try simp only [if_pos c8_]
          exact key_
        · refine xEvG_n xml xfetch 1 (y := (261, 89, [some (9, x0), some (0, x1)], [(0, 0)], M)) rfl trivial ?_
          try simp only [if_neg c8_] at key_
          try simp only [if_neg c8_]
          exact key_
    · have h := xif_f c_ h
      refine xEvG_n xml xfetch 2 (y := (261, 81, [some (9, x0), some (0, x1)], [(0, (M x0 7))], M)) rfl trivial ?_
      have key_ : xEv (261, 89, [some (9, x0), some (0, x1)], [(0, (if (M x0 7) = 0 then 1 else 0 : Int))], M) (some (0, r.1), r.2) := by
        cases h
        exact xEvG_retc xml xfetch rfl (by (repeat' split) <;> first | exact Or.inl rfl | exact Or.inr rfl)
      refine xEvG_n xml xfetch 1 (y := (261, if (M x0 7) = 0 then 84 else 88, [some (9, x0), some (0, x1)], [], M)) rfl trivial ?_
      refine xEvG_br xml xfetch (fun c6_ => ?_) (fun c6_ => ?_)
      · refine xEvG_n xml xfetch 2 (y := (261, 89, [some (9, x0), some (0, x1)], [(0, 1)], M)) rfl trivial ?_
        try simp only [if_pos c6_] at key_
        try simp only [if_pos c6_]
        exact key_
      · refine xEvG_n xml xfetch 1 (y := (261, 89, [some (9, x0), some (0, x1)], [(0, 0)], M)) rfl trivial ?_
        try simp only [if_neg c6_] at key_
        try simp only [if_neg c6_]
        exact key_
/-- ConsentDoors$Reader.readTape()Z -/
def fReader_readTape (a0 : Int) (M : xM) : Option (Int × xM) := xB (fPrison_clear (a0 + 3) (xwr (xwr (xwr (xwr M a0 7 0) a0 8 (-1)) a0 3 0) a0 6 0)) (fun m1 => xB (fReader_advance a0 m1) (fun m2 => fReader_readTape_L33 20001 a0 0 m2))
theorem hReader_readTape (a0 : Int) (M : xM) (r : Int × xM) (h : fReader_readTape a0 M = some r) : xEv (261, 0, [some (9, a0), none], [], M) (some (0, r.1), r.2) := by
  unfold fReader_readTape at h
  refine xEvG_n xml xfetch 14 (y := (261, 24, [some (9, a0), none], [(8, (a0 + 3))], (xwr (xwr (xwr (xwr M a0 7 0) a0 8 (-1)) a0 3 0) a0 6 0))) rfl trivial ?_
  obtain ⟨m1, e_, h⟩ := xB_t h
  refine xEvG_call xml xfetch (q := (none, m1)) rfl (hPrison_clear (a0 + 3) (xwr (xwr (xwr (xwr M a0 7 0) a0 8 (-1)) a0 3 0) a0 6 0) _ e_) ?_
  show xEv (261, 27, [some (9, a0), none], [], m1) _
  refine xEvG_n xml xfetch 1 (y := (261, 28, [some (9, a0), none], [(9, a0)], m1)) rfl trivial ?_
  obtain ⟨m2, e_, h⟩ := xB_t h
  refine xEvG_call xml xfetch (q := (none, m2)) rfl (hReader_advance a0 m1 _ e_) ?_
  show xEv (261, 31, [some (9, a0), none], [], m2) _
  refine xEvG_n xml xfetch 2 (y := (261, 33, [some (9, a0), some (0, 0)], [], m2)) rfl trivial ?_
  refine xEvG_mask xml xfetch [true, true] ?_
  exact hReader_readTape_L33 20001 a0 0 m2 _ h

/-- ConsentDoors$Prison.copy(LConsentDoors$Prison;)V -/
def fPrison_copy (a0 a1 : Int) (M : xM) : Option xM := xA (((xwr (xwr (xwr M a0 0 (M a1 0)) a0 1 ((xwr M a0 0 (M a1 0)) a1 1)) a0 2 ((xwr (xwr M a0 0 (M a1 0)) a0 1 ((xwr M a0 0 (M a1 0)) a1 1)) a1 2)) a1 3) = 0 ∨ ((xwr (xwr (xwr M a0 0 (M a1 0)) a0 1 ((xwr M a0 0 (M a1 0)) a1 1)) a0 2 ((xwr (xwr M a0 0 (M a1 0)) a0 1 ((xwr M a0 0 (M a1 0)) a1 1)) a1 2)) a1 3) = 1) (some (xcpy (xcpy (xcpy (xcpy (xcpy (xcpy (xcpy (xcpy (xcpy (xcpy (xwr (xwr (xwr (xwr (xwr (xwr (xwr (xwr M a0 0 (M a1 0)) a0 1 ((xwr M a0 0 (M a1 0)) a1 1)) a0 2 ((xwr (xwr M a0 0 (M a1 0)) a0 1 ((xwr M a0 0 (M a1 0)) a1 1)) a1 2)) a0 3 ((xwr (xwr (xwr M a0 0 (M a1 0)) a0 1 ((xwr M a0 0 (M a1 0)) a1 1)) a0 2 ((xwr (xwr M a0 0 (M a1 0)) a0 1 ((xwr M a0 0 (M a1 0)) a1 1)) a1 2)) a1 3)) a0 4 ((xwr (xwr (xwr (xwr M a0 0 (M a1 0)) a0 1 ((xwr M a0 0 (M a1 0)) a1 1)) a0 2 ((xwr (xwr M a0 0 (M a1 0)) a0 1 ((xwr M a0 0 (M a1 0)) a1 1)) a1 2)) a0 3 ((xwr (xwr (xwr M a0 0 (M a1 0)) a0 1 ((xwr M a0 0 (M a1 0)) a1 1)) a0 2 ((xwr (xwr M a0 0 (M a1 0)) a0 1 ((xwr M a0 0 (M a1 0)) a1 1)) a1 2)) a1 3)) a1 4)) a0 5 ((xwr (xwr (xwr (xwr (xwr M a0 0 (M a1 0)) a0 1 ((xwr M a0 0 (M a1 0)) a1 1)) a0 2 ((xwr (xwr M a0 0 (M a1 0)) a0 1 ((xwr M a0 0 (M a1 0)) a1 1)) a1 2)) a0 3 ((xwr (xwr (xwr M a0 0 (M a1 0)) a0 1 ((xwr M a0 0 (M a1 0)) a1 1)) a0 2 ((xwr (xwr M a0 0 (M a1 0)) a0 1 ((xwr M a0 0 (M a1 0)) a1 1)) a1 2)) a1 3)) a0 4 ((xwr (xwr (xwr (xwr M a0 0 (M a1 0)) a0 1 ((xwr M a0 0 (M a1 0)) a1 1)) a0 2 ((xwr (xwr M a0 0 (M a1 0)) a0 1 ((xwr M a0 0 (M a1 0)) a1 1)) a1 2)) a0 3 ((xwr (xwr (xwr M a0 0 (M a1 0)) a0 1 ((xwr M a0 0 (M a1 0)) a1 1)) a0 2 ((xwr (xwr M a0 0 (M a1 0)) a0 1 ((xwr M a0 0 (M a1 0)) a1 1)) a1 2)) a1 3)) a1 4)) a1 5)) a0 6 ((xwr (xwr (xwr (xwr (xwr (xwr M a0 0 (M a1 0)) a0 1 ((xwr M a0 0 (M a1 0)) a1 1)) a0 2 ((xwr (xwr M a0 0 (M a1 0)) a0 1 ((xwr M a0 0 (M a1 0)) a1 1)) a1 2)) a0 3 ((xwr (xwr (xwr M a0 0 (M a1 0)) a0 1 ((xwr M a0 0 (M a1 0)) a1 1)) a0 2 ((xwr (xwr M a0 0 (M a1 0)) a0 1 ((xwr M a0 0 (M a1 0)) a1 1)) a1 2)) a1 3)) a0 4 ((xwr (xwr (xwr (xwr M a0 0 (M a1 0)) a0 1 ((xwr M a0 0 (M a1 0)) a1 1)) a0 2 ((xwr (xwr M a0 0 (M a1 0)) a0 1 ((xwr M a0 0 (M a1 0)) a1 1)) a1 2)) a0 3 ((xwr (xwr (xwr M a0 0 (M a1 0)) a0 1 ((xwr M a0 0 (M a1 0)) a1 1)) a0 2 ((xwr (xwr M a0 0 (M a1 0)) a0 1 ((xwr M a0 0 (M a1 0)) a1 1)) a1 2)) a1 3)) a1 4)) a0 5 ((xwr (xwr (xwr (xwr (xwr M a0 0 (M a1 0)) a0 1 ((xwr M a0 0 (M a1 0)) a1 1)) a0 2 ((xwr (xwr M a0 0 (M a1 0)) a0 1 ((xwr M a0 0 (M a1 0)) a1 1)) a1 2)) a0 3 ((xwr (xwr (xwr M a0 0 (M a1 0)) a0 1 ((xwr M a0 0 (M a1 0)) a1 1)) a0 2 ((xwr (xwr M a0 0 (M a1 0)) a0 1 ((xwr M a0 0 (M a1 0)) a1 1)) a1 2)) a1 3)) a0 4 ((xwr (xwr (xwr (xwr M a0 0 (M a1 0)) a0 1 ((xwr M a0 0 (M a1 0)) a1 1)) a0 2 ((xwr (xwr M a0 0 (M a1 0)) a0 1 ((xwr M a0 0 (M a1 0)) a1 1)) a1 2)) a0 3 ((xwr (xwr (xwr M a0 0 (M a1 0)) a0 1 ((xwr M a0 0 (M a1 0)) a1 1)) a0 2 ((xwr (xwr M a0 0 (M a1 0)) a0 1 ((xwr M a0 0 (M a1 0)) a1 1)) a1 2)) a1 3)) a1 4)) a1 5)) a1 6)) a0 7 ((xwr (xwr (xwr (xwr (xwr (xwr (xwr M a0 0 (M a1 0)) a0 1 ((xwr M a0 0 (M a1 0)) a1 1)) a0 2 ((xwr (xwr M a0 0 (M a1 0)) a0 1 ((xwr M a0 0 (M a1 0)) a1 1)) a1 2)) a0 3 ((xwr (xwr (xwr M a0 0 (M a1 0)) a0 1 ((xwr M a0 0 (M a1 0)) a1 1)) a0 2 ((xwr (xwr M a0 0 (M a1 0)) a0 1 ((xwr M a0 0 (M a1 0)) a1 1)) a1 2)) a1 3)) a0 4 ((xwr (xwr (xwr (xwr M a0 0 (M a1 0)) a0 1 ((xwr M a0 0 (M a1 0)) a1 1)) a0 2 ((xwr (xwr M a0 0 (M a1 0)) a0 1 ((xwr M a0 0 (M a1 0)) a1 1)) a1 2)) a0 3 ((xwr (xwr (xwr M a0 0 (M a1 0)) a0 1 ((xwr M a0 0 (M a1 0)) a1 1)) a0 2 ((xwr (xwr M a0 0 (M a1 0)) a0 1 ((xwr M a0 0 (M a1 0)) a1 1)) a1 2)) a1 3)) a1 4)) a0 5 ((xwr (xwr (xwr (xwr (xwr M a0 0 (M a1 0)) a0 1 ((xwr M a0 0 (M a1 0)) a1 1)) a0 2 ((xwr (xwr M a0 0 (M a1 0)) a0 1 ((xwr M a0 0 (M a1 0)) a1 1)) a1 2)) a0 3 ((xwr (xwr (xwr M a0 0 (M a1 0)) a0 1 ((xwr M a0 0 (M a1 0)) a1 1)) a0 2 ((xwr (xwr M a0 0 (M a1 0)) a0 1 ((xwr M a0 0 (M a1 0)) a1 1)) a1 2)) a1 3)) a0 4 ((xwr (xwr (xwr (xwr M a0 0 (M a1 0)) a0 1 ((xwr M a0 0 (M a1 0)) a1 1)) a0 2 ((xwr (xwr M a0 0 (M a1 0)) a0 1 ((xwr M a0 0 (M a1 0)) a1 1)) a1 2)) a0 3 ((xwr (xwr (xwr M a0 0 (M a1 0)) a0 1 ((xwr M a0 0 (M a1 0)) a1 1)) a0 2 ((xwr (xwr M a0 0 (M a1 0)) a0 1 ((xwr M a0 0 (M a1 0)) a1 1)) a1 2)) a1 3)) a1 4)) a1 5)) a0 6 ((xwr (xwr (xwr (xwr (xwr (xwr M a0 0 (M a1 0)) a0 1 ((xwr M a0 0 (M a1 0)) a1 1)) a0 2 ((xwr (xwr M a0 0 (M a1 0)) a0 1 ((xwr M a0 0 (M a1 0)) a1 1)) a1 2)) a0 3 ((xwr (xwr (xwr M a0 0 (M a1 0)) a0 1 ((xwr M a0 0 (M a1 0)) a1 1)) a0 2 ((xwr (xwr M a0 0 (M a1 0)) a0 1 ((xwr M a0 0 (M a1 0)) a1 1)) a1 2)) a1 3)) a0 4 ((xwr (xwr (xwr (xwr M a0 0 (M a1 0)) a0 1 ((xwr M a0 0 (M a1 0)) a1 1)) a0 2 ((xwr (xwr M a0 0 (M a1 0)) a0 1 ((xwr M a0 0 (M a1 0)) a1 1)) a1 2)) a0 3 ((xwr (xwr (xwr M a0 0 (M a1 0)) a0 1 ((xwr M a0 0 (M a1 0)) a1 1)) a0 2 ((xwr (xwr M a0 0 (M a1 0)) a0 1 ((xwr M a0 0 (M a1 0)) a1 1)) a1 2)) a1 3)) a1 4)) a0 5 ((xwr (xwr (xwr (xwr (xwr M a0 0 (M a1 0)) a0 1 ((xwr M a0 0 (M a1 0)) a1 1)) a0 2 ((xwr (xwr M a0 0 (M a1 0)) a0 1 ((xwr M a0 0 (M a1 0)) a1 1)) a1 2)) a0 3 ((xwr (xwr (xwr M a0 0 (M a1 0)) a0 1 ((xwr M a0 0 (M a1 0)) a1 1)) a0 2 ((xwr (xwr M a0 0 (M a1 0)) a0 1 ((xwr M a0 0 (M a1 0)) a1 1)) a1 2)) a1 3)) a0 4 ((xwr (xwr (xwr (xwr M a0 0 (M a1 0)) a0 1 ((xwr M a0 0 (M a1 0)) a1 1)) a0 2 ((xwr (xwr M a0 0 (M a1 0)) a0 1 ((xwr M a0 0 (M a1 0)) a1 1)) a1 2)) a0 3 ((xwr (xwr (xwr M a0 0 (M a1 0)) a0 1 ((xwr M a0 0 (M a1 0)) a1 1)) a0 2 ((xwr (xwr M a0 0 (M a1 0)) a0 1 ((xwr M a0 0 (M a1 0)) a1 1)) a1 2)) a1 3)) a1 4)) a1 5)) a1 6)) a1 7)) (a1 + 1) 0 (a0 + 1) 0 9) (a1 + 2) 0 (a0 + 2) 0 9) (a1 + 3) 0 (a0 + 3) 0 9) (a1 + 4) 0 (a0 + 4) 0 9) (a1 + 5) 0 (a0 + 5) 0 9) (a1 + 6) 0 (a0 + 6) 0 18) (a1 + 7) 0 (a0 + 7) 0 9) (a1 + 8) 0 (a0 + 8) 0 9) (a1 + 9) 0 (a0 + 9) 0 9) (a1 + 10) 0 (a0 + 10) 0 24))
theorem hPrison_copy (a0 a1 : Int) (M : xM) (r : xM) (h : fPrison_copy a0 a1 M = some r) : xEv (246, 0, [some (8, a0), some (8, a1)], [], M) (none, r) := by
  unfold fPrison_copy at h
  have a0_ := (xA_t h).1
  have h := (xA_t h).2
  refine xEvG_n xml xfetch 112 (y := (246, 214, [some (8, a0), some (8, a1)], [], (xcpy (xcpy (xcpy (xcpy (xcpy (xcpy (xcpy (xcpy (xcpy (xcpy (xwr (xwr (xwr (xwr (xwr (xwr (xwr (xwr M a0 0 (M a1 0)) a0 1 ((xwr M a0 0 (M a1 0)) a1 1)) a0 2 ((xwr (xwr M a0 0 (M a1 0)) a0 1 ((xwr M a0 0 (M a1 0)) a1 1)) a1 2)) a0 3 ((xwr (xwr (xwr M a0 0 (M a1 0)) a0 1 ((xwr M a0 0 (M a1 0)) a1 1)) a0 2 ((xwr (xwr M a0 0 (M a1 0)) a0 1 ((xwr M a0 0 (M a1 0)) a1 1)) a1 2)) a1 3)) a0 4 ((xwr (xwr (xwr (xwr M a0 0 (M a1 0)) a0 1 ((xwr M a0 0 (M a1 0)) a1 1)) a0 2 ((xwr (xwr M a0 0 (M a1 0)) a0 1 ((xwr M a0 0 (M a1 0)) a1 1)) a1 2)) a0 3 ((xwr (xwr (xwr M a0 0 (M a1 0)) a0 1 ((xwr M a0 0 (M a1 0)) a1 1)) a0 2 ((xwr (xwr M a0 0 (M a1 0)) a0 1 ((xwr M a0 0 (M a1 0)) a1 1)) a1 2)) a1 3)) a1 4)) a0 5 ((xwr (xwr (xwr (xwr (xwr M a0 0 (M a1 0)) a0 1 ((xwr M a0 0 (M a1 0)) a1 1)) a0 2 ((xwr (xwr M a0 0 (M a1 0)) a0 1 ((xwr M a0 0 (M a1 0)) a1 1)) a1 2)) a0 3 ((xwr (xwr (xwr M a0 0 (M a1 0)) a0 1 ((xwr M a0 0 (M a1 0)) a1 1)) a0 2 ((xwr (xwr M a0 0 (M a1 0)) a0 1 ((xwr M a0 0 (M a1 0)) a1 1)) a1 2)) a1 3)) a0 4 ((xwr (xwr (xwr (xwr M a0 0 (M a1 0)) a0 1 ((xwr M a0 0 (M a1 0)) a1 1)) a0 2 ((xwr (xwr M a0 0 (M a1 0)) a0 1 ((xwr M a0 0 (M a1 0)) a1 1)) a1 2)) a0 3 ((xwr (xwr (xwr M a0 0 (M a1 0)) a0 1 ((xwr M a0 0 (M a1 0)) a1 1)) a0 2 ((xwr (xwr M a0 0 (M a1 0)) a0 1 ((xwr M a0 0 (M a1 0)) a1 1)) a1 2)) a1 3)) a1 4)) a1 5)) a0 6 ((xwr (xwr (xwr (xwr (xwr (xwr M a0 0 (M a1 0)) a0 1 ((xwr M a0 0 (M a1 0)) a1 1)) a0 2 ((xwr (xwr M a0 0 (M a1 0)) a0 1 ((xwr M a0 0 (M a1 0)) a1 1)) a1 2)) a0 3 ((xwr (xwr (xwr M a0 0 (M a1 0)) a0 1 ((xwr M a0 0 (M a1 0)) a1 1)) a0 2 ((xwr (xwr M a0 0 (M a1 0)) a0 1 ((xwr M a0 0 (M a1 0)) a1 1)) a1 2)) a1 3)) a0 4 ((xwr (xwr (xwr (xwr M a0 0 (M a1 0)) a0 1 ((xwr M a0 0 (M a1 0)) a1 1)) a0 2 ((xwr (xwr M a0 0 (M a1 0)) a0 1 ((xwr M a0 0 (M a1 0)) a1 1)) a1 2)) a0 3 ((xwr (xwr (xwr M a0 0 (M a1 0)) a0 1 ((xwr M a0 0 (M a1 0)) a1 1)) a0 2 ((xwr (xwr M a0 0 (M a1 0)) a0 1 ((xwr M a0 0 (M a1 0)) a1 1)) a1 2)) a1 3)) a1 4)) a0 5 ((xwr (xwr (xwr (xwr (xwr M a0 0 (M a1 0)) a0 1 ((xwr M a0 0 (M a1 0)) a1 1)) a0 2 ((xwr (xwr M a0 0 (M a1 0)) a0 1 ((xwr M a0 0 (M a1 0)) a1 1)) a1 2)) a0 3 ((xwr (xwr (xwr M a0 0 (M a1 0)) a0 1 ((xwr M a0 0 (M a1 0)) a1 1)) a0 2 ((xwr (xwr M a0 0 (M a1 0)) a0 1 ((xwr M a0 0 (M a1 0)) a1 1)) a1 2)) a1 3)) a0 4 ((xwr (xwr (xwr (xwr M a0 0 (M a1 0)) a0 1 ((xwr M a0 0 (M a1 0)) a1 1)) a0 2 ((xwr (xwr M a0 0 (M a1 0)) a0 1 ((xwr M a0 0 (M a1 0)) a1 1)) a1 2)) a0 3 ((xwr (xwr (xwr M a0 0 (M a1 0)) a0 1 ((xwr M a0 0 (M a1 0)) a1 1)) a0 2 ((xwr (xwr M a0 0 (M a1 0)) a0 1 ((xwr M a0 0 (M a1 0)) a1 1)) a1 2)) a1 3)) a1 4)) a1 5)) a1 6)) a0 7 ((xwr (xwr (xwr (xwr (xwr (xwr (xwr M a0 0 (M a1 0)) a0 1 ((xwr M a0 0 (M a1 0)) a1 1)) a0 2 ((xwr (xwr M a0 0 (M a1 0)) a0 1 ((xwr M a0 0 (M a1 0)) a1 1)) a1 2)) a0 3 ((xwr (xwr (xwr M a0 0 (M a1 0)) a0 1 ((xwr M a0 0 (M a1 0)) a1 1)) a0 2 ((xwr (xwr M a0 0 (M a1 0)) a0 1 ((xwr M a0 0 (M a1 0)) a1 1)) a1 2)) a1 3)) a0 4 ((xwr (xwr (xwr (xwr M a0 0 (M a1 0)) a0 1 ((xwr M a0 0 (M a1 0)) a1 1)) a0 2 ((xwr (xwr M a0 0 (M a1 0)) a0 1 ((xwr M a0 0 (M a1 0)) a1 1)) a1 2)) a0 3 ((xwr (xwr (xwr M a0 0 (M a1 0)) a0 1 ((xwr M a0 0 (M a1 0)) a1 1)) a0 2 ((xwr (xwr M a0 0 (M a1 0)) a0 1 ((xwr M a0 0 (M a1 0)) a1 1)) a1 2)) a1 3)) a1 4)) a0 5 ((xwr (xwr (xwr (xwr (xwr M a0 0 (M a1 0)) a0 1 ((xwr M a0 0 (M a1 0)) a1 1)) a0 2 ((xwr (xwr M a0 0 (M a1 0)) a0 1 ((xwr M a0 0 (M a1 0)) a1 1)) a1 2)) a0 3 ((xwr (xwr (xwr M a0 0 (M a1 0)) a0 1 ((xwr M a0 0 (M a1 0)) a1 1)) a0 2 ((xwr (xwr M a0 0 (M a1 0)) a0 1 ((xwr M a0 0 (M a1 0)) a1 1)) a1 2)) a1 3)) a0 4 ((xwr (xwr (xwr (xwr M a0 0 (M a1 0)) a0 1 ((xwr M a0 0 (M a1 0)) a1 1)) a0 2 ((xwr (xwr M a0 0 (M a1 0)) a0 1 ((xwr M a0 0 (M a1 0)) a1 1)) a1 2)) a0 3 ((xwr (xwr (xwr M a0 0 (M a1 0)) a0 1 ((xwr M a0 0 (M a1 0)) a1 1)) a0 2 ((xwr (xwr M a0 0 (M a1 0)) a0 1 ((xwr M a0 0 (M a1 0)) a1 1)) a1 2)) a1 3)) a1 4)) a1 5)) a0 6 ((xwr (xwr (xwr (xwr (xwr (xwr M a0 0 (M a1 0)) a0 1 ((xwr M a0 0 (M a1 0)) a1 1)) a0 2 ((xwr (xwr M a0 0 (M a1 0)) a0 1 ((xwr M a0 0 (M a1 0)) a1 1)) a1 2)) a0 3 ((xwr (xwr (xwr M a0 0 (M a1 0)) a0 1 ((xwr M a0 0 (M a1 0)) a1 1)) a0 2 ((xwr (xwr M a0 0 (M a1 0)) a0 1 ((xwr M a0 0 (M a1 0)) a1 1)) a1 2)) a1 3)) a0 4 ((xwr (xwr (xwr (xwr M a0 0 (M a1 0)) a0 1 ((xwr M a0 0 (M a1 0)) a1 1)) a0 2 ((xwr (xwr M a0 0 (M a1 0)) a0 1 ((xwr M a0 0 (M a1 0)) a1 1)) a1 2)) a0 3 ((xwr (xwr (xwr M a0 0 (M a1 0)) a0 1 ((xwr M a0 0 (M a1 0)) a1 1)) a0 2 ((xwr (xwr M a0 0 (M a1 0)) a0 1 ((xwr M a0 0 (M a1 0)) a1 1)) a1 2)) a1 3)) a1 4)) a0 5 ((xwr (xwr (xwr (xwr (xwr M a0 0 (M a1 0)) a0 1 ((xwr M a0 0 (M a1 0)) a1 1)) a0 2 ((xwr (xwr M a0 0 (M a1 0)) a0 1 ((xwr M a0 0 (M a1 0)) a1 1)) a1 2)) a0 3 ((xwr (xwr (xwr M a0 0 (M a1 0)) a0 1 ((xwr M a0 0 (M a1 0)) a1 1)) a0 2 ((xwr (xwr M a0 0 (M a1 0)) a0 1 ((xwr M a0 0 (M a1 0)) a1 1)) a1 2)) a1 3)) a0 4 ((xwr (xwr (xwr (xwr M a0 0 (M a1 0)) a0 1 ((xwr M a0 0 (M a1 0)) a1 1)) a0 2 ((xwr (xwr M a0 0 (M a1 0)) a0 1 ((xwr M a0 0 (M a1 0)) a1 1)) a1 2)) a0 3 ((xwr (xwr (xwr M a0 0 (M a1 0)) a0 1 ((xwr M a0 0 (M a1 0)) a1 1)) a0 2 ((xwr (xwr M a0 0 (M a1 0)) a0 1 ((xwr M a0 0 (M a1 0)) a1 1)) a1 2)) a1 3)) a1 4)) a1 5)) a1 6)) a1 7)) (a1 + 1) 0 (a0 + 1) 0 9) (a1 + 2) 0 (a0 + 2) 0 9) (a1 + 3) 0 (a0 + 3) 0 9) (a1 + 4) 0 (a0 + 4) 0 9) (a1 + 5) 0 (a0 + 5) 0 9) (a1 + 6) 0 (a0 + 6) 0 18) (a1 + 7) 0 (a0 + 7) 0 9) (a1 + 8) 0 (a0 + 8) 0 9) (a1 + 9) 0 (a0 + 9) 0 9) (a1 + 10) 0 (a0 + 10) 0 24))) rfl ⟨a0_, by decide, by decide, by decide, by decide, by decide, by decide, by decide, by decide, by decide, by decide, trivial⟩ ?_
  cases h
  exact xEvG_ret xml xfetch rfl

/-- ConsentDoors$Prison.isHisHour(III)Z -/
def fPrison_isHisHour (a0 a1 a2 a3 : Int) (M : xM) : Option Int := xA (0 ≤ a1 ∧ a1 < 9) (if (M (a0 + 1) a1) = 1 then (some (if (xrem a3 2) = (if a2 = 0 then 0 else 1 : Int) then 1 else 0 : Int)) else (xA (0 ≤ a1 ∧ a1 < 9) (if (M (a0 + 1) a1) = 2 then (xA (0 ≤ a1 ∧ a1 < 9) (if (M (a0 + 2) a1) < 1 then (some 1) else (xA (0 ≤ a1 ∧ a1 < 9) (xA ((M (a0 + 2) a1) ≠ 0) (some (if (xrem a3 (M (a0 + 2) a1)) = 0 then 1 else 0 : Int)))))) else (some 1))))
theorem hPrison_isHisHour (a0 a1 a2 a3 : Int) (M : xM) (r : Int) (h : fPrison_isHisHour a0 a1 a2 a3 M = some r) : xEv (257, 0, [some (8, a0), some (0, a1), some (0, a2), some (0, a3)], [], M) (some (0, r), M) := by
  unfold fPrison_isHisHour at h
  have a0_ := (xA_t h).1
  have h := (xA_t h).2
  refine xEvG_n xml xfetch 6 (y := (257, if (M (a0 + 1) a1) = 1 then 10 else 31, [some (8, a0), some (0, a1), some (0, a2), some (0, a3)], [], M)) rfl ⟨a0_, trivial⟩ ?_
  refine xEvG_br xml xfetch (fun c_ => ?_) (fun c_ => ?_)
  · have h := xif_t c_ h
    refine xEvG_n xml xfetch 4 (y := (257, 14, [some (8, a0), some (0, a1), some (0, a2), some (0, a3)], [(0, a2), (0, (xrem a3 2))], M)) rfl ⟨by decide, trivial⟩ ?_
    have key_ : xEv (257, 22, [some (8, a0), some (0, a1), some (0, a2), some (0, a3)], [(0, (if a2 = 0 then 0 else 1 : Int)), (0, (xrem a3 2))], M) (some (0, r), M) := by
      have key_ : xEv (257, 30, [some (8, a0), some (0, a1), some (0, a2), some (0, a3)], [(0, (if (xrem a3 2) = (if a2 = 0 then 0 else 1 : Int) then 1 else 0 : Int))], M) (some (0, r), M) := by
        cases h
        exact xEvG_retc xml xfetch rfl (by (repeat' split) <;> first | exact Or.inl rfl | exact Or.inr rfl)
      refine xEvG_n xml xfetch 1 (y := (257, if (xrem a3 2) = (if a2 = 0 then 0 else 1 : Int) then 25 else 29, [some (8, a0), some (0, a1), some (0, a2), some (0, a3)], [], M)) rfl trivial ?_
      refine xEvG_br xml xfetch (fun c6_ => ?_) (fun c6_ => ?_)
      · refine xEvG_n xml xfetch 2 (y := (257, 30, [some (8, a0), some (0, a1), some (0, a2), some (0, a3)], [(0, 1)], M)) rfl trivial ?_
        try simp only [if_pos c6_] at key_
        try simp only [if_pos c6_]
        exact key_
      · refine xEvG_n xml xfetch 1 (y := (257, 30, [some (8, a0), some (0, a1), some (0, a2), some (0, a3)], [(0, 0)], M)) rfl trivial ?_
        try simp only [if_neg c6_] at key_
        try simp only [if_neg c6_]
        exact key_
    refine xEvG_n xml xfetch 1 (y := (257, if a2 = 0 then 17 else 21, [some (8, a0), some (0, a1), some (0, a2), some (0, a3)], [(0, (xrem a3 2))], M)) rfl trivial ?_
    refine xEvG_br xml xfetch (fun c4_ => ?_) (fun c4_ => ?_)
    · refine xEvG_n xml xfetch 2 (y := (257, 22, [some (8, a0), some (0, a1), some (0, a2), some (0, a3)], [(0, 0), (0, (xrem a3 2))], M)) rfl trivial ?_
      try simp only [if_pos c4_] at key_
      try simp only [if_pos c4_]
      exact key_
    · refine xEvG_n xml xfetch 1 (y := (257, 22, [some (8, a0), some (0, a1), some (0, a2), some (0, a3)], [(0, 1), (0, (xrem a3 2))], M)) rfl trivial ?_
      try simp only [if_neg c4_] at key_
      try simp only [if_neg c4_]
      exact key_
  · have h := xif_f c_ h
    have a0_ := (xA_t h).1
    have h := (xA_t h).2
    refine xEvG_n xml xfetch 6 (y := (257, if (M (a0 + 1) a1) = 2 then 41 else 62, [some (8, a0), some (0, a1), some (0, a2), some (0, a3)], [], M)) rfl ⟨a0_, trivial⟩ ?_
    refine xEvG_br xml xfetch (fun c_ => ?_) (fun c_ => ?_)
    · have h := xif_t c_ h
      have a0_ := (xA_t h).1
      have h := (xA_t h).2
      refine xEvG_n xml xfetch 6 (y := (257, if (M (a0 + 2) a1) < 1 then 62 else 51, [some (8, a0), some (0, a1), some (0, a2), some (0, a3)], [], M)) rfl ⟨a0_, trivial⟩ ?_
      refine xEvG_br xml xfetch (fun c_ => ?_) (fun c_ => ?_)
      · have h := xif_t c_ h
        refine xEvG_n xml xfetch 2 (y := (257, 67, [some (8, a0), some (0, a1), some (0, a2), some (0, a3)], [(0, 1)], M)) rfl trivial ?_
        cases h
        exact xEvG_retc xml xfetch rfl (Or.inr rfl)
      · have h := xif_f c_ h
        have a0_ := (xA_t h).1
        have h := (xA_t h).2
        have a1_ := (xA_t h).1
        have h := (xA_t h).2
        refine xEvG_n xml xfetch 6 (y := (257, 59, [some (8, a0), some (0, a1), some (0, a2), some (0, a3)], [(0, (xrem a3 (M (a0 + 2) a1)))], M)) rfl ⟨a0_, a1_, trivial⟩ ?_
        have key_ : xEv (257, 67, [some (8, a0), some (0, a1), some (0, a2), some (0, a3)], [(0, (if (xrem a3 (M (a0 + 2) a1)) = 0 then 1 else 0 : Int))], M) (some (0, r), M) := by
          cases h
          exact xEvG_retc xml xfetch rfl (by (repeat' split) <;> first | exact Or.inl rfl | exact Or.inr rfl)
        refine xEvG_n xml xfetch 1 (y := (257, if (xrem a3 (M (a0 + 2) a1)) = 0 then 62 else 66, [some (8, a0), some (0, a1), some (0, a2), some (0, a3)], [], M)) rfl trivial ?_
        refine xEvG_br xml xfetch (fun c8_ => ?_) (fun c8_ => ?_)
        · refine xEvG_n xml xfetch 2 (y := (257, 67, [some (8, a0), some (0, a1), some (0, a2), some (0, a3)], [(0, 1)], M)) rfl trivial ?_
          try simp only [if_pos c8_] at key_
          try simp only [if_pos c8_]
          exact key_
        · refine xEvG_n xml xfetch 1 (y := (257, 67, [some (8, a0), some (0, a1), some (0, a2), some (0, a3)], [(0, 0)], M)) rfl trivial ?_
          try simp only [if_neg c8_] at key_
          try simp only [if_neg c8_]
          exact key_
    · have h := xif_f c_ h
      refine xEvG_n xml xfetch 2 (y := (257, 67, [some (8, a0), some (0, a1), some (0, a2), some (0, a3)], [(0, 1)], M)) rfl trivial ?_
      cases h
      exact xEvG_retc xml xfetch rfl (Or.inr rfl)

end
