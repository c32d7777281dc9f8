/-! the methods as functions, each with its proof (printed by wip/tools/fgen.py) -/
noncomputable section
def fTape_append_L3 : Nat → Int → Int → Int → xM → Option xM
  | 0, _, _, _, _ => none
  | g + 1, x0, x1, x2, M => if x2 < 0 then (some M) else (if (M x0 1) < 1600 then (xA (0 ≤ (M x0 1) ∧ (M x0 1) < 1600) ((fTape_append_L3 g) x0 x1 (xw32 (x2 + (-8))) (xwr (xwr M (x0 + 1) (M x0 1) (xw8 (xw8 (xshr x1 x2)))) x0 1 (xw32 (((xwr M (x0 + 1) (M x0 1) (xw8 (xw8 (xshr x1 x2)))) x0 1) + 1))))) else (some M))
theorem hTape_append_L3 : ∀ (g : Nat) (x0 x1 x2 : Int) (M : xM) (r : xM) (h : fTape_append_L3 g x0 x1 x2 M = some r), xEv (295, 3, [some (12, x0), some (0, x1), some (0, x2)], [], M) (none, r)
  | 0, _, _, _, _, _, h => by cases h
  | g + 1, x0, x1, x2, M, r, h => by
    unfold fTape_append_L3 at h
    refine xEvG_n xml xfetch 2 (y := (295, if x2 < 0 then 46 else 7, [some (12, x0), some (0, x1), some (0, x2)], [], M)) rfl trivial ?_
    refine xEvG_br xml xfetch (fun c_ => ?_) (fun c_ => ?_)
    · have h := xif_t c_ h
      cases h
      exact xEvG_ret xml xfetch rfl
    · have h := xif_f c_ h
      refine xEvG_n xml xfetch 4 (y := (295, if (M x0 1) < 1600 then 17 else 46, [some (12, x0), some (0, x1), some (0, x2)], [], M)) rfl trivial ?_
      refine xEvG_br xml xfetch (fun c_ => ?_) (fun c_ => ?_)
      · have h := xif_t c_ h
        have a0_ := (xA_t h).1
        have h := (xA_t h).2
        refine xEvG_n xml xfetch 17 (y := (295, 3, [some (12, x0), some (0, x1), some (0, (xw32 (x2 + (-8))))], [], (xwr (xwr M (x0 + 1) (M x0 1) (xw8 (xw8 (xshr x1 x2)))) x0 1 (xw32 (((xwr M (x0 + 1) (M x0 1) (xw8 (xw8 (xshr x1 x2)))) x0 1) + 1))))) rfl ⟨a0_, trivial⟩ ?_
        refine xEvG_mask xml xfetch [true, true, true] ?_
        exact (hTape_append_L3 g) x0 x1 (xw32 (x2 + (-8))) (xwr (xwr M (x0 + 1) (M x0 1) (xw8 (xw8 (xshr x1 x2)))) x0 1 (xw32 (((xwr M (x0 + 1) (M x0 1) (xw8 (xw8 (xshr x1 x2)))) x0 1) + 1))) _ h
      · have h := xif_f c_ h
        cases h
        exact xEvG_ret xml xfetch rfl
/-- ConsentDoors$Tape.append(I)V -/
def fTape_append (a0 a1 : Int) (M : xM) : Option xM := fTape_append_L3 20001 a0 a1 24 M
theorem hTape_append (a0 a1 : Int) (M : xM) (r : xM) (h : fTape_append a0 a1 M = some r) : xEv (295, 0, [some (12, a0), some (0, a1), none], [], M) (none, r) := by
  unfold fTape_append at h
  refine xEvG_n xml xfetch 2 (y := (295, 3, [some (12, a0), some (0, a1), some (0, 24)], [], M)) rfl trivial ?_
  refine xEvG_mask xml xfetch [true, true, true] ?_
  exact hTape_append_L3 20001 a0 a1 24 M _ h

/-- ConsentDoors.feed(IIIII)I -/
def fD_feed (a0 a1 a2 a3 a4 a5 : Int) (M : xM) : Option (Int × xM) := if 1600 < (xw32 ((M ((a0 + 1) + 1) 1) + 20)) then (some ((-1), M)) else (xB (fTape_append ((a0 + 1) + 1) a1 M) (fun m1 => xB (fTape_append ((a0 + 1) + 1) a2 m1) (fun m2 => xB (fTape_append ((a0 + 1) + 1) a3 m2) (fun m3 => xB (fTape_append ((a0 + 1) + 1) a4 m3) (fun m4 => xB (fTape_append ((a0 + 1) + 1) a5 m4) (fun m5 => some ((m5 ((a0 + 1) + 1) 1), m5)))))))
theorem hD_feed (a0 a1 a2 a3 a4 a5 : Int) (M : xM) (r : Int × xM) (h : fD_feed a0 a1 a2 a3 a4 a5 M = some r) : xEv (0, 0, [some (2, a0), some (0, a1), some (0, a2), some (0, a3), some (0, a4), some (0, a5), none], [], M) (some (0, r.1), r.2) := by
  unfold fD_feed at h
  refine xEvG_n xml xfetch 10 (y := (0, if 1600 < (xw32 ((M ((a0 + 1) + 1) 1) + 20)) then 23 else 25, [some (2, a0), some (0, a1), some (0, a2), some (0, a3), some (0, a4), some (0, a5), some (12, ((a0 + 1) + 1))], [], M)) rfl trivial ?_
  refine xEvG_br xml xfetch (fun c_ => ?_) (fun c_ => ?_)
  · have h := xif_t c_ h
    refine xEvG_n xml xfetch 1 (y := (0, 24, [some (2, a0), some (0, a1), some (0, a2), some (0, a3), some (0, a4), some (0, a5), some (12, ((a0 + 1) + 1))], [(0, (-1))], M)) rfl trivial ?_
    cases h
    exact xEvG_ret xml xfetch rfl
  · have h := xif_f c_ h
    refine xEvG_n xml xfetch 2 (y := (0, 28, [some (2, a0), some (0, a1), some (0, a2), some (0, a3), some (0, a4), some (0, a5), some (12, ((a0 + 1) + 1))], [(0, a1), (12, ((a0 + 1) + 1))], M)) rfl trivial ?_
    obtain ⟨m1, e_, h⟩ := xB_t h
    refine xEvG_call xml xfetch (q := (none, m1)) rfl (hTape_append ((a0 + 1) + 1) a1 M _ e_) ?_
    show xEv (0, 31, [some (2, a0), some (0, a1), some (0, a2), some (0, a3), some (0, a4), some (0, a5), some (12, ((a0 + 1) + 1))], [], m1) _
    refine xEvG_n xml xfetch 2 (y := (0, 34, [some (2, a0), some (0, a1), some (0, a2), some (0, a3), some (0, a4), some (0, a5), some (12, ((a0 + 1) + 1))], [(0, a2), (12, ((a0 + 1) + 1))], m1)) rfl trivial ?_
    obtain ⟨m2, e_, h⟩ := xB_t h
    refine xEvG_call xml xfetch (q := (none, m2)) rfl (hTape_append ((a0 + 1) + 1) a2 m1 _ e_) ?_
    show xEv (0, 37, [some (2, a0), some (0, a1), some (0, a2), some (0, a3), some (0, a4), some (0, a5), some (12, ((a0 + 1) + 1))], [], m2) _
    refine xEvG_n xml xfetch 2 (y := (0, 40, [some (2, a0), some (0, a1), some (0, a2), some (0, a3), some (0, a4), some (0, a5), some (12, ((a0 + 1) + 1))], [(0, a3), (12, ((a0 + 1) + 1))], m2)) rfl trivial ?_
    obtain ⟨m3, e_, h⟩ := xB_t h
    refine xEvG_call xml xfetch (q := (none, m3)) rfl (hTape_append ((a0 + 1) + 1) a3 m2 _ e_) ?_
    show xEv (0, 43, [some (2, a0), some (0, a1), some (0, a2), some (0, a3), some (0, a4), some (0, a5), some (12, ((a0 + 1) + 1))], [], m3) _
    refine xEvG_n xml xfetch 2 (y := (0, 47, [some (2, a0), some (0, a1), some (0, a2), some (0, a3), some (0, a4), some (0, a5), some (12, ((a0 + 1) + 1))], [(0, a4), (12, ((a0 + 1) + 1))], m3)) rfl trivial ?_
    obtain ⟨m4, e_, h⟩ := xB_t h
    refine xEvG_call xml xfetch (q := (none, m4)) rfl (hTape_append ((a0 + 1) + 1) a4 m3 _ e_) ?_
    show xEv (0, 50, [some (2, a0), some (0, a1), some (0, a2), some (0, a3), some (0, a4), some (0, a5), some (12, ((a0 + 1) + 1))], [], m4) _
    refine xEvG_n xml xfetch 2 (y := (0, 54, [some (2, a0), some (0, a1), some (0, a2), some (0, a3), some (0, a4), some (0, a5), some (12, ((a0 + 1) + 1))], [(0, a5), (12, ((a0 + 1) + 1))], m4)) rfl trivial ?_
    obtain ⟨m5, e_, h⟩ := xB_t h
    refine xEvG_call xml xfetch (q := (none, m5)) rfl (hTape_append ((a0 + 1) + 1) a5 m4 _ e_) ?_
    show xEv (0, 57, [some (2, a0), some (0, a1), some (0, a2), some (0, a3), some (0, a4), some (0, a5), some (12, ((a0 + 1) + 1))], [], m5) _
    refine xEvG_n xml xfetch 2 (y := (0, 62, [some (2, a0), some (0, a1), some (0, a2), some (0, a3), some (0, a4), some (0, a5), some (12, ((a0 + 1) + 1))], [(0, (m5 ((a0 + 1) + 1) 1))], m5)) rfl trivial ?_
    cases h
    exact xEvG_ret xml xfetch rfl

/-- ConsentDoors.end(I)I -/
def fD_end (a0 a1 : Int) (M : xM) : Int × xM := if a1 < 0 then (((-1), M)) else (if (M ((a0 + 1) + 1) 1) < a1 then (((-1), M)) else ((a1, (xwr M ((a0 + 1) + 1) 1 a1))))
theorem hD_end (a0 a1 : Int) (M : xM) (r : Int × xM) (h : fD_end a0 a1 M = r) : xEv (1, 0, [some (2, a0), some (0, a1)], [], M) (some (0, r.1), r.2) := by
  unfold fD_end at h
  refine xEvG_n xml xfetch 2 (y := (1, if a1 < 0 then 18 else 4, [some (2, a0), some (0, a1)], [], M)) rfl trivial ?_
  refine xEvG_br xml xfetch (fun c_ => ?_) (fun c_ => ?_)
  · have h := xif_t c_ h
    refine xEvG_n xml xfetch 1 (y := (1, 19, [some (2, a0), some (0, a1)], [(0, (-1))], M)) rfl trivial ?_
    subst h
    exact xEvG_ret xml xfetch rfl
  · have h := xif_f c_ h
    refine xEvG_n xml xfetch 6 (y := (1, if (M ((a0 + 1) + 1) 1) < a1 then 18 else 20, [some (2, a0), some (0, a1)], [], M)) rfl trivial ?_
    refine xEvG_br xml xfetch (fun c_ => ?_) (fun c_ => ?_)
    · have h := xif_t c_ h
      refine xEvG_n xml xfetch 1 (y := (1, 19, [some (2, a0), some (0, a1)], [(0, (-1))], M)) rfl trivial ?_
      subst h
      exact xEvG_ret xml xfetch rfl
    · have h := xif_f c_ h
      refine xEvG_n xml xfetch 6 (y := (1, 32, [some (2, a0), some (0, a1)], [(0, a1)], (xwr M ((a0 + 1) + 1) 1 a1))) rfl trivial ?_
      subst h
      exact xEvG_ret xml xfetch rfl

def fJA_fill_k21_L5 : Nat → Int → Int → Int → Int → xM → Option xM
  | 0, _, _, _, _, _ => none
  | g + 1, x0, x1, x2, x3, M => if x2 < x3 then (xA (0 ≤ x2 ∧ x2 < 9) ((fJA_fill_k21_L5 g) x0 x1 (xw32 (x2 + 1)) x3 (xwr M x0 x2 x1))) else (some M)
theorem hJA_fill_k21_L5 : ∀ (g : Nat) (x0 x1 x2 x3 : Int) (M : xM) (r : xM) (h : fJA_fill_k21_L5 g x0 x1 x2 x3 M = some r), xEv (301, 5, [some (23, x0), some (0, x1), some (0, x2), some (0, x3)], [], M) (none, r)
  | 0, _, _, _, _, _, _, h => by cases h
  | g + 1, x0, x1, x2, x3, M, r, h => by
    unfold fJA_fill_k21_L5 at h
    refine xEvG_n xml xfetch 3 (y := (301, if x2 < x3 then 10 else 20, [some (23, x0), some (0, x1), some (0, x2), some (0, x3)], [], M)) rfl trivial ?_
    refine xEvG_br xml xfetch (fun c_ => ?_) (fun c_ => ?_)
    · have h := xif_t c_ h
      have a0_ := (xA_t h).1
      have h := (xA_t h).2
      refine xEvG_n xml xfetch 6 (y := (301, 5, [some (23, x0), some (0, x1), some (0, (xw32 (x2 + 1))), some (0, x3)], [], (xwr M x0 x2 x1))) rfl ⟨a0_, trivial⟩ ?_
      refine xEvG_mask xml xfetch [true, true, true, true] ?_
      exact (hJA_fill_k21_L5 g) x0 x1 (xw32 (x2 + 1)) x3 (xwr M x0 x2 x1) _ h
    · have h := xif_f c_ h
      cases h
      exact xEvG_ret xml xfetch rfl
/-- java/util/Arrays.fill([II)V -/
def fJA_fill_k21 (a0 a1 : Int) (M : xM) : Option xM := fJA_fill_k21_L5 20001 a0 a1 0 9 M
theorem hJA_fill_k21 (a0 a1 : Int) (M : xM) (r : xM) (h : fJA_fill_k21 a0 a1 M = some r) : xEv (301, 0, [some (23, a0), some (0, a1), none, none], [], M) (none, r) := by
  unfold fJA_fill_k21 at h
  refine xEvG_n xml xfetch 5 (y := (301, 5, [some (23, a0), some (0, a1), some (0, 0), some (0, 9)], [], M)) rfl trivial ?_
  refine xEvG_mask xml xfetch [true, true, true, true] ?_
  exact hJA_fill_k21_L5 20001 a0 a1 0 9 M _ h

def fJA_fill_k22_L5 : Nat → Int → Int → Int → Int → xM → Option xM
  | 0, _, _, _, _, _ => none
  | g + 1, x0, x1, x2, x3, M => if x2 < x3 then (xA (0 ≤ x2 ∧ x2 < 18) ((fJA_fill_k22_L5 g) x0 x1 (xw32 (x2 + 1)) x3 (xwr M x0 x2 x1))) else (some M)
theorem hJA_fill_k22_L5 : ∀ (g : Nat) (x0 x1 x2 x3 : Int) (M : xM) (r : xM) (h : fJA_fill_k22_L5 g x0 x1 x2 x3 M = some r), xEv (301, 5, [some (24, x0), some (0, x1), some (0, x2), some (0, x3)], [], M) (none, r)
  | 0, _, _, _, _, _, _, h => by cases h
  | g + 1, x0, x1, x2, x3, M, r, h => by
    unfold fJA_fill_k22_L5 at h
    refine xEvG_n xml xfetch 3 (y := (301, if x2 < x3 then 10 else 20, [some (24, x0), some (0, x1), some (0, x2), some (0, x3)], [], M)) rfl trivial ?_
    refine xEvG_br xml xfetch (fun c_ => ?_) (fun c_ => ?_)
    · have h := xif_t c_ h
      have a0_ := (xA_t h).1
      have h := (xA_t h).2
      refine xEvG_n xml xfetch 6 (y := (301, 5, [some (24, x0), some (0, x1), some (0, (xw32 (x2 + 1))), some (0, x3)], [], (xwr M x0 x2 x1))) rfl ⟨a0_, trivial⟩ ?_
      refine xEvG_mask xml xfetch [true, true, true, true] ?_
      exact (hJA_fill_k22_L5 g) x0 x1 (xw32 (x2 + 1)) x3 (xwr M x0 x2 x1) _ h
    · have h := xif_f c_ h
      cases h
      exact xEvG_ret xml xfetch rfl
/-- java/util/Arrays.fill([II)V -/
def fJA_fill_k22 (a0 a1 : Int) (M : xM) : Option xM := fJA_fill_k22_L5 20001 a0 a1 0 18 M
theorem hJA_fill_k22 (a0 a1 : Int) (M : xM) (r : xM) (h : fJA_fill_k22 a0 a1 M = some r) : xEv (301, 0, [some (24, a0), some (0, a1), none, none], [], M) (none, r) := by
  unfold fJA_fill_k22 at h
  refine xEvG_n xml xfetch 5 (y := (301, 5, [some (24, a0), some (0, a1), some (0, 0), some (0, 18)], [], M)) rfl trivial ?_
  refine xEvG_mask xml xfetch [true, true, true, true] ?_
  exact hJA_fill_k22_L5 20001 a0 a1 0 18 M _ h

def fJA_fill_k23_L5 : Nat → Int → Int → Int → Int → xM → Option xM
  | 0, _, _, _, _, _ => none
  | g + 1, x0, x1, x2, x3, M => if x2 < x3 then (xA (0 ≤ x2 ∧ x2 < 24) ((fJA_fill_k23_L5 g) x0 x1 (xw32 (x2 + 1)) x3 (xwr M x0 x2 x1))) else (some M)
theorem hJA_fill_k23_L5 : ∀ (g : Nat) (x0 x1 x2 x3 : Int) (M : xM) (r : xM) (h : fJA_fill_k23_L5 g x0 x1 x2 x3 M = some r), xEv (301, 5, [some (25, x0), some (0, x1), some (0, x2), some (0, x3)], [], M) (none, r)
  | 0, _, _, _, _, _, _, h => by cases h
  | g + 1, x0, x1, x2, x3, M, r, h => by
    unfold fJA_fill_k23_L5 at h
    refine xEvG_n xml xfetch 3 (y := (301, if x2 < x3 then 10 else 20, [some (25, x0), some (0, x1), some (0, x2), some (0, x3)], [], M)) rfl trivial ?_
    refine xEvG_br xml xfetch (fun c_ => ?_) (fun c_ => ?_)
    · have h := xif_t c_ h
      have a0_ := (xA_t h).1
      have h := (xA_t h).2
      refine xEvG_n xml xfetch 6 (y := (301, 5, [some (25, x0), some (0, x1), some (0, (xw32 (x2 + 1))), some (0, x3)], [], (xwr M x0 x2 x1))) rfl ⟨a0_, trivial⟩ ?_
      refine xEvG_mask xml xfetch [true, true, true, true] ?_
      exact (hJA_fill_k23_L5 g) x0 x1 (xw32 (x2 + 1)) x3 (xwr M x0 x2 x1) _ h
    · have h := xif_f c_ h
      cases h
      exact xEvG_ret xml xfetch rfl
/-- java/util/Arrays.fill([II)V -/
def fJA_fill_k23 (a0 a1 : Int) (M : xM) : Option xM := fJA_fill_k23_L5 20001 a0 a1 0 24 M
theorem hJA_fill_k23 (a0 a1 : Int) (M : xM) (r : xM) (h : fJA_fill_k23 a0 a1 M = some r) : xEv (301, 0, [some (25, a0), some (0, a1), none, none], [], M) (none, r) := by
  unfold fJA_fill_k23 at h
  refine xEvG_n xml xfetch 5 (y := (301, 5, [some (25, a0), some (0, a1), some (0, 0), some (0, 24)], [], M)) rfl trivial ?_
  refine xEvG_mask xml xfetch [true, true, true, true] ?_
  exact hJA_fill_k23_L5 20001 a0 a1 0 24 M _ h

/-- ConsentDoors$Prison.clear()V -/
def fPrison_clear (a0 : Int) (M : xM) : Option xM := xB (fJA_fill_k21 (a0 + 1) 0 (xwr (xwr (xwr (xwr (xwr (xwr (xwr (xwr M a0 0 0) a0 1 0) a0 2 0) a0 3 0) a0 4 0) a0 5 0) a0 6 0) a0 7 0)) (fun m1 => xB (fJA_fill_k21 (a0 + 2) 0 m1) (fun m2 => xB (fJA_fill_k21 (a0 + 3) 0 m2) (fun m3 => xB (fJA_fill_k21 (a0 + 4) 0 m3) (fun m4 => xB (fJA_fill_k21 (a0 + 5) 0 m4) (fun m5 => xB (fJA_fill_k22 (a0 + 6) 9 m5) (fun m6 => xB (fJA_fill_k23 (a0 + 10) (-1) m6) (fun m7 => some m7)))))))
theorem hPrison_clear (a0 : Int) (M : xM) (r : xM) (h : fPrison_clear a0 M = some r) : xEv (245, 0, [some (8, a0)], [], M) (none, r) := by
  unfold fPrison_clear at h
  refine xEvG_n xml xfetch 27 (y := (245, 45, [some (8, a0)], [(0, 0), (23, (a0 + 1))], (xwr (xwr (xwr (xwr (xwr (xwr (xwr (xwr M a0 0 0) a0 1 0) a0 2 0) a0 3 0) a0 4 0) a0 5 0) a0 6 0) a0 7 0))) rfl ⟨(Or.inl rfl), trivial⟩ ?_
  obtain ⟨m1, e_, h⟩ := xB_t h
  refine xEvG_call xml xfetch (q := (none, m1)) rfl (hJA_fill_k21 (a0 + 1) 0 (xwr (xwr (xwr (xwr (xwr (xwr (xwr (xwr M a0 0 0) a0 1 0) a0 2 0) a0 3 0) a0 4 0) a0 5 0) a0 6 0) a0 7 0) _ e_) ?_
  show xEv (245, 48, [some (8, a0)], [], m1) _
  refine xEvG_n xml xfetch 3 (y := (245, 53, [some (8, a0)], [(0, 0), (23, (a0 + 2))], m1)) rfl trivial ?_
  obtain ⟨m2, e_, h⟩ := xB_t h
  refine xEvG_call xml xfetch (q := (none, m2)) rfl (hJA_fill_k21 (a0 + 2) 0 m1 _ e_) ?_
  show xEv (245, 56, [some (8, a0)], [], m2) _
  refine xEvG_n xml xfetch 3 (y := (245, 61, [some (8, a0)], [(0, 0), (23, (a0 + 3))], m2)) rfl trivial ?_
  obtain ⟨m3, e_, h⟩ := xB_t h
  refine xEvG_call xml xfetch (q := (none, m3)) rfl (hJA_fill_k21 (a0 + 3) 0 m2 _ e_) ?_
  show xEv (245, 64, [some (8, a0)], [], m3) _
  refine xEvG_n xml xfetch 3 (y := (245, 69, [some (8, a0)], [(0, 0), (23, (a0 + 4))], m3)) rfl trivial ?_
  obtain ⟨m4, e_, h⟩ := xB_t h
  refine xEvG_call xml xfetch (q := (none, m4)) rfl (hJA_fill_k21 (a0 + 4) 0 m3 _ e_) ?_
  show xEv (245, 72, [some (8, a0)], [], m4) _
  refine xEvG_n xml xfetch 3 (y := (245, 77, [some (8, a0)], [(0, 0), (23, (a0 + 5))], m4)) rfl trivial ?_
  obtain ⟨m5, e_, h⟩ := xB_t h
  refine xEvG_call xml xfetch (q := (none, m5)) rfl (hJA_fill_k21 (a0 + 5) 0 m4 _ e_) ?_
  show xEv (245, 80, [some (8, a0)], [], m5) _
  refine xEvG_n xml xfetch 3 (y := (245, 86, [some (8, a0)], [(0, 9), (24, (a0 + 6))], m5)) rfl trivial ?_
  obtain ⟨m6, e_, h⟩ := xB_t h
  refine xEvG_call xml xfetch (q := (none, m6)) rfl (hJA_fill_k22 (a0 + 6) 9 m5 _ e_) ?_
  show xEv (245, 89, [some (8, a0)], [], m6) _
  refine xEvG_n xml xfetch 3 (y := (245, 94, [some (8, a0)], [(0, (-1)), (25, (a0 + 10))], m6)) rfl trivial ?_
  obtain ⟨m7, e_, h⟩ := xB_t h
  refine xEvG_call xml xfetch (q := (none, m7)) rfl (hJA_fill_k23 (a0 + 10) (-1) m6 _ e_) ?_
  show xEv (245, 97, [some (8, a0)], [], m7) _
  cases h
  exact xEvG_ret xml xfetch rfl

/-- ConsentDoors$Reader.sortOf(I)I -/
def fReader_sortOf (a0 : Int) (M : xM) : Int := if a0 < 97 then (if a0 < 48 then ((if a0 = 59 then 3 else 4 : Int)) else (if 57 < a0 then ((if a0 = 59 then 3 else 4 : Int)) else (2))) else (if 122 < a0 then (if a0 < 48 then ((if a0 = 59 then 3 else 4 : Int)) else (if 57 < a0 then ((if a0 = 59 then 3 else 4 : Int)) else (2))) else (1))
theorem hReader_sortOf (a0 : Int) (M : xM) (r : Int) (h : fReader_sortOf a0 M = r) : xEv (276, 0, [some (0, a0)], [], M) (some (0, r), M) := by
  unfold fReader_sortOf at h
  refine xEvG_n xml xfetch 3 (y := (276, if a0 < 97 then 14 else 6, [some (0, a0)], [], M)) rfl trivial ?_
  refine xEvG_br xml xfetch (fun c_ => ?_) (fun c_ => ?_)
  · have h := xif_t c_ h
    refine xEvG_n xml xfetch 3 (y := (276, if a0 < 48 then 28 else 20, [some (0, a0)], [], M)) rfl trivial ?_
    refine xEvG_br xml xfetch (fun c_ => ?_) (fun c_ => ?_)
    · have h := xif_t c_ h
      refine xEvG_n xml xfetch 2 (y := (276, 31, [some (0, a0)], [(0, 59), (0, a0)], M)) rfl trivial ?_
      have key_ : xEv (276, 39, [some (0, a0)], [(0, (if a0 = 59 then 3 else 4 : Int))], M) (some (0, r), M) := by
        subst h
        exact xEvG_ret xml xfetch rfl
      refine xEvG_n xml xfetch 1 (y := (276, if a0 = 59 then 34 else 38, [some (0, a0)], [], M)) rfl trivial ?_
      refine xEvG_br xml xfetch (fun c6_ => ?_) (fun c6_ => ?_)
      · refine xEvG_n xml xfetch 2 (y := (276, 39, [some (0, a0)], [(0, 3)], M)) rfl trivial ?_
        try simp only [if_pos c6_] at key_
        try simp only [if_pos c6_]
        exact key_
      · refine xEvG_n xml xfetch 1 (y := (276, 39, [some (0, a0)], [(0, 4)], M)) rfl trivial ?_
        try simp only [if_neg c6_] at key_
        try simp only [if_neg c6_]
        exact key_
    · have h := xif_f c_ h
      refine xEvG_n xml xfetch 3 (y := (276, if 57 < a0 then 28 else 26, [some (0, a0)], [], M)) rfl trivial ?_
      refine xEvG_br xml xfetch (fun c_ => ?_) (fun c_ => ?_)
      · have h := xif_t c_ h
        refine xEvG_n xml xfetch 2 (y := (276, 31, [some (0, a0)], [(0, 59), (0, a0)], M)) rfl trivial ?_
        have key_ : xEv (276, 39, [some (0, a0)], [(0, (if a0 = 59 then 3 else 4 : Int))], M) (some (0, r), M) := by
          subst h
          exact xEvG_ret xml xfetch rfl
        refine xEvG_n xml xfetch 1 (y := (276, if a0 = 59 then 34 else 38, [some (0, a0)], [], M)) rfl trivial ?_
        refine xEvG_br xml xfetch (fun c8_ => ?_) (fun c8_ => ?_)
        · refine xEvG_n xml xfetch 2 (y := (276, 39, [some (0, a0)], [(0, 3)], M)) rfl trivial ?_
          try simp only [if_pos c8_] at key_
          try simp only [if_pos c8_]
          exact key_
        · refine xEvG_n xml xfetch 1 (y := (276, 39, [some (0, a0)], [(0, 4)], M)) rfl trivial ?_
          try simp only [if_neg c8_] at key_
          try simp only [if_neg c8_]
          exact key_
      · have h := xif_f c_ h
        refine xEvG_n xml xfetch 1 (y := (276, 27, [some (0, a0)], [(0, 2)], M)) rfl trivial ?_
        subst h
        exact xEvG_ret xml xfetch rfl
  · have h := xif_f c_ h
    refine xEvG_n xml xfetch 3 (y := (276, if 122 < a0 then 14 else 12, [some (0, a0)], [], M)) rfl trivial ?_
    refine xEvG_br xml xfetch (fun c_ => ?_) (fun c_ => ?_)
    · have h := xif_t c_ h
      refine xEvG_n xml xfetch 3 (y := (276, if a0 < 48 then 28 else 20, [some (0, a0)], [], M)) rfl trivial ?_
      refine xEvG_br xml xfetch (fun c_ => ?_) (fun c_ => ?_)
      · have h := xif_t c_ h
        refine xEvG_n xml xfetch 2 (y := (276, 31, [some (0, a0)], [(0, 59), (0, a0)], M)) rfl trivial ?_
        have key_ : xEv (276, 39, [some (0, a0)], [(0, (if a0 = 59 then 3 else 4 : Int))], M) (some (0, r), M) := by
          subst h
          exact xEvG_ret xml xfetch rfl
        refine xEvG_n xml xfetch 1 (y := (276, if a0 = 59 then 34 else 38, [some (0, a0)], [], M)) rfl trivial ?_
        refine xEvG_br xml xfetch (fun c8_ => ?_) (fun c8_ => ?_)
        · refine xEvG_n xml xfetch 2 (y := (276, 39, [some (0, a0)], [(0, 3)], M)) rfl trivial ?_
          try simp only [if_pos c8_] at key_
          try simp only [if_pos c8_]
          exact key_
        · refine xEvG_n xml xfetch 1 (y := (276, 39, [some (0, a0)], [(0, 4)], M)) rfl trivial ?_
          try simp only [if_neg c8_] at key_
          try simp only [if_neg c8_]
          exact key_
      · have h := xif_f c_ h
        refine xEvG_n xml xfetch 3 (y := (276, if 57 < a0 then 28 else 26, [some (0, a0)], [], M)) rfl trivial ?_
        refine xEvG_br xml xfetch (fun c_ => ?_) (fun c_ => ?_)
        · have h := xif_t c_ h
          refine xEvG_n xml xfetch 2 (y := (276, 31, [some (0, a0)], [(0, 59), (0, a0)], M)) rfl trivial ?_
          have key_ : xEv (276, 39, [some (0, a0)], [(0, (if a0 = 59 then 3 else 4 : Int))], M) (some (0, r), M) := by
            subst h
            exact xEvG_ret xml xfetch rfl
          refine xEvG_n xml xfetch 1 (y := (276, if a0 = 59 then 34 else 38, [some (0, a0)], [], M)) rfl trivial ?_
          refine xEvG_br xml xfetch (fun c10_ => ?_) (fun c10_ => ?_)
          · refine xEvG_n xml xfetch 2 (y := (276, 39, [some (0, a0)], [(0, 3)], M)) rfl trivial ?_
            try simp only [if_pos c10_] at key_
            try simp only [if_pos c10_]
            exact key_
          · refine xEvG_n xml xfetch 1 (y := (276, 39, [some (0, a0)], [(0, 4)], M)) rfl trivial ?_
            try simp only [if_neg c10_] at key_
            try simp only [if_neg c10_]
            exact key_
        · have h := xif_f c_ h
          refine xEvG_n xml xfetch 1 (y := (276, 27, [some (0, a0)], [(0, 2)], M)) rfl trivial ?_
          subst h
          exact xEvG_ret xml xfetch rfl
    · have h := xif_f c_ h
      refine xEvG_n xml xfetch 1 (y := (276, 13, [some (0, a0)], [(0, 1)], M)) rfl trivial ?_
      subst h
      exact xEvG_ret xml xfetch rfl

/-- java/lang/Math.min(II)I -/
def fJM_min (a0 a1 : Int) (M : xM) : Int := (if a1 < a0 then a1 else a0 : Int)
theorem hJM_min (a0 a1 : Int) (M : xM) (r : Int) (h : fJM_min a0 a1 M = r) : xEv (300, 0, [some (0, a0), some (0, a1)], [], M) (some (0, r), M) := by
  unfold fJM_min at h
  refine xEvG_n xml xfetch 2 (y := (300, 2, [some (0, a0), some (0, a1)], [(0, a1), (0, a0)], M)) rfl trivial ?_
  have key_ : xEv (300, 10, [some (0, a0), some (0, a1)], [(0, (if a1 < a0 then a1 else a0 : Int))], M) (some (0, r), M) := by
    subst h
    exact xEvG_ret xml xfetch rfl
  refine xEvG_n xml xfetch 1 (y := (300, if a1 < a0 then 9 else 5, [some (0, a0), some (0, a1)], [], M)) rfl trivial ?_
  refine xEvG_br xml xfetch (fun c2_ => ?_) (fun c2_ => ?_)
  · refine xEvG_n xml xfetch 1 (y := (300, 10, [some (0, a0), some (0, a1)], [(0, a1)], M)) rfl trivial ?_
    try simp only [if_pos c2_] at key_
    try simp only [if_pos c2_]
    exact key_
  · refine xEvG_n xml xfetch 2 (y := (300, 10, [some (0, a0), some (0, a1)], [(0, a0)], M)) rfl trivial ?_
    try simp only [if_neg c2_] at key_
    try simp only [if_neg c2_]
    exact key_

def fReader_advance_L184 (k_143 : Int → Int → xM → Option xM) (x0 x1 : Int) (M : xM) : Option xM := if x1 = 0 then (some (xwr M x0 3 (xw32 ((M x0 3) + 1)))) else (if ((xwr M x0 3 (xw32 ((M x0 3) + 1))) x0 3) < ((xwr M x0 3 (xw32 ((M x0 3) + 1))) (x0 + 1) 1) then (xA (0 ≤ ((xwr M x0 3 (xw32 ((M x0 3) + 1))) x0 3) ∧ ((xwr M x0 3 (xw32 ((M x0 3) + 1))) x0 3) < 1600) (if (fReader_sortOf ((xwr M x0 3 (xw32 ((M x0 3) + 1))) ((x0 + 1) + 1) ((xwr M x0 3 (xw32 ((M x0 3) + 1))) x0 3)) (xwr M x0 3 (xw32 ((M x0 3) + 1)))) = ((xwr M x0 3 (xw32 ((M x0 3) + 1))) x0 4) then (k_143 x0 x1 (xwr M x0 3 (xw32 ((M x0 3) + 1)))) else (some (xwr M x0 3 (xw32 ((M x0 3) + 1)))))) else (some (xwr M x0 3 (xw32 ((M x0 3) + 1)))))
theorem hReader_advance_L184 (k_143 : Int → Int → xM → Option xM) (hk_143 : ∀ (x0 x1 : Int) (M : xM) (r : xM), k_143 x0 x1 M = some r → xEv (275, 143, [some (9, x0), some (0, x1)], [], M) (none, r)) (x0 x1 : Int) (M : xM) (r : xM) (h : fReader_advance_L184 k_143 x0 x1 M = some r) : xEv (275, 184, [some (9, x0), some (0, x1)], [], M) (none, r) := by
  unfold fReader_advance_L184 at h
  refine xEvG_n xml xfetch 8 (y := (275, if x1 = 0 then 234 else 198, [some (9, x0), some (0, x1)], [], (xwr M x0 3 (xw32 ((M x0 3) + 1))))) rfl trivial ?_
  refine xEvG_br xml xfetch (fun c_ => ?_) (fun c_ => ?_)
  · have h := xif_t c_ h
    cases h
    exact xEvG_ret xml xfetch rfl
  · have h := xif_f c_ h
    refine xEvG_n xml xfetch 6 (y := (275, if ((xwr M x0 3 (xw32 ((M x0 3) + 1))) x0 3) < ((xwr M x0 3 (xw32 ((M x0 3) + 1))) (x0 + 1) 1) then 212 else 234, [some (9, x0), some (0, x1)], [], (xwr M x0 3 (xw32 ((M x0 3) + 1))))) rfl trivial ?_
    refine xEvG_br xml xfetch (fun c_ => ?_) (fun c_ => ?_)
    · have h := xif_t c_ h
      have a0_ := (xA_t h).1
      have h := (xA_t h).2
      refine xEvG_n xml xfetch 6 (y := (275, 224, [some (9, x0), some (0, x1)], [(0, ((xwr M x0 3 (xw32 ((M x0 3) + 1))) ((x0 + 1) + 1) ((xwr M x0 3 (xw32 ((M x0 3) + 1))) x0 3)))], (xwr M x0 3 (xw32 ((M x0 3) + 1))))) rfl ⟨a0_, trivial⟩ ?_
      refine xEvG_call xml xfetch (q := (some (0, fReader_sortOf ((xwr M x0 3 (xw32 ((M x0 3) + 1))) ((x0 + 1) + 1) ((xwr M x0 3 (xw32 ((M x0 3) + 1))) x0 3)) (xwr M x0 3 (xw32 ((M x0 3) + 1)))), (xwr M x0 3 (xw32 ((M x0 3) + 1))))) rfl (hReader_sortOf ((xwr M x0 3 (xw32 ((M x0 3) + 1))) ((x0 + 1) + 1) ((xwr M x0 3 (xw32 ((M x0 3) + 1))) x0 3)) (xwr M x0 3 (xw32 ((M x0 3) + 1))) _ rfl) ?_
      show xEv (275, 227, [some (9, x0), some (0, x1)], [(0, (fReader_sortOf ((xwr M x0 3 (xw32 ((M x0 3) + 1))) ((x0 + 1) + 1) ((xwr M x0 3 (xw32 ((M x0 3) + 1))) x0 3)) (xwr M x0 3 (xw32 ((M x0 3) + 1)))))], (xwr M x0 3 (xw32 ((M x0 3) + 1)))) _
      refine xEvG_n xml xfetch 3 (y := (275, if (fReader_sortOf ((xwr M x0 3 (xw32 ((M x0 3) + 1))) ((x0 + 1) + 1) ((xwr M x0 3 (xw32 ((M x0 3) + 1))) x0 3)) (xwr M x0 3 (xw32 ((M x0 3) + 1)))) = ((xwr M x0 3 (xw32 ((M x0 3) + 1))) x0 4) then 143 else 234, [some (9, x0), some (0, x1)], [], (xwr M x0 3 (xw32 ((M x0 3) + 1))))) rfl trivial ?_
      refine xEvG_br xml xfetch (fun c_ => ?_) (fun c_ => ?_)
      · have h := xif_t c_ h
        refine xEvG_mask xml xfetch [true, true] ?_
        exact hk_143 x0 x1 (xwr M x0 3 (xw32 ((M x0 3) + 1))) _ h
      · have h := xif_f c_ h
        cases h
        exact xEvG_ret xml xfetch rfl
    · have h := xif_f c_ h
      cases h
      exact xEvG_ret xml xfetch rfl
def fReader_advance_L143 : Nat → Int → Int → xM → Option xM
  | 0, _, _, _ => none
  | g + 1, x0, x1, M => if (M x0 4) = 2 then (xA (0 ≤ (M x0 3) ∧ (M x0 3) < 1600) (fReader_advance_L184 (fReader_advance_L143 g) x0 x1 (xwr M x0 5 (fJM_min 1000 (xw32 ((xw32 ((xw32 (10 * (M x0 5))) + (M ((x0 + 1) + 1) (M x0 3)))) - 48)) M)))) else (if x1 = 0 then (some (xwr M x0 3 (xw32 ((M x0 3) + 1)))) else (if ((xwr M x0 3 (xw32 ((M x0 3) + 1))) x0 3) < ((xwr M x0 3 (xw32 ((M x0 3) + 1))) (x0 + 1) 1) then (xA (0 ≤ ((xwr M x0 3 (xw32 ((M x0 3) + 1))) x0 3) ∧ ((xwr M x0 3 (xw32 ((M x0 3) + 1))) x0 3) < 1600) (if (fReader_sortOf ((xwr M x0 3 (xw32 ((M x0 3) + 1))) ((x0 + 1) + 1) ((xwr M x0 3 (xw32 ((M x0 3) + 1))) x0 3)) (xwr M x0 3 (xw32 ((M x0 3) + 1)))) = ((xwr M x0 3 (xw32 ((M x0 3) + 1))) x0 4) then ((fReader_advance_L143 g) x0 x1 (xwr M x0 3 (xw32 ((M x0 3) + 1)))) else (some (xwr M x0 3 (xw32 ((M x0 3) + 1)))))) else (some (xwr M x0 3 (xw32 ((M x0 3) + 1))))))
theorem hReader_advance_L143 : ∀ (g : Nat) (x0 x1 : Int) (M : xM) (r : xM) (h : fReader_advance_L143 g x0 x1 M = some r), xEv (275, 143, [some (9, x0), some (0, x1)], [], M) (none, r)
  | 0, _, _, _, _, h => by cases h
  | g + 1, x0, x1, M, r, h => by
    unfold fReader_advance_L143 at h
    refine xEvG_n xml xfetch 4 (y := (275, if (M x0 4) = 2 then 151 else 184, [some (9, x0), some (0, x1)], [], M)) rfl trivial ?_
    refine xEvG_br xml xfetch (fun c_ => ?_) (fun c_ => ?_)
    · have h := xif_t c_ h
      have a0_ := (xA_t h).1
      have h := (xA_t h).2
      refine xEvG_n xml xfetch 15 (y := (275, 178, [some (9, x0), some (0, x1)], [(0, (xw32 ((xw32 ((xw32 (10 * (M x0 5))) + (M ((x0 + 1) + 1) (M x0 3)))) - 48))), (0, 1000), (9, x0)], M)) rfl ⟨a0_, trivial⟩ ?_
      refine xEvG_call xml xfetch (q := (some (0, fJM_min 1000 (xw32 ((xw32 ((xw32 (10 * (M x0 5))) + (M ((x0 + 1) + 1) (M x0 3)))) - 48)) M), M)) rfl (hJM_min 1000 (xw32 ((xw32 ((xw32 (10 * (M x0 5))) + (M ((x0 + 1) + 1) (M x0 3)))) - 48)) M _ rfl) ?_
      show xEv (275, 181, [some (9, x0), some (0, x1)], [(0, (fJM_min 1000 (xw32 ((xw32 ((xw32 (10 * (M x0 5))) + (M ((x0 + 1) + 1) (M x0 3)))) - 48)) M)), (9, x0)], M) _
      refine xEvG_n xml xfetch 1 (y := (275, 184, [some (9, x0), some (0, x1)], [], (xwr M x0 5 (fJM_min 1000 (xw32 ((xw32 ((xw32 (10 * (M x0 5))) + (M ((x0 + 1) + 1) (M x0 3)))) - 48)) M)))) rfl trivial ?_
      refine xEvG_mask xml xfetch [true, true] ?_
      exact hReader_advance_L184 (fReader_advance_L143 g) (hReader_advance_L143 g) x0 x1 (xwr M x0 5 (fJM_min 1000 (xw32 ((xw32 ((xw32 (10 * (M x0 5))) + (M ((x0 + 1) + 1) (M x0 3)))) - 48)) M)) _ h
    · have h := xif_f c_ h
      refine xEvG_n xml xfetch 8 (y := (275, if x1 = 0 then 234 else 198, [some (9, x0), some (0, x1)], [], (xwr M x0 3 (xw32 ((M x0 3) + 1))))) rfl trivial ?_
      refine xEvG_br xml xfetch (fun c_ => ?_) (fun c_ => ?_)
      · have h := xif_t c_ h
        cases h
        exact xEvG_ret xml xfetch rfl
      · have h := xif_f c_ h
        refine xEvG_n xml xfetch 6 (y := (275, if ((xwr M x0 3 (xw32 ((M x0 3) + 1))) x0 3) < ((xwr M x0 3 (xw32 ((M x0 3) + 1))) (x0 + 1) 1) then 212 else 234, [some (9, x0), some (0, x1)], [], (xwr M x0 3 (xw32 ((M x0 3) + 1))))) rfl trivial ?_
        refine xEvG_br xml xfetch (fun c_ => ?_) (fun c_ => ?_)
        · have h := xif_t c_ h
          have a0_ := (xA_t h).1
          have h := (xA_t h).2
          refine xEvG_n xml xfetch 6 (y := (275, 224, [some (9, x0), some (0, x1)], [(0, ((xwr M x0 3 (xw32 ((M x0 3) + 1))) ((x0 + 1) + 1) ((xwr M x0 3 (xw32 ((M x0 3) + 1))) x0 3)))], (xwr M x0 3 (xw32 ((M x0 3) + 1))))) rfl ⟨a0_, trivial⟩ ?_
          refine xEvG_call xml xfetch (q := (some (0, fReader_sortOf ((xwr M x0 3 (xw32 ((M x0 3) + 1))) ((x0 + 1) + 1) ((xwr M x0 3 (xw32 ((M x0 3) + 1))) x0 3)) (xwr M x0 3 (xw32 ((M x0 3) + 1)))), (xwr M x0 3 (xw32 ((M x0 3) + 1))))) rfl (hReader_sortOf ((xwr M x0 3 (xw32 ((M x0 3) + 1))) ((x0 + 1) + 1) ((xwr M x0 3 (xw32 ((M x0 3) + 1))) x0 3)) (xwr M x0 3 (xw32 ((M x0 3) + 1))) _ rfl) ?_
          show xEv (275, 227, [some (9, x0), some (0, x1)], [(0, (fReader_sortOf ((xwr M x0 3 (xw32 ((M x0 3) + 1))) ((x0 + 1) + 1) ((xwr M x0 3 (xw32 ((M x0 3) + 1))) x0 3)) (xwr M x0 3 (xw32 ((M x0 3) + 1)))))], (xwr M x0 3 (xw32 ((M x0 3) + 1)))) _
          refine xEvG_n xml xfetch 3 (y := (275, if (fReader_sortOf ((xwr M x0 3 (xw32 ((M x0 3) + 1))) ((x0 + 1) + 1) ((xwr M x0 3 (xw32 ((M x0 3) + 1))) x0 3)) (xwr M x0 3 (xw32 ((M x0 3) + 1)))) = ((xwr M x0 3 (xw32 ((M x0 3) + 1))) x0 4) then 143 else 234, [some (9, x0), some (0, x1)], [], (xwr M x0 3 (xw32 ((M x0 3) + 1))))) rfl trivial ?_
          refine xEvG_br xml xfetch (fun c_ => ?_) (fun c_ => ?_)
          · have h := xif_t c_ h
            refine xEvG_mask xml xfetch [true, true] ?_
            exact (hReader_advance_L143 g) x0 x1 (xwr M x0 3 (xw32 ((M x0 3) + 1))) _ h
          · have h := xif_f c_ h
            cases h
            exact xEvG_ret xml xfetch rfl
        · have h := xif_f c_ h
          cases h
          exact xEvG_ret xml xfetch rfl
def fReader_advance_L8 : Nat → Int → xM → Option xM
  | 0, _, _ => none
  | g + 1, x0, M => if (M x0 3) < (M (x0 + 1) 1) then (xA (0 ≤ (M x0 3) ∧ (M x0 3) < 1600) (if (M ((x0 + 1) + 1) (M x0 3)) = 32 then ((fReader_advance_L8 g) x0 (xwr M x0 3 (xw32 ((M x0 3) + 1)))) else (xA (0 ≤ (M x0 3) ∧ (M x0 3) < 1600) (if (M ((x0 + 1) + 1) (M x0 3)) = 10 then ((fReader_advance_L8 g) x0 (xwr M x0 3 (xw32 ((M x0 3) + 1)))) else (if ((xwr (xwr M x0 2 (M x0 3)) x0 5 0) x0 2) < ((xwr (xwr M x0 2 (M x0 3)) x0 5 0) (x0 + 1) 1) then (xA (0 ≤ ((xwr (xwr M x0 2 (M x0 3)) x0 5 0) x0 2) ∧ ((xwr (xwr M x0 2 (M x0 3)) x0 5 0) x0 2) < 1600) (fReader_advance_L143 20001 x0 (if ((xwr (xwr (xwr M x0 2 (M x0 3)) x0 5 0) x0 4 (fReader_sortOf ((xwr (xwr M x0 2 (M x0 3)) x0 5 0) ((x0 + 1) + 1) ((xwr (xwr M x0 2 (M x0 3)) x0 5 0) x0 2)) (xwr (xwr M x0 2 (M x0 3)) x0 5 0))) x0 4) = 1 then 1 else (if ((xwr (xwr (xwr M x0 2 (M x0 3)) x0 5 0) x0 4 (fReader_sortOf ((xwr (xwr M x0 2 (M x0 3)) x0 5 0) ((x0 + 1) + 1) ((xwr (xwr M x0 2 (M x0 3)) x0 5 0) x0 2)) (xwr (xwr M x0 2 (M x0 3)) x0 5 0))) x0 4) = 2 then 1 else 0 : Int) : Int) (xwr (xwr (xwr M x0 2 (M x0 3)) x0 5 0) x0 4 (fReader_sortOf ((xwr (xwr M x0 2 (M x0 3)) x0 5 0) ((x0 + 1) + 1) ((xwr (xwr M x0 2 (M x0 3)) x0 5 0) x0 2)) (xwr (xwr M x0 2 (M x0 3)) x0 5 0))))) else (some (xwr (xwr (xwr M x0 2 (M x0 3)) x0 5 0) x0 4 0))))))) else (if ((xwr (xwr M x0 2 (M x0 3)) x0 5 0) x0 2) < ((xwr (xwr M x0 2 (M x0 3)) x0 5 0) (x0 + 1) 1) then (xA (0 ≤ ((xwr (xwr M x0 2 (M x0 3)) x0 5 0) x0 2) ∧ ((xwr (xwr M x0 2 (M x0 3)) x0 5 0) x0 2) < 1600) (fReader_advance_L143 20001 x0 (if ((xwr (xwr (xwr M x0 2 (M x0 3)) x0 5 0) x0 4 (fReader_sortOf ((xwr (xwr M x0 2 (M x0 3)) x0 5 0) ((x0 + 1) + 1) ((xwr (xwr M x0 2 (M x0 3)) x0 5 0) x0 2)) (xwr (xwr M x0 2 (M x0 3)) x0 5 0))) x0 4) = 1 then 1 else (if ((xwr (xwr (xwr M x0 2 (M x0 3)) x0 5 0) x0 4 (fReader_sortOf ((xwr (xwr M x0 2 (M x0 3)) x0 5 0) ((x0 + 1) + 1) ((xwr (xwr M x0 2 (M x0 3)) x0 5 0) x0 2)) (xwr (xwr M x0 2 (M x0 3)) x0 5 0))) x0 4) = 2 then 1 else 0 : Int) : Int) (xwr (xwr (xwr M x0 2 (M x0 3)) x0 5 0) x0 4 (fReader_sortOf ((xwr (xwr M x0 2 (M x0 3)) x0 5 0) ((x0 + 1) + 1) ((xwr (xwr M x0 2 (M x0 3)) x0 5 0) x0 2)) (xwr (xwr M x0 2 (M x0 3)) x0 5 0))))) else (some (xwr (xwr (xwr M x0 2 (M x0 3)) x0 5 0) x0 4 0)))
theorem hReader_advance_L8 : ∀ (g : Nat) (x0 : Int) (M : xM) (r : xM) (h : fReader_advance_L8 g x0 M = some r), xEv (275, 8, [some (9, x0), none], [], M) (none, r)
  | 0, _, _, _, h => by cases h
  | g + 1, x0, M, r, h => by
    unfold fReader_advance_L8 at h
    refine xEvG_n xml xfetch 6 (y := (275, if (M x0 3) < (M (x0 + 1) 1) then 22 else 69, [some (9, x0), none], [], M)) rfl trivial ?_
    refine xEvG_br xml xfetch (fun c_ => ?_) (fun c_ => ?_)
    · have h := xif_t c_ h
      have a0_ := (xA_t h).1
      have h := (xA_t h).2
      refine xEvG_n xml xfetch 8 (y := (275, if (M ((x0 + 1) + 1) (M x0 3)) = 32 then 56 else 39, [some (9, x0), none], [], M)) rfl ⟨a0_, trivial⟩ ?_
      refine xEvG_br xml xfetch (fun c_ => ?_) (fun c_ => ?_)
      · have h := xif_t c_ h
        refine xEvG_n xml xfetch 7 (y := (275, 8, [some (9, x0), none], [], (xwr M x0 3 (xw32 ((M x0 3) + 1))))) rfl trivial ?_
        refine xEvG_mask xml xfetch [true, false] ?_
        exact (hReader_advance_L8 g) x0 (xwr M x0 3 (xw32 ((M x0 3) + 1))) _ h
      · have h := xif_f c_ h
        have a0_ := (xA_t h).1
        have h := (xA_t h).2
        refine xEvG_n xml xfetch 8 (y := (275, if (M ((x0 + 1) + 1) (M x0 3)) = 10 then 56 else 69, [some (9, x0), none], [], M)) rfl ⟨a0_, trivial⟩ ?_
        refine xEvG_br xml xfetch (fun c_ => ?_) (fun c_ => ?_)
        · have h := xif_t c_ h
          refine xEvG_n xml xfetch 7 (y := (275, 8, [some (9, x0), none], [], (xwr M x0 3 (xw32 ((M x0 3) + 1))))) rfl trivial ?_
          refine xEvG_mask xml xfetch [true, false] ?_
          exact (hReader_advance_L8 g) x0 (xwr M x0 3 (xw32 ((M x0 3) + 1))) _ h
        · have h := xif_f c_ h
          refine xEvG_n xml xfetch 13 (y := (275, if ((xwr (xwr M x0 2 (M x0 3)) x0 5 0) x0 2) < ((xwr (xwr M x0 2 (M x0 3)) x0 5 0) (x0 + 1) 1) then 102 else 96, [some (9, x0), none], [], (xwr (xwr M x0 2 (M x0 3)) x0 5 0))) rfl trivial ?_
          refine xEvG_br xml xfetch (fun c_ => ?_) (fun c_ => ?_)
          · have h := xif_t c_ h
            have a0_ := (xA_t h).1
            have h := (xA_t h).2
            refine xEvG_n xml xfetch 7 (y := (275, 115, [some (9, x0), none], [(0, ((xwr (xwr M x0 2 (M x0 3)) x0 5 0) ((x0 + 1) + 1) ((xwr (xwr M x0 2 (M x0 3)) x0 5 0) x0 2))), (9, x0)], (xwr (xwr M x0 2 (M x0 3)) x0 5 0))) rfl ⟨a0_, trivial⟩ ?_
            refine xEvG_call xml xfetch (q := (some (0, fReader_sortOf ((xwr (xwr M x0 2 (M x0 3)) x0 5 0) ((x0 + 1) + 1) ((xwr (xwr M x0 2 (M x0 3)) x0 5 0) x0 2)) (xwr (xwr M x0 2 (M x0 3)) x0 5 0)), (xwr (xwr M x0 2 (M x0 3)) x0 5 0))) rfl (hReader_sortOf ((xwr (xwr M x0 2 (M x0 3)) x0 5 0) ((x0 + 1) + 1) ((xwr (xwr M x0 2 (M x0 3)) x0 5 0) x0 2)) (xwr (xwr M x0 2 (M x0 3)) x0 5 0) _ rfl) ?_
            show xEv (275, 118, [some (9, x0), none], [(0, (fReader_sortOf ((xwr (xwr M x0 2 (M x0 3)) x0 5 0) ((x0 + 1) + 1) ((xwr (xwr M x0 2 (M x0 3)) x0 5 0) x0 2)) (xwr (xwr M x0 2 (M x0 3)) x0 5 0))), (9, x0)], (xwr (xwr M x0 2 (M x0 3)) x0 5 0)) _
            refine xEvG_n xml xfetch 4 (y := (275, 126, [some (9, x0), none], [(0, 1), (0, ((xwr (xwr (xwr M x0 2 (M x0 3)) x0 5 0) x0 4 (fReader_sortOf ((xwr (xwr M x0 2 (M x0 3)) x0 5 0) ((x0 + 1) + 1) ((xwr (xwr M x0 2 (M x0 3)) x0 5 0) x0 2)) (xwr (xwr M x0 2 (M x0 3)) x0 5 0))) x0 4))], (xwr (xwr (xwr M x0 2 (M x0 3)) x0 5 0) x0 4 (fReader_sortOf ((xwr (xwr M x0 2 (M x0 3)) x0 5 0) ((x0 + 1) + 1) ((xwr (xwr M x0 2 (M x0 3)) x0 5 0) x0 2)) (xwr (xwr M x0 2 (M x0 3)) x0 5 0))))) rfl trivial ?_
            have key_ : xEv (275, 142, [some (9, x0), none], [(0, (if ((xwr (xwr (xwr M x0 2 (M x0 3)) x0 5 0) x0 4 (fReader_sortOf ((xwr (xwr M x0 2 (M x0 3)) x0 5 0) ((x0 + 1) + 1) ((xwr (xwr M x0 2 (M x0 3)) x0 5 0) x0 2)) (xwr (xwr M x0 2 (M x0 3)) x0 5 0))) x0 4) = 1 then 1 else (if ((xwr (xwr (xwr M x0 2 (M x0 3)) x0 5 0) x0 4 (fReader_sortOf ((xwr (xwr M x0 2 (M x0 3)) x0 5 0) ((x0 + 1) + 1) ((xwr (xwr M x0 2 (M x0 3)) x0 5 0) x0 2)) (xwr (xwr M x0 2 (M x0 3)) x0 5 0))) x0 4) = 2 then 1 else 0 : Int) : Int))], (xwr (xwr (xwr M x0 2 (M x0 3)) x0 5 0) x0 4 (fReader_sortOf ((xwr (xwr M x0 2 (M x0 3)) x0 5 0) ((x0 + 1) + 1) ((xwr (xwr M x0 2 (M x0 3)) x0 5 0) x0 2)) (xwr (xwr M x0 2 (M x0 3)) x0 5 0)))) (none, r) := by
              refine xEvG_n xml xfetch 1 (y := (275, 143, [some (9, x0), some (0, (if ((xwr (xwr (xwr M x0 2 (M x0 3)) x0 5 0) x0 4 (fReader_sortOf ((xwr (xwr M x0 2 (M x0 3)) x0 5 0) ((x0 + 1) + 1) ((xwr (xwr M x0 2 (M x0 3)) x0 5 0) x0 2)) (xwr (xwr M x0 2 (M x0 3)) x0 5 0))) x0 4) = 1 then 1 else (if ((xwr (xwr (xwr M x0 2 (M x0 3)) x0 5 0) x0 4 (fReader_sortOf ((xwr (xwr M x0 2 (M x0 3)) x0 5 0) ((x0 + 1) + 1) ((xwr (xwr M x0 2 (M x0 3)) x0 5 0) x0 2)) (xwr (xwr M x0 2 (M x0 3)) x0 5 0))) x0 4) = 2 then 1 else 0 : Int) : Int))], [], (xwr (xwr (xwr M x0 2 (M x0 3)) x0 5 0) x0 4 (fReader_sortOf ((xwr (xwr M x0 2 (M x0 3)) x0 5 0) ((x0 + 1) + 1) ((xwr (xwr M x0 2 (M x0 3)) x0 5 0) x0 2)) (xwr (xwr M x0 2 (M x0 3)) x0 5 0))))) rfl trivial ?_
              refine xEvG_mask xml xfetch [true, true] ?_
              exact hReader_advance_L143 20001 x0 (if ((xwr (xwr (xwr M x0 2 (M x0 3)) x0 5 0) x0 4 (fReader_sortOf ((xwr (xwr M x0 2 (M x0 3)) x0 5 0) ((x0 + 1) + 1) ((xwr (xwr M x0 2 (M x0 3)) x0 5 0) x0 2)) (xwr (xwr M x0 2 (M x0 3)) x0 5 0))) x0 4) = 1 then 1 else (if ((xwr (xwr (xwr M x0 2 (M x0 3)) x0 5 0) x0 4 (fReader_sortOf ((xwr (xwr M x0 2 (M x0 3)) x0 5 0) ((x0 + 1) + 1) ((xwr (xwr M x0 2 (M x0 3)) x0 5 0) x0 2)) (xwr (xwr M x0 2 (M x0 3)) x0 5 0))) x0 4) = 2 then 1 else 0 : Int) : Int) (xwr (xwr (xwr M x0 2 (M x0 3)) x0 5 0) x0 4 (fReader_sortOf ((xwr (xwr M x0 2 (M x0 3)) x0 5 0) ((x0 + 1) + 1) ((xwr (xwr M x0 2 (M x0 3)) x0 5 0) x0 2)) (xwr (xwr M x0 2 (M x0 3)) x0 5 0))) _ h
            refine xEvG_n xml xfetch 1 (y := (275, if ((xwr (xwr (xwr M x0 2 (M x0 3)) x0 5 0) x0 4 (fReader_sortOf ((xwr (xwr M x0 2 (M x0 3)) x0 5 0) ((x0 + 1) + 1) ((xwr (xwr M x0 2 (M x0 3)) x0 5 0) x0 2)) (xwr (xwr M x0 2 (M x0 3)) x0 5 0))) x0 4) = 1 then 137 else 129, [some (9, x0), none], [], (xwr (xwr (xwr M x0 2 (M x0 3)) x0 5 0) x0 4 (fReader_sortOf ((xwr (xwr M x0 2 (M x0 3)) x0 5 0) ((x0 + 1) + 1) ((xwr (xwr M x0 2 (M x0 3)) x0 5 0) x0 2)) (xwr (xwr M x0 2 (M x0 3)) x0 5 0))))) rfl trivial ?_
            refine xEvG_br xml xfetch (fun c12_ => ?_) (fun c12_ => ?_)
            · refine xEvG_n xml xfetch 2 (y := (275, 142, [some (9, x0), none], [(0, 1)], (xwr (xwr (xwr M x0 2 (M x0 3)) x0 5 0) x0 4 (fReader_sortOf ((xwr (xwr M x0 2 (M x0 3)) x0 5 0) ((x0 + 1) + 1) ((xwr (xwr M x0 2 (M x0 3)) x0 5 0) x0 2)) (xwr (xwr M x0 2 (M x0 3)) x0 5 0))))) rfl trivial ?_
              try simp only [if_pos c12_] at key_
              try simp only [if_pos c12_]
              exact key_
            · refine xEvG_n xml xfetch 4 (y := (275, if ((xwr (xwr (xwr M x0 2 (M x0 3)) x0 5 0) x0 4 (fReader_sortOf ((xwr (xwr M x0 2 (M x0 3)) x0 5 0) ((x0 + 1) + 1) ((xwr (xwr M x0 2 (M x0 3)) x0 5 0) x0 2)) (xwr (xwr M x0 2 (M x0 3)) x0 5 0))) x0 4) = 2 then 137 else 141, [some (9, x0), none], [], (xwr (xwr (xwr M x0 2 (M x0 3)) x0 5 0) x0 4 (fReader_sortOf ((xwr (xwr M x0 2 (M x0 3)) x0 5 0) ((x0 + 1) + 1) ((xwr (xwr M x0 2 (M x0 3)) x0 5 0) x0 2)) (xwr (xwr M x0 2 (M x0 3)) x0 5 0))))) rfl trivial ?_
              refine xEvG_br xml xfetch (fun c14_ => ?_) (fun c14_ => ?_)
              · refine xEvG_n xml xfetch 2 (y := (275, 142, [some (9, x0), none], [(0, 1)], (xwr (xwr (xwr M x0 2 (M x0 3)) x0 5 0) x0 4 (fReader_sortOf ((xwr (xwr M x0 2 (M x0 3)) x0 5 0) ((x0 + 1) + 1) ((xwr (xwr M x0 2 (M x0 3)) x0 5 0) x0 2)) (xwr (xwr M x0 2 (M x0 3)) x0 5 0))))) rfl trivial ?_
                try simp only [if_neg c12_, if_pos c14_] at key_
                try simp only [if_neg c12_, if_pos c14_]
                exact key_
              · refine xEvG_n xml xfetch 1 (y := (275, 142, [some (9, x0), none], [(0, 0)], (xwr (xwr (xwr M x0 2 (M x0 3)) x0 5 0) x0 4 (fReader_sortOf ((xwr (xwr M x0 2 (M x0 3)) x0 5 0) ((x0 + 1) + 1) ((xwr (xwr M x0 2 (M x0 3)) x0 5 0) x0 2)) (xwr (xwr M x0 2 (M x0 3)) x0 5 0))))) rfl trivial ?_
                try simp only [if_neg c12_, if_neg c14_] at key_
                try simp only [if_neg c12_, if_neg c14_]
                exact key_
          · have h := xif_f c_ h
            refine xEvG_n xml xfetch 3 (y := (275, 101, [some (9, x0), none], [], (xwr (xwr (xwr M x0 2 (M x0 3)) x0 5 0) x0 4 0))) rfl trivial ?_
            cases h
            exact xEvG_ret xml xfetch rfl
    · have h := xif_f c_ h
      refine xEvG_n xml xfetch 13 (y := (275, if ((xwr (xwr M x0 2 (M x0 3)) x0 5 0) x0 2) < ((xwr (xwr M x0 2 (M x0 3)) x0 5 0) (x0 + 1) 1) then 102 else 96, [some (9, x0), none], [], (xwr (xwr M x0 2 (M x0 3)) x0 5 0))) rfl trivial ?_
      refine xEvG_br xml xfetch (fun c_ => ?_) (fun c_ => ?_)
      · have h := xif_t c_ h
        have a0_ := (xA_t h).1
        have h := (xA_t h).2
        refine xEvG_n xml xfetch 7 (y := (275, 115, [some (9, x0), none], [(0, ((xwr (xwr M x0 2 (M x0 3)) x0 5 0) ((x0 + 1) + 1) ((xwr (xwr M x0 2 (M x0 3)) x0 5 0) x0 2))), (9, x0)], (xwr (xwr M x0 2 (M x0 3)) x0 5 0))) rfl ⟨a0_, trivial⟩ ?_
        refine xEvG_call xml xfetch (q := (some (0, fReader_sortOf ((xwr (xwr M x0 2 (M x0 3)) x0 5 0) ((x0 + 1) + 1) ((xwr (xwr M x0 2 (M x0 3)) x0 5 0) x0 2)) (xwr (xwr M x0 2 (M x0 3)) x0 5 0)), (xwr (xwr M x0 2 (M x0 3)) x0 5 0))) rfl (hReader_sortOf ((xwr (xwr M x0 2 (M x0 3)) x0 5 0) ((x0 + 1) + 1) ((xwr (xwr M x0 2 (M x0 3)) x0 5 0) x0 2)) (xwr (xwr M x0 2 (M x0 3)) x0 5 0) _ rfl) ?_
        show xEv (275, 118, [some (9, x0), none], [(0, (fReader_sortOf ((xwr (xwr M x0 2 (M x0 3)) x0 5 0) ((x0 + 1) + 1) ((xwr (xwr M x0 2 (M x0 3)) x0 5 0) x0 2)) (xwr (xwr M x0 2 (M x0 3)) x0 5 0))), (9, x0)], (xwr (xwr M x0 2 (M x0 3)) x0 5 0)) _
        refine xEvG_n xml xfetch 4 (y := (275, 126, [some (9, x0), none], [(0, 1), (0, ((xwr (xwr (xwr M x0 2 (M x0 3)) x0 5 0) x0 4 (fReader_sortOf ((xwr (xwr M x0 2 (M x0 3)) x0 5 0) ((x0 + 1) + 1) ((xwr (xwr M x0 2 (M x0 3)) x0 5 0) x0 2)) (xwr (xwr M x0 2 (M x0 3)) x0 5 0))) x0 4))], (xwr (xwr (xwr M x0 2 (M x0 3)) x0 5 0) x0 4 (fReader_sortOf ((xwr (xwr M x0 2 (M x0 3)) x0 5 0) ((x0 + 1) + 1) ((xwr (xwr M x0 2 (M x0 3)) x0 5 0) x0 2)) (xwr (xwr M x0 2 (M x0 3)) x0 5 0))))) rfl trivial ?_
        have key_ : xEv (275, 142, [some (9, x0), none], [(0, (if ((xwr (xwr (xwr M x0 2 (M x0 3)) x0 5 0) x0 4 (fReader_sortOf ((xwr (xwr M x0 2 (M x0 3)) x0 5 0) ((x0 + 1) + 1) ((xwr (xwr M x0 2 (M x0 3)) x0 5 0) x0 2)) (xwr (xwr M x0 2 (M x0 3)) x0 5 0))) x0 4) = 1 then 1 else (if ((xwr (xwr (xwr M x0 2 (M x0 3)) x0 5 0) x0 4 (fReader_sortOf ((xwr (xwr M x0 2 (M x0 3)) x0 5 0) ((x0 + 1) + 1) ((xwr (xwr M x0 2 (M x0 3)) x0 5 0) x0 2)) (xwr (xwr M x0 2 (M x0 3)) x0 5 0))) x0 4) = 2 then 1 else 0 : Int) : Int))], (xwr (xwr (xwr M x0 2 (M x0 3)) x0 5 0) x0 4 (fReader_sortOf ((xwr (xwr M x0 2 (M x0 3)) x0 5 0) ((x0 + 1) + 1) ((xwr (xwr M x0 2 (M x0 3)) x0 5 0) x0 2)) (xwr (xwr M x0 2 (M x0 3)) x0 5 0)))) (none, r) := by
          refine xEvG_n xml xfetch 1 (y := (275, 143, [some (9, x0), some (0, (if ((xwr (xwr (xwr M x0 2 (M x0 3)) x0 5 0) x0 4 (fReader_sortOf ((xwr (xwr M x0 2 (M x0 3)) x0 5 0) ((x0 + 1) + 1) ((xwr (xwr M x0 2 (M x0 3)) x0 5 0) x0 2)) (xwr (xwr M x0 2 (M x0 3)) x0 5 0))) x0 4) = 1 then 1 else (if ((xwr (xwr (xwr M x0 2 (M x0 3)) x0 5 0) x0 4 (fReader_sortOf ((xwr (xwr M x0 2 (M x0 3)) x0 5 0) ((x0 + 1) + 1) ((xwr (xwr M x0 2 (M x0 3)) x0 5 0) x0 2)) (xwr (xwr M x0 2 (M x0 3)) x0 5 0))) x0 4) = 2 then 1 else 0 : Int) : Int))], [], (xwr (xwr (xwr M x0 2 (M x0 3)) x0 5 0) x0 4 (fReader_sortOf ((xwr (xwr M x0 2 (M x0 3)) x0 5 0) ((x0 + 1) + 1) ((xwr (xwr M x0 2 (M x0 3)) x0 5 0) x0 2)) (xwr (xwr M x0 2 (M x0 3)) x0 5 0))))) rfl trivial ?_
          refine xEvG_mask xml xfetch [true, true] ?_
          exact hReader_advance_L143 20001 x0 (if ((xwr (xwr (xwr M x0 2 (M x0 3)) x0 5 0) x0 4 (fReader_sortOf ((xwr (xwr M x0 2 (M x0 3)) x0 5 0) ((x0 + 1) + 1) ((xwr (xwr M x0 2 (M x0 3)) x0 5 0) x0 2)) (xwr (xwr M x0 2 (M x0 3)) x0 5 0))) x0 4) = 1 then 1 else (if ((xwr (xwr (xwr M x0 2 (M x0 3)) x0 5 0) x0 4 (fReader_sortOf ((xwr (xwr M x0 2 (M x0 3)) x0 5 0) ((x0 + 1) + 1) ((xwr (xwr M x0 2 (M x0 3)) x0 5 0) x0 2)) (xwr (xwr M x0 2 (M x0 3)) x0 5 0))) x0 4) = 2 then 1 else 0 : Int) : Int) (xwr (xwr (xwr M x0 2 (M x0 3)) x0 5 0) x0 4 (fReader_sortOf ((xwr (xwr M x0 2 (M x0 3)) x0 5 0) ((x0 + 1) + 1) ((xwr (xwr M x0 2 (M x0 3)) x0 5 0) x0 2)) (xwr (xwr M x0 2 (M x0 3)) x0 5 0))) _ h
        refine xEvG_n xml xfetch 1 (y := (275, if ((xwr (xwr (xwr M x0 2 (M x0 3)) x0 5 0) x0 4 (fReader_sortOf ((xwr (xwr M x0 2 (M x0 3)) x0 5 0) ((x0 + 1) + 1) ((xwr (xwr M x0 2 (M x0 3)) x0 5 0) x0 2)) (xwr (xwr M x0 2 (M x0 3)) x0 5 0))) x0 4) = 1 then 137 else 129, [some (9, x0), none], [], (xwr (xwr (xwr M x0 2 (M x0 3)) x0 5 0) x0 4 (fReader_sortOf ((xwr (xwr M x0 2 (M x0 3)) x0 5 0) ((x0 + 1) + 1) ((xwr (xwr M x0 2 (M x0 3)) x0 5 0) x0 2)) (xwr (xwr M x0 2 (M x0 3)) x0 5 0))))) rfl trivial ?_
        refine xEvG_br xml xfetch (fun c8_ => ?_) (fun c8_ => ?_)
        · refine xEvG_n xml xfetch 2 (y := (275, 142, [some (9, x0), none], [(0, 1)], (xwr (xwr (xwr M x0 2 (M x0 3)) x0 5 0) x0 4 (fReader_sortOf ((xwr (xwr M x0 2 (M x0 3)) x0 5 0) ((x0 + 1) + 1) ((xwr (xwr M x0 2 (M x0 3)) x0 5 0) x0 2)) (xwr (xwr M x0 2 (M x0 3)) x0 5 0))))) rfl trivial ?_
          try simp only [if_pos c8_] at key_
          try simp only [if_pos c8_]
          exact key_
        · refine xEvG_n xml xfetch 4 (y := (275, if ((xwr (xwr (xwr M x0 2 (M x0 3)) x0 5 0) x0 4 (fReader_sortOf ((xwr (xwr M x0 2 (M x0 3)) x0 5 0) ((x0 + 1) + 1) ((xwr (xwr M x0 2 (M x0 3)) x0 5 0) x0 2)) (xwr (xwr M x0 2 (M x0 3)) x0 5 0))) x0 4) = 2 then 137 else 141, [some (9, x0), none], [], (xwr (xwr (xwr M x0 2 (M x0 3)) x0 5 0) x0 4 (fReader_sortOf ((xwr (xwr M x0 2 (M x0 3)) x0 5 0) ((x0 + 1) + 1) ((xwr (xwr M x0 2 (M x0 3)) x0 5 0) x0 2)) (xwr (xwr M x0 2 (M x0 3)) x0 5 0))))) rfl trivial ?_
          refine xEvG_br xml xfetch (fun c10_ => ?_) (fun c10_ => ?_)
          · refine xEvG_n xml xfetch 2 (y := (275, 142, [some (9, x0), none], [(0, 1)], (xwr (xwr (xwr M x0 2 (M x0 3)) x0 5 0) x0 4 (fReader_sortOf ((xwr (xwr M x0 2 (M x0 3)) x0 5 0) ((x0 + 1) + 1) ((xwr (xwr M x0 2 (M x0 3)) x0 5 0) x0 2)) (xwr (xwr M x0 2 (M x0 3)) x0 5 0))))) rfl trivial ?_
            try simp only [if_neg c8_, if_pos c10_] at key_
            try simp only [if_neg c8_, if_pos c10_]
            exact key_
          · refine xEvG_n xml xfetch 1 (y := (275, 142, [some (9, x0), none], [(0, 0)], (xwr (xwr (xwr M x0 2 (M x0 3)) x0 5 0) x0 4 (fReader_sortOf ((xwr (xwr M x0 2 (M x0 3)) x0 5 0) ((x0 + 1) + 1) ((xwr (xwr M x0 2 (M x0 3)) x0 5 0) x0 2)) (xwr (xwr M x0 2 (M x0 3)) x0 5 0))))) rfl trivial ?_
            try simp only [if_neg c8_, if_neg c10_] at key_
            try simp only [if_neg c8_, if_neg c10_]
            exact key_
      · have h := xif_f c_ h
        refine xEvG_n xml xfetch 3 (y := (275, 101, [some (9, x0), none], [], (xwr (xwr (xwr M x0 2 (M x0 3)) x0 5 0) x0 4 0))) rfl trivial ?_
        cases h
        exact xEvG_ret xml xfetch rfl
/-- ConsentDoors$Reader.advance()V -/
def fReader_advance (a0 : Int) (M : xM) : Option xM := if (M a0 7) = 0 then (fReader_advance_L8 20001 a0 M) else (some M)
theorem hReader_advance (a0 : Int) (M : xM) (r : xM) (h : fReader_advance a0 M = some r) : xEv (275, 0, [some (9, a0), none], [], M) (none, r) := by
  unfold fReader_advance at h
  refine xEvG_n xml xfetch 3 (y := (275, if (M a0 7) = 0 then 8 else 7, [some (9, a0), none], [], M)) rfl trivial ?_
  refine xEvG_br xml xfetch (fun c_ => ?_) (fun c_ => ?_)
  · have h := xif_t c_ h
    refine xEvG_mask xml xfetch [true, false] ?_
    exact hReader_advance_L8 20001 a0 M _ h
  · have h := xif_f c_ h
    cases h
    exact xEvG_ret xml xfetch rfl

def fReader_isWord_L28 : Nat → Int → Int → Int → xM → Option Int
  | 0, _, _, _, _ => none
  | g + 1, x0, x1, x2, M => if x2 < ((xstr (x1 : Int).toNat).length : Int) then (xA (0 ≤ (xw32 ((M x0 2) + x2)) ∧ (xw32 ((M x0 2) + x2)) < 1600) (xA (0 ≤ x2 ∧ x2 < ((xstr (x1 : Int).toNat).length : Int)) (if (M ((x0 + 1) + 1) (xw32 ((M x0 2) + x2))) = ((xstr (x1 : Int).toNat).getD (x2 : Int).toNat 0) then ((fReader_isWord_L28 g) x0 x1 (xw32 (x2 + 1)) M) else (some 0)))) else (some 1)
theorem hReader_isWord_L28 : ∀ (g : Nat) (x0 x1 x2 : Int) (M : xM) (r : Int) (h : fReader_isWord_L28 g x0 x1 x2 M = some r), xEv (274, 28, [some (9, x0), some (54, x1), some (0, x2)], [], M) (some (0, r), M)
  | 0, _, _, _, _, _, h => by cases h
  | g + 1, x0, x1, x2, M, r, h => by
    unfold fReader_isWord_L28 at h
    refine xEvG_n xml xfetch 4 (y := (274, if x2 < ((xstr (x1 : Int).toNat).length : Int) then 36 else 66, [some (9, x0), some (54, x1), some (0, x2)], [], M)) rfl trivial ?_
    refine xEvG_br xml xfetch (fun c_ => ?_) (fun c_ => ?_)
    · have h := xif_t c_ h
      have a0_ := (xA_t h).1
      have h := (xA_t h).2
      have a1_ := (xA_t h).1
      have h := (xA_t h).2
      refine xEvG_n xml xfetch 12 (y := (274, if (M ((x0 + 1) + 1) (xw32 ((M x0 2) + x2))) = ((xstr (x1 : Int).toNat).getD (x2 : Int).toNat 0) then 60 else 58, [some (9, x0), some (54, x1), some (0, x2)], [], M)) rfl ⟨a0_, a1_, trivial⟩ ?_
      refine xEvG_br xml xfetch (fun c_ => ?_) (fun c_ => ?_)
      · have h := xif_t c_ h
        refine xEvG_n xml xfetch 2 (y := (274, 28, [some (9, x0), some (54, x1), some (0, (xw32 (x2 + 1)))], [], M)) rfl trivial ?_
        refine xEvG_mask xml xfetch [true, true, true] ?_
        exact (hReader_isWord_L28 g) x0 x1 (xw32 (x2 + 1)) M _ h
      · have h := xif_f c_ h
        refine xEvG_n xml xfetch 1 (y := (274, 59, [some (9, x0), some (54, x1), some (0, x2)], [(0, 0)], M)) rfl trivial ?_
        cases h
        exact xEvG_retc xml xfetch rfl (Or.inl rfl)
    · have h := xif_f c_ h
      refine xEvG_n xml xfetch 1 (y := (274, 67, [some (9, x0), some (54, x1), some (0, x2)], [(0, 1)], M)) rfl trivial ?_
      cases h
      exact xEvG_retc xml xfetch rfl (Or.inr rfl)
/-- ConsentDoors$Reader.isWord(Ljava/lang/String;)Z -/
def fReader_isWord (a0 a1 : Int) (M : xM) : Option Int := if (M a0 4) = 1 then (if (xw32 ((M a0 3) - (M a0 2))) = ((xstr (a1 : Int).toNat).length : Int) then (fReader_isWord_L28 20001 a0 a1 0 M) else (some 0)) else (some 0)
theorem hReader_isWord (a0 a1 : Int) (M : xM) (r : Int) (h : fReader_isWord a0 a1 M = some r) : xEv (274, 0, [some (9, a0), some (54, a1), none], [], M) (some (0, r), M) := by
  unfold fReader_isWord at h
  refine xEvG_n xml xfetch 4 (y := (274, if (M a0 4) = 1 then 8 else 24, [some (9, a0), some (54, a1), none], [], M)) rfl trivial ?_
  refine xEvG_br xml xfetch (fun c_ => ?_) (fun c_ => ?_)
  · have h := xif_t c_ h
    refine xEvG_n xml xfetch 8 (y := (274, if (xw32 ((M a0 3) - (M a0 2))) = ((xstr (a1 : Int).toNat).length : Int) then 26 else 24, [some (9, a0), some (54, a1), none], [], M)) rfl trivial ?_
    refine xEvG_br xml xfetch (fun c_ => ?_) (fun c_ => ?_)
    · have h := xif_t c_ h
      refine xEvG_n xml xfetch 2 (y := (274, 28, [some (9, a0), some (54, a1), some (0, 0)], [], M)) rfl trivial ?_
      refine xEvG_mask xml xfetch [true, true, true] ?_
      exact hReader_isWord_L28 20001 a0 a1 0 M _ h
    · have h := xif_f c_ h
      refine xEvG_n xml xfetch 1 (y := (274, 25, [some (9, a0), some (54, a1), none], [(0, 0)], M)) rfl trivial ?_
      cases h
      exact xEvG_retc xml xfetch rfl (Or.inl rfl)
  · have h := xif_f c_ h
    refine xEvG_n xml xfetch 1 (y := (274, 25, [some (9, a0), some (54, a1), none], [(0, 0)], M)) rfl trivial ?_
    cases h
    exact xEvG_retc xml xfetch rfl (Or.inl rfl)

/-- ConsentDoors$Reader.fail(I)V -/
def fReader_fail (a0 a1 : Int) (M : xM) : xM := if (M a0 7) = 0 then ((xwr (xwr M a0 7 a1) a0 8 ((xwr M a0 7 a1) a0 2))) else (M)
theorem hReader_fail (a0 a1 : Int) (M : xM) (r : xM) (h : fReader_fail a0 a1 M = r) : xEv (273, 0, [some (9, a0), some (0, a1)], [], M) (none, r) := by
  unfold fReader_fail at h
  refine xEvG_n xml xfetch 3 (y := (273, if (M a0 7) = 0 then 7 else 20, [some (9, a0), some (0, a1)], [], M)) rfl trivial ?_
  refine xEvG_br xml xfetch (fun c_ => ?_) (fun c_ => ?_)
  · have h := xif_t c_ h
    refine xEvG_n xml xfetch 7 (y := (273, 20, [some (9, a0), some (0, a1)], [], (xwr (xwr M a0 7 a1) a0 8 ((xwr M a0 7 a1) a0 2)))) rfl trivial ?_
    subst h
    exact xEvG_ret xml xfetch rfl
  · have h := xif_f c_ h
    subst h
    exact xEvG_ret xml xfetch rfl

/-- ConsentDoors$Reader.takeWord(Ljava/lang/String;)V -/
def fReader_takeWord (a0 a1 : Int) (M : xM) : Option xM := xB (fReader_isWord a0 a1 M) (fun v1 => if v1 = 0 then (xB (fReader_advance a0 (fReader_fail a0 1 M)) (fun m3 => some m3)) else (xB (fReader_advance a0 M) (fun m4 => some m4)))
theorem hReader_takeWord (a0 a1 : Int) (M : xM) (r : xM) (h : fReader_takeWord a0 a1 M = some r) : xEv (270, 0, [some (9, a0), some (54, a1)], [], M) (none, r) := by
  unfold fReader_takeWord at h
  refine xEvG_n xml xfetch 2 (y := (270, 2, [some (9, a0), some (54, a1)], [(54, a1), (9, a0)], M)) rfl trivial ?_
  obtain ⟨v1, e_, h⟩ := xB_t h
  refine xEvG_call xml xfetch (q := (some (0, v1), M)) rfl (hReader_isWord a0 a1 M _ e_) ?_
  show xEv (270, 5, [some (9, a0), some (54, a1)], [(0, v1)], M) _
  refine xEvG_n xml xfetch 1 (y := (270, if v1 = 0 then 8 else 13, [some (9, a0), some (54, a1)], [], M)) rfl trivial ?_
  refine xEvG_br xml xfetch (fun c_ => ?_) (fun c_ => ?_)
  · have h := xif_t c_ h
    refine xEvG_n xml xfetch 2 (y := (270, 10, [some (9, a0), some (54, a1)], [(0, 1), (9, a0)], M)) rfl trivial ?_
    refine xEvG_call xml xfetch (q := (none, fReader_fail a0 1 M)) rfl (hReader_fail a0 1 M _ rfl) ?_
    show xEv (270, 13, [some (9, a0), some (54, a1)], [], (fReader_fail a0 1 M)) _
    refine xEvG_n xml xfetch 1 (y := (270, 14, [some (9, a0), some (54, a1)], [(9, a0)], (fReader_fail a0 1 M))) rfl trivial ?_
    obtain ⟨m3, e_, h⟩ := xB_t h
    refine xEvG_call xml xfetch (q := (none, m3)) rfl (hReader_advance a0 (fReader_fail a0 1 M) _ e_) ?_
    show xEv (270, 17, [some (9, a0), some (54, a1)], [], m3) _
    cases h
    exact xEvG_ret xml xfetch rfl
  · have h := xif_f c_ h
    refine xEvG_n xml xfetch 1 (y := (270, 14, [some (9, a0), some (54, a1)], [(9, a0)], M)) rfl trivial ?_
    obtain ⟨m4, e_, h⟩ := xB_t h
    refine xEvG_call xml xfetch (q := (none, m4)) rfl (hReader_advance a0 M _ e_) ?_
    show xEv (270, 17, [some (9, a0), some (54, a1)], [], m4) _
    cases h
    exact xEvG_ret xml xfetch rfl

/-- ConsentDoors$Reader.takeNumber(II)I -/
def fReader_takeNumber (a0 a1 a2 : Int) (M : xM) : Option (Int × xM) := if (M a0 4) = 2 then (if (M a0 5) < a1 then (xB (fReader_advance a0 (fReader_fail a0 2 M)) (fun m2 => some ((M a0 5), m2))) else (if a2 < (M a0 5) then (xB (fReader_advance a0 (fReader_fail a0 2 M)) (fun m4 => some ((M a0 5), m4))) else (xB (fReader_advance a0 M) (fun m5 => some ((M a0 5), m5))))) else (xB (fReader_advance a0 (fReader_fail a0 1 M)) (fun m7 => some ((M a0 5), m7)))
theorem hReader_takeNumber (a0 a1 a2 : Int) (M : xM) (r : Int × xM) (h : fReader_takeNumber a0 a1 a2 M = some r) : xEv (272, 0, [some (9, a0), some (0, a1), some (0, a2), none], [], M) (some (0, r.1), r.2) := by
  unfold fReader_takeNumber at h
  refine xEvG_n xml xfetch 7 (y := (272, if (M a0 4) = 2 then 21 else 13, [some (9, a0), some (0, a1), some (0, a2), some (0, (M a0 5))], [], M)) rfl trivial ?_
  refine xEvG_br xml xfetch (fun c_ => ?_) (fun c_ => ?_)
  · have h := xif_t c_ h
    refine xEvG_n xml xfetch 3 (y := (272, if (M a0 5) < a1 then 31 else 26, [some (9, a0), some (0, a1), some (0, a2), some (0, (M a0 5))], [], M)) rfl trivial ?_
    refine xEvG_br xml xfetch (fun c_ => ?_) (fun c_ => ?_)
    · have h := xif_t c_ h
      refine xEvG_n xml xfetch 2 (y := (272, 33, [some (9, a0), some (0, a1), some (0, a2), some (0, (M a0 5))], [(0, 2), (9, a0)], M)) rfl trivial ?_
      refine xEvG_call xml xfetch (q := (none, fReader_fail a0 2 M)) rfl (hReader_fail a0 2 M _ rfl) ?_
      show xEv (272, 36, [some (9, a0), some (0, a1), some (0, a2), some (0, (M a0 5))], [], (fReader_fail a0 2 M)) _
      refine xEvG_n xml xfetch 1 (y := (272, 37, [some (9, a0), some (0, a1), some (0, a2), some (0, (M a0 5))], [(9, a0)], (fReader_fail a0 2 M))) rfl trivial ?_
      obtain ⟨m2, e_, h⟩ := xB_t h
      refine xEvG_call xml xfetch (q := (none, m2)) rfl (hReader_advance a0 (fReader_fail a0 2 M) _ e_) ?_
      show xEv (272, 40, [some (9, a0), some (0, a1), some (0, a2), some (0, (M a0 5))], [], m2) _
      refine xEvG_n xml xfetch 1 (y := (272, 41, [some (9, a0), some (0, a1), some (0, a2), some (0, (M a0 5))], [(0, (M a0 5))], m2)) rfl trivial ?_
      cases h
      exact xEvG_ret xml xfetch rfl
    · have h := xif_f c_ h
      refine xEvG_n xml xfetch 3 (y := (272, if a2 < (M a0 5) then 31 else 36, [some (9, a0), some (0, a1), some (0, a2), some (0, (M a0 5))], [], M)) rfl trivial ?_
      refine xEvG_br xml xfetch (fun c_ => ?_) (fun c_ => ?_)
      · have h := xif_t c_ h
        refine xEvG_n xml xfetch 2 (y := (272, 33, [some (9, a0), some (0, a1), some (0, a2), some (0, (M a0 5))], [(0, 2), (9, a0)], M)) rfl trivial ?_
        refine xEvG_call xml xfetch (q := (none, fReader_fail a0 2 M)) rfl (hReader_fail a0 2 M _ rfl) ?_
        show xEv (272, 36, [some (9, a0), some (0, a1), some (0, a2), some (0, (M a0 5))], [], (fReader_fail a0 2 M)) _
        refine xEvG_n xml xfetch 1 (y := (272, 37, [some (9, a0), some (0, a1), some (0, a2), some (0, (M a0 5))], [(9, a0)], (fReader_fail a0 2 M))) rfl trivial ?_
        obtain ⟨m4, e_, h⟩ := xB_t h
        refine xEvG_call xml xfetch (q := (none, m4)) rfl (hReader_advance a0 (fReader_fail a0 2 M) _ e_) ?_
        show xEv (272, 40, [some (9, a0), some (0, a1), some (0, a2), some (0, (M a0 5))], [], m4) _
        refine xEvG_n xml xfetch 1 (y := (272, 41, [some (9, a0), some (0, a1), some (0, a2), some (0, (M a0 5))], [(0, (M a0 5))], m4)) rfl trivial ?_
        cases h
        exact xEvG_ret xml xfetch rfl
      · have h := xif_f c_ h
        refine xEvG_n xml xfetch 1 (y := (272, 37, [some (9, a0), some (0, a1), some (0, a2), some (0, (M a0 5))], [(9, a0)], M)) rfl trivial ?_
        obtain ⟨m5, e_, h⟩ := xB_t h
        refine xEvG_call xml xfetch (q := (none, m5)) rfl (hReader_advance a0 M _ e_) ?_
        show xEv (272, 40, [some (9, a0), some (0, a1), some (0, a2), some (0, (M a0 5))], [], m5) _
        refine xEvG_n xml xfetch 1 (y := (272, 41, [some (9, a0), some (0, a1), some (0, a2), some (0, (M a0 5))], [(0, (M a0 5))], m5)) rfl trivial ?_
        cases h
        exact xEvG_ret xml xfetch rfl
  · have h := xif_f c_ h
    refine xEvG_n xml xfetch 2 (y := (272, 15, [some (9, a0), some (0, a1), some (0, a2), some (0, (M a0 5))], [(0, 1), (9, a0)], M)) rfl trivial ?_
    refine xEvG_call xml xfetch (q := (none, fReader_fail a0 1 M)) rfl (hReader_fail a0 1 M _ rfl) ?_
    show xEv (272, 18, [some (9, a0), some (0, a1), some (0, a2), some (0, (M a0 5))], [], (fReader_fail a0 1 M)) _
    refine xEvG_n xml xfetch 2 (y := (272, 37, [some (9, a0), some (0, a1), some (0, a2), some (0, (M a0 5))], [(9, a0)], (fReader_fail a0 1 M))) rfl trivial ?_
    obtain ⟨m7, e_, h⟩ := xB_t h
    refine xEvG_call xml xfetch (q := (none, m7)) rfl (hReader_advance a0 (fReader_fail a0 1 M) _ e_) ?_
    show xEv (272, 40, [some (9, a0), some (0, a1), some (0, a2), some (0, (M a0 5))], [], m7) _
    refine xEvG_n xml xfetch 1 (y := (272, 41, [some (9, a0), some (0, a1), some (0, a2), some (0, (M a0 5))], [(0, (M a0 5))], m7)) rfl trivial ?_
    cases h
    exact xEvG_ret xml xfetch rfl

/-- ConsentDoors$Reader.takeSign()V -/
def fReader_takeSign (a0 : Int) (M : xM) : Option xM := if (M a0 4) = 3 then (xB (fReader_advance a0 M) (fun m1 => some m1)) else (xB (fReader_advance a0 (fReader_fail a0 1 M)) (fun m3 => some m3))
theorem hReader_takeSign (a0 : Int) (M : xM) (r : xM) (h : fReader_takeSign a0 M = some r) : xEv (271, 0, [some (9, a0)], [], M) (none, r) := by
  unfold fReader_takeSign at h
  refine xEvG_n xml xfetch 4 (y := (271, if (M a0 4) = 3 then 13 else 8, [some (9, a0)], [], M)) rfl trivial ?_
  refine xEvG_br xml xfetch (fun c_ => ?_) (fun c_ => ?_)
  · have h := xif_t c_ h
    refine xEvG_n xml xfetch 1 (y := (271, 14, [some (9, a0)], [(9, a0)], M)) rfl trivial ?_
    obtain ⟨m1, e_, h⟩ := xB_t h
    refine xEvG_call xml xfetch (q := (none, m1)) rfl (hReader_advance a0 M _ e_) ?_
    show xEv (271, 17, [some (9, a0)], [], m1) _
    cases h
    exact xEvG_ret xml xfetch rfl
  · have h := xif_f c_ h
    refine xEvG_n xml xfetch 2 (y := (271, 10, [some (9, a0)], [(0, 1), (9, a0)], M)) rfl trivial ?_
    refine xEvG_call xml xfetch (q := (none, fReader_fail a0 1 M)) rfl (hReader_fail a0 1 M _ rfl) ?_
    show xEv (271, 13, [some (9, a0)], [], (fReader_fail a0 1 M)) _
    refine xEvG_n xml xfetch 1 (y := (271, 14, [some (9, a0)], [(9, a0)], (fReader_fail a0 1 M))) rfl trivial ?_
    obtain ⟨m3, e_, h⟩ := xB_t h
    refine xEvG_call xml xfetch (q := (none, m3)) rfl (hReader_advance a0 (fReader_fail a0 1 M) _ e_) ?_
    show xEv (271, 17, [some (9, a0)], [], m3) _
    cases h
    exact xEvG_ret xml xfetch rfl

/-- ConsentDoors$Reader.readPrison()V -/
def fReader_readPrison (a0 : Int) (M : xM) : Option xM := xB (fReader_takeWord a0 5 M) (fun m1 => xB (fReader_takeWord a0 6 m1) (fun m2 => xB (fReader_takeNumber a0 2 9 m2) (fun q_ => match q_ with | (v3, m3) => xB (fReader_takeWord a0 7 m3) (fun m4 => xB (fReader_takeNumber a0 1 24 m4) (fun q_ => match q_ with | (v5, m5) => xB (fReader_isWord a0 8 m5) (fun v6 => if v6 = 0 then (xB (fReader_takeWord a0 (if v6 = 0 then 9 else 8 : Int) m5) (fun m7 => xB (fReader_takeSign a0 m7) (fun m8 => if (m8 a0 7) = 0 then (xA (v6 = 0 ∨ v6 = 1) (some (xwr (xwr (xwr m8 (a0 + 3) 0 v3) (a0 + 3) 1 v5) (a0 + 3) 3 v6))) else (some m8)))) else (if v3 = 2 then (xB (fReader_takeWord a0 (if v6 = 0 then 9 else 8 : Int) (fReader_fail a0 2 m5)) (fun m10 => xB (fReader_takeSign a0 m10) (fun m11 => if (m11 a0 7) = 0 then (xA (v6 = 0 ∨ v6 = 1) (some (xwr (xwr (xwr m11 (a0 + 3) 0 v3) (a0 + 3) 1 v5) (a0 + 3) 3 v6))) else (some m11)))) else (xB (fReader_takeWord a0 (if v6 = 0 then 9 else 8 : Int) m5) (fun m12 => xB (fReader_takeSign a0 m12) (fun m13 => if (m13 a0 7) = 0 then (xA (v6 = 0 ∨ v6 = 1) (some (xwr (xwr (xwr m13 (a0 + 3) 0 v3) (a0 + 3) 1 v5) (a0 + 3) 3 v6))) else (some m13)))))))))))
theorem hReader_readPrison (a0 : Int) (M : xM) (r : xM) (h : fReader_readPrison a0 M = some r) : xEv (263, 0, [some (9, a0), none, none, none], [], M) (none, r) := by
  unfold fReader_readPrison at h
  refine xEvG_n xml xfetch 2 (y := (263, 3, [some (9, a0), none, none, none], [(54, 5), (9, a0)], M)) rfl trivial ?_
  obtain ⟨m1, e_, h⟩ := xB_t h
  refine xEvG_call xml xfetch (q := (none, m1)) rfl (hReader_takeWord a0 5 M _ e_) ?_
  show xEv (263, 6, [some (9, a0), none, none, none], [], m1) _
  refine xEvG_n xml xfetch 2 (y := (263, 9, [some (9, a0), none, none, none], [(54, 6), (9, a0)], m1)) rfl trivial ?_
  obtain ⟨m2, e_, h⟩ := xB_t h
  refine xEvG_call xml xfetch (q := (none, m2)) rfl (hReader_takeWord a0 6 m1 _ e_) ?_
  show xEv (263, 12, [some (9, a0), none, none, none], [], m2) _
  refine xEvG_n xml xfetch 3 (y := (263, 16, [some (9, a0), none, none, none], [(0, 9), (0, 2), (9, a0)], m2)) rfl trivial ?_
  obtain ⟨⟨v3, m3⟩, e_, h⟩ := xB_t h
  refine xEvG_call xml xfetch (q := (some (0, v3), m3)) rfl (hReader_takeNumber a0 2 9 m2 _ e_) ?_
  show xEv (263, 19, [some (9, a0), none, none, none], [(0, v3)], m3) _
  refine xEvG_n xml xfetch 3 (y := (263, 23, [some (9, a0), some (0, v3), none, none], [(54, 7), (9, a0)], m3)) rfl trivial ?_
  obtain ⟨m4, e_, h⟩ := xB_t h
  refine xEvG_call xml xfetch (q := (none, m4)) rfl (hReader_takeWord a0 7 m3 _ e_) ?_
  show xEv (263, 26, [some (9, a0), some (0, v3), none, none], [], m4) _
  refine xEvG_n xml xfetch 3 (y := (263, 30, [some (9, a0), some (0, v3), none, none], [(0, 24), (0, 1), (9, a0)], m4)) rfl trivial ?_
  obtain ⟨⟨v5, m5⟩, e_, h⟩ := xB_t h
  refine xEvG_call xml xfetch (q := (some (0, v5), m5)) rfl (hReader_takeNumber a0 1 24 m4 _ e_) ?_
  show xEv (263, 33, [some (9, a0), some (0, v3), none, none], [(0, v5)], m5) _
  refine xEvG_n xml xfetch 3 (y := (263, 37, [some (9, a0), some (0, v3), some (0, v5), none], [(54, 8), (9, a0)], m5)) rfl trivial ?_
  obtain ⟨v6, e_, h⟩ := xB_t h
  refine xEvG_call xml xfetch (q := (some (0, v6), m5)) rfl (hReader_isWord a0 8 m5 _ e_) ?_
  show xEv (263, 40, [some (9, a0), some (0, v3), some (0, v5), none], [(0, v6)], m5) _
  refine xEvG_n xml xfetch 3 (y := (263, if v6 = 0 then 55 else 45, [some (9, a0), some (0, v3), some (0, v5), some (0, v6)], [], m5)) rfl trivial ?_
  refine xEvG_br xml xfetch (fun c_ => ?_) (fun c_ => ?_)
  · have h := xif_t c_ h
    refine xEvG_n xml xfetch 2 (y := (263, 57, [some (9, a0), some (0, v3), some (0, v5), some (0, v6)], [(0, v6), (9, a0)], m5)) rfl trivial ?_
    have key_ : xEv (263, 67, [some (9, a0), some (0, v3), some (0, v5), some (0, v6)], [(54, (if v6 = 0 then 9 else 8 : Int)), (9, a0)], m5) (none, r) := by
      obtain ⟨m7, e_, h⟩ := xB_t h
      refine xEvG_call xml xfetch (q := (none, m7)) rfl (hReader_takeWord a0 (if v6 = 0 then 9 else 8 : Int) m5 _ e_) ?_
      show xEv (263, 70, [some (9, a0), some (0, v3), some (0, v5), some (0, v6)], [], m7) _
      refine xEvG_n xml xfetch 1 (y := (263, 71, [some (9, a0), some (0, v3), some (0, v5), some (0, v6)], [(9, a0)], m7)) rfl trivial ?_
      obtain ⟨m8, e_, h⟩ := xB_t h
      refine xEvG_call xml xfetch (q := (none, m8)) rfl (hReader_takeSign a0 m7 _ e_) ?_
      show xEv (263, 74, [some (9, a0), some (0, v3), some (0, v5), some (0, v6)], [], m8) _
      refine xEvG_n xml xfetch 3 (y := (263, if (m8 a0 7) = 0 then 81 else 105, [some (9, a0), some (0, v3), some (0, v5), some (0, v6)], [], m8)) rfl trivial ?_
      refine xEvG_br xml xfetch (fun c_ => ?_) (fun c_ => ?_)
      · have h := xif_t c_ h
        have a0_ := (xA_t h).1
        have h := (xA_t h).2
        refine xEvG_n xml xfetch 12 (y := (263, 105, [some (9, a0), some (0, v3), some (0, v5), some (0, v6)], [], (xwr (xwr (xwr m8 (a0 + 3) 0 v3) (a0 + 3) 1 v5) (a0 + 3) 3 v6))) rfl ⟨a0_, trivial⟩ ?_
        cases h
        exact xEvG_ret xml xfetch rfl
      · have h := xif_f c_ h
        cases h
        exact xEvG_ret xml xfetch rfl
    refine xEvG_n xml xfetch 1 (y := (263, if v6 = 0 then 65 else 60, [some (9, a0), some (0, v3), some (0, v5), some (0, v6)], [(9, a0)], m5)) rfl trivial ?_
    refine xEvG_br xml xfetch (fun c4_ => ?_) (fun c4_ => ?_)
    · refine xEvG_n xml xfetch 1 (y := (263, 67, [some (9, a0), some (0, v3), some (0, v5), some (0, v6)], [(54, 9), (9, a0)], m5)) rfl trivial ?_
      try simp only [if_pos c4_] at key_
      try simp only [if_pos c4_]
      exact key_
    · refine xEvG_n xml xfetch 2 (y := (263, 67, [some (9, a0), some (0, v3), some (0, v5), some (0, v6)], [(54, 8), (9, a0)], m5)) rfl trivial ?_
      try simp only [if_neg c4_] at key_
      try simp only [if_neg c4_]
      exact key_
  · have h := xif_f c_ h
    refine xEvG_n xml xfetch 3 (y := (263, if v3 = 2 then 50 else 55, [some (9, a0), some (0, v3), some (0, v5), some (0, v6)], [], m5)) rfl trivial ?_
    refine xEvG_br xml xfetch (fun c_ => ?_) (fun c_ => ?_)
    · have h := xif_t c_ h
      refine xEvG_n xml xfetch 2 (y := (263, 52, [some (9, a0), some (0, v3), some (0, v5), some (0, v6)], [(0, 2), (9, a0)], m5)) rfl trivial ?_
      refine xEvG_call xml xfetch (q := (none, fReader_fail a0 2 m5)) rfl (hReader_fail a0 2 m5 _ rfl) ?_
      show xEv (263, 55, [some (9, a0), some (0, v3), some (0, v5), some (0, v6)], [], (fReader_fail a0 2 m5)) _
      refine xEvG_n xml xfetch 2 (y := (263, 57, [some (9, a0), some (0, v3), some (0, v5), some (0, v6)], [(0, v6), (9, a0)], (fReader_fail a0 2 m5))) rfl trivial ?_
      have key_ : xEv (263, 67, [some (9, a0), some (0, v3), some (0, v5), some (0, v6)], [(54, (if v6 = 0 then 9 else 8 : Int)), (9, a0)], (fReader_fail a0 2 m5)) (none, r) := by
        obtain ⟨m10, e_, h⟩ := xB_t h
        refine xEvG_call xml xfetch (q := (none, m10)) rfl (hReader_takeWord a0 (if v6 = 0 then 9 else 8 : Int) (fReader_fail a0 2 m5) _ e_) ?_
        show xEv (263, 70, [some (9, a0), some (0, v3), some (0, v5), some (0, v6)], [], m10) _
        refine xEvG_n xml xfetch 1 (y := (263, 71, [some (9, a0), some (0, v3), some (0, v5), some (0, v6)], [(9, a0)], m10)) rfl trivial ?_
        obtain ⟨m11, e_, h⟩ := xB_t h
        refine xEvG_call xml xfetch (q := (none, m11)) rfl (hReader_takeSign a0 m10 _ e_) ?_
        show xEv (263, 74, [some (9, a0), some (0, v3), some (0, v5), some (0, v6)], [], m11) _
        refine xEvG_n xml xfetch 3 (y := (263, if (m11 a0 7) = 0 then 81 else 105, [some (9, a0), some (0, v3), some (0, v5), some (0, v6)], [], m11)) rfl trivial ?_
        refine xEvG_br xml xfetch (fun c_ => ?_) (fun c_ => ?_)
        · have h := xif_t c_ h
          have a0_ := (xA_t h).1
          have h := (xA_t h).2
          refine xEvG_n xml xfetch 12 (y := (263, 105, [some (9, a0), some (0, v3), some (0, v5), some (0, v6)], [], (xwr (xwr (xwr m11 (a0 + 3) 0 v3) (a0 + 3) 1 v5) (a0 + 3) 3 v6))) rfl ⟨a0_, trivial⟩ ?_
          cases h
          exact xEvG_ret xml xfetch rfl
        · have h := xif_f c_ h
          cases h
          exact xEvG_ret xml xfetch rfl
      refine xEvG_n xml xfetch 1 (y := (263, if v6 = 0 then 65 else 60, [some (9, a0), some (0, v3), some (0, v5), some (0, v6)], [(9, a0)], (fReader_fail a0 2 m5))) rfl trivial ?_
      refine xEvG_br xml xfetch (fun c6_ => ?_) (fun c6_ => ?_)
      · refine xEvG_n xml xfetch 1 (y := (263, 67, [some (9, a0), some (0, v3), some (0, v5), some (0, v6)], [(54, 9), (9, a0)], (fReader_fail a0 2 m5))) rfl trivial ?_
        try simp only [if_pos c6_] at key_
        try simp only [if_pos c6_]
        exact key_
      · refine xEvG_n xml xfetch 2 (y := (263, 67, [some (9, a0), some (0, v3), some (0, v5), some (0, v6)], [(54, 8), (9, a0)], (fReader_fail a0 2 m5))) rfl trivial ?_
        try simp only [if_neg c6_] at key_
        try simp only [if_neg c6_]
        exact key_
    · have h := xif_f c_ h
      refine xEvG_n xml xfetch 2 (y := (263, 57, [some (9, a0), some (0, v3), some (0, v5), some (0, v6)], [(0, v6), (9, a0)], m5)) rfl trivial ?_
      have key_ : xEv (263, 67, [some (9, a0), some (0, v3), some (0, v5), some (0, v6)], [(54, (if v6 = 0 then 9 else 8 : Int)), (9, a0)], m5) (none, r) := by
        obtain ⟨m12, e_, h⟩ := xB_t h
        refine xEvG_call xml xfetch (q := (none, m12)) rfl (hReader_takeWord a0 (if v6 = 0 then 9 else 8 : Int) m5 _ e_) ?_
        show xEv (263, 70, [some (9, a0), some (0, v3), some (0, v5), some (0, v6)], [], m12) _
        refine xEvG_n xml xfetch 1 (y := (263, 71, [some (9, a0), some (0, v3), some (0, v5), some (0, v6)], [(9, a0)], m12)) rfl trivial ?_
        obtain ⟨m13, e_, h⟩ := xB_t h
        refine xEvG_call xml xfetch (q := (none, m13)) rfl (hReader_takeSign a0 m12 _ e_) ?_
        show xEv (263, 74, [some (9, a0), some (0, v3), some (0, v5), some (0, v6)], [], m13) _
        refine xEvG_n xml xfetch 3 (y := (263, if (m13 a0 7) = 0 then 81 else 105, [some (9, a0), some (0, v3), some (0, v5), some (0, v6)], [], m13)) rfl trivial ?_
        refine xEvG_br xml xfetch (fun c_ => ?_) (fun c_ => ?_)
        · have h := xif_t c_ h
          have a0_ := (xA_t h).1
          have h := (xA_t h).2
          refine xEvG_n xml xfetch 12 (y := (263, 105, [some (9, a0), some (0, v3), some (0, v5), some (0, v6)], [], (xwr (xwr (xwr m13 (a0 + 3) 0 v3) (a0 + 3) 1 v5) (a0 + 3) 3 v6))) rfl ⟨a0_, trivial⟩ ?_
          cases h
          exact xEvG_ret xml xfetch rfl
        · have h := xif_f c_ h
          cases h
          exact xEvG_ret xml xfetch rfl
      refine xEvG_n xml xfetch 1 (y := (263, if v6 = 0 then 65 else 60, [some (9, a0), some (0, v3), some (0, v5), some (0, v6)], [(9, a0)], m5)) rfl trivial ?_
      refine xEvG_br xml xfetch (fun c6_ => ?_) (fun c6_ => ?_)
      · refine xEvG_n xml xfetch 1 (y := (263, 67, [some (9, a0), some (0, v3), some (0, v5), some (0, v6)], [(54, 9), (9, a0)], m5)) rfl trivial ?_
        try simp only [if_pos c6_] at key_
        try simp only [if_pos c6_]
        exact key_
      · refine xEvG_n xml xfetch 2 (y := (263, 67, [some (9, a0), some (0, v3), some (0, v5), some (0, v6)], [(54, 8), (9, a0)], m5)) rfl trivial ?_
        try simp only [if_neg c6_] at key_
        try simp only [if_neg c6_]
        exact key_

/-- ConsentDoors$Reader.readPlan()V -/
def fReader_readPlan (a0 : Int) (M : xM) : Option xM := xB (fReader_takeWord a0 4 M) (fun m1 => xB (fReader_takeNumber a0 0 (xw32 ((m1 (a0 + 3) 1) - 1)) m1) (fun q_ => match q_ with | (v2, m2) => xB (fReader_takeNumber a0 0 (xw32 ((m2 (a0 + 3) 0) - 1)) m2) (fun q_ => match q_ with | (v3, m3) => xB (fReader_takeSign a0 m3) (fun m4 => if (m4 a0 7) = 0 then (xA (0 ≤ v2 ∧ v2 < 24) (some (xwr m4 ((a0 + 3) + 10) v2 v3))) else (some m4)))))
theorem hReader_readPlan (a0 : Int) (M : xM) (r : xM) (h : fReader_readPlan a0 M = some r) : xEv (268, 0, [some (9, a0), none, none], [], M) (none, r) := by
  unfold fReader_readPlan at h
  refine xEvG_n xml xfetch 2 (y := (268, 3, [some (9, a0), none, none], [(54, 4), (9, a0)], M)) rfl trivial ?_
  obtain ⟨m1, e_, h⟩ := xB_t h
  refine xEvG_call xml xfetch (q := (none, m1)) rfl (hReader_takeWord a0 4 M _ e_) ?_
  show xEv (268, 6, [some (9, a0), none, none], [], m1) _
  refine xEvG_n xml xfetch 7 (y := (268, 17, [some (9, a0), none, none], [(0, (xw32 ((m1 (a0 + 3) 1) - 1))), (0, 0), (9, a0)], m1)) rfl trivial ?_
  obtain ⟨⟨v2, m2⟩, e_, h⟩ := xB_t h
  refine xEvG_call xml xfetch (q := (some (0, v2), m2)) rfl (hReader_takeNumber a0 0 (xw32 ((m1 (a0 + 3) 1) - 1)) m1 _ e_) ?_
  show xEv (268, 20, [some (9, a0), none, none], [(0, v2)], m2) _
  refine xEvG_n xml xfetch 8 (y := (268, 32, [some (9, a0), some (0, v2), none], [(0, (xw32 ((m2 (a0 + 3) 0) - 1))), (0, 0), (9, a0)], m2)) rfl trivial ?_
  obtain ⟨⟨v3, m3⟩, e_, h⟩ := xB_t h
  refine xEvG_call xml xfetch (q := (some (0, v3), m3)) rfl (hReader_takeNumber a0 0 (xw32 ((m2 (a0 + 3) 0) - 1)) m2 _ e_) ?_
  show xEv (268, 35, [some (9, a0), some (0, v2), none], [(0, v3)], m3) _
  refine xEvG_n xml xfetch 2 (y := (268, 37, [some (9, a0), some (0, v2), some (0, v3)], [(9, a0)], m3)) rfl trivial ?_
  obtain ⟨m4, e_, h⟩ := xB_t h
  refine xEvG_call xml xfetch (q := (none, m4)) rfl (hReader_takeSign a0 m3 _ e_) ?_
  show xEv (268, 40, [some (9, a0), some (0, v2), some (0, v3)], [], m4) _
  refine xEvG_n xml xfetch 3 (y := (268, if (m4 a0 7) = 0 then 47 else 57, [some (9, a0), some (0, v2), some (0, v3)], [], m4)) rfl trivial ?_
  refine xEvG_br xml xfetch (fun c_ => ?_) (fun c_ => ?_)
  · have h := xif_t c_ h
    have a0_ := (xA_t h).1
    have h := (xA_t h).2
    refine xEvG_n xml xfetch 6 (y := (268, 57, [some (9, a0), some (0, v2), some (0, v3)], [], (xwr m4 ((a0 + 3) + 10) v2 v3))) rfl ⟨a0_, trivial⟩ ?_
    cases h
    exact xEvG_ret xml xfetch rfl
  · have h := xif_f c_ h
    cases h
    exact xEvG_ret xml xfetch rfl

/-- ConsentDoors$Prison.neighbour(II)I -/
def fPrison_neighbour (a0 a1 a2 : Int) (M : xM) : Int := if (if a2 = 0 then (xw32 (a1 - 1)) else (xw32 (a1 + 1)) : Int) < 0 then (if (M a0 3) = 0 then ((-1)) else ((if a2 = 0 then (xw32 ((M a0 0) - 1)) else 0 : Int))) else (if (if a2 = 0 then (xw32 (a1 - 1)) else (xw32 (a1 + 1)) : Int) < (M a0 0) then ((if a2 = 0 then (xw32 (a1 - 1)) else (xw32 (a1 + 1)) : Int)) else (if (M a0 3) = 0 then ((-1)) else ((if a2 = 0 then (xw32 ((M a0 0) - 1)) else 0 : Int))))
theorem hPrison_neighbour (a0 a1 a2 : Int) (M : xM) (r : Int) (h : fPrison_neighbour a0 a1 a2 M = r) : xEv (250, 0, [some (8, a0), some (0, a1), some (0, a2), none], [], M) (some (0, r), M) := by
  unfold fPrison_neighbour at h
  refine xEvG_n xml xfetch 1 (y := (250, 1, [some (8, a0), some (0, a1), some (0, a2), none], [(0, a2)], M)) rfl trivial ?_
  have key_ : xEv (250, 13, [some (8, a0), some (0, a1), some (0, a2), none], [(0, (if a2 = 0 then (xw32 (a1 - 1)) else (xw32 (a1 + 1)) : Int))], M) (some (0, r), M) := by
    refine xEvG_n xml xfetch 3 (y := (250, if (if a2 = 0 then (xw32 (a1 - 1)) else (xw32 (a1 + 1)) : Int) < 0 then 28 else 18, [some (8, a0), some (0, a1), some (0, a2), some (0, (if a2 = 0 then (xw32 (a1 - 1)) else (xw32 (a1 + 1)) : Int))], [], M)) rfl trivial ?_
    refine xEvG_br xml xfetch (fun c_ => ?_) (fun c_ => ?_)
    · have h := xif_t c_ h
      refine xEvG_n xml xfetch 3 (y := (250, if (M a0 3) = 0 then 35 else 37, [some (8, a0), some (0, a1), some (0, a2), some (0, (if a2 = 0 then (xw32 (a1 - 1)) else (xw32 (a1 + 1)) : Int))], [], M)) rfl trivial ?_
      refine xEvG_br xml xfetch (fun c_ => ?_) (fun c_ => ?_)
      · have h := xif_t c_ h
        refine xEvG_n xml xfetch 1 (y := (250, 36, [some (8, a0), some (0, a1), some (0, a2), some (0, (if a2 = 0 then (xw32 (a1 - 1)) else (xw32 (a1 + 1)) : Int))], [(0, (-1))], M)) rfl trivial ?_
        subst h
        exact xEvG_ret xml xfetch rfl
      · have h := xif_f c_ h
        refine xEvG_n xml xfetch 1 (y := (250, 38, [some (8, a0), some (0, a1), some (0, a2), some (0, (if a2 = 0 then (xw32 (a1 - 1)) else (xw32 (a1 + 1)) : Int))], [(0, a2)], M)) rfl trivial ?_
        have key_ : xEv (250, 51, [some (8, a0), some (0, a1), some (0, a2), some (0, (if a2 = 0 then (xw32 (a1 - 1)) else (xw32 (a1 + 1)) : Int))], [(0, (if a2 = 0 then (xw32 ((M a0 0) - 1)) else 0 : Int))], M) (some (0, r), M) := by
          subst h
          exact xEvG_ret xml xfetch rfl
        refine xEvG_n xml xfetch 1 (y := (250, if a2 = 0 then 41 else 50, [some (8, a0), some (0, a1), some (0, a2), some (0, (if a2 = 0 then (xw32 (a1 - 1)) else (xw32 (a1 + 1)) : Int))], [], M)) rfl trivial ?_
        refine xEvG_br xml xfetch (fun c8_ => ?_) (fun c8_ => ?_)
        · refine xEvG_n xml xfetch 5 (y := (250, 51, [some (8, a0), some (0, a1), some (0, a2), some (0, (if a2 = 0 then (xw32 (a1 - 1)) else (xw32 (a1 + 1)) : Int))], [(0, (xw32 ((M a0 0) - 1)))], M)) rfl trivial ?_
          try simp only [if_pos c8_] at key_
          try simp only [if_pos c8_]
          exact key_
        · refine xEvG_n xml xfetch 1 (y := (250, 51, [some (8, a0), some (0, a1), some (0, a2), some (0, (if a2 = 0 then (xw32 (a1 - 1)) else (xw32 (a1 + 1)) : Int))], [(0, 0)], M)) rfl trivial ?_
          try simp only [if_neg c8_] at key_
          try simp only [if_neg c8_]
          exact key_
    · have h := xif_f c_ h
      refine xEvG_n xml xfetch 4 (y := (250, if (if a2 = 0 then (xw32 (a1 - 1)) else (xw32 (a1 + 1)) : Int) < (M a0 0) then 26 else 28, [some (8, a0), some (0, a1), some (0, a2), some (0, (if a2 = 0 then (xw32 (a1 - 1)) else (xw32 (a1 + 1)) : Int))], [], M)) rfl trivial ?_
      refine xEvG_br xml xfetch (fun c_ => ?_) (fun c_ => ?_)
      · have h := xif_t c_ h
        refine xEvG_n xml xfetch 1 (y := (250, 27, [some (8, a0), some (0, a1), some (0, a2), some (0, (if a2 = 0 then (xw32 (a1 - 1)) else (xw32 (a1 + 1)) : Int))], [(0, (if a2 = 0 then (xw32 (a1 - 1)) else (xw32 (a1 + 1)) : Int))], M)) rfl trivial ?_
        subst h
        exact xEvG_ret xml xfetch rfl
      · have h := xif_f c_ h
        refine xEvG_n xml xfetch 3 (y := (250, if (M a0 3) = 0 then 35 else 37, [some (8, a0), some (0, a1), some (0, a2), some (0, (if a2 = 0 then (xw32 (a1 - 1)) else (xw32 (a1 + 1)) : Int))], [], M)) rfl trivial ?_
        refine xEvG_br xml xfetch (fun c_ => ?_) (fun c_ => ?_)
        · have h := xif_t c_ h
          refine xEvG_n xml xfetch 1 (y := (250, 36, [some (8, a0), some (0, a1), some (0, a2), some (0, (if a2 = 0 then (xw32 (a1 - 1)) else (xw32 (a1 + 1)) : Int))], [(0, (-1))], M)) rfl trivial ?_
          subst h
          exact xEvG_ret xml xfetch rfl
        · have h := xif_f c_ h
          refine xEvG_n xml xfetch 1 (y := (250, 38, [some (8, a0), some (0, a1), some (0, a2), some (0, (if a2 = 0 then (xw32 (a1 - 1)) else (xw32 (a1 + 1)) : Int))], [(0, a2)], M)) rfl trivial ?_
          have key_ : xEv (250, 51, [some (8, a0), some (0, a1), some (0, a2), some (0, (if a2 = 0 then (xw32 (a1 - 1)) else (xw32 (a1 + 1)) : Int))], [(0, (if a2 = 0 then (xw32 ((M a0 0) - 1)) else 0 : Int))], M) (some (0, r), M) := by
            subst h
            exact xEvG_ret xml xfetch rfl
          refine xEvG_n xml xfetch 1 (y := (250, if a2 = 0 then 41 else 50, [some (8, a0), some (0, a1), some (0, a2), some (0, (if a2 = 0 then (xw32 (a1 - 1)) else (xw32 (a1 + 1)) : Int))], [], M)) rfl trivial ?_
          refine xEvG_br xml xfetch (fun c10_ => ?_) (fun c10_ => ?_)
          · refine xEvG_n xml xfetch 5 (y := (250, 51, [some (8, a0), some (0, a1), some (0, a2), some (0, (if a2 = 0 then (xw32 (a1 - 1)) else (xw32 (a1 + 1)) : Int))], [(0, (xw32 ((M a0 0) - 1)))], M)) rfl trivial ?_
            try simp only [if_pos c10_] at key_
            try simp only [if_pos c10_]
            exact key_
          · refine xEvG_n xml xfetch 1 (y := (250, 51, [some (8, a0), some (0, a1), some (0, a2), some (0, (if a2 = 0 then (xw32 (a1 - 1)) else (xw32 (a1 + 1)) : Int))], [(0, 0)], M)) rfl trivial ?_
            try simp only [if_neg c10_] at key_
            try simp only [if_neg c10_]
            exact key_
  refine xEvG_n xml xfetch 1 (y := (250, if a2 = 0 then 4 else 10, [some (8, a0), some (0, a1), some (0, a2), none], [], M)) rfl trivial ?_
  refine xEvG_br xml xfetch (fun c2_ => ?_) (fun c2_ => ?_)
  · refine xEvG_n xml xfetch 4 (y := (250, 13, [some (8, a0), some (0, a1), some (0, a2), none], [(0, (xw32 (a1 - 1)))], M)) rfl trivial ?_
    try simp only [if_pos c2_] at key_
    try simp only [if_pos c2_]
    exact key_
  · refine xEvG_n xml xfetch 3 (y := (250, 13, [some (8, a0), some (0, a1), some (0, a2), none], [(0, (xw32 (a1 + 1)))], M)) rfl trivial ?_
    try simp only [if_neg c2_] at key_
    try simp only [if_neg c2_]
    exact key_

/-- ConsentDoors$Prison.addSoup(III)V -/
def fPrison_addSoup (a0 a1 a2 a3 : Int) (M : xM) : Option xM := if 8 < (M a0 7) then (some M) else (xA (0 ≤ (M a0 7) ∧ (M a0 7) < 9) (xA (0 ≤ ((xwr M (a0 + 7) (M a0 7) a1) a0 7) ∧ ((xwr M (a0 + 7) (M a0 7) a1) a0 7) < 9) (xA (0 ≤ ((xwr (xwr M (a0 + 7) (M a0 7) a1) (a0 + 8) ((xwr M (a0 + 7) (M a0 7) a1) a0 7) a2) a0 7) ∧ ((xwr (xwr M (a0 + 7) (M a0 7) a1) (a0 + 8) ((xwr M (a0 + 7) (M a0 7) a1) a0 7) a2) a0 7) < 9) (some (xwr (xwr (xwr (xwr M (a0 + 7) (M a0 7) a1) (a0 + 8) ((xwr M (a0 + 7) (M a0 7) a1) a0 7) a2) (a0 + 9) ((xwr (xwr M (a0 + 7) (M a0 7) a1) (a0 + 8) ((xwr M (a0 + 7) (M a0 7) a1) a0 7) a2) a0 7) a3) a0 7 (xw32 (((xwr (xwr (xwr M (a0 + 7) (M a0 7) a1) (a0 + 8) ((xwr M (a0 + 7) (M a0 7) a1) a0 7) a2) (a0 + 9) ((xwr (xwr M (a0 + 7) (M a0 7) a1) (a0 + 8) ((xwr M (a0 + 7) (M a0 7) a1) a0 7) a2) a0 7) a3) a0 7) + 1)))))))
theorem hPrison_addSoup (a0 a1 a2 a3 : Int) (M : xM) (r : xM) (h : fPrison_addSoup a0 a1 a2 a3 M = some r) : xEv (254, 0, [some (8, a0), some (0, a1), some (0, a2), some (0, a3)], [], M) (none, r) := by
  unfold fPrison_addSoup at h
  refine xEvG_n xml xfetch 4 (y := (254, if 8 < (M a0 7) then 9 else 10, [some (8, a0), some (0, a1), some (0, a2), some (0, a3)], [], M)) rfl trivial ?_
  refine xEvG_br xml xfetch (fun c_ => ?_) (fun c_ => ?_)
  · have h := xif_t c_ h
    cases h
    exact xEvG_ret xml xfetch rfl
  · have h := xif_f c_ h
    have a0_ := (xA_t h).1
    have h := (xA_t h).2
    have a1_ := (xA_t h).1
    have h := (xA_t h).2
    have a2_ := (xA_t h).1
    have h := (xA_t h).2
    refine xEvG_n xml xfetch 24 (y := (254, 50, [some (8, a0), some (0, a1), some (0, a2), some (0, a3)], [], (xwr (xwr (xwr (xwr M (a0 + 7) (M a0 7) a1) (a0 + 8) ((xwr M (a0 + 7) (M a0 7) a1) a0 7) a2) (a0 + 9) ((xwr (xwr M (a0 + 7) (M a0 7) a1) (a0 + 8) ((xwr M (a0 + 7) (M a0 7) a1) a0 7) a2) a0 7) a3) a0 7 (xw32 (((xwr (xwr (xwr M (a0 + 7) (M a0 7) a1) (a0 + 8) ((xwr M (a0 + 7) (M a0 7) a1) a0 7) a2) (a0 + 9) ((xwr (xwr M (a0 + 7) (M a0 7) a1) (a0 + 8) ((xwr M (a0 + 7) (M a0 7) a1) a0 7) a2) a0 7) a3) a0 7) + 1))))) rfl ⟨a0_, a1_, a2_, trivial⟩ ?_
    cases h
    exact xEvG_ret xml xfetch rfl

def fReader_readSoup_L82 (x0 x1 x2 y0 : Int) (M : xM) : Option xM := if (M x0 7) = 0 then (if y0 = 0 then (xB (fReader_takeWord x0 (if x2 = 0 then 11 else 12 : Int) M) (fun m34 => xB (fReader_takeNumber x0 1 9 m34) (fun q_ => match q_ with | (v35, m35) => xB (fReader_takeWord x0 17 m35) (fun m36 => xB (fReader_takeNumber x0 0 (xw32 ((m36 (x0 + 3) 1) - 1)) m36) (fun q_ => match q_ with | (v37, m37) => xB (fReader_takeSign x0 m37) (fun m38 => if (m38 x0 7) = 0 then (xB (fPrison_addSoup (x0 + 3) (xw32 ((xw32 ((xw32 (2 * (fPrison_neighbour (x0 + 3) x1 x2 M))) + 1)) - x2)) v35 v37 m38) (fun m39 => some m39)) else (some m38))))))) else (if (fPrison_neighbour (x0 + 3) x1 x2 M) = (-1) then (xB (fReader_takeWord x0 (if x2 = 0 then 11 else 12 : Int) (fReader_fail x0 2 M)) (fun m41 => xB (fReader_takeNumber x0 1 9 m41) (fun q_ => match q_ with | (v42, m42) => xB (fReader_takeWord x0 17 m42) (fun m43 => xB (fReader_takeNumber x0 0 (xw32 ((m43 (x0 + 3) 1) - 1)) m43) (fun q_ => match q_ with | (v44, m44) => xB (fReader_takeSign x0 m44) (fun m45 => if (m45 x0 7) = 0 then (xB (fPrison_addSoup (x0 + 3) (xw32 ((xw32 ((xw32 (2 * (fPrison_neighbour (x0 + 3) x1 x2 M))) + 1)) - x2)) v42 v44 m45) (fun m46 => some m46)) else (some m45))))))) else (xB (fReader_takeWord x0 (if x2 = 0 then 11 else 12 : Int) M) (fun m47 => xB (fReader_takeNumber x0 1 9 m47) (fun q_ => match q_ with | (v48, m48) => xB (fReader_takeWord x0 17 m48) (fun m49 => xB (fReader_takeNumber x0 0 (xw32 ((m49 (x0 + 3) 1) - 1)) m49) (fun q_ => match q_ with | (v50, m50) => xB (fReader_takeSign x0 m50) (fun m51 => if (m51 x0 7) = 0 then (xB (fPrison_addSoup (x0 + 3) (xw32 ((xw32 ((xw32 (2 * (fPrison_neighbour (x0 + 3) x1 x2 M))) + 1)) - x2)) v48 v50 m51) (fun m52 => some m52)) else (some m51))))))))) else (xB (fReader_takeWord x0 (if x2 = 0 then 11 else 12 : Int) M) (fun m53 => xB (fReader_takeNumber x0 1 9 m53) (fun q_ => match q_ with | (v54, m54) => xB (fReader_takeWord x0 17 m54) (fun m55 => xB (fReader_takeNumber x0 0 (xw32 ((m55 (x0 + 3) 1) - 1)) m55) (fun q_ => match q_ with | (v56, m56) => xB (fReader_takeSign x0 m56) (fun m57 => if (m57 x0 7) = 0 then (xB (fPrison_addSoup (x0 + 3) (xw32 ((xw32 ((xw32 (2 * (fPrison_neighbour (x0 + 3) x1 x2 M))) + 1)) - x2)) v54 v56 m57) (fun m58 => some m58)) else (some m57)))))))
theorem hReader_readSoup_L82 (x0 x1 x2 y0 : Int) (M : xM) (r : xM) (h : fReader_readSoup_L82 x0 x1 x2 y0 M = some r) : xEv (267, 82, [some (9, x0), some (0, x1), some (0, x2), none, none, none, none], [(0, y0)], M) (none, r) := by
  unfold fReader_readSoup_L82 at h
  refine xEvG_n xml xfetch 5 (y := (267, 89, [some (9, x0), some (0, x1), some (0, x2), some (0, y0), none, none, none], [(0, x2), (0, x1), (8, (x0 + 3))], M)) rfl trivial ?_
  refine xEvG_call xml xfetch (q := (some (0, fPrison_neighbour (x0 + 3) x1 x2 M), M)) rfl (hPrison_neighbour (x0 + 3) x1 x2 M _ rfl) ?_
  show xEv (267, 92, [some (9, x0), some (0, x1), some (0, x2), some (0, y0), none, none, none], [(0, (fPrison_neighbour (x0 + 3) x1 x2 M))], M) _
  refine xEvG_n xml xfetch 4 (y := (267, if (M x0 7) = 0 then 101 else 116, [some (9, x0), some (0, x1), some (0, x2), some (0, y0), some (0, (fPrison_neighbour (x0 + 3) x1 x2 M)), none, none], [], M)) rfl trivial ?_
  refine xEvG_br xml xfetch (fun c_ => ?_) (fun c_ => ?_)
  · have h := xif_t c_ h
    refine xEvG_n xml xfetch 2 (y := (267, if y0 = 0 then 116 else 105, [some (9, x0), some (0, x1), some (0, x2), some (0, y0), some (0, (fPrison_neighbour (x0 + 3) x1 x2 M)), none, none], [], M)) rfl trivial ?_
    refine xEvG_br xml xfetch (fun c_ => ?_) (fun c_ => ?_)
    · have h := xif_t c_ h
      refine xEvG_n xml xfetch 2 (y := (267, 118, [some (9, x0), some (0, x1), some (0, x2), some (0, y0), some (0, (fPrison_neighbour (x0 + 3) x1 x2 M)), none, none], [(0, x2), (9, x0)], M)) rfl trivial ?_
      have key_ : xEv (267, 128, [some (9, x0), some (0, x1), some (0, x2), some (0, y0), some (0, (fPrison_neighbour (x0 + 3) x1 x2 M)), none, none], [(54, (if x2 = 0 then 11 else 12 : Int)), (9, x0)], M) (none, r) := by
        obtain ⟨m34, e_, h⟩ := xB_t h
        refine xEvG_call xml xfetch (q := (none, m34)) rfl (hReader_takeWord x0 (if x2 = 0 then 11 else 12 : Int) M _ e_) ?_
        show xEv (267, 131, [some (9, x0), some (0, x1), some (0, x2), some (0, y0), some (0, (fPrison_neighbour (x0 + 3) x1 x2 M)), none, none], [], m34) _
        refine xEvG_n xml xfetch 3 (y := (267, 135, [some (9, x0), some (0, x1), some (0, x2), some (0, y0), some (0, (fPrison_neighbour (x0 + 3) x1 x2 M)), none, none], [(0, 9), (0, 1), (9, x0)], m34)) rfl trivial ?_
        obtain ⟨⟨v35, m35⟩, e_, h⟩ := xB_t h
        refine xEvG_call xml xfetch (q := (some (0, v35), m35)) rfl (hReader_takeNumber x0 1 9 m34 _ e_) ?_
        show xEv (267, 138, [some (9, x0), some (0, x1), some (0, x2), some (0, y0), some (0, (fPrison_neighbour (x0 + 3) x1 x2 M)), none, none], [(0, v35)], m35) _
        refine xEvG_n xml xfetch 3 (y := (267, 143, [some (9, x0), some (0, x1), some (0, x2), some (0, y0), some (0, (fPrison_neighbour (x0 + 3) x1 x2 M)), some (0, v35), none], [(54, 17), (9, x0)], m35)) rfl trivial ?_
        obtain ⟨m36, e_, h⟩ := xB_t h
        refine xEvG_call xml xfetch (q := (none, m36)) rfl (hReader_takeWord x0 17 m35 _ e_) ?_
        show xEv (267, 146, [some (9, x0), some (0, x1), some (0, x2), some (0, y0), some (0, (fPrison_neighbour (x0 + 3) x1 x2 M)), some (0, v35), none], [], m36) _
        refine xEvG_n xml xfetch 7 (y := (267, 157, [some (9, x0), some (0, x1), some (0, x2), some (0, y0), some (0, (fPrison_neighbour (x0 + 3) x1 x2 M)), some (0, v35), none], [(0, (xw32 ((m36 (x0 + 3) 1) - 1))), (0, 0), (9, x0)], m36)) rfl trivial ?_
        obtain ⟨⟨v37, m37⟩, e_, h⟩ := xB_t h
        refine xEvG_call xml xfetch (q := (some (0, v37), m37)) rfl (hReader_takeNumber x0 0 (xw32 ((m36 (x0 + 3) 1) - 1)) m36 _ e_) ?_
        show xEv (267, 160, [some (9, x0), some (0, x1), some (0, x2), some (0, y0), some (0, (fPrison_neighbour (x0 + 3) x1 x2 M)), some (0, v35), none], [(0, v37)], m37) _
        refine xEvG_n xml xfetch 2 (y := (267, 163, [some (9, x0), some (0, x1), some (0, x2), some (0, y0), some (0, (fPrison_neighbour (x0 + 3) x1 x2 M)), some (0, v35), some (0, v37)], [(9, x0)], m37)) rfl trivial ?_
        obtain ⟨m38, e_, h⟩ := xB_t h
        refine xEvG_call xml xfetch (q := (none, m38)) rfl (hReader_takeSign x0 m37 _ e_) ?_
        show xEv (267, 166, [some (9, x0), some (0, x1), some (0, x2), some (0, y0), some (0, (fPrison_neighbour (x0 + 3) x1 x2 M)), some (0, v35), some (0, v37)], [], m38) _
        refine xEvG_n xml xfetch 3 (y := (267, if (m38 x0 7) = 0 then 173 else 192, [some (9, x0), some (0, x1), some (0, x2), some (0, y0), some (0, (fPrison_neighbour (x0 + 3) x1 x2 M)), some (0, v35), some (0, v37)], [], m38)) rfl trivial ?_
        refine xEvG_br xml xfetch (fun c_ => ?_) (fun c_ => ?_)
        · have h := xif_t c_ h
          refine xEvG_n xml xfetch 11 (y := (267, 189, [some (9, x0), some (0, x1), some (0, x2), some (0, y0), some (0, (fPrison_neighbour (x0 + 3) x1 x2 M)), some (0, v35), some (0, v37)], [(0, v37), (0, v35), (0, (xw32 ((xw32 ((xw32 (2 * (fPrison_neighbour (x0 + 3) x1 x2 M))) + 1)) - x2))), (8, (x0 + 3))], m38)) rfl trivial ?_
          obtain ⟨m39, e_, h⟩ := xB_t h
          refine xEvG_call xml xfetch (q := (none, m39)) rfl (hPrison_addSoup (x0 + 3) (xw32 ((xw32 ((xw32 (2 * (fPrison_neighbour (x0 + 3) x1 x2 M))) + 1)) - x2)) v35 v37 m38 _ e_) ?_
          show xEv (267, 192, [some (9, x0), some (0, x1), some (0, x2), some (0, y0), some (0, (fPrison_neighbour (x0 + 3) x1 x2 M)), some (0, v35), some (0, v37)], [], m39) _
          cases h
          exact xEvG_ret xml xfetch rfl
        · have h := xif_f c_ h
          cases h
          exact xEvG_ret xml xfetch rfl
      refine xEvG_n xml xfetch 1 (y := (267, if x2 = 0 then 121 else 126, [some (9, x0), some (0, x1), some (0, x2), some (0, y0), some (0, (fPrison_neighbour (x0 + 3) x1 x2 M)), none, none], [(9, x0)], M)) rfl trivial ?_
      refine xEvG_br xml xfetch (fun c6_ => ?_) (fun c6_ => ?_)
      · refine xEvG_n xml xfetch 2 (y := (267, 128, [some (9, x0), some (0, x1), some (0, x2), some (0, y0), some (0, (fPrison_neighbour (x0 + 3) x1 x2 M)), none, none], [(54, 11), (9, x0)], M)) rfl trivial ?_
        try simp only [if_pos c6_] at key_
        try simp only [if_pos c6_]
        exact key_
      · refine xEvG_n xml xfetch 1 (y := (267, 128, [some (9, x0), some (0, x1), some (0, x2), some (0, y0), some (0, (fPrison_neighbour (x0 + 3) x1 x2 M)), none, none], [(54, 12), (9, x0)], M)) rfl trivial ?_
        try simp only [if_neg c6_] at key_
        try simp only [if_neg c6_]
        exact key_
    · have h := xif_f c_ h
      refine xEvG_n xml xfetch 3 (y := (267, if (fPrison_neighbour (x0 + 3) x1 x2 M) = (-1) then 111 else 116, [some (9, x0), some (0, x1), some (0, x2), some (0, y0), some (0, (fPrison_neighbour (x0 + 3) x1 x2 M)), none, none], [], M)) rfl trivial ?_
      refine xEvG_br xml xfetch (fun c_ => ?_) (fun c_ => ?_)
      · have h := xif_t c_ h
        refine xEvG_n xml xfetch 2 (y := (267, 113, [some (9, x0), some (0, x1), some (0, x2), some (0, y0), some (0, (fPrison_neighbour (x0 + 3) x1 x2 M)), none, none], [(0, 2), (9, x0)], M)) rfl trivial ?_
        refine xEvG_call xml xfetch (q := (none, fReader_fail x0 2 M)) rfl (hReader_fail x0 2 M _ rfl) ?_
        show xEv (267, 116, [some (9, x0), some (0, x1), some (0, x2), some (0, y0), some (0, (fPrison_neighbour (x0 + 3) x1 x2 M)), none, none], [], (fReader_fail x0 2 M)) _
        refine xEvG_n xml xfetch 2 (y := (267, 118, [some (9, x0), some (0, x1), some (0, x2), some (0, y0), some (0, (fPrison_neighbour (x0 + 3) x1 x2 M)), none, none], [(0, x2), (9, x0)], (fReader_fail x0 2 M))) rfl trivial ?_
        have key_ : xEv (267, 128, [some (9, x0), some (0, x1), some (0, x2), some (0, y0), some (0, (fPrison_neighbour (x0 + 3) x1 x2 M)), none, none], [(54, (if x2 = 0 then 11 else 12 : Int)), (9, x0)], (fReader_fail x0 2 M)) (none, r) := by
          obtain ⟨m41, e_, h⟩ := xB_t h
          refine xEvG_call xml xfetch (q := (none, m41)) rfl (hReader_takeWord x0 (if x2 = 0 then 11 else 12 : Int) (fReader_fail x0 2 M) _ e_) ?_
          show xEv (267, 131, [some (9, x0), some (0, x1), some (0, x2), some (0, y0), some (0, (fPrison_neighbour (x0 + 3) x1 x2 M)), none, none], [], m41) _
          refine xEvG_n xml xfetch 3 (y := (267, 135, [some (9, x0), some (0, x1), some (0, x2), some (0, y0), some (0, (fPrison_neighbour (x0 + 3) x1 x2 M)), none, none], [(0, 9), (0, 1), (9, x0)], m41)) rfl trivial ?_
          obtain ⟨⟨v42, m42⟩, e_, h⟩ := xB_t h
          refine xEvG_call xml xfetch (q := (some (0, v42), m42)) rfl (hReader_takeNumber x0 1 9 m41 _ e_) ?_
          show xEv (267, 138, [some (9, x0), some (0, x1), some (0, x2), some (0, y0), some (0, (fPrison_neighbour (x0 + 3) x1 x2 M)), none, none], [(0, v42)], m42) _
          refine xEvG_n xml xfetch 3 (y := (267, 143, [some (9, x0), some (0, x1), some (0, x2), some (0, y0), some (0, (fPrison_neighbour (x0 + 3) x1 x2 M)), some (0, v42), none], [(54, 17), (9, x0)], m42)) rfl trivial ?_
          obtain ⟨m43, e_, h⟩ := xB_t h
          refine xEvG_call xml xfetch (q := (none, m43)) rfl (hReader_takeWord x0 17 m42 _ e_) ?_
          show xEv (267, 146, [some (9, x0), some (0, x1), some (0, x2), some (0, y0), some (0, (fPrison_neighbour (x0 + 3) x1 x2 M)), some (0, v42), none], [], m43) _
          refine xEvG_n xml xfetch 7 (y := (267, 157, [some (9, x0), some (0, x1), some (0, x2), some (0, y0), some (0, (fPrison_neighbour (x0 + 3) x1 x2 M)), some (0, v42), none], [(0, (xw32 ((m43 (x0 + 3) 1) - 1))), (0, 0), (9, x0)], m43)) rfl trivial ?_
          obtain ⟨⟨v44, m44⟩, e_, h⟩ := xB_t h
          refine xEvG_call xml xfetch (q := (some (0, v44), m44)) rfl (hReader_takeNumber x0 0 (xw32 ((m43 (x0 + 3) 1) - 1)) m43 _ e_) ?_
          show xEv (267, 160, [some (9, x0), some (0, x1), some (0, x2), some (0, y0), some (0, (fPrison_neighbour (x0 + 3) x1 x2 M)), some (0, v42), none], [(0, v44)], m44) _
          refine xEvG_n xml xfetch 2 (y := (267, 163, [some (9, x0), some (0, x1), some (0, x2), some (0, y0), some (0, (fPrison_neighbour (x0 + 3) x1 x2 M)), some (0, v42), some (0, v44)], [(9, x0)], m44)) rfl trivial ?_
          obtain ⟨m45, e_, h⟩ := xB_t h
          refine xEvG_call xml xfetch (q := (none, m45)) rfl (hReader_takeSign x0 m44 _ e_) ?_
          show xEv (267, 166, [some (9, x0), some (0, x1), some (0, x2), some (0, y0), some (0, (fPrison_neighbour (x0 + 3) x1 x2 M)), some (0, v42), some (0, v44)], [], m45) _
          refine xEvG_n xml xfetch 3 (y := (267, if (m45 x0 7) = 0 then 173 else 192, [some (9, x0), some (0, x1), some (0, x2), some (0, y0), some (0, (fPrison_neighbour (x0 + 3) x1 x2 M)), some (0, v42), some (0, v44)], [], m45)) rfl trivial ?_
          refine xEvG_br xml xfetch (fun c_ => ?_) (fun c_ => ?_)
          · have h := xif_t c_ h
            refine xEvG_n xml xfetch 11 (y := (267, 189, [some (9, x0), some (0, x1), some (0, x2), some (0, y0), some (0, (fPrison_neighbour (x0 + 3) x1 x2 M)), some (0, v42), some (0, v44)], [(0, v44), (0, v42), (0, (xw32 ((xw32 ((xw32 (2 * (fPrison_neighbour (x0 + 3) x1 x2 M))) + 1)) - x2))), (8, (x0 + 3))], m45)) rfl trivial ?_
            obtain ⟨m46, e_, h⟩ := xB_t h
            refine xEvG_call xml xfetch (q := (none, m46)) rfl (hPrison_addSoup (x0 + 3) (xw32 ((xw32 ((xw32 (2 * (fPrison_neighbour (x0 + 3) x1 x2 M))) + 1)) - x2)) v42 v44 m45 _ e_) ?_
            show xEv (267, 192, [some (9, x0), some (0, x1), some (0, x2), some (0, y0), some (0, (fPrison_neighbour (x0 + 3) x1 x2 M)), some (0, v42), some (0, v44)], [], m46) _
            cases h
            exact xEvG_ret xml xfetch rfl
          · have h := xif_f c_ h
            cases h
            exact xEvG_ret xml xfetch rfl
        refine xEvG_n xml xfetch 1 (y := (267, if x2 = 0 then 121 else 126, [some (9, x0), some (0, x1), some (0, x2), some (0, y0), some (0, (fPrison_neighbour (x0 + 3) x1 x2 M)), none, none], [(9, x0)], (fReader_fail x0 2 M))) rfl trivial ?_
        refine xEvG_br xml xfetch (fun c8_ => ?_) (fun c8_ => ?_)
        · refine xEvG_n xml xfetch 2 (y := (267, 128, [some (9, x0), some (0, x1), some (0, x2), some (0, y0), some (0, (fPrison_neighbour (x0 + 3) x1 x2 M)), none, none], [(54, 11), (9, x0)], (fReader_fail x0 2 M))) rfl trivial ?_
          try simp only [if_pos c8_] at key_
          try simp only [if_pos c8_]
          exact key_
        · refine xEvG_n xml xfetch 1 (y := (267, 128, [some (9, x0), some (0, x1), some (0, x2), some (0, y0), some (0, (fPrison_neighbour (x0 + 3) x1 x2 M)), none, none], [(54, 12), (9, x0)], (fReader_fail x0 2 M))) rfl trivial ?_
          try simp only [if_neg c8_] at key_
          try simp only [if_neg c8_]
          exact key_
      · have h := xif_f c_ h
        refine xEvG_n xml xfetch 2 (y := (267, 118, [some (9, x0), some (0, x1), some (0, x2), some (0, y0), some (0, (fPrison_neighbour (x0 + 3) x1 x2 M)), none, none], [(0, x2), (9, x0)], M)) rfl trivial ?_
        have key_ : xEv (267, 128, [some (9, x0), some (0, x1), some (0, x2), some (0, y0), some (0, (fPrison_neighbour (x0 + 3) x1 x2 M)), none, none], [(54, (if x2 = 0 then 11 else 12 : Int)), (9, x0)], M) (none, r) := by
          obtain ⟨m47, e_, h⟩ := xB_t h
          refine xEvG_call xml xfetch (q := (none, m47)) rfl (hReader_takeWord x0 (if x2 = 0 then 11 else 12 : Int) M _ e_) ?_
          show xEv (267, 131, [some (9, x0), some (0, x1), some (0, x2), some (0, y0), some (0, (fPrison_neighbour (x0 + 3) x1 x2 M)), none, none], [], m47) _
          refine xEvG_n xml xfetch 3 (y := (267, 135, [some (9, x0), some (0, x1), some (0, x2), some (0, y0), some (0, (fPrison_neighbour (x0 + 3) x1 x2 M)), none, none], [(0, 9), (0, 1), (9, x0)], m47)) rfl trivial ?_
          obtain ⟨⟨v48, m48⟩, e_, h⟩ := xB_t h
          refine xEvG_call xml xfetch (q := (some (0, v48), m48)) rfl (hReader_takeNumber x0 1 9 m47 _ e_) ?_
          show xEv (267, 138, [some (9, x0), some (0, x1), some (0, x2), some (0, y0), some (0, (fPrison_neighbour (x0 + 3) x1 x2 M)), none, none], [(0, v48)], m48) _
          refine xEvG_n xml xfetch 3 (y := (267, 143, [some (9, x0), some (0, x1), some (0, x2), some (0, y0), some (0, (fPrison_neighbour (x0 + 3) x1 x2 M)), some (0, v48), none], [(54, 17), (9, x0)], m48)) rfl trivial ?_
          obtain ⟨m49, e_, h⟩ := xB_t h
          refine xEvG_call xml xfetch (q := (none, m49)) rfl (hReader_takeWord x0 17 m48 _ e_) ?_
          show xEv (267, 146, [some (9, x0), some (0, x1), some (0, x2), some (0, y0), some (0, (fPrison_neighbour (x0 + 3) x1 x2 M)), some (0, v48), none], [], m49) _
          refine xEvG_n xml xfetch 7 (y := (267, 157, [some (9, x0), some (0, x1), some (0, x2), some (0, y0), some (0, (fPrison_neighbour (x0 + 3) x1 x2 M)), some (0, v48), none], [(0, (xw32 ((m49 (x0 + 3) 1) - 1))), (0, 0), (9, x0)], m49)) rfl trivial ?_
          obtain ⟨⟨v50, m50⟩, e_, h⟩ := xB_t h
          refine xEvG_call xml xfetch (q := (some (0, v50), m50)) rfl (hReader_takeNumber x0 0 (xw32 ((m49 (x0 + 3) 1) - 1)) m49 _ e_) ?_
          show xEv (267, 160, [some (9, x0), some (0, x1), some (0, x2), some (0, y0), some (0, (fPrison_neighbour (x0 + 3) x1 x2 M)), some (0, v48), none], [(0, v50)], m50) _
          refine xEvG_n xml xfetch 2 (y := (267, 163, [some (9, x0), some (0, x1), some (0, x2), some (0, y0), some (0, (fPrison_neighbour (x0 + 3) x1 x2 M)), some (0, v48), some (0, v50)], [(9, x0)], m50)) rfl trivial ?_
          obtain ⟨m51, e_, h⟩ := xB_t h
          refine xEvG_call xml xfetch (q := (none, m51)) rfl (hReader_takeSign x0 m50 _ e_) ?_
          show xEv (267, 166, [some (9, x0), some (0, x1), some (0, x2), some (0, y0), some (0, (fPrison_neighbour (x0 + 3) x1 x2 M)), some (0, v48), some (0, v50)], [], m51) _
          refine xEvG_n xml xfetch 3 (y := (267, if (m51 x0 7) = 0 then 173 else 192, [some (9, x0), some (0, x1), some (0, x2), some (0, y0), some (0, (fPrison_neighbour (x0 + 3) x1 x2 M)), some (0, v48), some (0, v50)], [], m51)) rfl trivial ?_
          refine xEvG_br xml xfetch (fun c_ => ?_) (fun c_ => ?_)
          · have h := xif_t c_ h
            refine xEvG_n xml xfetch 11 (y := (267, 189, [some (9, x0), some (0, x1), some (0, x2), some (0, y0), some (0, (fPrison_neighbour (x0 + 3) x1 x2 M)), some (0, v48), some (0, v50)], [(0, v50), (0, v48), (0, (xw32 ((xw32 ((xw32 (2 * (fPrison_neighbour (x0 + 3) x1 x2 M))) + 1)) - x2))), (8, (x0 + 3))], m51)) rfl trivial ?_
            obtain ⟨m52, e_, h⟩ := xB_t h
            refine xEvG_call xml xfetch (q := (none, m52)) rfl (hPrison_addSoup (x0 + 3) (xw32 ((xw32 ((xw32 (2 * (fPrison_neighbour (x0 + 3) x1 x2 M))) + 1)) - x2)) v48 v50 m51 _ e_) ?_
            show xEv (267, 192, [some (9, x0), some (0, x1), some (0, x2), some (0, y0), some (0, (fPrison_neighbour (x0 + 3) x1 x2 M)), some (0, v48), some (0, v50)], [], m52) _
            cases h
            exact xEvG_ret xml xfetch rfl
          · have h := xif_f c_ h
            cases h
            exact xEvG_ret xml xfetch rfl
        refine xEvG_n xml xfetch 1 (y := (267, if x2 = 0 then 121 else 126, [some (9, x0), some (0, x1), some (0, x2), some (0, y0), some (0, (fPrison_neighbour (x0 + 3) x1 x2 M)), none, none], [(9, x0)], M)) rfl trivial ?_
        refine xEvG_br xml xfetch (fun c8_ => ?_) (fun c8_ => ?_)
        · refine xEvG_n xml xfetch 2 (y := (267, 128, [some (9, x0), some (0, x1), some (0, x2), some (0, y0), some (0, (fPrison_neighbour (x0 + 3) x1 x2 M)), none, none], [(54, 11), (9, x0)], M)) rfl trivial ?_
          try simp only [if_pos c8_] at key_
          try simp only [if_pos c8_]
          exact key_
        · refine xEvG_n xml xfetch 1 (y := (267, 128, [some (9, x0), some (0, x1), some (0, x2), some (0, y0), some (0, (fPrison_neighbour (x0 + 3) x1 x2 M)), none, none], [(54, 12), (9, x0)], M)) rfl trivial ?_
          try simp only [if_neg c8_] at key_
          try simp only [if_neg c8_]
          exact key_
  · have h := xif_f c_ h
    refine xEvG_n xml xfetch 2 (y := (267, 118, [some (9, x0), some (0, x1), some (0, x2), some (0, y0), some (0, (fPrison_neighbour (x0 + 3) x1 x2 M)), none, none], [(0, x2), (9, x0)], M)) rfl trivial ?_
    have key_ : xEv (267, 128, [some (9, x0), some (0, x1), some (0, x2), some (0, y0), some (0, (fPrison_neighbour (x0 + 3) x1 x2 M)), none, none], [(54, (if x2 = 0 then 11 else 12 : Int)), (9, x0)], M) (none, r) := by
      obtain ⟨m53, e_, h⟩ := xB_t h
      refine xEvG_call xml xfetch (q := (none, m53)) rfl (hReader_takeWord x0 (if x2 = 0 then 11 else 12 : Int) M _ e_) ?_
      show xEv (267, 131, [some (9, x0), some (0, x1), some (0, x2), some (0, y0), some (0, (fPrison_neighbour (x0 + 3) x1 x2 M)), none, none], [], m53) _
      refine xEvG_n xml xfetch 3 (y := (267, 135, [some (9, x0), some (0, x1), some (0, x2), some (0, y0), some (0, (fPrison_neighbour (x0 + 3) x1 x2 M)), none, none], [(0, 9), (0, 1), (9, x0)], m53)) rfl trivial ?_
      obtain ⟨⟨v54, m54⟩, e_, h⟩ := xB_t h
      refine xEvG_call xml xfetch (q := (some (0, v54), m54)) rfl (hReader_takeNumber x0 1 9 m53 _ e_) ?_
      show xEv (267, 138, [some (9, x0), some (0, x1), some (0, x2), some (0, y0), some (0, (fPrison_neighbour (x0 + 3) x1 x2 M)), none, none], [(0, v54)], m54) _
      refine xEvG_n xml xfetch 3 (y := (267, 143, [some (9, x0), some (0, x1), some (0, x2), some (0, y0), some (0, (fPrison_neighbour (x0 + 3) x1 x2 M)), some (0, v54), none], [(54, 17), (9, x0)], m54)) rfl trivial ?_
      obtain ⟨m55, e_, h⟩ := xB_t h
      refine xEvG_call xml xfetch (q := (none, m55)) rfl (hReader_takeWord x0 17 m54 _ e_) ?_
      show xEv (267, 146, [some (9, x0), some (0, x1), some (0, x2), some (0, y0), some (0, (fPrison_neighbour (x0 + 3) x1 x2 M)), some (0, v54), none], [], m55) _
      refine xEvG_n xml xfetch 7 (y := (267, 157, [some (9, x0), some (0, x1), some (0, x2), some (0, y0), some (0, (fPrison_neighbour (x0 + 3) x1 x2 M)), some (0, v54), none], [(0, (xw32 ((m55 (x0 + 3) 1) - 1))), (0, 0), (9, x0)], m55)) rfl trivial ?_
      obtain ⟨⟨v56, m56⟩, e_, h⟩ := xB_t h
      refine xEvG_call xml xfetch (q := (some (0, v56), m56)) rfl (hReader_takeNumber x0 0 (xw32 ((m55 (x0 + 3) 1) - 1)) m55 _ e_) ?_
      show xEv (267, 160, [some (9, x0), some (0, x1), some (0, x2), some (0, y0), some (0, (fPrison_neighbour (x0 + 3) x1 x2 M)), some (0, v54), none], [(0, v56)], m56) _
      refine xEvG_n xml xfetch 2 (y := (267, 163, [some (9, x0), some (0, x1), some (0, x2), some (0, y0), some (0, (fPrison_neighbour (x0 + 3) x1 x2 M)), some (0, v54), some (0, v56)], [(9, x0)], m56)) rfl trivial ?_
      obtain ⟨m57, e_, h⟩ := xB_t h
      refine xEvG_call xml xfetch (q := (none, m57)) rfl (hReader_takeSign x0 m56 _ e_) ?_
      show xEv (267, 166, [some (9, x0), some (0, x1), some (0, x2), some (0, y0), some (0, (fPrison_neighbour (x0 + 3) x1 x2 M)), some (0, v54), some (0, v56)], [], m57) _
      refine xEvG_n xml xfetch 3 (y := (267, if (m57 x0 7) = 0 then 173 else 192, [some (9, x0), some (0, x1), some (0, x2), some (0, y0), some (0, (fPrison_neighbour (x0 + 3) x1 x2 M)), some (0, v54), some (0, v56)], [], m57)) rfl trivial ?_
      refine xEvG_br xml xfetch (fun c_ => ?_) (fun c_ => ?_)
      · have h := xif_t c_ h
        refine xEvG_n xml xfetch 11 (y := (267, 189, [some (9, x0), some (0, x1), some (0, x2), some (0, y0), some (0, (fPrison_neighbour (x0 + 3) x1 x2 M)), some (0, v54), some (0, v56)], [(0, v56), (0, v54), (0, (xw32 ((xw32 ((xw32 (2 * (fPrison_neighbour (x0 + 3) x1 x2 M))) + 1)) - x2))), (8, (x0 + 3))], m57)) rfl trivial ?_
        obtain ⟨m58, e_, h⟩ := xB_t h
        refine xEvG_call xml xfetch (q := (none, m58)) rfl (hPrison_addSoup (x0 + 3) (xw32 ((xw32 ((xw32 (2 * (fPrison_neighbour (x0 + 3) x1 x2 M))) + 1)) - x2)) v54 v56 m57 _ e_) ?_
        show xEv (267, 192, [some (9, x0), some (0, x1), some (0, x2), some (0, y0), some (0, (fPrison_neighbour (x0 + 3) x1 x2 M)), some (0, v54), some (0, v56)], [], m58) _
        cases h
        exact xEvG_ret xml xfetch rfl
      · have h := xif_f c_ h
        cases h
        exact xEvG_ret xml xfetch rfl
    refine xEvG_n xml xfetch 1 (y := (267, if x2 = 0 then 121 else 126, [some (9, x0), some (0, x1), some (0, x2), some (0, y0), some (0, (fPrison_neighbour (x0 + 3) x1 x2 M)), none, none], [(9, x0)], M)) rfl trivial ?_
    refine xEvG_br xml xfetch (fun c4_ => ?_) (fun c4_ => ?_)
    · refine xEvG_n xml xfetch 2 (y := (267, 128, [some (9, x0), some (0, x1), some (0, x2), some (0, y0), some (0, (fPrison_neighbour (x0 + 3) x1 x2 M)), none, none], [(54, 11), (9, x0)], M)) rfl trivial ?_
      try simp only [if_pos c4_] at key_
      try simp only [if_pos c4_]
      exact key_
    · refine xEvG_n xml xfetch 1 (y := (267, 128, [some (9, x0), some (0, x1), some (0, x2), some (0, y0), some (0, (fPrison_neighbour (x0 + 3) x1 x2 M)), none, none], [(54, 12), (9, x0)], M)) rfl trivial ?_
      try simp only [if_neg c4_] at key_
      try simp only [if_neg c4_]
      exact key_
/-- ConsentDoors$Reader.readSoup()V -/
def fReader_readSoup (a0 : Int) (M : xM) : Option xM := if (M (a0 + 3) 7) < 8 then (xB (fReader_takeWord a0 3 M) (fun m1 => xB (fReader_takeNumber a0 0 (xw32 ((m1 (a0 + 3) 0) - 1)) m1) (fun q_ => match q_ with | (v2, m2) => xB (fReader_takeWord a0 16 m2) (fun m3 => xB (fReader_isWord a0 11 m3) (fun v4 => xB (fReader_isWord a0 11 m3) (fun v5 => if v5 = 0 then (xB (fReader_isWord a0 12 m3) (fun v6 => if (m3 a0 7) = 0 then (if (if v6 = 0 then 0 else 1 : Int) = 0 then (xB (fReader_takeWord a0 (if (if v4 = 0 then 1 else 0 : Int) = 0 then 11 else 12 : Int) m3) (fun m8 => xB (fReader_takeNumber a0 1 9 m8) (fun q_ => match q_ with | (v9, m9) => xB (fReader_takeWord a0 17 m9) (fun m10 => xB (fReader_takeNumber a0 0 (xw32 ((m10 (a0 + 3) 1) - 1)) m10) (fun q_ => match q_ with | (v11, m11) => xB (fReader_takeSign a0 m11) (fun m12 => if (m12 a0 7) = 0 then (xB (fPrison_addSoup (a0 + 3) (xw32 ((xw32 ((xw32 (2 * (fPrison_neighbour (a0 + 3) v2 (if v4 = 0 then 1 else 0 : Int) m3))) + 1)) - (if v4 = 0 then 1 else 0 : Int))) v9 v11 m12) (fun m13 => some m13)) else (some m12))))))) else (if (fPrison_neighbour (a0 + 3) v2 (if v4 = 0 then 1 else 0 : Int) m3) = (-1) then (xB (fReader_takeWord a0 (if (if v4 = 0 then 1 else 0 : Int) = 0 then 11 else 12 : Int) (fReader_fail a0 2 m3)) (fun m15 => xB (fReader_takeNumber a0 1 9 m15) (fun q_ => match q_ with | (v16, m16) => xB (fReader_takeWord a0 17 m16) (fun m17 => xB (fReader_takeNumber a0 0 (xw32 ((m17 (a0 + 3) 1) - 1)) m17) (fun q_ => match q_ with | (v18, m18) => xB (fReader_takeSign a0 m18) (fun m19 => if (m19 a0 7) = 0 then (xB (fPrison_addSoup (a0 + 3) (xw32 ((xw32 ((xw32 (2 * (fPrison_neighbour (a0 + 3) v2 (if v4 = 0 then 1 else 0 : Int) m3))) + 1)) - (if v4 = 0 then 1 else 0 : Int))) v16 v18 m19) (fun m20 => some m20)) else (some m19))))))) else (xB (fReader_takeWord a0 (if (if v4 = 0 then 1 else 0 : Int) = 0 then 11 else 12 : Int) m3) (fun m21 => xB (fReader_takeNumber a0 1 9 m21) (fun q_ => match q_ with | (v22, m22) => xB (fReader_takeWord a0 17 m22) (fun m23 => xB (fReader_takeNumber a0 0 (xw32 ((m23 (a0 + 3) 1) - 1)) m23) (fun q_ => match q_ with | (v24, m24) => xB (fReader_takeSign a0 m24) (fun m25 => if (m25 a0 7) = 0 then (xB (fPrison_addSoup (a0 + 3) (xw32 ((xw32 ((xw32 (2 * (fPrison_neighbour (a0 + 3) v2 (if v4 = 0 then 1 else 0 : Int) m3))) + 1)) - (if v4 = 0 then 1 else 0 : Int))) v22 v24 m25) (fun m26 => some m26)) else (some m25))))))))) else (xB (fReader_takeWord a0 (if (if v4 = 0 then 1 else 0 : Int) = 0 then 11 else 12 : Int) m3) (fun m27 => xB (fReader_takeNumber a0 1 9 m27) (fun q_ => match q_ with | (v28, m28) => xB (fReader_takeWord a0 17 m28) (fun m29 => xB (fReader_takeNumber a0 0 (xw32 ((m29 (a0 + 3) 1) - 1)) m29) (fun q_ => match q_ with | (v30, m30) => xB (fReader_takeSign a0 m30) (fun m31 => if (m31 a0 7) = 0 then (xB (fPrison_addSoup (a0 + 3) (xw32 ((xw32 ((xw32 (2 * (fPrison_neighbour (a0 + 3) v2 (if v4 = 0 then 1 else 0 : Int) m3))) + 1)) - (if v4 = 0 then 1 else 0 : Int))) v28 v30 m31) (fun m32 => some m32)) else (some m31))))))))) else (fReader_readSoup_L82 a0 v2 (if v4 = 0 then 1 else 0 : Int) 1 m3))))))) else (xB (fReader_takeWord a0 3 (fReader_fail a0 3 M)) (fun m60 => xB (fReader_takeNumber a0 0 (xw32 ((m60 (a0 + 3) 0) - 1)) m60) (fun q_ => match q_ with | (v61, m61) => xB (fReader_takeWord a0 16 m61) (fun m62 => xB (fReader_isWord a0 11 m62) (fun v63 => xB (fReader_isWord a0 11 m62) (fun v64 => if v64 = 0 then (xB (fReader_isWord a0 12 m62) (fun v65 => if (m62 a0 7) = 0 then (if (if v65 = 0 then 0 else 1 : Int) = 0 then (xB (fReader_takeWord a0 (if (if v63 = 0 then 1 else 0 : Int) = 0 then 11 else 12 : Int) m62) (fun m67 => xB (fReader_takeNumber a0 1 9 m67) (fun q_ => match q_ with | (v68, m68) => xB (fReader_takeWord a0 17 m68) (fun m69 => xB (fReader_takeNumber a0 0 (xw32 ((m69 (a0 + 3) 1) - 1)) m69) (fun q_ => match q_ with | (v70, m70) => xB (fReader_takeSign a0 m70) (fun m71 => if (m71 a0 7) = 0 then (xB (fPrison_addSoup (a0 + 3) (xw32 ((xw32 ((xw32 (2 * (fPrison_neighbour (a0 + 3) v61 (if v63 = 0 then 1 else 0 : Int) m62))) + 1)) - (if v63 = 0 then 1 else 0 : Int))) v68 v70 m71) (fun m72 => some m72)) else (some m71))))))) else (if (fPrison_neighbour (a0 + 3) v61 (if v63 = 0 then 1 else 0 : Int) m62) = (-1) then (xB (fReader_takeWord a0 (if (if v63 = 0 then 1 else 0 : Int) = 0 then 11 else 12 : Int) (fReader_fail a0 2 m62)) (fun m74 => xB (fReader_takeNumber a0 1 9 m74) (fun q_ => match q_ with | (v75, m75) => xB (fReader_takeWord a0 17 m75) (fun m76 => xB (fReader_takeNumber a0 0 (xw32 ((m76 (a0 + 3) 1) - 1)) m76) (fun q_ => match q_ with | (v77, m77) => xB (fReader_takeSign a0 m77) (fun m78 => if (m78 a0 7) = 0 then (xB (fPrison_addSoup (a0 + 3) (xw32 ((xw32 ((xw32 (2 * (fPrison_neighbour (a0 + 3) v61 (if v63 = 0 then 1 else 0 : Int) m62))) + 1)) - (if v63 = 0 then 1 else 0 : Int))) v75 v77 m78) (fun m79 => some m79)) else (some m78))))))) else (xB (fReader_takeWord a0 (if (if v63 = 0 then 1 else 0 : Int) = 0 then 11 else 12 : Int) m62) (fun m80 => xB (fReader_takeNumber a0 1 9 m80) (fun q_ => match q_ with | (v81, m81) => xB (fReader_takeWord a0 17 m81) (fun m82 => xB (fReader_takeNumber a0 0 (xw32 ((m82 (a0 + 3) 1) - 1)) m82) (fun q_ => match q_ with | (v83, m83) => xB (fReader_takeSign a0 m83) (fun m84 => if (m84 a0 7) = 0 then (xB (fPrison_addSoup (a0 + 3) (xw32 ((xw32 ((xw32 (2 * (fPrison_neighbour (a0 + 3) v61 (if v63 = 0 then 1 else 0 : Int) m62))) + 1)) - (if v63 = 0 then 1 else 0 : Int))) v81 v83 m84) (fun m85 => some m85)) else (some m84))))))))) else (xB (fReader_takeWord a0 (if (if v63 = 0 then 1 else 0 : Int) = 0 then 11 else 12 : Int) m62) (fun m86 => xB (fReader_takeNumber a0 1 9 m86) (fun q_ => match q_ with | (v87, m87) => xB (fReader_takeWord a0 17 m87) (fun m88 => xB (fReader_takeNumber a0 0 (xw32 ((m88 (a0 + 3) 1) - 1)) m88) (fun q_ => match q_ with | (v89, m89) => xB (fReader_takeSign a0 m89) (fun m90 => if (m90 a0 7) = 0 then (xB (fPrison_addSoup (a0 + 3) (xw32 ((xw32 ((xw32 (2 * (fPrison_neighbour (a0 + 3) v61 (if v63 = 0 then 1 else 0 : Int) m62))) + 1)) - (if v63 = 0 then 1 else 0 : Int))) v87 v89 m90) (fun m91 => some m91)) else (some m90))))))))) else (fReader_readSoup_L82 a0 v61 (if v63 = 0 then 1 else 0 : Int) 1 m62)))))))
theorem hReader_readSoup (a0 : Int) (M : xM) (r : xM) (h : fReader_readSoup a0 M = some r) : xEv (267, 0, [some (9, a0), none, none, none, none, none, none], [], M) (none, r) := by
  unfold fReader_readSoup at h
  refine xEvG_n xml xfetch 5 (y := (267, if (M (a0 + 3) 7) < 8 then 17 else 12, [some (9, a0), none, none, none, none, none, none], [], M)) rfl trivial ?_
  refine xEvG_br xml xfetch (fun c_ => ?_) (fun c_ => ?_)
  · have h := xif_t c_ h
    refine xEvG_n xml xfetch 2 (y := (267, 20, [some (9, a0), none, none, none, none, none, none], [(54, 3), (9, a0)], M)) rfl trivial ?_
    obtain ⟨m1, e_, h⟩ := xB_t h
    refine xEvG_call xml xfetch (q := (none, m1)) rfl (hReader_takeWord a0 3 M _ e_) ?_
    show xEv (267, 23, [some (9, a0), none, none, none, none, none, none], [], m1) _
    refine xEvG_n xml xfetch 7 (y := (267, 34, [some (9, a0), none, none, none, none, none, none], [(0, (xw32 ((m1 (a0 + 3) 0) - 1))), (0, 0), (9, a0)], m1)) rfl trivial ?_
    obtain ⟨⟨v2, m2⟩, e_, h⟩ := xB_t h
    refine xEvG_call xml xfetch (q := (some (0, v2), m2)) rfl (hReader_takeNumber a0 0 (xw32 ((m1 (a0 + 3) 0) - 1)) m1 _ e_) ?_
    show xEv (267, 37, [some (9, a0), none, none, none, none, none, none], [(0, v2)], m2) _
    refine xEvG_n xml xfetch 3 (y := (267, 41, [some (9, a0), some (0, v2), none, none, none, none, none], [(54, 16), (9, a0)], m2)) rfl trivial ?_
    obtain ⟨m3, e_, h⟩ := xB_t h
    refine xEvG_call xml xfetch (q := (none, m3)) rfl (hReader_takeWord a0 16 m2 _ e_) ?_
    show xEv (267, 44, [some (9, a0), some (0, v2), none, none, none, none, none], [], m3) _
    refine xEvG_n xml xfetch 2 (y := (267, 47, [some (9, a0), some (0, v2), none, none, none, none, none], [(54, 11), (9, a0)], m3)) rfl trivial ?_
    obtain ⟨v4, e_, h⟩ := xB_t h
    refine xEvG_call xml xfetch (q := (some (0, v4), m3)) rfl (hReader_isWord a0 11 m3 _ e_) ?_
    show xEv (267, 50, [some (9, a0), some (0, v2), none, none, none, none, none], [(0, v4)], m3) _
    have key_ : xEv (267, 58, [some (9, a0), some (0, v2), none, none, none, none, none], [(0, (if v4 = 0 then 1 else 0 : Int))], m3) (none, r) := by
      refine xEvG_n xml xfetch 3 (y := (267, 62, [some (9, a0), some (0, v2), some (0, (if v4 = 0 then 1 else 0 : Int)), none, none, none, none], [(54, 11), (9, a0)], m3)) rfl trivial ?_
      obtain ⟨v5, e_, h⟩ := xB_t h
      refine xEvG_call xml xfetch (q := (some (0, v5), m3)) rfl (hReader_isWord a0 11 m3 _ e_) ?_
      show xEv (267, 65, [some (9, a0), some (0, v2), some (0, (if v4 = 0 then 1 else 0 : Int)), none, none, none, none], [(0, v5)], m3) _
      refine xEvG_n xml xfetch 1 (y := (267, if v5 = 0 then 68 else 77, [some (9, a0), some (0, v2), some (0, (if v4 = 0 then 1 else 0 : Int)), none, none, none, none], [], m3)) rfl trivial ?_
      refine xEvG_br xml xfetch (fun c_ => ?_) (fun c_ => ?_)
      · have h := xif_t c_ h
        refine xEvG_n xml xfetch 2 (y := (267, 71, [some (9, a0), some (0, v2), some (0, (if v4 = 0 then 1 else 0 : Int)), none, none, none, none], [(54, 12), (9, a0)], m3)) rfl trivial ?_
        obtain ⟨v6, e_, h⟩ := xB_t h
        refine xEvG_call xml xfetch (q := (some (0, v6), m3)) rfl (hReader_isWord a0 12 m3 _ e_) ?_
        show xEv (267, 74, [some (9, a0), some (0, v2), some (0, (if v4 = 0 then 1 else 0 : Int)), none, none, none, none], [(0, v6)], m3) _
        have key_ : xEv (267, 82, [some (9, a0), some (0, v2), some (0, (if v4 = 0 then 1 else 0 : Int)), none, none, none, none], [(0, (if v6 = 0 then 0 else 1 : Int))], m3) (none, r) := by
          refine xEvG_n xml xfetch 5 (y := (267, 89, [some (9, a0), some (0, v2), some (0, (if v4 = 0 then 1 else 0 : Int)), some (0, (if v6 = 0 then 0 else 1 : Int)), none, none, none], [(0, (if v4 = 0 then 1 else 0 : Int)), (0, v2), (8, (a0 + 3))], m3)) rfl trivial ?_
          refine xEvG_call xml xfetch (q := (some (0, fPrison_neighbour (a0 + 3) v2 (if v4 = 0 then 1 else 0 : Int) m3), m3)) rfl (hPrison_neighbour (a0 + 3) v2 (if v4 = 0 then 1 else 0 : Int) m3 _ rfl) ?_
          show xEv (267, 92, [some (9, a0), some (0, v2), some (0, (if v4 = 0 then 1 else 0 : Int)), some (0, (if v6 = 0 then 0 else 1 : Int)), none, none, none], [(0, (fPrison_neighbour (a0 + 3) v2 (if v4 = 0 then 1 else 0 : Int) m3))], m3) _
          refine xEvG_n xml xfetch 4 (y := (267, if (m3 a0 7) = 0 then 101 else 116, [some (9, a0), some (0, v2), some (0, (if v4 = 0 then 1 else 0 : Int)), some (0, (if v6 = 0 then 0 else 1 : Int)), some (0, (fPrison_neighbour (a0 + 3) v2 (if v4 = 0 then 1 else 0 : Int) m3)), none, none], [], m3)) rfl trivial ?_
          refine xEvG_br xml xfetch (fun c_ => ?_) (fun c_ => ?_)
          · have h := xif_t c_ h
            refine xEvG_n xml xfetch 2 (y := (267, if (if v6 = 0 then 0 else 1 : Int) = 0 then 116 else 105, [some (9, a0), some (0, v2), some (0, (if v4 = 0 then 1 else 0 : Int)), some (0, (if v6 = 0 then 0 else 1 : Int)), some (0, (fPrison_neighbour (a0 + 3) v2 (if v4 = 0 then 1 else 0 : Int) m3)), none, none], [], m3)) rfl trivial ?_
            refine xEvG_br xml xfetch (fun c_ => ?_) (fun c_ => ?_)
            · have h := xif_t c_ h
              refine xEvG_n xml xfetch 2 (y := (267, 118, [some (9, a0), some (0, v2), some (0, (if v4 = 0 then 1 else 0 : Int)), some (0, (if v6 = 0 then 0 else 1 : Int)), some (0, (fPrison_neighbour (a0 + 3) v2 (if v4 = 0 then 1 else 0 : Int) m3)), none, none], [(0, (if v4 = 0 then 1 else 0 : Int)), (9, a0)], m3)) rfl trivial ?_
              have key_ : xEv (267, 128, [some (9, a0), some (0, v2), some (0, (if v4 = 0 then 1 else 0 : Int)), some (0, (if v6 = 0 then 0 else 1 : Int)), some (0, (fPrison_neighbour (a0 + 3) v2 (if v4 = 0 then 1 else 0 : Int) m3)), none, none], [(54, (if (if v4 = 0 then 1 else 0 : Int) = 0 then 11 else 12 : Int)), (9, a0)], m3) (none, r) := by
                obtain ⟨m8, e_, h⟩ := xB_t h
                refine xEvG_call xml xfetch (q := (none, m8)) rfl (hReader_takeWord a0 (if (if v4 = 0 then 1 else 0 : Int) = 0 then 11 else 12 : Int) m3 _ e_) ?_
                show xEv (267, 131, [some (9, a0), some (0, v2), some (0, (if v4 = 0 then 1 else 0 : Int)), some (0, (if v6 = 0 then 0 else 1 : Int)), some (0, (fPrison_neighbour (a0 + 3) v2 (if v4 = 0 then 1 else 0 : Int) m3)), none, none], [], m8) _
                refine xEvG_n xml xfetch 3 (y := (267, 135, [some (9, a0), some (0, v2), some (0, (if v4 = 0 then 1 else 0 : Int)), some (0, (if v6 = 0 then 0 else 1 : Int)), some (0, (fPrison_neighbour (a0 + 3) v2 (if v4 = 0 then 1 else 0 : Int) m3)), none, none], [(0, 9), (0, 1), (9, a0)], m8)) rfl trivial ?_
                obtain ⟨⟨v9, m9⟩, e_, h⟩ := xB_t h
                refine xEvG_call xml xfetch (q := (some (0, v9), m9)) rfl (hReader_takeNumber a0 1 9 m8 _ e_) ?_
                show xEv (267, 138, [some (9, a0), some (0, v2), some (0, (if v4 = 0 then 1 else 0 : Int)), some (0, (if v6 = 0 then 0 else 1 : Int)), some (0, (fPrison_neighbour (a0 + 3) v2 (if v4 = 0 then 1 else 0 : Int) m3)), none, none], [(0, v9)], m9) _
                refine xEvG_n xml xfetch 3 (y := (267, 143, [some (9, a0), some (0, v2), some (0, (if v4 = 0 then 1 else 0 : Int)), some (0, (if v6 = 0 then 0 else 1 : Int)), some (0, (fPrison_neighbour (a0 + 3) v2 (if v4 = 0 then 1 else 0 : Int) m3)), some (0, v9), none], [(54, 17), (9, a0)], m9)) rfl trivial ?_
                obtain ⟨m10, e_, h⟩ := xB_t h
                refine xEvG_call xml xfetch (q := (none, m10)) rfl (hReader_takeWord a0 17 m9 _ e_) ?_
                show xEv (267, 146, [some (9, a0), some (0, v2), some (0, (if v4 = 0 then 1 else 0 : Int)), some (0, (if v6 = 0 then 0 else 1 : Int)), some (0, (fPrison_neighbour (a0 + 3) v2 (if v4 = 0 then 1 else 0 : Int) m3)), some (0, v9), none], [], m10) _
                refine xEvG_n xml xfetch 7 (y := (267, 157, [some (9, a0), some (0, v2), some (0, (if v4 = 0 then 1 else 0 : Int)), some (0, (if v6 = 0 then 0 else 1 : Int)), some (0, (fPrison_neighbour (a0 + 3) v2 (if v4 = 0 then 1 else 0 : Int) m3)), some (0, v9), none], [(0, (xw32 ((m10 (a0 + 3) 1) - 1))), (0, 0), (9, a0)], m10)) rfl trivial ?_
                obtain ⟨⟨v11, m11⟩, e_, h⟩ := xB_t h
                refine xEvG_call xml xfetch (q := (some (0, v11), m11)) rfl (hReader_takeNumber a0 0 (xw32 ((m10 (a0 + 3) 1) - 1)) m10 _ e_) ?_
                show xEv (267, 160, [some (9, a0), some (0, v2), some (0, (if v4 = 0 then 1 else 0 : Int)), some (0, (if v6 = 0 then 0 else 1 : Int)), some (0, (fPrison_neighbour (a0 + 3) v2 (if v4 = 0 then 1 else 0 : Int) m3)), some (0, v9), none], [(0, v11)], m11) _
                refine xEvG_n xml xfetch 2 (y := (267, 163, [some (9, a0), some (0, v2), some (0, (if v4 = 0 then 1 else 0 : Int)), some (0, (if v6 = 0 then 0 else 1 : Int)), some (0, (fPrison_neighbour (a0 + 3) v2 (if v4 = 0 then 1 else 0 : Int) m3)), some (0, v9), some (0, v11)], [(9, a0)], m11)) rfl trivial ?_
                obtain ⟨m12, e_, h⟩ := xB_t h
                refine xEvG_call xml xfetch (q := (none, m12)) rfl (hReader_takeSign a0 m11 _ e_) ?_
                show xEv (267, 166, [some (9, a0), some (0, v2), some (0, (if v4 = 0 then 1 else 0 : Int)), some (0, (if v6 = 0 then 0 else 1 : Int)), some (0, (fPrison_neighbour (a0 + 3) v2 (if v4 = 0 then 1 else 0 : Int) m3)), some (0, v9), some (0, v11)], [], m12) _
                refine xEvG_n xml xfetch 3 (y := (267, if (m12 a0 7) = 0 then 173 else 192, [some (9, a0), some (0, v2), some (0, (if v4 = 0 then 1 else 0 : Int)), some (0, (if v6 = 0 then 0 else 1 : Int)), some (0, (fPrison_neighbour (a0 + 3) v2 (if v4 = 0 then 1 else 0 : Int) m3)), some (0, v9), some (0, v11)], [], m12)) rfl trivial ?_
                refine xEvG_br xml xfetch (fun c_ => ?_) (fun c_ => ?_)
                · have h := xif_t c_ h
                  refine xEvG_n xml xfetch 11 (y := (267, 189, [some (9, a0), some (0, v2), some (0, (if v4 = 0 then 1 else 0 : Int)), some (0, (if v6 = 0 then 0 else 1 : Int)), some (0, (fPrison_neighbour (a0 + 3) v2 (if v4 = 0 then 1 else 0 : Int) m3)), some (0, v9), some (0, v11)], [(0, v11), (0, v9), (0, (xw32 ((xw32 ((xw32 (2 * (fPrison_neighbour (a0 + 3) v2 (if v4 = 0 then 1 else 0 : Int) m3))) + 1)) - (if v4 = 0 then 1 else 0 : Int)))), (8, (a0 + 3))], m12)) rfl trivial ?_
                  obtain ⟨m13, e_, h⟩ := xB_t h
                  refine xEvG_call xml xfetch (q := (none, m13)) rfl (hPrison_addSoup (a0 + 3) (xw32 ((xw32 ((xw32 (2 * (fPrison_neighbour (a0 + 3) v2 (if v4 = 0 then 1 else 0 : Int) m3))) + 1)) - (if v4 = 0 then 1 else 0 : Int))) v9 v11 m12 _ e_) ?_
                  show xEv (267, 192, [some (9, a0), some (0, v2), some (0, (if v4 = 0 then 1 else 0 : Int)), some (0, (if v6 = 0 then 0 else 1 : Int)), some (0, (fPrison_neighbour (a0 + 3) v2 (if v4 = 0 then 1 else 0 : Int) m3)), some (0, v9), some (0, v11)], [], m13) _
                  cases h
                  exact xEvG_ret xml xfetch rfl
                · have h := xif_f c_ h
                  cases h
                  exact xEvG_ret xml xfetch rfl
              refine xEvG_n xml xfetch 1 (y := (267, if (if v4 = 0 then 1 else 0 : Int) = 0 then 121 else 126, [some (9, a0), some (0, v2), some (0, (if v4 = 0 then 1 else 0 : Int)), some (0, (if v6 = 0 then 0 else 1 : Int)), some (0, (fPrison_neighbour (a0 + 3) v2 (if v4 = 0 then 1 else 0 : Int) m3)), none, none], [(9, a0)], m3)) rfl trivial ?_
              refine xEvG_br xml xfetch (fun c14_ => ?_) (fun c14_ => ?_)
              · refine xEvG_n xml xfetch 2 (y := (267, 128, [some (9, a0), some (0, v2), some (0, (if v4 = 0 then 1 else 0 : Int)), some (0, (if v6 = 0 then 0 else 1 : Int)), some (0, (fPrison_neighbour (a0 + 3) v2 (if v4 = 0 then 1 else 0 : Int) m3)), none, none], [(54, 11), (9, a0)], m3)) rfl trivial ?_
                try simp only [if_pos c14_] at key_
                try simp only [if_pos c14_]
                exact key_
              · refine xEvG_n xml xfetch 1 (y := (267, 128, [some (9, a0), some (0, v2), some (0, (if v4 = 0 then 1 else 0 : Int)), some (0, (if v6 = 0 then 0 else 1 : Int)), some (0, (fPrison_neighbour (a0 + 3) v2 (if v4 = 0 then 1 else 0 : Int) m3)), none, none], [(54, 12), (9, a0)], m3)) rfl trivial ?_
                try simp only [if_neg c14_] at key_
                try simp only [if_neg c14_]
                exact key_
            · have h := xif_f c_ h
              refine xEvG_n xml xfetch 3 (y := (267, if (fPrison_neighbour (a0 + 3) v2 (if v4 = 0 then 1 else 0 : Int) m3) = (-1) then 111 else 116, [some (9, a0), some (0, v2), some (0, (if v4 = 0 then 1 else 0 : Int)), some (0, (if v6 = 0 then 0 else 1 : Int)), some (0, (fPrison_neighbour (a0 + 3) v2 (if v4 = 0 then 1 else 0 : Int) m3)), none, none], [], m3)) rfl trivial ?_
              refine xEvG_br xml xfetch (fun c_ => ?_) (fun c_ => ?_)
              · have h := xif_t c_ h
                refine xEvG_n xml xfetch 2 (y := (267, 113, [some (9, a0), some (0, v2), some (0, (if v4 = 0 then 1 else 0 : Int)), some (0, (if v6 = 0 then 0 else 1 : Int)), some (0, (fPrison_neighbour (a0 + 3) v2 (if v4 = 0 then 1 else 0 : Int) m3)), none, none], [(0, 2), (9, a0)], m3)) rfl trivial ?_
                refine xEvG_call xml xfetch (q := (none, fReader_fail a0 2 m3)) rfl (hReader_fail a0 2 m3 _ rfl) ?_
                show xEv (267, 116, [some (9, a0), some (0, v2), some (0, (if v4 = 0 then 1 else 0 : Int)), some (0, (if v6 = 0 then 0 else 1 : Int)), some (0, (fPrison_neighbour (a0 + 3) v2 (if v4 = 0 then 1 else 0 : Int) m3)), none, none], [], (fReader_fail a0 2 m3)) _
                refine xEvG_n xml xfetch 2 (y := (267, 118, [some (9, a0), some (0, v2), some (0, (if v4 = 0 then 1 else 0 : Int)), some (0, (if v6 = 0 then 0 else 1 : Int)), some (0, (fPrison_neighbour (a0 + 3) v2 (if v4 = 0 then 1 else 0 : Int) m3)), none, none], [(0, (if v4 = 0 then 1 else 0 : Int)), (9, a0)], (fReader_fail a0 2 m3))) rfl trivial ?_
                have key_ : xEv (267, 128, [some (9, a0), some (0, v2), some (0, (if v4 = 0 then 1 else 0 : Int)), some (0, (if v6 = 0 then 0 else 1 : Int)), some (0, (fPrison_neighbour (a0 + 3) v2 (if v4 = 0 then 1 else 0 : Int) m3)), none, none], [(54, (if (if v4 = 0 then 1 else 0 : Int) = 0 then 11 else 12 : Int)), (9, a0)], (fReader_fail a0 2 m3)) (none, r) := by
                  obtain ⟨m15, e_, h⟩ := xB_t h
                  refine xEvG_call xml xfetch (q := (none, m15)) rfl (hReader_takeWord a0 (if (if v4 = 0 then 1 else 0 : Int) = 0 then 11 else 12 : Int) (fReader_fail a0 2 m3) _ e_) ?_
                  show xEv (267, 131, [some (9, a0), some (0, v2), some (0, (if v4 = 0 then 1 else 0 : Int)), some (0, (if v6 = 0 then 0 else 1 : Int)), some (0, (fPrison_neighbour (a0 + 3) v2 (if v4 = 0 then 1 else 0 : Int) m3)), none, none], [], m15) _
                  refine xEvG_n xml xfetch 3 (y := (267, 135, [some (9, a0), some (0, v2), some (0, (if v4 = 0 then 1 else 0 : Int)), some (0, (if v6 = 0 then 0 else 1 : Int)), some (0, (fPrison_neighbour (a0 + 3) v2 (if v4 = 0 then 1 else 0 : Int) m3)), none, none], [(0, 9), (0, 1), (9, a0)], m15)) rfl trivial ?_
                  obtain ⟨⟨v16, m16⟩, e_, h⟩ := xB_t h
                  refine xEvG_call xml xfetch (q := (some (0, v16), m16)) rfl (hReader_takeNumber a0 1 9 m15 _ e_) ?_
                  show xEv (267, 138, [some (9, a0), some (0, v2), some (0, (if v4 = 0 then 1 else 0 : Int)), some (0, (if v6 = 0 then 0 else 1 : Int)), some (0, (fPrison_neighbour (a0 + 3) v2 (if v4 = 0 then 1 else 0 : Int) m3)), none, none], [(0, v16)], m16) _
                  refine xEvG_n xml xfetch 3 (y := (267, 143, [some (9, a0), some (0, v2), some (0, (if v4 = 0 then 1 else 0 : Int)), some (0, (if v6 = 0 then 0 else 1 : Int)), some (0, (fPrison_neighbour (a0 + 3) v2 (if v4 = 0 then 1 else 0 : Int) m3)), some (0, v16), none], [(54, 17), (9, a0)], m16)) rfl trivial ?_
                  obtain ⟨m17, e_, h⟩ := xB_t h
                  refine xEvG_call xml xfetch (q := (none, m17)) rfl (hReader_takeWord a0 17 m16 _ e_) ?_
                  show xEv (267, 146, [some (9, a0), some (0, v2), some (0, (if v4 = 0 then 1 else 0 : Int)), some (0, (if v6 = 0 then 0 else 1 : Int)), some (0, (fPrison_neighbour (a0 + 3) v2 (if v4 = 0 then 1 else 0 : Int) m3)), some (0, v16), none], [], m17) _
                  refine xEvG_n xml xfetch 7 (y := (267, 157, [some (9, a0), some (0, v2), some (0, (if v4 = 0 then 1 else 0 : Int)), some (0, (if v6 = 0 then 0 else 1 : Int)), some (0, (fPrison_neighbour (a0 + 3) v2 (if v4 = 0 then 1 else 0 : Int) m3)), some (0, v16), none], [(0, (xw32 ((m17 (a0 + 3) 1) - 1))), (0, 0), (9, a0)], m17)) rfl trivial ?_
                  obtain ⟨⟨v18, m18⟩, e_, h⟩ := xB_t h
                  refine xEvG_call xml xfetch (q := (some (0, v18), m18)) rfl (hReader_takeNumber a0 0 (xw32 ((m17 (a0 + 3) 1) - 1)) m17 _ e_) ?_
                  show xEv (267, 160, [some (9, a0), some (0, v2), some (0, (if v4 = 0 then 1 else 0 : Int)), some (0, (if v6 = 0 then 0 else 1 : Int)), some (0, (fPrison_neighbour (a0 + 3) v2 (if v4 = 0 then 1 else 0 : Int) m3)), some (0, v16), none], [(0, v18)], m18) _
                  refine xEvG_n xml xfetch 2 (y := (267, 163, [some (9, a0), some (0, v2), some (0, (if v4 = 0 then 1 else 0 : Int)), some (0, (if v6 = 0 then 0 else 1 : Int)), some (0, (fPrison_neighbour (a0 + 3) v2 (if v4 = 0 then 1 else 0 : Int) m3)), some (0, v16), some (0, v18)], [(9, a0)], m18)) rfl trivial ?_
                  obtain ⟨m19, e_, h⟩ := xB_t h
                  refine xEvG_call xml xfetch (q := (none, m19)) rfl (hReader_takeSign a0 m18 _ e_) ?_
                  show xEv (267, 166, [some (9, a0), some (0, v2), some (0, (if v4 = 0 then 1 else 0 : Int)), some (0, (if v6 = 0 then 0 else 1 : Int)), some (0, (fPrison_neighbour (a0 + 3) v2 (if v4 = 0 then 1 else 0 : Int) m3)), some (0, v16), some (0, v18)], [], m19) _
                  refine xEvG_n xml xfetch 3 (y := (267, if (m19 a0 7) = 0 then 173 else 192, [some (9, a0), some (0, v2), some (0, (if v4 = 0 then 1 else 0 : Int)), some (0, (if v6 = 0 then 0 else 1 : Int)), some (0, (fPrison_neighbour (a0 + 3) v2 (if v4 = 0 then 1 else 0 : Int) m3)), some (0, v16), some (0, v18)], [], m19)) rfl trivial ?_
                  refine xEvG_br xml xfetch (fun c_ => ?_) (fun c_ => ?_)
                  · have h := xif_t c_ h
                    refine xEvG_n xml xfetch 11 (y := (267, 189, [some (9, a0), some (0, v2), some (0, (if v4 = 0 then 1 else 0 : Int)), some (0, (if v6 = 0 then 0 else 1 : Int)), some (0, (fPrison_neighbour (a0 + 3) v2 (if v4 = 0 then 1 else 0 : Int) m3)), some (0, v16), some (0, v18)], [(0, v18), (0, v16), (0, (xw32 ((xw32 ((xw32 (2 * (fPrison_neighbour (a0 + 3) v2 (if v4 = 0 then 1 else 0 : Int) m3))) + 1)) - (if v4 = 0 then 1 else 0 : Int)))), (8, (a0 + 3))], m19)) rfl trivial ?_
                    obtain ⟨m20, e_, h⟩ := xB_t h
                    refine xEvG_call xml xfetch (q := (none, m20)) rfl (hPrison_addSoup (a0 + 3) (xw32 ((xw32 ((xw32 (2 * (fPrison_neighbour (a0 + 3) v2 (if v4 = 0 then 1 else 0 : Int) m3))) + 1)) - (if v4 = 0 then 1 else 0 : Int))) v16 v18 m19 _ e_) ?_
                    show xEv (267, 192, [some (9, a0), some (0, v2), some (0, (if v4 = 0 then 1 else 0 : Int)), some (0, (if v6 = 0 then 0 else 1 : Int)), some (0, (fPrison_neighbour (a0 + 3) v2 (if v4 = 0 then 1 else 0 : Int) m3)), some (0, v16), some (0, v18)], [], m20) _
                    cases h
                    exact xEvG_ret xml xfetch rfl
                  · have h := xif_f c_ h
                    cases h
                    exact xEvG_ret xml xfetch rfl
                refine xEvG_n xml xfetch 1 (y := (267, if (if v4 = 0 then 1 else 0 : Int) = 0 then 121 else 126, [some (9, a0), some (0, v2), some (0, (if v4 = 0 then 1 else 0 : Int)), some (0, (if v6 = 0 then 0 else 1 : Int)), some (0, (fPrison_neighbour (a0 + 3) v2 (if v4 = 0 then 1 else 0 : Int) m3)), none, none], [(9, a0)], (fReader_fail a0 2 m3))) rfl trivial ?_
                refine xEvG_br xml xfetch (fun c16_ => ?_) (fun c16_ => ?_)
                · refine xEvG_n xml xfetch 2 (y := (267, 128, [some (9, a0), some (0, v2), some (0, (if v4 = 0 then 1 else 0 : Int)), some (0, (if v6 = 0 then 0 else 1 : Int)), some (0, (fPrison_neighbour (a0 + 3) v2 (if v4 = 0 then 1 else 0 : Int) m3)), none, none], [(54, 11), (9, a0)], (fReader_fail a0 2 m3))) rfl trivial ?_
                  try simp only [if_pos c16_] at key_
                  try simp only [if_pos c16_]
                  exact key_
                · refine xEvG_n xml xfetch 1 (y := (267, 128, [some (9, a0), some (0, v2), some (0, (if v4 = 0 then 1 else 0 : Int)), some (0, (if v6 = 0 then 0 else 1 : Int)), some (0, (fPrison_neighbour (a0 + 3) v2 (if v4 = 0 then 1 else 0 : Int) m3)), none, none], [(54, 12), (9, a0)], (fReader_fail a0 2 m3))) rfl trivial ?_
                  try simp only [if_neg c16_] at key_
                  try simp only [if_neg c16_]
                  exact key_
              · have h := xif_f c_ h
                refine xEvG_n xml xfetch 2 (y := (267, 118, [some (9, a0), some (0, v2), some (0, (if v4 = 0 then 1 else 0 : Int)), some (0, (if v6 = 0 then 0 else 1 : Int)), some (0, (fPrison_neighbour (a0 + 3) v2 (if v4 = 0 then 1 else 0 : Int) m3)), none, none], [(0, (if v4 = 0 then 1 else 0 : Int)), (9, a0)], m3)) rfl trivial ?_
                have key_ : xEv (267, 128, [some (9, a0), some (0, v2), some (0, (if v4 = 0 then 1 else 0 : Int)), some (0, (if v6 = 0 then 0 else 1 : Int)), some (0, (fPrison_neighbour (a0 + 3) v2 (if v4 = 0 then 1 else 0 : Int) m3)), none, none], [(54, (if (if v4 = 0 then 1 else 0 : Int) = 0 then 11 else 12 : Int)), (9, a0)], m3) (none, r) := by
                  obtain ⟨m21, e_, h⟩ := xB_t h
                  refine xEvG_call xml xfetch (q := (none, m21)) rfl (hReader_takeWord a0 (if (if v4 = 0 then 1 else 0 : Int) = 0 then 11 else 12 : Int) m3 _ e_) ?_
                  show xEv (267, 131, [some (9, a0), some (0, v2), some (0, (if v4 = 0 then 1 else 0 : Int)), some (0, (if v6 = 0 then 0 else 1 : Int)), some (0, (fPrison_neighbour (a0 + 3) v2 (if v4 = 0 then 1 else 0 : Int) m3)), none, none], [], m21) _
                  refine xEvG_n xml xfetch 3 (y := (267, 135, [some (9, a0), some (0, v2), some (0, (if v4 = 0 then 1 else 0 : Int)), some (0, (if v6 = 0 then 0 else 1 : Int)), some (0, (fPrison_neighbour (a0 + 3) v2 (if v4 = 0 then 1 else 0 : Int) m3)), none, none], [(0, 9), (0, 1), (9, a0)], m21)) rfl trivial ?_
                  obtain ⟨⟨v22, m22⟩, e_, h⟩ := xB_t h
                  refine xEvG_call xml xfetch (q := (some (0, v22), m22)) rfl (hReader_takeNumber a0 1 9 m21 _ e_) ?_
                  show xEv (267, 138, [some (9, a0), some (0, v2), some (0, (if v4 = 0 then 1 else 0 : Int)), some (0, (if v6 = 0 then 0 else 1 : Int)), some (0, (fPrison_neighbour (a0 + 3) v2 (if v4 = 0 then 1 else 0 : Int) m3)), none, none], [(0, v22)], m22) _
                  refine xEvG_n xml xfetch 3 (y := (267, 143, [some (9, a0), some (0, v2), some (0, (if v4 = 0 then 1 else 0 : Int)), some (0, (if v6 = 0 then 0 else 1 : Int)), some (0, (fPrison_neighbour (a0 + 3) v2 (if v4 = 0 then 1 else 0 : Int) m3)), some (0, v22), none], [(54, 17), (9, a0)], m22)) rfl trivial ?_
                  obtain ⟨m23, e_, h⟩ := xB_t h
                  refine xEvG_call xml xfetch (q := (none, m23)) rfl (hReader_takeWord a0 17 m22 _ e_) ?_
                  show xEv (267, 146, [some (9, a0), some (0, v2), some (0, (if v4 = 0 then 1 else 0 : Int)), some (0, (if v6 = 0 then 0 else 1 : Int)), some (0, (fPrison_neighbour (a0 + 3) v2 (if v4 = 0 then 1 else 0 : Int) m3)), some (0, v22), none], [], m23) _
                  refine xEvG_n xml xfetch 7 (y := (267, 157, [some (9, a0), some (0, v2), some (0, (if v4 = 0 then 1 else 0 : Int)), some (0, (if v6 = 0 then 0 else 1 : Int)), some (0, (fPrison_neighbour (a0 + 3) v2 (if v4 = 0 then 1 else 0 : Int) m3)), some (0, v22), none], [(0, (xw32 ((m23 (a0 + 3) 1) - 1))), (0, 0), (9, a0)], m23)) rfl trivial ?_
                  obtain ⟨⟨v24, m24⟩, e_, h⟩ := xB_t h
                  refine xEvG_call xml xfetch (q := (some (0, v24), m24)) rfl (hReader_takeNumber a0 0 (xw32 ((m23 (a0 + 3) 1) - 1)) m23 _ e_) ?_
                  show xEv (267, 160, [some (9, a0), some (0, v2), some (0, (if v4 = 0 then 1 else 0 : Int)), some (0, (if v6 = 0 then 0 else 1 : Int)), some (0, (fPrison_neighbour (a0 + 3) v2 (if v4 = 0 then 1 else 0 : Int) m3)), some (0, v22), none], [(0, v24)], m24) _
                  refine xEvG_n xml xfetch 2 (y := (267, 163, [some (9, a0), some (0, v2), some (0, (if v4 = 0 then 1 else 0 : Int)), some (0, (if v6 = 0 then 0 else 1 : Int)), some (0, (fPrison_neighbour (a0 + 3) v2 (if v4 = 0 then 1 else 0 : Int) m3)), some (0, v22), some (0, v24)], [(9, a0)], m24)) rfl trivial ?_
                  obtain ⟨m25, e_, h⟩ := xB_t h
                  refine xEvG_call xml xfetch (q := (none, m25)) rfl (hReader_takeSign a0 m24 _ e_) ?_
                  show xEv (267, 166, [some (9, a0), some (0, v2), some (0, (if v4 = 0 then 1 else 0 : Int)), some (0, (if v6 = 0 then 0 else 1 : Int)), some (0, (fPrison_neighbour (a0 + 3) v2 (if v4 = 0 then 1 else 0 : Int) m3)), some (0, v22), some (0, v24)], [], m25) _
                  refine xEvG_n xml xfetch 3 (y := (267, if (m25 a0 7) = 0 then 173 else 192, [some (9, a0), some (0, v2), some (0, (if v4 = 0 then 1 else 0 : Int)), some (0, (if v6 = 0 then 0 else 1 : Int)), some (0, (fPrison_neighbour (a0 + 3) v2 (if v4 = 0 then 1 else 0 : Int) m3)), some (0, v22), some (0, v24)], [], m25)) rfl trivial ?_
                  refine xEvG_br xml xfetch (fun c_ => ?_) (fun c_ => ?_)
                  · have h := xif_t c_ h
                    refine xEvG_n xml xfetch 11 (y := (267, 189, [some (9, a0), some (0, v2), some (0, (if v4 = 0 then 1 else 0 : Int)), some (0, (if v6 = 0 then 0 else 1 : Int)), some (0, (fPrison_neighbour (a0 + 3) v2 (if v4 = 0 then 1 else 0 : Int) m3)), some (0, v22), some (0, v24)], [(0, v24), (0, v22), (0, (xw32 ((xw32 ((xw32 (2 * (fPrison_neighbour (a0 + 3) v2 (if v4 = 0 then 1 else 0 : Int) m3))) + 1)) - (if v4 = 0 then 1 else 0 : Int)))), (8, (a0 + 3))], m25)) rfl trivial ?_
                    obtain ⟨m26, e_, h⟩ := xB_t h
                    refine xEvG_call xml xfetch (q := (none, m26)) rfl (hPrison_addSoup (a0 + 3) (xw32 ((xw32 ((xw32 (2 * (fPrison_neighbour (a0 + 3) v2 (if v4 = 0 then 1 else 0 : Int) m3))) + 1)) - (if v4 = 0 then 1 else 0 : Int))) v22 v24 m25 _ e_) ?_
                    show xEv (267, 192, [some (9, a0), some (0, v2), some (0, (if v4 = 0 then 1 else 0 : Int)), some (0, (if v6 = 0 then 0 else 1 : Int)), some (0, (fPrison_neighbour (a0 + 3) v2 (if v4 = 0 then 1 else 0 : Int) m3)), some (0, v22), some (0, v24)], [], m26) _
                    cases h
                    exact xEvG_ret xml xfetch rfl
                  · have h := xif_f c_ h
                    cases h
                    exact xEvG_ret xml xfetch rfl
                refine xEvG_n xml xfetch 1 (y := (267, if (if v4 = 0 then 1 else 0 : Int) = 0 then 121 else 126, [some (9, a0), some (0, v2), some (0, (if v4 = 0 then 1 else 0 : Int)), some (0, (if v6 = 0 then 0 else 1 : Int)), some (0, (fPrison_neighbour (a0 + 3) v2 (if v4 = 0 then 1 else 0 : Int) m3)), none, none], [(9, a0)], m3)) rfl trivial ?_
                refine xEvG_br xml xfetch (fun c16_ => ?_) (fun c16_ => ?_)
                · refine xEvG_n xml xfetch 2 (y := (267, 128, [some (9, a0), some (0, v2), some (0, (if v4 = 0 then 1 else 0 : Int)), some (0, (if v6 = 0 then 0 else 1 : Int)), some (0, (fPrison_neighbour (a0 + 3) v2 (if v4 = 0 then 1 else 0 : Int) m3)), none, none], [(54, 11), (9, a0)], m3)) rfl trivial ?_
                  try simp only [if_pos c16_] at key_
                  try simp only [if_pos c16_]
                  exact key_
                · refine xEvG_n xml xfetch 1 (y := (267, 128, [some (9, a0), some (0, v2), some (0, (if v4 = 0 then 1 else 0 : Int)), some (0, (if v6 = 0 then 0 else 1 : Int)), some (0, (fPrison_neighbour (a0 + 3) v2 (if v4 = 0 then 1 else 0 : Int) m3)), none, none], [(54, 12), (9, a0)], m3)) rfl trivial ?_
                  try simp only [if_neg c16_] at key_
                  try simp only [if_neg c16_]
                  exact key_
          · have h := xif_f c_ h
            refine xEvG_n xml xfetch 2 (y := (267, 118, [some (9, a0), some (0, v2), some (0, (if v4 = 0 then 1 else 0 : Int)), some (0, (if v6 = 0 then 0 else 1 : Int)), some (0, (fPrison_neighbour (a0 + 3) v2 (if v4 = 0 then 1 else 0 : Int) m3)), none, none], [(0, (if v4 = 0 then 1 else 0 : Int)), (9, a0)], m3)) rfl trivial ?_
            have key_ : xEv (267, 128, [some (9, a0), some (0, v2), some (0, (if v4 = 0 then 1 else 0 : Int)), some (0, (if v6 = 0 then 0 else 1 : Int)), some (0, (fPrison_neighbour (a0 + 3) v2 (if v4 = 0 then 1 else 0 : Int) m3)), none, none], [(54, (if (if v4 = 0 then 1 else 0 : Int) = 0 then 11 else 12 : Int)), (9, a0)], m3) (none, r) := by
              obtain ⟨m27, e_, h⟩ := xB_t h
              refine xEvG_call xml xfetch (q := (none, m27)) rfl (hReader_takeWord a0 (if (if v4 = 0 then 1 else 0 : Int) = 0 then 11 else 12 : Int) m3 _ e_) ?_
              show xEv (267, 131, [some (9, a0), some (0, v2), some (0, (if v4 = 0 then 1 else 0 : Int)), some (0, (if v6 = 0 then 0 else 1 : Int)), some (0, (fPrison_neighbour (a0 + 3) v2 (if v4 = 0 then 1 else 0 : Int) m3)), none, none], [], m27) _
              refine xEvG_n xml xfetch 3 (y := (267, 135, [some (9, a0), some (0, v2), some (0, (if v4 = 0 then 1 else 0 : Int)), some (0, (if v6 = 0 then 0 else 1 : Int)), some (0, (fPrison_neighbour (a0 + 3) v2 (if v4 = 0 then 1 else 0 : Int) m3)), none, none], [(0, 9), (0, 1), (9, a0)], m27)) rfl trivial ?_
              obtain ⟨⟨v28, m28⟩, e_, h⟩ := xB_t h
              refine xEvG_call xml xfetch (q := (some (0, v28), m28)) rfl (hReader_takeNumber a0 1 9 m27 _ e_) ?_
              show xEv (267, 138, [some (9, a0), some (0, v2), some (0, (if v4 = 0 then 1 else 0 : Int)), some (0, (if v6 = 0 then 0 else 1 : Int)), some (0, (fPrison_neighbour (a0 + 3) v2 (if v4 = 0 then 1 else 0 : Int) m3)), none, none], [(0, v28)], m28) _
              refine xEvG_n xml xfetch 3 (y := (267, 143, [some (9, a0), some (0, v2), some (0, (if v4 = 0 then 1 else 0 : Int)), some (0, (if v6 = 0 then 0 else 1 : Int)), some (0, (fPrison_neighbour (a0 + 3) v2 (if v4 = 0 then 1 else 0 : Int) m3)), some (0, v28), none], [(54, 17), (9, a0)], m28)) rfl trivial ?_
              obtain ⟨m29, e_, h⟩ := xB_t h
              refine xEvG_call xml xfetch (q := (none, m29)) rfl (hReader_takeWord a0 17 m28 _ e_) ?_
              show xEv (267, 146, [some (9, a0), some (0, v2), some (0, (if v4 = 0 then 1 else 0 : Int)), some (0, (if v6 = 0 then 0 else 1 : Int)), some (0, (fPrison_neighbour (a0 + 3) v2 (if v4 = 0 then 1 else 0 : Int) m3)), some (0, v28), none], [], m29) _
              refine xEvG_n xml xfetch 7 (y := (267, 157, [some (9, a0), some (0, v2), some (0, (if v4 = 0 then 1 else 0 : Int)), some (0, (if v6 = 0 then 0 else 1 : Int)), some (0, (fPrison_neighbour (a0 + 3) v2 (if v4 = 0 then 1 else 0 : Int) m3)), some (0, v28), none], [(0, (xw32 ((m29 (a0 + 3) 1) - 1))), (0, 0), (9, a0)], m29)) rfl trivial ?_
              obtain ⟨⟨v30, m30⟩, e_, h⟩ := xB_t h
              refine xEvG_call xml xfetch (q := (some (0, v30), m30)) rfl (hReader_takeNumber a0 0 (xw32 ((m29 (a0 + 3) 1) - 1)) m29 _ e_) ?_
              show xEv (267, 160, [some (9, a0), some (0, v2), some (0, (if v4 = 0 then 1 else 0 : Int)), some (0, (if v6 = 0 then 0 else 1 : Int)), some (0, (fPrison_neighbour (a0 + 3) v2 (if v4 = 0 then 1 else 0 : Int) m3)), some (0, v28), none], [(0, v30)], m30) _
              refine xEvG_n xml xfetch 2 (y := (267, 163, [some (9, a0), some (0, v2), some (0, (if v4 = 0 then 1 else 0 : Int)), some (0, (if v6 = 0 then 0 else 1 : Int)), some (0, (fPrison_neighbour (a0 + 3) v2 (if v4 = 0 then 1 else 0 : Int) m3)), some (0, v28), some (0, v30)], [(9, a0)], m30)) rfl trivial ?_
              obtain ⟨m31, e_, h⟩ := xB_t h
              refine xEvG_call xml xfetch (q := (none, m31)) rfl (hReader_takeSign a0 m30 _ e_) ?_
              show xEv (267, 166, [some (9, a0), some (0, v2), some (0, (if v4 = 0 then 1 else 0 : Int)), some (0, (if v6 = 0 then 0 else 1 : Int)), some (0, (fPrison_neighbour (a0 + 3) v2 (if v4 = 0 then 1 else 0 : Int) m3)), some (0, v28), some (0, v30)], [], m31) _
              refine xEvG_n xml xfetch 3 (y := (267, if (m31 a0 7) = 0 then 173 else 192, [some (9, a0), some (0, v2), some (0, (if v4 = 0 then 1 else 0 : Int)), some (0, (if v6 = 0 then 0 else 1 : Int)), some (0, (fPrison_neighbour (a0 + 3) v2 (if v4 = 0 then 1 else 0 : Int) m3)), some (0, v28), some (0, v30)], [], m31)) rfl trivial ?_
              refine xEvG_br xml xfetch (fun c_ => ?_) (fun c_ => ?_)
              · have h := xif_t c_ h
                refine xEvG_n xml xfetch 11 (y := (267, 189, [some (9, a0), some (0, v2), some (0, (if v4 = 0 then 1 else 0 : Int)), some (0, (if v6 = 0 then 0 else 1 : Int)), some (0, (fPrison_neighbour (a0 + 3) v2 (if v4 = 0 then 1 else 0 : Int) m3)), some (0, v28), some (0, v30)], [(0, v30), (0, v28), (0, (xw32 ((xw32 ((xw32 (2 * (fPrison_neighbour (a0 + 3) v2 (if v4 = 0 then 1 else 0 : Int) m3))) + 1)) - (if v4 = 0 then 1 else 0 : Int)))), (8, (a0 + 3))], m31)) rfl trivial ?_
                obtain ⟨m32, e_, h⟩ := xB_t h
                refine xEvG_call xml xfetch (q := (none, m32)) rfl (hPrison_addSoup (a0 + 3) (xw32 ((xw32 ((xw32 (2 * (fPrison_neighbour (a0 + 3) v2 (if v4 = 0 then 1 else 0 : Int) m3))) + 1)) - (if v4 = 0 then 1 else 0 : Int))) v28 v30 m31 _ e_) ?_
                show xEv (267, 192, [some (9, a0), some (0, v2), some (0, (if v4 = 0 then 1 else 0 : Int)), some (0, (if v6 = 0 then 0 else 1 : Int)), some (0, (fPrison_neighbour (a0 + 3) v2 (if v4 = 0 then 1 else 0 : Int) m3)), some (0, v28), some (0, v30)], [], m32) _
                cases h
                exact xEvG_ret xml xfetch rfl
              · have h := xif_f c_ h
                cases h
                exact xEvG_ret xml xfetch rfl
            refine xEvG_n xml xfetch 1 (y := (267, if (if v4 = 0 then 1 else 0 : Int) = 0 then 121 else 126, [some (9, a0), some (0, v2), some (0, (if v4 = 0 then 1 else 0 : Int)), some (0, (if v6 = 0 then 0 else 1 : Int)), some (0, (fPrison_neighbour (a0 + 3) v2 (if v4 = 0 then 1 else 0 : Int) m3)), none, none], [(9, a0)], m3)) rfl trivial ?_
            refine xEvG_br xml xfetch (fun c12_ => ?_) (fun c12_ => ?_)
            · refine xEvG_n xml xfetch 2 (y := (267, 128, [some (9, a0), some (0, v2), some (0, (if v4 = 0 then 1 else 0 : Int)), some (0, (if v6 = 0 then 0 else 1 : Int)), some (0, (fPrison_neighbour (a0 + 3) v2 (if v4 = 0 then 1 else 0 : Int) m3)), none, none], [(54, 11), (9, a0)], m3)) rfl trivial ?_
              try simp only [if_pos c12_] at key_
              try simp only [if_pos c12_]
              exact key_
            · refine xEvG_n xml xfetch 1 (y := (267, 128, [some (9, a0), some (0, v2), some (0, (if v4 = 0 then 1 else 0 : Int)), some (0, (if v6 = 0 then 0 else 1 : Int)), some (0, (fPrison_neighbour (a0 + 3) v2 (if v4 = 0 then 1 else 0 : Int) m3)), none, none], [(54, 12), (9, a0)], m3)) rfl trivial ?_
              try simp only [if_neg c12_] at key_
              try simp only [if_neg c12_]
              exact key_
        refine xEvG_n xml xfetch 1 (y := (267, if v6 = 0 then 81 else 77, [some (9, a0), some (0, v2), some (0, (if v4 = 0 then 1 else 0 : Int)), none, none, none, none], [], m3)) rfl trivial ?_
        refine xEvG_br xml xfetch (fun c8_ => ?_) (fun c8_ => ?_)
        · refine xEvG_n xml xfetch 1 (y := (267, 82, [some (9, a0), some (0, v2), some (0, (if v4 = 0 then 1 else 0 : Int)), none, none, none, none], [(0, 0)], m3)) rfl trivial ?_
          try simp only [if_pos c8_] at key_
          try simp only [if_pos c8_]
          exact key_
        · refine xEvG_n xml xfetch 2 (y := (267, 82, [some (9, a0), some (0, v2), some (0, (if v4 = 0 then 1 else 0 : Int)), none, none, none, none], [(0, 1)], m3)) rfl trivial ?_
          try simp only [if_neg c8_] at key_
          try simp only [if_neg c8_]
          exact key_
      · have h := xif_f c_ h
        refine xEvG_n xml xfetch 2 (y := (267, 82, [some (9, a0), some (0, v2), some (0, (if v4 = 0 then 1 else 0 : Int)), none, none, none, none], [(0, 1)], m3)) rfl trivial ?_
        refine xEvG_mask xml xfetch [true, true, true, false, false, false, false] ?_
        exact hReader_readSoup_L82 a0 v2 (if v4 = 0 then 1 else 0 : Int) 1 m3 _ h
    refine xEvG_n xml xfetch 1 (y := (267, if v4 = 0 then 57 else 53, [some (9, a0), some (0, v2), none, none, none, none, none], [], m3)) rfl trivial ?_
    refine xEvG_br xml xfetch (fun c4_ => ?_) (fun c4_ => ?_)
    · refine xEvG_n xml xfetch 1 (y := (267, 58, [some (9, a0), some (0, v2), none, none, none, none, none], [(0, 1)], m3)) rfl trivial ?_
      try simp only [if_pos c4_] at key_
      try simp only [if_pos c4_]
      exact key_
    · refine xEvG_n xml xfetch 2 (y := (267, 58, [some (9, a0), some (0, v2), none, none, none, none, none], [(0, 0)], m3)) rfl trivial ?_
      try simp only [if_neg c4_] at key_
      try simp only [if_neg c4_]
      exact key_
  · have h := xif_f c_ h
    refine xEvG_n xml xfetch 2 (y := (267, 14, [some (9, a0), none, none, none, none, none, none], [(0, 3), (9, a0)], M)) rfl trivial ?_
    refine xEvG_call xml xfetch (q := (none, fReader_fail a0 3 M)) rfl (hReader_fail a0 3 M _ rfl) ?_
    show xEv (267, 17, [some (9, a0), none, none, none, none, none, none], [], (fReader_fail a0 3 M)) _
    refine xEvG_n xml xfetch 2 (y := (267, 20, [some (9, a0), none, none, none, none, none, none], [(54, 3), (9, a0)], (fReader_fail a0 3 M))) rfl trivial ?_
    obtain ⟨m60, e_, h⟩ := xB_t h
    refine xEvG_call xml xfetch (q := (none, m60)) rfl (hReader_takeWord a0 3 (fReader_fail a0 3 M) _ e_) ?_
    show xEv (267, 23, [some (9, a0), none, none, none, none, none, none], [], m60) _
    refine xEvG_n xml xfetch 7 (y := (267, 34, [some (9, a0), none, none, none, none, none, none], [(0, (xw32 ((m60 (a0 + 3) 0) - 1))), (0, 0), (9, a0)], m60)) rfl trivial ?_
    obtain ⟨⟨v61, m61⟩, e_, h⟩ := xB_t h
    refine xEvG_call xml xfetch (q := (some (0, v61), m61)) rfl (hReader_takeNumber a0 0 (xw32 ((m60 (a0 + 3) 0) - 1)) m60 _ e_) ?_
    show xEv (267, 37, [some (9, a0), none, none, none, none, none, none], [(0, v61)], m61) _
    refine xEvG_n xml xfetch 3 (y := (267, 41, [some (9, a0), some (0, v61), none, none, none, none, none], [(54, 16), (9, a0)], m61)) rfl trivial ?_
    obtain ⟨m62, e_, h⟩ := xB_t h
    refine xEvG_call xml xfetch (q := (none, m62)) rfl (hReader_takeWord a0 16 m61 _ e_) ?_
    show xEv (267, 44, [some (9, a0), some (0, v61), none, none, none, none, none], [], m62) _
    refine xEvG_n xml xfetch 2 (y := (267, 47, [some (9, a0), some (0, v61), none, none, none, none, none], [(54, 11), (9, a0)], m62)) rfl trivial ?_
    obtain ⟨v63, e_, h⟩ := xB_t h
    refine xEvG_call xml xfetch (q := (some (0, v63), m62)) rfl (hReader_isWord a0 11 m62 _ e_) ?_
    show xEv (267, 50, [some (9, a0), some (0, v61), none, none, none, none, none], [(0, v63)], m62) _
    have key_ : xEv (267, 58, [some (9, a0), some (0, v61), none, none, none, none, none], [(0, (if v63 = 0 then 1 else 0 : Int))], m62) (none, r) := by
      refine xEvG_n xml xfetch 3 (y := (267, 62, [some (9, a0), some (0, v61), some (0, (if v63 = 0 then 1 else 0 : Int)), none, none, none, none], [(54, 11), (9, a0)], m62)) rfl trivial ?_
      obtain ⟨v64, e_, h⟩ := xB_t h
      refine xEvG_call xml xfetch (q := (some (0, v64), m62)) rfl (hReader_isWord a0 11 m62 _ e_) ?_
      show xEv (267, 65, [some (9, a0), some (0, v61), some (0, (if v63 = 0 then 1 else 0 : Int)), none, none, none, none], [(0, v64)], m62) _
      refine xEvG_n xml xfetch 1 (y := (267, if v64 = 0 then 68 else 77, [some (9, a0), some (0, v61), some (0, (if v63 = 0 then 1 else 0 : Int)), none, none, none, none], [], m62)) rfl trivial ?_
      refine xEvG_br xml xfetch (fun c_ => ?_) (fun c_ => ?_)
      · have h := xif_t c_ h
        refine xEvG_n xml xfetch 2 (y := (267, 71, [some (9, a0), some (0, v61), some (0, (if v63 = 0 then 1 else 0 : Int)), none, none, none, none], [(54, 12), (9, a0)], m62)) rfl trivial ?_
        obtain ⟨v65, e_, h⟩ := xB_t h
        refine xEvG_call xml xfetch (q := (some (0, v65), m62)) rfl (hReader_isWord a0 12 m62 _ e_) ?_
        show xEv (267, 74, [some (9, a0), some (0, v61), some (0, (if v63 = 0 then 1 else 0 : Int)), none, none, none, none], [(0, v65)], m62) _
        have key_ : xEv (267, 82, [some (9, a0), some (0, v61), some (0, (if v63 = 0 then 1 else 0 : Int)), none, none, none, none], [(0, (if v65 = 0 then 0 else 1 : Int))], m62) (none, r) := by
          refine xEvG_n xml xfetch 5 (y := (267, 89, [some (9, a0), some (0, v61), some (0, (if v63 = 0 then 1 else 0 : Int)), some (0, (if v65 = 0 then 0 else 1 : Int)), none, none, none], [(0, (if v63 = 0 then 1 else 0 : Int)), (0, v61), (8, (a0 + 3))], m62)) rfl trivial ?_
          refine xEvG_call xml xfetch (q := (some (0, fPrison_neighbour (a0 + 3) v61 (if v63 = 0 then 1 else 0 : Int) m62), m62)) rfl (hPrison_neighbour (a0 + 3) v61 (if v63 = 0 then 1 else 0 : Int) m62 _ rfl) ?_
          show xEv (267, 92, [some (9, a0), some (0, v61), some (0, (if v63 = 0 then 1 else 0 : Int)), some (0, (if v65 = 0 then 0 else 1 : Int)), none, none, none], [(0, (fPrison_neighbour (a0 + 3) v61 (if v63 = 0 then 1 else 0 : Int) m62))], m62) _
          refine xEvG_n xml xfetch 4 (y := (267, if (m62 a0 7) = 0 then 101 else 116, [some (9, a0), some (0, v61), some (0, (if v63 = 0 then 1 else 0 : Int)), some (0, (if v65 = 0 then 0 else 1 : Int)), some (0, (fPrison_neighbour (a0 + 3) v61 (if v63 = 0 then 1 else 0 : Int) m62)), none, none], [], m62)) rfl trivial ?_
          refine xEvG_br xml xfetch (fun c_ => ?_) (fun c_ => ?_)
          · have h := xif_t c_ h
            refine xEvG_n xml xfetch 2 (y := (267, if (if v65 = 0 then 0 else 1 : Int) = 0 then 116 else 105, [some (9, a0), some (0, v61), some (0, (if v63 = 0 then 1 else 0 : Int)), some (0, (if v65 = 0 then 0 else 1 : Int)), some (0, (fPrison_neighbour (a0 + 3) v61 (if v63 = 0 then 1 else 0 : Int) m62)), none, none], [], m62)) rfl trivial ?_
            refine xEvG_br xml xfetch (fun c_ => ?_) (fun c_ => ?_)
            · have h := xif_t c_ h
              refine xEvG_n xml xfetch 2 (y := (267, 118, [some (9, a0), some (0, v61), some (0, (if v63 = 0 then 1 else 0 : Int)), some (0, (if v65 = 0 then 0 else 1 : Int)), some (0, (fPrison_neighbour (a0 + 3) v61 (if v63 = 0 then 1 else 0 : Int) m62)), none, none], [(0, (if v63 = 0 then 1 else 0 : Int)), (9, a0)], m62)) rfl trivial ?_
              have key_ : xEv (267, 128, [some (9, a0), some (0, v61), some (0, (if v63 = 0 then 1 else 0 : Int)), some (0, (if v65 = 0 then 0 else 1 : Int)), some (0, (fPrison_neighbour (a0 + 3) v61 (if v63 = 0 then 1 else 0 : Int) m62)), none, none], [(54, (if (if v63 = 0 then 1 else 0 : Int) = 0 then 11 else 12 : Int)), (9, a0)], m62) (none, r) := by
                obtain ⟨m67, e_, h⟩ := xB_t h
                refine xEvG_call xml xfetch (q := (none, m67)) rfl (hReader_takeWord a0 (if (if v63 = 0 then 1 else 0 : Int) = 0 then 11 else 12 : Int) m62 _ e_) ?_
                show xEv (267, 131, [some (9, a0), some (0, v61), some (0, (if v63 = 0 then 1 else 0 : Int)), some (0, (if v65 = 0 then 0 else 1 : Int)), some (0, (fPrison_neighbour (a0 + 3) v61 (if v63 = 0 then 1 else 0 : Int) m62)), none, none], [], m67) _
                refine xEvG_n xml xfetch 3 (y := (267, 135, [some (9, a0), some (0, v61), some (0, (if v63 = 0 then 1 else 0 : Int)), some (0, (if v65 = 0 then 0 else 1 : Int)), some (0, (fPrison_neighbour (a0 + 3) v61 (if v63 = 0 then 1 else 0 : Int) m62)), none, none], [(0, 9), (0, 1), (9, a0)], m67)) rfl trivial ?_
                obtain ⟨⟨v68, m68⟩, e_, h⟩ := xB_t h
                refine xEvG_call xml xfetch (q := (some (0, v68), m68)) rfl (hReader_takeNumber a0 1 9 m67 _ e_) ?_
                show xEv (267, 138, [some (9, a0), some (0, v61), some (0, (if v63 = 0 then 1 else 0 : Int)), some (0, (if v65 = 0 then 0 else 1 : Int)), some (0, (fPrison_neighbour (a0 + 3) v61 (if v63 = 0 then 1 else 0 : Int) m62)), none, none], [(0, v68)], m68) _
                refine xEvG_n xml xfetch 3 (y := (267, 143, [some (9, a0), some (0, v61), some (0, (if v63 = 0 then 1 else 0 : Int)), some (0, (if v65 = 0 then 0 else 1 : Int)), some (0, (fPrison_neighbour (a0 + 3) v61 (if v63 = 0 then 1 else 0 : Int) m62)), some (0, v68), none], [(54, 17), (9, a0)], m68)) rfl trivial ?_
                obtain ⟨m69, e_, h⟩ := xB_t h
                refine xEvG_call xml xfetch (q := (none, m69)) rfl (hReader_takeWord a0 17 m68 _ e_) ?_
                show xEv (267, 146, [some (9, a0), some (0, v61), some (0, (if v63 = 0 then 1 else 0 : Int)), some (0, (if v65 = 0 then 0 else 1 : Int)), some (0, (fPrison_neighbour (a0 + 3) v61 (if v63 = 0 then 1 else 0 : Int) m62)), some (0, v68), none], [], m69) _
                refine xEvG_n xml xfetch 7 (y := (267, 157, [some (9, a0), some (0, v61), some (0, (if v63 = 0 then 1 else 0 : Int)), some (0, (if v65 = 0 then 0 else 1 : Int)), some (0, (fPrison_neighbour (a0 + 3) v61 (if v63 = 0 then 1 else 0 : Int) m62)), some (0, v68), none], [(0, (xw32 ((m69 (a0 + 3) 1) - 1))), (0, 0), (9, a0)], m69)) rfl trivial ?_
                obtain ⟨⟨v70, m70⟩, e_, h⟩ := xB_t h
                refine xEvG_call xml xfetch (q := (some (0, v70), m70)) rfl (hReader_takeNumber a0 0 (xw32 ((m69 (a0 + 3) 1) - 1)) m69 _ e_) ?_
                show xEv (267, 160, [some (9, a0), some (0, v61), some (0, (if v63 = 0 then 1 else 0 : Int)), some (0, (if v65 = 0 then 0 else 1 : Int)), some (0, (fPrison_neighbour (a0 + 3) v61 (if v63 = 0 then 1 else 0 : Int) m62)), some (0, v68), none], [(0, v70)], m70) _
                refine xEvG_n xml xfetch 2 (y := (267, 163, [some (9, a0), some (0, v61), some (0, (if v63 = 0 then 1 else 0 : Int)), some (0, (if v65 = 0 then 0 else 1 : Int)), some (0, (fPrison_neighbour (a0 + 3) v61 (if v63 = 0 then 1 else 0 : Int) m62)), some (0, v68), some (0, v70)], [(9, a0)], m70)) rfl trivial ?_
                obtain ⟨m71, e_, h⟩ := xB_t h
                refine xEvG_call xml xfetch (q := (none, m71)) rfl (hReader_takeSign a0 m70 _ e_) ?_
                show xEv (267, 166, [some (9, a0), some (0, v61), some (0, (if v63 = 0 then 1 else 0 : Int)), some (0, (if v65 = 0 then 0 else 1 : Int)), some (0, (fPrison_neighbour (a0 + 3) v61 (if v63 = 0 then 1 else 0 : Int) m62)), some (0, v68), some (0, v70)], [], m71) _
                refine xEvG_n xml xfetch 3 (y := (267, if (m71 a0 7) = 0 then 173 else 192, [some (9, a0), some (0, v61), some (0, (if v63 = 0 then 1 else 0 : Int)), some (0, (if v65 = 0 then 0 else 1 : Int)), some (0, (fPrison_neighbour (a0 + 3) v61 (if v63 = 0 then 1 else 0 : Int) m62)), some (0, v68), some (0, v70)], [], m71)) rfl trivial ?_
                refine xEvG_br xml xfetch (fun c_ => ?_) (fun c_ => ?_)
                · have h := xif_t c_ h
                  refine xEvG_n xml xfetch 11 (y := (267, 189, [some (9, a0), some (0, v61), some (0, (if v63 = 0 then 1 else 0 : Int)), some (0, (if v65 = 0 then 0 else 1 : Int)), some (0, (fPrison_neighbour (a0 + 3) v61 (if v63 = 0 then 1 else 0 : Int) m62)), some (0, v68), some (0, v70)], [(0, v70), (0, v68), (0, (xw32 ((xw32 ((xw32 (2 * (fPrison_neighbour (a0 + 3) v61 (if v63 = 0 then 1 else 0 : Int) m62))) + 1)) - (if v63 = 0 then 1 else 0 : Int)))), (8, (a0 + 3))], m71)) rfl trivial ?_
                  obtain ⟨m72, e_, h⟩ := xB_t h
                  refine xEvG_call xml xfetch (q := (none, m72)) rfl (hPrison_addSoup (a0 + 3) (xw32 ((xw32 ((xw32 (2 * (fPrison_neighbour (a0 + 3) v61 (if v63 = 0 then 1 else 0 : Int) m62))) + 1)) - (if v63 = 0 then 1 else 0 : Int))) v68 v70 m71 _ e_) ?_
                  show xEv (267, 192, [some (9, a0), some (0, v61), some (0, (if v63 = 0 then 1 else 0 : Int)), some (0, (if v65 = 0 then 0 else 1 : Int)), some (0, (fPrison_neighbour (a0 + 3) v61 (if v63 = 0 then 1 else 0 : Int) m62)), some (0, v68), some (0, v70)], [], m72) _
                  cases h
                  exact xEvG_ret xml xfetch rfl
                · have h := xif_f c_ h
                  cases h
                  exact xEvG_ret xml xfetch rfl
              refine xEvG_n xml xfetch 1 (y := (267, if (if v63 = 0 then 1 else 0 : Int) = 0 then 121 else 126, [some (9, a0), some (0, v61), some (0, (if v63 = 0 then 1 else 0 : Int)), some (0, (if v65 = 0 then 0 else 1 : Int)), some (0, (fPrison_neighbour (a0 + 3) v61 (if v63 = 0 then 1 else 0 : Int) m62)), none, none], [(9, a0)], m62)) rfl trivial ?_
              refine xEvG_br xml xfetch (fun c14_ => ?_) (fun c14_ => ?_)
              · refine xEvG_n xml xfetch 2 (y := (267, 128, [some (9, a0), some (0, v61), some (0, (if v63 = 0 then 1 else 0 : Int)), some (0, (if v65 = 0 then 0 else 1 : Int)), some (0, (fPrison_neighbour (a0 + 3) v61 (if v63 = 0 then 1 else 0 : Int) m62)), none, none], [(54, 11), (9, a0)], m62)) rfl trivial ?_
                try simp only [if_pos c14_] at key_
                try simp only [if_pos c14_]
                exact key_
              · refine xEvG_n xml xfetch 1 (y := (267, 128, [some (9, a0), some (0, v61), some (0, (if v63 = 0 then 1 else 0 : Int)), some (0, (if v65 = 0 then 0 else 1 : Int)), some (0, (fPrison_neighbour (a0 + 3) v61 (if v63 = 0 then 1 else 0 : Int) m62)), none, none], [(54, 12), (9, a0)], m62)) rfl trivial ?_
                try simp only [if_neg c14_] at key_
                try simp only [if_neg c14_]
                exact key_
            · have h := xif_f c_ h
              refine xEvG_n xml xfetch 3 (y := (267, if (fPrison_neighbour (a0 + 3) v61 (if v63 = 0 then 1 else 0 : Int) m62) = (-1) then 111 else 116, [some (9, a0), some (0, v61), some (0, (if v63 = 0 then 1 else 0 : Int)), some (0, (if v65 = 0 then 0 else 1 : Int)), some (0, (fPrison_neighbour (a0 + 3) v61 (if v63 = 0 then 1 else 0 : Int) m62)), none, none], [], m62)) rfl trivial ?_
              refine xEvG_br xml xfetch (fun c_ => ?_) (fun c_ => ?_)
              · have h := xif_t c_ h
                refine xEvG_n xml xfetch 2 (y := (267, 113, [some (9, a0), some (0, v61), some (0, (if v63 = 0 then 1 else 0 : Int)), some (0, (if v65 = 0 then 0 else 1 : Int)), some (0, (fPrison_neighbour (a0 + 3) v61 (if v63 = 0 then 1 else 0 : Int) m62)), none, none], [(0, 2), (9, a0)], m62)) rfl trivial ?_
                refine xEvG_call xml xfetch (q := (none, fReader_fail a0 2 m62)) rfl (hReader_fail a0 2 m62 _ rfl) ?_
                show xEv (267, 116, [some (9, a0), some (0, v61), some (0, (if v63 = 0 then 1 else 0 : Int)), some (0, (if v65 = 0 then 0 else 1 : Int)), some (0, (fPrison_neighbour (a0 + 3) v61 (if v63 = 0 then 1 else 0 : Int) m62)), none, none], [], (fReader_fail a0 2 m62)) _
                refine xEvG_n xml xfetch 2 (y := (267, 118, [some (9, a0), some (0, v61), some (0, (if v63 = 0 then 1 else 0 : Int)), some (0, (if v65 = 0 then 0 else 1 : Int)), some (0, (fPrison_neighbour (a0 + 3) v61 (if v63 = 0 then 1 else 0 : Int) m62)), none, none], [(0, (if v63 = 0 then 1 else 0 : Int)), (9, a0)], (fReader_fail a0 2 m62))) rfl trivial ?_
                have key_ : xEv (267, 128, [some (9, a0), some (0, v61), some (0, (if v63 = 0 then 1 else 0 : Int)), some (0, (if v65 = 0 then 0 else 1 : Int)), some (0, (fPrison_neighbour (a0 + 3) v61 (if v63 = 0 then 1 else 0 : Int) m62)), none, none], [(54, (if (if v63 = 0 then 1 else 0 : Int) = 0 then 11 else 12 : Int)), (9, a0)], (fReader_fail a0 2 m62)) (none, r) := by
                  obtain ⟨m74, e_, h⟩ := xB_t h
                  refine xEvG_call xml xfetch (q := (none, m74)) rfl (hReader_takeWord a0 (if (if v63 = 0 then 1 else 0 : Int) = 0 then 11 else 12 : Int) (fReader_fail a0 2 m62) _ e_) ?_
                  show xEv (267, 131, [some (9, a0), some (0, v61), some (0, (if v63 = 0 then 1 else 0 : Int)), some (0, (if v65 = 0 then 0 else 1 : Int)), some (0, (fPrison_neighbour (a0 + 3) v61 (if v63 = 0 then 1 else 0 : Int) m62)), none, none], [], m74) _
                  refine xEvG_n xml xfetch 3 (y := (267, 135, [some (9, a0), some (0, v61), some (0, (if v63 = 0 then 1 else 0 : Int)), some (0, (if v65 = 0 then 0 else 1 : Int)), some (0, (fPrison_neighbour (a0 + 3) v61 (if v63 = 0 then 1 else 0 : Int) m62)), none, none], [(0, 9), (0, 1), (9, a0)], m74)) rfl trivial ?_
                  obtain ⟨⟨v75, m75⟩, e_, h⟩ := xB_t h
                  refine xEvG_call xml xfetch (q := (some (0, v75), m75)) rfl (hReader_takeNumber a0 1 9 m74 _ e_) ?_
                  show xEv (267, 138, [some (9, a0), some (0, v61), some (0, (if v63 = 0 then 1 else 0 : Int)), some (0, (if v65 = 0 then 0 else 1 : Int)), some (0, (fPrison_neighbour (a0 + 3) v61 (if v63 = 0 then 1 else 0 : Int) m62)), none, none], [(0, v75)], m75) _
                  refine xEvG_n xml xfetch 3 (y := (267, 143, [some (9, a0), some (0, v61), some (0, (if v63 = 0 then 1 else 0 : Int)), some (0, (if v65 = 0 then 0 else 1 : Int)), some (0, (fPrison_neighbour (a0 + 3) v61 (if v63 = 0 then 1 else 0 : Int) m62)), some (0, v75), none], [(54, 17), (9, a0)], m75)) rfl trivial ?_
                  obtain ⟨m76, e_, h⟩ := xB_t h
                  refine xEvG_call xml xfetch (q := (none, m76)) rfl (hReader_takeWord a0 17 m75 _ e_) ?_
                  show xEv (267, 146, [some (9, a0), some (0, v61), some (0, (if v63 = 0 then 1 else 0 : Int)), some (0, (if v65 = 0 then 0 else 1 : Int)), some (0, (fPrison_neighbour (a0 + 3) v61 (if v63 = 0 then 1 else 0 : Int) m62)), some (0, v75), none], [], m76) _
                  refine xEvG_n xml xfetch 7 (y := (267, 157, [some (9, a0), some (0, v61), some (0, (if v63 = 0 then 1 else 0 : Int)), some (0, (if v65 = 0 then 0 else 1 : Int)), some (0, (fPrison_neighbour (a0 + 3) v61 (if v63 = 0 then 1 else 0 : Int) m62)), some (0, v75), none], [(0, (xw32 ((m76 (a0 + 3) 1) - 1))), (0, 0), (9, a0)], m76)) rfl trivial ?_
                  obtain ⟨⟨v77, m77⟩, e_, h⟩ := xB_t h
                  refine xEvG_call xml xfetch (q := (some (0, v77), m77)) rfl (hReader_takeNumber a0 0 (xw32 ((m76 (a0 + 3) 1) - 1)) m76 _ e_) ?_
                  show xEv (267, 160, [some (9, a0), some (0, v61), some (0, (if v63 = 0 then 1 else 0 : Int)), some (0, (if v65 = 0 then 0 else 1 : Int)), some (0, (fPrison_neighbour (a0 + 3) v61 (if v63 = 0 then 1 else 0 : Int) m62)), some (0, v75), none], [(0, v77)], m77) _
                  refine xEvG_n xml xfetch 2 (y := (267, 163, [some (9, a0), some (0, v61), some (0, (if v63 = 0 then 1 else 0 : Int)), some (0, (if v65 = 0 then 0 else 1 : Int)), some (0, (fPrison_neighbour (a0 + 3) v61 (if v63 = 0 then 1 else 0 : Int) m62)), some (0, v75), some (0, v77)], [(9, a0)], m77)) rfl trivial ?_
                  obtain ⟨m78, e_, h⟩ := xB_t h
                  refine xEvG_call xml xfetch (q := (none, m78)) rfl (hReader_takeSign a0 m77 _ e_) ?_
                  show xEv (267, 166, [some (9, a0), some (0, v61), some (0, (if v63 = 0 then 1 else 0 : Int)), some (0, (if v65 = 0 then 0 else 1 : Int)), some (0, (fPrison_neighbour (a0 + 3) v61 (if v63 = 0 then 1 else 0 : Int) m62)), some (0, v75), some (0, v77)], [], m78) _
                  refine xEvG_n xml xfetch 3 (y := (267, if (m78 a0 7) = 0 then 173 else 192, [some (9, a0), some (0, v61), some (0, (if v63 = 0 then 1 else 0 : Int)), some (0, (if v65 = 0 then 0 else 1 : Int)), some (0, (fPrison_neighbour (a0 + 3) v61 (if v63 = 0 then 1 else 0 : Int) m62)), some (0, v75), some (0, v77)], [], m78)) rfl trivial ?_
                  refine xEvG_br xml xfetch (fun c_ => ?_) (fun c_ => ?_)
                  · have h := xif_t c_ h
                    refine xEvG_n xml xfetch 11 (y := (267, 189, [some (9, a0), some (0, v61), some (0, (if v63 = 0 then 1 else 0 : Int)), some (0, (if v65 = 0 then 0 else 1 : Int)), some (0, (fPrison_neighbour (a0 + 3) v61 (if v63 = 0 then 1 else 0 : Int) m62)), some (0, v75), some (0, v77)], [(0, v77), (0, v75), (0, (xw32 ((xw32 ((xw32 (2 * (fPrison_neighbour (a0 + 3) v61 (if v63 = 0 then 1 else 0 : Int) m62))) + 1)) - (if v63 = 0 then 1 else 0 : Int)))), (8, (a0 + 3))], m78)) rfl trivial ?_
                    obtain ⟨m79, e_, h⟩ := xB_t h
                    refine xEvG_call xml xfetch (q := (none, m79)) rfl (hPrison_addSoup (a0 + 3) (xw32 ((xw32 ((xw32 (2 * (fPrison_neighbour (a0 + 3) v61 (if v63 = 0 then 1 else 0 : Int) m62))) + 1)) - (if v63 = 0 then 1 else 0 : Int))) v75 v77 m78 _ e_) ?_
                    show xEv (267, 192, [some (9, a0), some (0, v61), some (0, (if v63 = 0 then 1 else 0 : Int)), some (0, (if v65 = 0 then 0 else 1 : Int)), some (0, (fPrison_neighbour (a0 + 3) v61 (if v63 = 0 then 1 else 0 : Int) m62)), some (0, v75), some (0, v77)], [], m79) _
                    cases h
                    exact xEvG_ret xml xfetch rfl
                  · have h := xif_f c_ h
                    cases h
                    exact xEvG_ret xml xfetch rfl
                refine xEvG_n xml xfetch 1 (y := (267, if (if v63 = 0 then 1 else 0 : Int) = 0 then 121 else 126, [some (9, a0), some (0, v61), some (0, (if v63 = 0 then 1 else 0 : Int)), some (0, (if v65 = 0 then 0 else 1 : Int)), some (0, (fPrison_neighbour (a0 + 3) v61 (if v63 = 0 then 1 else 0 : Int) m62)), none, none], [(9, a0)], (fReader_fail a0 2 m62))) rfl trivial ?_
                refine xEvG_br xml xfetch (fun c16_ => ?_) (fun c16_ => ?_)
                · refine xEvG_n xml xfetch 2 (y := (267, 128, [some (9, a0), some (0, v61), some (0, (if v63 = 0 then 1 else 0 : Int)), some (0, (if v65 = 0 then 0 else 1 : Int)), some (0, (fPrison_neighbour (a0 + 3) v61 (if v63 = 0 then 1 else 0 : Int) m62)), none, none], [(54, 11), (9, a0)], (fReader_fail a0 2 m62))) rfl trivial ?_
                  try simp only [if_pos c16_] at key_
                  try simp only [if_pos c16_]
                  exact key_
                · refine xEvG_n xml xfetch 1 (y := (267, 128, [some (9, a0), some (0, v61), some (0, (if v63 = 0 then 1 else 0 : Int)), some (0, (if v65 = 0 then 0 else 1 : Int)), some (0, (fPrison_neighbour (a0 + 3) v61 (if v63 = 0 then 1 else 0 : Int) m62)), none, none], [(54, 12), (9, a0)], (fReader_fail a0 2 m62))) rfl trivial ?_
                  try simp only [if_neg c16_] at key_
                  try simp only [if_neg c16_]
                  exact key_
              · have h := xif_f c_ h
                refine xEvG_n xml xfetch 2 (y := (267, 118, [some (9, a0), some (0, v61), some (0, (if v63 = 0 then 1 else 0 : Int)), some (0, (if v65 = 0 then 0 else 1 : Int)), some (0, (fPrison_neighbour (a0 + 3) v61 (if v63 = 0 then 1 else 0 : Int) m62)), none, none], [(0, (if v63 = 0 then 1 else 0 : Int)), (9, a0)], m62)) rfl trivial ?_
                have key_ : xEv (267, 128, [some (9, a0), some (0, v61), some (0, (if v63 = 0 then 1 else 0 : Int)), some (0, (if v65 = 0 then 0 else 1 : Int)), some (0, (fPrison_neighbour (a0 + 3) v61 (if v63 = 0 then 1 else 0 : Int) m62)), none, none], [(54, (if (if v63 = 0 then 1 else 0 : Int) = 0 then 11 else 12 : Int)), (9, a0)], m62) (none, r) := by
                  obtain ⟨m80, e_, h⟩ := xB_t h
                  refine xEvG_call xml xfetch (q := (none, m80)) rfl (hReader_takeWord a0 (if (if v63 = 0 then 1 else 0 : Int) = 0 then 11 else 12 : Int) m62 _ e_) ?_
                  show xEv (267, 131, [some (9, a0), some (0, v61), some (0, (if v63 = 0 then 1 else 0 : Int)), some (0, (if v65 = 0 then 0 else 1 : Int)), some (0, (fPrison_neighbour (a0 + 3) v61 (if v63 = 0 then 1 else 0 : Int) m62)), none, none], [], m80) _
                  refine xEvG_n xml xfetch 3 (y := (267, 135, [some (9, a0), some (0, v61), some (0, (if v63 = 0 then 1 else 0 : Int)), some (0, (if v65 = 0 then 0 else 1 : Int)), some (0, (fPrison_neighbour (a0 + 3) v61 (if v63 = 0 then 1 else 0 : Int) m62)), none, none], [(0, 9), (0, 1), (9, a0)], m80)) rfl trivial ?_
                  obtain ⟨⟨v81, m81⟩, e_, h⟩ := xB_t h
                  refine xEvG_call xml xfetch (q := (some (0, v81), m81)) rfl (hReader_takeNumber a0 1 9 m80 _ e_) ?_
                  show xEv (267, 138, [some (9, a0), some (0, v61), some (0, (if v63 = 0 then 1 else 0 : Int)), some (0, (if v65 = 0 then 0 else 1 : Int)), some (0, (fPrison_neighbour (a0 + 3) v61 (if v63 = 0 then 1 else 0 : Int) m62)), none, none], [(0, v81)], m81) _
                  refine xEvG_n xml xfetch 3 (y := (267, 143, [some (9, a0), some (0, v61), some (0, (if v63 = 0 then 1 else 0 : Int)), some (0, (if v65 = 0 then 0 else 1 : Int)), some (0, (fPrison_neighbour (a0 + 3) v61 (if v63 = 0 then 1 else 0 : Int) m62)), some (0, v81), none], [(54, 17), (9, a0)], m81)) rfl trivial ?_
                  obtain ⟨m82, e_, h⟩ := xB_t h
                  refine xEvG_call xml xfetch (q := (none, m82)) rfl (hReader_takeWord a0 17 m81 _ e_) ?_
                  show xEv (267, 146, [some (9, a0), some (0, v61), some (0, (if v63 = 0 then 1 else 0 : Int)), some (0, (if v65 = 0 then 0 else 1 : Int)), some (0, (fPrison_neighbour (a0 + 3) v61 (if v63 = 0 then 1 else 0 : Int) m62)), some (0, v81), none], [], m82) _
                  refine xEvG_n xml xfetch 7 (y := (267, 157, [some (9, a0), some (0, v61), some (0, (if v63 = 0 then 1 else 0 : Int)), some (0, (if v65 = 0 then 0 else 1 : Int)), some (0, (fPrison_neighbour (a0 + 3) v61 (if v63 = 0 then 1 else 0 : Int) m62)), some (0, v81), none], [(0, (xw32 ((m82 (a0 + 3) 1) - 1))), (0, 0), (9, a0)], m82)) rfl trivial ?_
                  obtain ⟨⟨v83, m83⟩, e_, h⟩ := xB_t h
                  refine xEvG_call xml xfetch (q := (some (0, v83), m83)) rfl (hReader_takeNumber a0 0 (xw32 ((m82 (a0 + 3) 1) - 1)) m82 _ e_) ?_
                  show xEv (267, 160, [some (9, a0), some (0, v61), some (0, (if v63 = 0 then 1 else 0 : Int)), some (0, (if v65 = 0 then 0 else 1 : Int)), some (0, (fPrison_neighbour (a0 + 3) v61 (if v63 = 0 then 1 else 0 : Int) m62)), some (0, v81), none], [(0, v83)], m83) _
                  refine xEvG_n xml xfetch 2 (y := (267, 163, [some (9, a0), some (0, v61), some (0, (if v63 = 0 then 1 else 0 : Int)), some (0, (if v65 = 0 then 0 else 1 : Int)), some (0, (fPrison_neighbour (a0 + 3) v61 (if v63 = 0 then 1 else 0 : Int) m62)), some (0, v81), some (0, v83)], [(9, a0)], m83)) rfl trivial ?_
                  obtain ⟨m84, e_, h⟩ := xB_t h
                  refine xEvG_call xml xfetch (q := (none, m84)) rfl (hReader_takeSign a0 m83 _ e_) ?_
                  show xEv (267, 166, [some (9, a0), some (0, v61), some (0, (if v63 = 0 then 1 else 0 : Int)), some (0, (if v65 = 0 then 0 else 1 : Int)), some (0, (fPrison_neighbour (a0 + 3) v61 (if v63 = 0 then 1 else 0 : Int) m62)), some (0, v81), some (0, v83)], [], m84) _
                  refine xEvG_n xml xfetch 3 (y := (267, if (m84 a0 7) = 0 then 173 else 192, [some (9, a0), some (0, v61), some (0, (if v63 = 0 then 1 else 0 : Int)), some (0, (if v65 = 0 then 0 else 1 : Int)), some (0, (fPrison_neighbour (a0 + 3) v61 (if v63 = 0 then 1 else 0 : Int) m62)), some (0, v81), some (0, v83)], [], m84)) rfl trivial ?_
                  refine xEvG_br xml xfetch (fun c_ => ?_) (fun c_ => ?_)
                  · have h := xif_t c_ h
                    refine xEvG_n xml xfetch 11 (y := (267, 189, [some (9, a0), some (0, v61), some (0, (if v63 = 0 then 1 else 0 : Int)), some (0, (if v65 = 0 then 0 else 1 : Int)), some (0, (fPrison_neighbour (a0 + 3) v61 (if v63 = 0 then 1 else 0 : Int) m62)), some (0, v81), some (0, v83)], [(0, v83), (0, v81), (0, (xw32 ((xw32 ((xw32 (2 * (fPrison_neighbour (a0 + 3) v61 (if v63 = 0 then 1 else 0 : Int) m62))) + 1)) - (if v63 = 0 then 1 else 0 : Int)))), (8, (a0 + 3))], m84)) rfl trivial ?_
                    obtain ⟨m85, e_, h⟩ := xB_t h
                    refine xEvG_call xml xfetch (q := (none, m85)) rfl (hPrison_addSoup (a0 + 3) (xw32 ((xw32 ((xw32 (2 * (fPrison_neighbour (a0 + 3) v61 (if v63 = 0 then 1 else 0 : Int) m62))) + 1)) - (if v63 = 0 then 1 else 0 : Int))) v81 v83 m84 _ e_) ?_
                    show xEv (267, 192, [some (9, a0), some (0, v61), some (0, (if v63 = 0 then 1 else 0 : Int)), some (0, (if v65 = 0 then 0 else 1 : Int)), some (0, (fPrison_neighbour (a0 + 3) v61 (if v63 = 0 then 1 else 0 : Int) m62)), some (0, v81), some (0, v83)], [], m85) _
                    cases h
                    exact xEvG_ret xml xfetch rfl
                  · have h := xif_f c_ h
                    cases h
                    exact xEvG_ret xml xfetch rfl
                refine xEvG_n xml xfetch 1 (y := (267, if (if v63 = 0 then 1 else 0 : Int) = 0 then 121 else 126, [some (9, a0), some (0, v61), some (0, (if v63 = 0 then 1 else 0 : Int)), some (0, (if v65 = 0 then 0 else 1 : Int)), some (0, (fPrison_neighbour (a0 + 3) v61 (if v63 = 0 then 1 else 0 : Int) m62)), none, none], [(9, a0)], m62)) rfl trivial ?_
                refine xEvG_br xml xfetch (fun c16_ => ?_) (fun c16_ => ?_)
                · refine xEvG_n xml xfetch 2 (y := (267, 128, [some (9, a0), some (0, v61), some (0, (if v63 = 0 then 1 else 0 : Int)), some (0, (if v65 = 0 then 0 else 1 : Int)), some (0, (fPrison_neighbour (a0 + 3) v61 (if v63 = 0 then 1 else 0 : Int) m62)), none, none], [(54, 11), (9, a0)], m62)) rfl trivial ?_
                  try simp only [if_pos c16_] at key_
                  try simp only [if_pos c16_]
                  exact key_
                · refine xEvG_n xml xfetch 1 (y := (267, 128, [some (9, a0), some (0, v61), some (0, (if v63 = 0 then 1 else 0 : Int)), some (0, (if v65 = 0 then 0 else 1 : Int)), some (0, (fPrison_neighbour (a0 + 3) v61 (if v63 = 0 then 1 else 0 : Int) m62)), none, none], [(54, 12), (9, a0)], m62)) rfl trivial ?_
                  try simp only [if_neg c16_] at key_
                  try simp only [if_neg c16_]
                  exact key_
          · have h := xif_f c_ h
            refine xEvG_n xml xfetch 2 (y := (267, 118, [some (9, a0), some (0, v61), some (0, (if v63 = 0 then 1 else 0 : Int)), some (0, (if v65 = 0 then 0 else 1 : Int)), some (0, (fPrison_neighbour (a0 + 3) v61 (if v63 = 0 then 1 else 0 : Int) m62)), none, none], [(0, (if v63 = 0 then 1 else 0 : Int)), (9, a0)], m62)) rfl trivial ?_
            have key_ : xEv (267, 128, [some (9, a0), some (0, v61), some (0, (if v63 = 0 then 1 else 0 : Int)), some (0, (if v65 = 0 then 0 else 1 : Int)), some (0, (fPrison_neighbour (a0 + 3) v61 (if v63 = 0 then 1 else 0 : Int) m62)), none, none], [(54, (if (if v63 = 0 then 1 else 0 : Int) = 0 then 11 else 12 : Int)), (9, a0)], m62) (none, r) := by
              obtain ⟨m86, e_, h⟩ := xB_t h
              refine xEvG_call xml xfetch (q := (none, m86)) rfl (hReader_takeWord a0 (if (if v63 = 0 then 1 else 0 : Int) = 0 then 11 else 12 : Int) m62 _ e_) ?_
              show xEv (267, 131, [some (9, a0), some (0, v61), some (0, (if v63 = 0 then 1 else 0 : Int)), some (0, (if v65 = 0 then 0 else 1 : Int)), some (0, (fPrison_neighbour (a0 + 3) v61 (if v63 = 0 then 1 else 0 : Int) m62)), none, none], [], m86) _
              refine xEvG_n xml xfetch 3 (y := (267, 135, [some (9, a0), some (0, v61), some (0, (if v63 = 0 then 1 else 0 : Int)), some (0, (if v65 = 0 then 0 else 1 : Int)), some (0, (fPrison_neighbour (a0 + 3) v61 (if v63 = 0 then 1 else 0 : Int) m62)), none, none], [(0, 9), (0, 1), (9, a0)], m86)) rfl trivial ?_
              obtain ⟨⟨v87, m87⟩, e_, h⟩ := xB_t h
              refine xEvG_call xml xfetch (q := (some (0, v87), m87)) rfl (hReader_takeNumber a0 1 9 m86 _ e_) ?_
              show xEv (267, 138, [some (9, a0), some (0, v61), some (0, (if v63 = 0 then 1 else 0 : Int)), some (0, (if v65 = 0 then 0 else 1 : Int)), some (0, (fPrison_neighbour (a0 + 3) v61 (if v63 = 0 then 1 else 0 : Int) m62)), none, none], [(0, v87)], m87) _
              refine xEvG_n xml xfetch 3 (y := (267, 143, [some (9, a0), some (0, v61), some (0, (if v63 = 0 then 1 else 0 : Int)), some (0, (if v65 = 0 then 0 else 1 : Int)), some (0, (fPrison_neighbour (a0 + 3) v61 (if v63 = 0 then 1 else 0 : Int) m62)), some (0, v87), none], [(54, 17), (9, a0)], m87)) rfl trivial ?_
              obtain ⟨m88, e_, h⟩ := xB_t h
              refine xEvG_call xml xfetch (q := (none, m88)) rfl (hReader_takeWord a0 17 m87 _ e_) ?_
              show xEv (267, 146, [some (9, a0), some (0, v61), some (0, (if v63 = 0 then 1 else 0 : Int)), some (0, (if v65 = 0 then 0 else 1 : Int)), some (0, (fPrison_neighbour (a0 + 3) v61 (if v63 = 0 then 1 else 0 : Int) m62)), some (0, v87), none], [], m88) _
              refine xEvG_n xml xfetch 7 (y := (267, 157, [some (9, a0), some (0, v61), some (0, (if v63 = 0 then 1 else 0 : Int)), some (0, (if v65 = 0 then 0 else 1 : Int)), some (0, (fPrison_neighbour (a0 + 3) v61 (if v63 = 0 then 1 else 0 : Int) m62)), some (0, v87), none], [(0, (xw32 ((m88 (a0 + 3) 1) - 1))), (0, 0), (9, a0)], m88)) rfl trivial ?_
              obtain ⟨⟨v89, m89⟩, e_, h⟩ := xB_t h
              refine xEvG_call xml xfetch (q := (some (0, v89), m89)) rfl (hReader_takeNumber a0 0 (xw32 ((m88 (a0 + 3) 1) - 1)) m88 _ e_) ?_
              show xEv (267, 160, [some (9, a0), some (0, v61), some (0, (if v63 = 0 then 1 else 0 : Int)), some (0, (if v65 = 0 then 0 else 1 : Int)), some (0, (fPrison_neighbour (a0 + 3) v61 (if v63 = 0 then 1 else 0 : Int) m62)), some (0, v87), none], [(0, v89)], m89) _
              refine xEvG_n xml xfetch 2 (y := (267, 163, [some (9, a0), some (0, v61), some (0, (if v63 = 0 then 1 else 0 : Int)), some (0, (if v65 = 0 then 0 else 1 : Int)), some (0, (fPrison_neighbour (a0 + 3) v61 (if v63 = 0 then 1 else 0 : Int) m62)), some (0, v87), some (0, v89)], [(9, a0)], m89)) rfl trivial ?_
              obtain ⟨m90, e_, h⟩ := xB_t h
              refine xEvG_call xml xfetch (q := (none, m90)) rfl (hReader_takeSign a0 m89 _ e_) ?_
              show xEv (267, 166, [some (9, a0), some (0, v61), some (0, (if v63 = 0 then 1 else 0 : Int)), some (0, (if v65 = 0 then 0 else 1 : Int)), some (0, (fPrison_neighbour (a0 + 3) v61 (if v63 = 0 then 1 else 0 : Int) m62)), some (0, v87), some (0, v89)], [], m90) _
              refine xEvG_n xml xfetch 3 (y := (267, if (m90 a0 7) = 0 then 173 else 192, [some (9, a0), some (0, v61), some (0, (if v63 = 0 then 1 else 0 : Int)), some (0, (if v65 = 0 then 0 else 1 : Int)), some (0, (fPrison_neighbour (a0 + 3) v61 (if v63 = 0 then 1 else 0 : Int) m62)), some (0, v87), some (0, v89)], [], m90)) rfl trivial ?_
              refine xEvG_br xml xfetch (fun c_ => ?_) (fun c_ => ?_)
              · have h := xif_t c_ h
                refine xEvG_n xml xfetch 11 (y := (267, 189, [some (9, a0), some (0, v61), some (0, (if v63 = 0 then 1 else 0 : Int)), some (0, (if v65 = 0 then 0 else 1 : Int)), some (0, (fPrison_neighbour (a0 + 3) v61 (if v63 = 0 then 1 else 0 : Int) m62)), some (0, v87), some (0, v89)], [(0, v89), (0, v87), (0, (xw32 ((xw32 ((xw32 (2 * (fPrison_neighbour (a0 + 3) v61 (if v63 = 0 then 1 else 0 : Int) m62))) + 1)) - (if v63 = 0 then 1 else 0 : Int)))), (8, (a0 + 3))], m90)) rfl trivial ?_
                obtain ⟨m91, e_, h⟩ := xB_t h
                refine xEvG_call xml xfetch (q := (none, m91)) rfl (hPrison_addSoup (a0 + 3) (xw32 ((xw32 ((xw32 (2 * (fPrison_neighbour (a0 + 3) v61 (if v63 = 0 then 1 else 0 : Int) m62))) + 1)) - (if v63 = 0 then 1 else 0 : Int))) v87 v89 m90 _ e_) ?_
                show xEv (267, 192, [some (9, a0), some (0, v61), some (0, (if v63 = 0 then 1 else 0 : Int)), some (0, (if v65 = 0 then 0 else 1 : Int)), some (0, (fPrison_neighbour (a0 + 3) v61 (if v63 = 0 then 1 else 0 : Int) m62)), some (0, v87), some (0, v89)], [], m91) _
                cases h
                exact xEvG_ret xml xfetch rfl
              · have h := xif_f c_ h
                cases h
                exact xEvG_ret xml xfetch rfl
            refine xEvG_n xml xfetch 1 (y := (267, if (if v63 = 0 then 1 else 0 : Int) = 0 then 121 else 126, [some (9, a0), some (0, v61), some (0, (if v63 = 0 then 1 else 0 : Int)), some (0, (if v65 = 0 then 0 else 1 : Int)), some (0, (fPrison_neighbour (a0 + 3) v61 (if v63 = 0 then 1 else 0 : Int) m62)), none, none], [(9, a0)], m62)) rfl trivial ?_
            refine xEvG_br xml xfetch (fun c12_ => ?_) (fun c12_ => ?_)
            · refine xEvG_n xml xfetch 2 (y := (267, 128, [some (9, a0), some (0, v61), some (0, (if v63 = 0 then 1 else 0 : Int)), some (0, (if v65 = 0 then 0 else 1 : Int)), some (0, (fPrison_neighbour (a0 + 3) v61 (if v63 = 0 then 1 else 0 : Int) m62)), none, none], [(54, 11), (9, a0)], m62)) rfl trivial ?_
              try simp only [if_pos c12_] at key_
              try simp only [if_pos c12_]
              exact key_
            · refine xEvG_n xml xfetch 1 (y := (267, 128, [some (9, a0), some (0, v61), some (0, (if v63 = 0 then 1 else 0 : Int)), some (0, (if v65 = 0 then 0 else 1 : Int)), some (0, (fPrison_neighbour (a0 + 3) v61 (if v63 = 0 then 1 else 0 : Int) m62)), none, none], [(54, 12), (9, a0)], m62)) rfl trivial ?_
              try simp only [if_neg c12_] at key_
              try simp only [if_neg c12_]
              exact key_
        refine xEvG_n xml xfetch 1 (y := (267, if v65 = 0 then 81 else 77, [some (9, a0), some (0, v61), some (0, (if v63 = 0 then 1 else 0 : Int)), none, none, none, none], [], m62)) rfl trivial ?_
        refine xEvG_br xml xfetch (fun c8_ => ?_) (fun c8_ => ?_)
        · refine xEvG_n xml xfetch 1 (y := (267, 82, [some (9, a0), some (0, v61), some (0, (if v63 = 0 then 1 else 0 : Int)), none, none, none, none], [(0, 0)], m62)) rfl trivial ?_
          try simp only [if_pos c8_] at key_
          try simp only [if_pos c8_]
          exact key_
        · refine xEvG_n xml xfetch 2 (y := (267, 82, [some (9, a0), some (0, v61), some (0, (if v63 = 0 then 1 else 0 : Int)), none, none, none, none], [(0, 1)], m62)) rfl trivial ?_
          try simp only [if_neg c8_] at key_
          try simp only [if_neg c8_]
          exact key_
      · have h := xif_f c_ h
        refine xEvG_n xml xfetch 2 (y := (267, 82, [some (9, a0), some (0, v61), some (0, (if v63 = 0 then 1 else 0 : Int)), none, none, none, none], [(0, 1)], m62)) rfl trivial ?_
        refine xEvG_mask xml xfetch [true, true, true, false, false, false, false] ?_
        exact hReader_readSoup_L82 a0 v61 (if v63 = 0 then 1 else 0 : Int) 1 m62 _ h
    refine xEvG_n xml xfetch 1 (y := (267, if v63 = 0 then 57 else 53, [some (9, a0), some (0, v61), none, none, none, none, none], [], m62)) rfl trivial ?_
    refine xEvG_br xml xfetch (fun c4_ => ?_) (fun c4_ => ?_)
    · refine xEvG_n xml xfetch 1 (y := (267, 58, [some (9, a0), some (0, v61), none, none, none, none, none], [(0, 1)], m62)) rfl trivial ?_
      try simp only [if_pos c4_] at key_
      try simp only [if_pos c4_]
      exact key_
    · refine xEvG_n xml xfetch 2 (y := (267, 58, [some (9, a0), some (0, v61), none, none, none, none, none], [(0, 0)], m62)) rfl trivial ?_
      try simp only [if_neg c4_] at key_
      try simp only [if_neg c4_]
      exact key_

end
