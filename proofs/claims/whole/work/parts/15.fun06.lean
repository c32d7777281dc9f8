/-! the methods as functions, each with its proof (printed by wip/tools/fgen.py) -/
noncomputable section
/-- ConsentDoorsModel.begins()V -/
def fQ_begins (a0 : Int) (M : xM) : Option xM := xB (fQ_next a0 (xwr (xwr (xwr M a0 12 0) a0 13 (-1)) a0 7 0)) (fun m1 => some m1)
theorem hQ_begins (a0 : Int) (M : xM) (r : xM) (h : fQ_begins a0 M = some r) : xEv (106, 0, [some (13, a0)], [], M) (none, r) := by
  unfold fQ_begins at h
  refine xEvG_n xml xfetch 10 (y := (106, 16, [some (13, a0)], [(13, a0)], (xwr (xwr (xwr M a0 12 0) a0 13 (-1)) a0 7 0))) rfl trivial ?_
  obtain ⟨m1, e_, h⟩ := xB_t h
  refine xEvG_call xml xfetch (q := (none, m1)) rfl (hQ_next a0 (xwr (xwr (xwr M a0 12 0) a0 13 (-1)) a0 7 0) _ e_) ?_
  show xEv (106, 19, [some (13, a0)], [], m1) _
  cases h
  exact xEvG_ret xml xfetch rfl

/-- ConsentDoorsModel.isGood()Z -/
def fQ_isGood (a0 : Int) (M : xM) : Int := (if (M a0 12) = 0 then 1 else 0 : Int)
theorem hQ_isGood (a0 : Int) (M : xM) (r : Int) (h : fQ_isGood a0 M = r) : xEv (98, 0, [some (13, a0)], [], M) (some (0, r), M) := by
  unfold fQ_isGood at h
  refine xEvG_n xml xfetch 2 (y := (98, 4, [some (13, a0)], [(0, (M a0 12))], M)) rfl trivial ?_
  have key_ : xEv (98, 12, [some (13, a0)], [(0, (if (M a0 12) = 0 then 1 else 0 : Int))], M) (some (0, r), M) := by
    subst h
    exact xEvG_retc xml xfetch rfl (by (repeat' split) <;> first | exact Or.inl rfl | exact Or.inr rfl)
  refine xEvG_n xml xfetch 1 (y := (98, if (M a0 12) = 0 then 7 else 11, [some (13, a0)], [], M)) rfl trivial ?_
  refine xEvG_br xml xfetch (fun c2_ => ?_) (fun c2_ => ?_)
  · refine xEvG_n xml xfetch 2 (y := (98, 12, [some (13, a0)], [(0, 1)], M)) rfl trivial ?_
    try simp only [if_pos c2_] at key_
    try simp only [if_pos c2_]
    exact key_
  · refine xEvG_n xml xfetch 1 (y := (98, 12, [some (13, a0)], [(0, 0)], M)) rfl trivial ?_
    try simp only [if_neg c2_] at key_
    try simp only [if_neg c2_]
    exact key_
theorem bQ_isGood (a0 : Int) (M : xM) : fQ_isGood a0 M = 0 ∨ fQ_isGood a0 M = 1 := by
  unfold fQ_isGood
  (repeat' split) <;> first | exact Or.inl rfl | exact Or.inr rfl | exact bD_isDrawing _ _ _ | exact bD_isPoints _ _ | exact bD_isSide _ _ | exact bD_isSlot _ _ | exact bPrison_hasCell _ _ _ | exact bPrison_hasHour _ _ _ | exact bPrison_stands _ _ | exact bQ_in _ _ _ _ | exact bQ_isSlot _ _ | exact bSlot_holds _ _ _ _ | exact bSlot_isBelow _ _ _

/-- ConsentDoorsModel.isOver()V -/
def fQ_isOver (a0 : Int) (M : xM) : xM := (xwr (xwr (xwr M a0 6 0) a0 14 ((xwr M a0 6 0) a0 12)) a0 15 (if ((xwr (xwr M a0 6 0) a0 14 ((xwr M a0 6 0) a0 12)) a0 12) = 0 then (-1) else ((xwr (xwr M a0 6 0) a0 14 ((xwr M a0 6 0) a0 12)) a0 13) : Int))
theorem hQ_isOver (a0 : Int) (M : xM) (r : xM) (h : fQ_isOver a0 M = r) : xEv (107, 0, [some (13, a0)], [], M) (none, r) := by
  unfold fQ_isOver at h
  refine xEvG_n xml xfetch 10 (y := (107, 18, [some (13, a0)], [(0, ((xwr (xwr M a0 6 0) a0 14 ((xwr M a0 6 0) a0 12)) a0 12)), (13, a0)], (xwr (xwr M a0 6 0) a0 14 ((xwr M a0 6 0) a0 12)))) rfl trivial ?_
  have key_ : xEv (107, 29, [some (13, a0)], [(0, (if ((xwr (xwr M a0 6 0) a0 14 ((xwr M a0 6 0) a0 12)) a0 12) = 0 then (-1) else ((xwr (xwr M a0 6 0) a0 14 ((xwr M a0 6 0) a0 12)) a0 13) : Int)), (13, a0)], (xwr (xwr M a0 6 0) a0 14 ((xwr M a0 6 0) a0 12))) (none, r) := by
    refine xEvG_n xml xfetch 1 (y := (107, 32, [some (13, a0)], [], (xwr (xwr (xwr M a0 6 0) a0 14 ((xwr M a0 6 0) a0 12)) a0 15 (if ((xwr (xwr M a0 6 0) a0 14 ((xwr M a0 6 0) a0 12)) a0 12) = 0 then (-1) else ((xwr (xwr M a0 6 0) a0 14 ((xwr M a0 6 0) a0 12)) a0 13) : Int)))) rfl trivial ?_
    subst h
    exact xEvG_ret xml xfetch rfl
  refine xEvG_n xml xfetch 1 (y := (107, if ((xwr (xwr M a0 6 0) a0 14 ((xwr M a0 6 0) a0 12)) a0 12) = 0 then 21 else 25, [some (13, a0)], [(13, a0)], (xwr (xwr M a0 6 0) a0 14 ((xwr M a0 6 0) a0 12)))) rfl trivial ?_
  refine xEvG_br xml xfetch (fun c2_ => ?_) (fun c2_ => ?_)
  · refine xEvG_n xml xfetch 2 (y := (107, 29, [some (13, a0)], [(0, (-1)), (13, a0)], (xwr (xwr M a0 6 0) a0 14 ((xwr M a0 6 0) a0 12)))) rfl trivial ?_
    try simp only [if_pos c2_] at key_
    try simp only [if_pos c2_]
    exact key_
  · refine xEvG_n xml xfetch 2 (y := (107, 29, [some (13, a0)], [(0, ((xwr (xwr M a0 6 0) a0 14 ((xwr M a0 6 0) a0 12)) a0 13)), (13, a0)], (xwr (xwr M a0 6 0) a0 14 ((xwr M a0 6 0) a0 12)))) rfl trivial ?_
    try simp only [if_neg c2_] at key_
    try simp only [if_neg c2_]
    exact key_

def fQ_copyRow_k31_L3 : Nat → Int → Int → Int → Int → Int → xM → Option xM
  | 0, _, _, _, _, _, _ => none
  | g + 1, x0, x1, x2, x3, x4, M => if x4 < x1 then (xA (0 ≤ (xw32 ((xw32 (x1 * x2)) + x4)) ∧ (xw32 ((xw32 (x1 * x2)) + x4)) < 5) (xA (0 ≤ (xw32 ((xw32 (x1 * x3)) + x4)) ∧ (xw32 ((xw32 (x1 * x3)) + x4)) < 5) ((fQ_copyRow_k31_L3 g) x0 x1 x2 x3 (xw32 (x4 + 1)) (xwr M x0 (xw32 ((xw32 (x1 * x3)) + x4)) (M x0 (xw32 ((xw32 (x1 * x2)) + x4))))))) else (some M)
theorem hQ_copyRow_k31_L3 : ∀ (g : Nat) (x0 x1 x2 x3 x4 : Int) (M : xM) (r : xM) (h : fQ_copyRow_k31_L3 g x0 x1 x2 x3 x4 M = some r), xEv (120, 3, [some (33, x0), some (0, x1), some (0, x2), some (0, x3), some (0, x4)], [], M) (none, r)
  | 0, _, _, _, _, _, _, _, h => by cases h
  | g + 1, x0, x1, x2, x3, x4, M, r, h => by
    unfold fQ_copyRow_k31_L3 at h
    refine xEvG_n xml xfetch 3 (y := (120, if x4 < x1 then 9 else 31, [some (33, x0), some (0, x1), some (0, x2), some (0, x3), some (0, x4)], [], M)) rfl trivial ?_
    refine xEvG_br xml xfetch (fun c_ => ?_) (fun c_ => ?_)
    · have h := xif_t c_ h
      have a0_ := (xA_t h).1
      have h := (xA_t h).2
      have a1_ := (xA_t h).1
      have h := (xA_t h).2
      refine xEvG_n xml xfetch 16 (y := (120, 3, [some (33, x0), some (0, x1), some (0, x2), some (0, x3), some (0, (xw32 (x4 + 1)))], [], (xwr M x0 (xw32 ((xw32 (x1 * x3)) + x4)) (M x0 (xw32 ((xw32 (x1 * x2)) + x4)))))) rfl ⟨a0_, a1_, trivial⟩ ?_
      refine xEvG_mask xml xfetch [true, true, true, true, true] ?_
      exact (hQ_copyRow_k31_L3 g) x0 x1 x2 x3 (xw32 (x4 + 1)) (xwr M x0 (xw32 ((xw32 (x1 * x3)) + x4)) (M x0 (xw32 ((xw32 (x1 * x2)) + x4)))) _ h
    · have h := xif_f c_ h
      cases h
      exact xEvG_ret xml xfetch rfl
/-- ConsentDoorsModel.copyRow([IIII)V -/
def fQ_copyRow_k31 (a0 a1 a2 a3 : Int) (M : xM) : Option xM := fQ_copyRow_k31_L3 20001 a0 a1 a2 a3 0 M
theorem hQ_copyRow_k31 (a0 a1 a2 a3 : Int) (M : xM) (r : xM) (h : fQ_copyRow_k31 a0 a1 a2 a3 M = some r) : xEv (120, 0, [some (33, a0), some (0, a1), some (0, a2), some (0, a3), none], [], M) (none, r) := by
  unfold fQ_copyRow_k31 at h
  refine xEvG_n xml xfetch 2 (y := (120, 3, [some (33, a0), some (0, a1), some (0, a2), some (0, a3), some (0, 0)], [], M)) rfl trivial ?_
  refine xEvG_mask xml xfetch [true, true, true, true, true] ?_
  exact hQ_copyRow_k31_L3 20001 a0 a1 a2 a3 0 M _ h

def fQ_copyRow_k32_L3 : Nat → Int → Int → Int → Int → Int → xM → Option xM
  | 0, _, _, _, _, _, _ => none
  | g + 1, x0, x1, x2, x3, x4, M => if x4 < x1 then (xA (0 ≤ (xw32 ((xw32 (x1 * x2)) + x4)) ∧ (xw32 ((xw32 (x1 * x2)) + x4)) < 35) (xA (0 ≤ (xw32 ((xw32 (x1 * x3)) + x4)) ∧ (xw32 ((xw32 (x1 * x3)) + x4)) < 35) ((fQ_copyRow_k32_L3 g) x0 x1 x2 x3 (xw32 (x4 + 1)) (xwr M x0 (xw32 ((xw32 (x1 * x3)) + x4)) (M x0 (xw32 ((xw32 (x1 * x2)) + x4))))))) else (some M)
theorem hQ_copyRow_k32_L3 : ∀ (g : Nat) (x0 x1 x2 x3 x4 : Int) (M : xM) (r : xM) (h : fQ_copyRow_k32_L3 g x0 x1 x2 x3 x4 M = some r), xEv (120, 3, [some (34, x0), some (0, x1), some (0, x2), some (0, x3), some (0, x4)], [], M) (none, r)
  | 0, _, _, _, _, _, _, _, h => by cases h
  | g + 1, x0, x1, x2, x3, x4, M, r, h => by
    unfold fQ_copyRow_k32_L3 at h
    refine xEvG_n xml xfetch 3 (y := (120, if x4 < x1 then 9 else 31, [some (34, x0), some (0, x1), some (0, x2), some (0, x3), some (0, x4)], [], M)) rfl trivial ?_
    refine xEvG_br xml xfetch (fun c_ => ?_) (fun c_ => ?_)
    · have h := xif_t c_ h
      have a0_ := (xA_t h).1
      have h := (xA_t h).2
      have a1_ := (xA_t h).1
      have h := (xA_t h).2
      refine xEvG_n xml xfetch 16 (y := (120, 3, [some (34, x0), some (0, x1), some (0, x2), some (0, x3), some (0, (xw32 (x4 + 1)))], [], (xwr M x0 (xw32 ((xw32 (x1 * x3)) + x4)) (M x0 (xw32 ((xw32 (x1 * x2)) + x4)))))) rfl ⟨a0_, a1_, trivial⟩ ?_
      refine xEvG_mask xml xfetch [true, true, true, true, true] ?_
      exact (hQ_copyRow_k32_L3 g) x0 x1 x2 x3 (xw32 (x4 + 1)) (xwr M x0 (xw32 ((xw32 (x1 * x3)) + x4)) (M x0 (xw32 ((xw32 (x1 * x2)) + x4)))) _ h
    · have h := xif_f c_ h
      cases h
      exact xEvG_ret xml xfetch rfl
/-- ConsentDoorsModel.copyRow([IIII)V -/
def fQ_copyRow_k32 (a0 a1 a2 a3 : Int) (M : xM) : Option xM := fQ_copyRow_k32_L3 20001 a0 a1 a2 a3 0 M
theorem hQ_copyRow_k32 (a0 a1 a2 a3 : Int) (M : xM) (r : xM) (h : fQ_copyRow_k32 a0 a1 a2 a3 M = some r) : xEv (120, 0, [some (34, a0), some (0, a1), some (0, a2), some (0, a3), none], [], M) (none, r) := by
  unfold fQ_copyRow_k32 at h
  refine xEvG_n xml xfetch 2 (y := (120, 3, [some (34, a0), some (0, a1), some (0, a2), some (0, a3), some (0, 0)], [], M)) rfl trivial ?_
  refine xEvG_mask xml xfetch [true, true, true, true, true] ?_
  exact hQ_copyRow_k32_L3 20001 a0 a1 a2 a3 0 M _ h

def fQ_copyRow_k33_L3 : Nat → Int → Int → Int → Int → Int → xM → Option xM
  | 0, _, _, _, _, _, _ => none
  | g + 1, x0, x1, x2, x3, x4, M => if x4 < x1 then (xA (0 ≤ (xw32 ((xw32 (x1 * x2)) + x4)) ∧ (xw32 ((xw32 (x1 * x2)) + x4)) < 270) (xA (0 ≤ (xw32 ((xw32 (x1 * x3)) + x4)) ∧ (xw32 ((xw32 (x1 * x3)) + x4)) < 270) ((fQ_copyRow_k33_L3 g) x0 x1 x2 x3 (xw32 (x4 + 1)) (xwr M x0 (xw32 ((xw32 (x1 * x3)) + x4)) (M x0 (xw32 ((xw32 (x1 * x2)) + x4))))))) else (some M)
theorem hQ_copyRow_k33_L3 : ∀ (g : Nat) (x0 x1 x2 x3 x4 : Int) (M : xM) (r : xM) (h : fQ_copyRow_k33_L3 g x0 x1 x2 x3 x4 M = some r), xEv (120, 3, [some (35, x0), some (0, x1), some (0, x2), some (0, x3), some (0, x4)], [], M) (none, r)
  | 0, _, _, _, _, _, _, _, h => by cases h
  | g + 1, x0, x1, x2, x3, x4, M, r, h => by
    unfold fQ_copyRow_k33_L3 at h
    refine xEvG_n xml xfetch 3 (y := (120, if x4 < x1 then 9 else 31, [some (35, x0), some (0, x1), some (0, x2), some (0, x3), some (0, x4)], [], M)) rfl trivial ?_
    refine xEvG_br xml xfetch (fun c_ => ?_) (fun c_ => ?_)
    · have h := xif_t c_ h
      have a0_ := (xA_t h).1
      have h := (xA_t h).2
      have a1_ := (xA_t h).1
      have h := (xA_t h).2
      refine xEvG_n xml xfetch 16 (y := (120, 3, [some (35, x0), some (0, x1), some (0, x2), some (0, x3), some (0, (xw32 (x4 + 1)))], [], (xwr M x0 (xw32 ((xw32 (x1 * x3)) + x4)) (M x0 (xw32 ((xw32 (x1 * x2)) + x4)))))) rfl ⟨a0_, a1_, trivial⟩ ?_
      refine xEvG_mask xml xfetch [true, true, true, true, true] ?_
      exact (hQ_copyRow_k33_L3 g) x0 x1 x2 x3 (xw32 (x4 + 1)) (xwr M x0 (xw32 ((xw32 (x1 * x3)) + x4)) (M x0 (xw32 ((xw32 (x1 * x2)) + x4)))) _ h
    · have h := xif_f c_ h
      cases h
      exact xEvG_ret xml xfetch rfl
/-- ConsentDoorsModel.copyRow([IIII)V -/
def fQ_copyRow_k33 (a0 a1 a2 a3 : Int) (M : xM) : Option xM := fQ_copyRow_k33_L3 20001 a0 a1 a2 a3 0 M
theorem hQ_copyRow_k33 (a0 a1 a2 a3 : Int) (M : xM) (r : xM) (h : fQ_copyRow_k33 a0 a1 a2 a3 M = some r) : xEv (120, 0, [some (35, a0), some (0, a1), some (0, a2), some (0, a3), none], [], M) (none, r) := by
  unfold fQ_copyRow_k33 at h
  refine xEvG_n xml xfetch 2 (y := (120, 3, [some (35, a0), some (0, a1), some (0, a2), some (0, a3), some (0, 0)], [], M)) rfl trivial ?_
  refine xEvG_mask xml xfetch [true, true, true, true, true] ?_
  exact hQ_copyRow_k33_L3 20001 a0 a1 a2 a3 0 M _ h

def fQ_copyRow_k34_L3 : Nat → Int → Int → Int → Int → Int → xM → Option xM
  | 0, _, _, _, _, _, _ => none
  | g + 1, x0, x1, x2, x3, x4, M => if x4 < x1 then (xA (0 ≤ (xw32 ((xw32 (x1 * x2)) + x4)) ∧ (xw32 ((xw32 (x1 * x2)) + x4)) < 120) (xA (0 ≤ (xw32 ((xw32 (x1 * x3)) + x4)) ∧ (xw32 ((xw32 (x1 * x3)) + x4)) < 120) ((fQ_copyRow_k34_L3 g) x0 x1 x2 x3 (xw32 (x4 + 1)) (xwr M x0 (xw32 ((xw32 (x1 * x3)) + x4)) (M x0 (xw32 ((xw32 (x1 * x2)) + x4))))))) else (some M)
theorem hQ_copyRow_k34_L3 : ∀ (g : Nat) (x0 x1 x2 x3 x4 : Int) (M : xM) (r : xM) (h : fQ_copyRow_k34_L3 g x0 x1 x2 x3 x4 M = some r), xEv (120, 3, [some (36, x0), some (0, x1), some (0, x2), some (0, x3), some (0, x4)], [], M) (none, r)
  | 0, _, _, _, _, _, _, _, h => by cases h
  | g + 1, x0, x1, x2, x3, x4, M, r, h => by
    unfold fQ_copyRow_k34_L3 at h
    refine xEvG_n xml xfetch 3 (y := (120, if x4 < x1 then 9 else 31, [some (36, x0), some (0, x1), some (0, x2), some (0, x3), some (0, x4)], [], M)) rfl trivial ?_
    refine xEvG_br xml xfetch (fun c_ => ?_) (fun c_ => ?_)
    · have h := xif_t c_ h
      have a0_ := (xA_t h).1
      have h := (xA_t h).2
      have a1_ := (xA_t h).1
      have h := (xA_t h).2
      refine xEvG_n xml xfetch 16 (y := (120, 3, [some (36, x0), some (0, x1), some (0, x2), some (0, x3), some (0, (xw32 (x4 + 1)))], [], (xwr M x0 (xw32 ((xw32 (x1 * x3)) + x4)) (M x0 (xw32 ((xw32 (x1 * x2)) + x4)))))) rfl ⟨a0_, a1_, trivial⟩ ?_
      refine xEvG_mask xml xfetch [true, true, true, true, true] ?_
      exact (hQ_copyRow_k34_L3 g) x0 x1 x2 x3 (xw32 (x4 + 1)) (xwr M x0 (xw32 ((xw32 (x1 * x3)) + x4)) (M x0 (xw32 ((xw32 (x1 * x2)) + x4)))) _ h
    · have h := xif_f c_ h
      cases h
      exact xEvG_ret xml xfetch rfl
/-- ConsentDoorsModel.copyRow([IIII)V -/
def fQ_copyRow_k34 (a0 a1 a2 a3 : Int) (M : xM) : Option xM := fQ_copyRow_k34_L3 20001 a0 a1 a2 a3 0 M
theorem hQ_copyRow_k34 (a0 a1 a2 a3 : Int) (M : xM) (r : xM) (h : fQ_copyRow_k34 a0 a1 a2 a3 M = some r) : xEv (120, 0, [some (36, a0), some (0, a1), some (0, a2), some (0, a3), none], [], M) (none, r) := by
  unfold fQ_copyRow_k34 at h
  refine xEvG_n xml xfetch 2 (y := (120, 3, [some (36, a0), some (0, a1), some (0, a2), some (0, a3), some (0, 0)], [], M)) rfl trivial ?_
  refine xEvG_mask xml xfetch [true, true, true, true, true] ?_
  exact hQ_copyRow_k34_L3 20001 a0 a1 a2 a3 0 M _ h

def fQ_copyRow_k35_L3 : Nat → Int → Int → Int → Int → Int → xM → Option xM
  | 0, _, _, _, _, _, _ => none
  | g + 1, x0, x1, x2, x3, x4, M => if x4 < x1 then (xA (0 ≤ (xw32 ((xw32 (x1 * x2)) + x4)) ∧ (xw32 ((xw32 (x1 * x2)) + x4)) < 160) (xA (0 ≤ (xw32 ((xw32 (x1 * x3)) + x4)) ∧ (xw32 ((xw32 (x1 * x3)) + x4)) < 160) ((fQ_copyRow_k35_L3 g) x0 x1 x2 x3 (xw32 (x4 + 1)) (xwr M x0 (xw32 ((xw32 (x1 * x3)) + x4)) (M x0 (xw32 ((xw32 (x1 * x2)) + x4))))))) else (some M)
theorem hQ_copyRow_k35_L3 : ∀ (g : Nat) (x0 x1 x2 x3 x4 : Int) (M : xM) (r : xM) (h : fQ_copyRow_k35_L3 g x0 x1 x2 x3 x4 M = some r), xEv (120, 3, [some (37, x0), some (0, x1), some (0, x2), some (0, x3), some (0, x4)], [], M) (none, r)
  | 0, _, _, _, _, _, _, _, h => by cases h
  | g + 1, x0, x1, x2, x3, x4, M, r, h => by
    unfold fQ_copyRow_k35_L3 at h
    refine xEvG_n xml xfetch 3 (y := (120, if x4 < x1 then 9 else 31, [some (37, x0), some (0, x1), some (0, x2), some (0, x3), some (0, x4)], [], M)) rfl trivial ?_
    refine xEvG_br xml xfetch (fun c_ => ?_) (fun c_ => ?_)
    · have h := xif_t c_ h
      have a0_ := (xA_t h).1
      have h := (xA_t h).2
      have a1_ := (xA_t h).1
      have h := (xA_t h).2
      refine xEvG_n xml xfetch 16 (y := (120, 3, [some (37, x0), some (0, x1), some (0, x2), some (0, x3), some (0, (xw32 (x4 + 1)))], [], (xwr M x0 (xw32 ((xw32 (x1 * x3)) + x4)) (M x0 (xw32 ((xw32 (x1 * x2)) + x4)))))) rfl ⟨a0_, a1_, trivial⟩ ?_
      refine xEvG_mask xml xfetch [true, true, true, true, true] ?_
      exact (hQ_copyRow_k35_L3 g) x0 x1 x2 x3 (xw32 (x4 + 1)) (xwr M x0 (xw32 ((xw32 (x1 * x3)) + x4)) (M x0 (xw32 ((xw32 (x1 * x2)) + x4)))) _ h
    · have h := xif_f c_ h
      cases h
      exact xEvG_ret xml xfetch rfl
/-- ConsentDoorsModel.copyRow([IIII)V -/
def fQ_copyRow_k35 (a0 a1 a2 a3 : Int) (M : xM) : Option xM := fQ_copyRow_k35_L3 20001 a0 a1 a2 a3 0 M
theorem hQ_copyRow_k35 (a0 a1 a2 a3 : Int) (M : xM) (r : xM) (h : fQ_copyRow_k35 a0 a1 a2 a3 M = some r) : xEv (120, 0, [some (37, a0), some (0, a1), some (0, a2), some (0, a3), none], [], M) (none, r) := by
  unfold fQ_copyRow_k35 at h
  refine xEvG_n xml xfetch 2 (y := (120, 3, [some (37, a0), some (0, a1), some (0, a2), some (0, a3), some (0, 0)], [], M)) rfl trivial ?_
  refine xEvG_mask xml xfetch [true, true, true, true, true] ?_
  exact hQ_copyRow_k35_L3 20001 a0 a1 a2 a3 0 M _ h

/-- ConsentDoorsModel.copyPrison(II)V -/
def fQ_copyPrison (a0 a1 a2 : Int) (M : xM) : Option xM := xB (fQ_copyRow_k31 (a0 + 6) 1 a1 a2 M) (fun m1 => xB (fQ_copyRow_k32 (a0 + 7) 7 a1 a2 m1) (fun m2 => xB (fQ_copyRow_k33 (a0 + 8) 54 a1 a2 m2) (fun m3 => xB (fQ_copyRow_k34 (a0 + 9) 24 a1 a2 m3) (fun m4 => xB (fQ_copyRow_k35 (a0 + 10) 32 a1 a2 m4) (fun m5 => xB (fQ_copyRow_k34 (a0 + 11) 24 a1 a2 m5) (fun m6 => some m6))))))
theorem hQ_copyPrison (a0 a1 a2 : Int) (M : xM) (r : xM) (h : fQ_copyPrison a0 a1 a2 M = some r) : xEv (121, 0, [some (13, a0), some (0, a1), some (0, a2)], [], M) (none, r) := by
  unfold fQ_copyPrison at h
  refine xEvG_n xml xfetch 5 (y := (121, 7, [some (13, a0), some (0, a1), some (0, a2)], [(0, a2), (0, a1), (0, 1), (33, (a0 + 6))], M)) rfl trivial ?_
  obtain ⟨m1, e_, h⟩ := xB_t h
  refine xEvG_call xml xfetch (q := (none, m1)) rfl (hQ_copyRow_k31 (a0 + 6) 1 a1 a2 M _ e_) ?_
  show xEv (121, 10, [some (13, a0), some (0, a1), some (0, a2)], [], m1) _
  refine xEvG_n xml xfetch 5 (y := (121, 18, [some (13, a0), some (0, a1), some (0, a2)], [(0, a2), (0, a1), (0, 7), (34, (a0 + 7))], m1)) rfl trivial ?_
  obtain ⟨m2, e_, h⟩ := xB_t h
  refine xEvG_call xml xfetch (q := (none, m2)) rfl (hQ_copyRow_k32 (a0 + 7) 7 a1 a2 m1 _ e_) ?_
  show xEv (121, 21, [some (13, a0), some (0, a1), some (0, a2)], [], m2) _
  refine xEvG_n xml xfetch 5 (y := (121, 29, [some (13, a0), some (0, a1), some (0, a2)], [(0, a2), (0, a1), (0, 54), (35, (a0 + 8))], m2)) rfl trivial ?_
  obtain ⟨m3, e_, h⟩ := xB_t h
  refine xEvG_call xml xfetch (q := (none, m3)) rfl (hQ_copyRow_k33 (a0 + 8) 54 a1 a2 m2 _ e_) ?_
  show xEv (121, 32, [some (13, a0), some (0, a1), some (0, a2)], [], m3) _
  refine xEvG_n xml xfetch 5 (y := (121, 40, [some (13, a0), some (0, a1), some (0, a2)], [(0, a2), (0, a1), (0, 24), (36, (a0 + 9))], m3)) rfl trivial ?_
  obtain ⟨m4, e_, h⟩ := xB_t h
  refine xEvG_call xml xfetch (q := (none, m4)) rfl (hQ_copyRow_k34 (a0 + 9) 24 a1 a2 m3 _ e_) ?_
  show xEv (121, 43, [some (13, a0), some (0, a1), some (0, a2)], [], m4) _
  refine xEvG_n xml xfetch 5 (y := (121, 51, [some (13, a0), some (0, a1), some (0, a2)], [(0, a2), (0, a1), (0, 32), (37, (a0 + 10))], m4)) rfl trivial ?_
  obtain ⟨m5, e_, h⟩ := xB_t h
  refine xEvG_call xml xfetch (q := (none, m5)) rfl (hQ_copyRow_k35 (a0 + 10) 32 a1 a2 m4 _ e_) ?_
  show xEv (121, 54, [some (13, a0), some (0, a1), some (0, a2)], [], m5) _
  refine xEvG_n xml xfetch 5 (y := (121, 62, [some (13, a0), some (0, a1), some (0, a2)], [(0, a2), (0, a1), (0, 24), (36, (a0 + 11))], m5)) rfl trivial ?_
  obtain ⟨m6, e_, h⟩ := xB_t h
  refine xEvG_call xml xfetch (q := (none, m6)) rfl (hQ_copyRow_k34 (a0 + 11) 24 a1 a2 m5 _ e_) ?_
  show xEv (121, 65, [some (13, a0), some (0, a1), some (0, a2)], [], m6) _
  cases h
  exact xEvG_ret xml xfetch rfl

/-- ConsentDoorsModel.is(J)Z -/
def fQ_is (a0 a1 : Int) (M : xM) : Int := (if (M a0 12) = 0 then (if (M a0 8) = 1 then (if (xcmpL (M a0 11) a1) = 0 then 1 else 0 : Int) else 0 : Int) else 0 : Int)
theorem hQ_is (a0 a1 : Int) (M : xM) (r : Int) (h : fQ_is a0 a1 M = r) : xEv (100, 0, [some (13, a0), some (1, a1), none], [], M) (some (0, r), M) := by
  unfold fQ_is at h
  refine xEvG_n xml xfetch 2 (y := (100, 4, [some (13, a0), some (1, a1), none], [(0, (M a0 12))], M)) rfl trivial ?_
  have key_ : xEv (100, 29, [some (13, a0), some (1, a1), none], [(0, (if (M a0 12) = 0 then (if (M a0 8) = 1 then (if (xcmpL (M a0 11) a1) = 0 then 1 else 0 : Int) else 0 : Int) else 0 : Int))], M) (some (0, r), M) := by
    subst h
    exact xEvG_retc xml xfetch rfl (by (repeat' split) <;> first | exact Or.inl rfl | exact Or.inr rfl)
  refine xEvG_n xml xfetch 1 (y := (100, if (M a0 12) = 0 then 7 else 28, [some (13, a0), some (1, a1), none], [], M)) rfl trivial ?_
  refine xEvG_br xml xfetch (fun c2_ => ?_) (fun c2_ => ?_)
  · refine xEvG_n xml xfetch 4 (y := (100, if (M a0 8) = 1 then 15 else 28, [some (13, a0), some (1, a1), none], [], M)) rfl trivial ?_
    refine xEvG_br xml xfetch (fun c4_ => ?_) (fun c4_ => ?_)
    · refine xEvG_n xml xfetch 5 (y := (100, if (xcmpL (M a0 11) a1) = 0 then 24 else 28, [some (13, a0), some (1, a1), none], [], M)) rfl trivial ?_
      refine xEvG_br xml xfetch (fun c6_ => ?_) (fun c6_ => ?_)
      · refine xEvG_n xml xfetch 2 (y := (100, 29, [some (13, a0), some (1, a1), none], [(0, 1)], M)) rfl trivial ?_
        try simp only [if_pos c2_, if_pos c4_, if_pos c6_] at key_
        try simp only [if_pos c2_, if_pos c4_, if_pos c6_]
        exact key_
      · refine xEvG_n xml xfetch 1 (y := (100, 29, [some (13, a0), some (1, a1), none], [(0, 0)], M)) rfl trivial ?_
        try simp only [if_pos c2_, if_pos c4_, if_neg c6_] at key_
        try simp only [if_pos c2_, if_pos c4_, if_neg c6_]
        exact key_
    · refine xEvG_n xml xfetch 1 (y := (100, 29, [some (13, a0), some (1, a1), none], [(0, 0)], M)) rfl trivial ?_
      try simp only [if_pos c2_, if_neg c4_] at key_
      try simp only [if_pos c2_, if_neg c4_]
      exact key_
  · refine xEvG_n xml xfetch 1 (y := (100, 29, [some (13, a0), some (1, a1), none], [(0, 0)], M)) rfl trivial ?_
    try simp only [if_neg c2_] at key_
    try simp only [if_neg c2_]
    exact key_
theorem bQ_is (a0 a1 : Int) (M : xM) : fQ_is a0 a1 M = 0 ∨ fQ_is a0 a1 M = 1 := by
  unfold fQ_is
  (repeat' split) <;> first | exact Or.inl rfl | exact Or.inr rfl | exact bD_isDrawing _ _ _ | exact bD_isPoints _ _ | exact bD_isSide _ _ | exact bD_isSlot _ _ | exact bPrison_hasCell _ _ _ | exact bPrison_hasHour _ _ _ | exact bPrison_stands _ _ | exact bQ_in _ _ _ _ | exact bQ_isGood _ _ | exact bQ_isSlot _ _ | exact bSlot_holds _ _ _ _ | exact bSlot_isBelow _ _ _

/-- ConsentDoorsModel.takes(J)Z -/
def fQ_takes (a0 a1 : Int) (M : xM) : Option (Int × xM) := if (fQ_is a0 a1 M) = 0 then (some (0, M)) else (xB (fQ_next a0 M) (fun m2 => some (1, m2)))
theorem hQ_takes (a0 a1 : Int) (M : xM) (r : Int × xM) (h : fQ_takes a0 a1 M = some r) : xEv (101, 0, [some (13, a0), some (1, a1), none], [], M) (some (0, r.1), r.2) := by
  unfold fQ_takes at h
  refine xEvG_n xml xfetch 2 (y := (101, 2, [some (13, a0), some (1, a1), none], [(1, a1), (13, a0)], M)) rfl trivial ?_
  refine xEvG_call xml xfetch (q := (some (0, fQ_is a0 a1 M), M)) rfl (hQ_is a0 a1 M _ rfl) ?_
  show xEv (101, 5, [some (13, a0), some (1, a1), none], [(0, (fQ_is a0 a1 M))], M) _
  refine xEvG_n xml xfetch 1 (y := (101, if (fQ_is a0 a1 M) = 0 then 8 else 10, [some (13, a0), some (1, a1), none], [], M)) rfl trivial ?_
  refine xEvG_br xml xfetch (fun c_ => ?_) (fun c_ => ?_)
  · have h := xif_t c_ h
    refine xEvG_n xml xfetch 1 (y := (101, 9, [some (13, a0), some (1, a1), none], [(0, 0)], M)) rfl trivial ?_
    cases h
    exact xEvG_retc xml xfetch rfl (Or.inl rfl)
  · have h := xif_f c_ h
    refine xEvG_n xml xfetch 1 (y := (101, 11, [some (13, a0), some (1, a1), none], [(13, a0)], M)) rfl trivial ?_
    obtain ⟨m2, e_, h⟩ := xB_t h
    refine xEvG_call xml xfetch (q := (none, m2)) rfl (hQ_next a0 M _ e_) ?_
    show xEv (101, 14, [some (13, a0), some (1, a1), none], [], m2) _
    refine xEvG_n xml xfetch 1 (y := (101, 15, [some (13, a0), some (1, a1), none], [(0, 1)], m2)) rfl trivial ?_
    cases h
    exact xEvG_retc xml xfetch rfl (Or.inr rfl)

/-- ConsentDoorsModel.fails(I)V -/
def fQ_fails (a0 a1 : Int) (M : xM) : xM := if (M a0 12) = 0 then ((xwr (xwr M a0 12 a1) a0 13 ((xwr M a0 12 a1) a0 9))) else (M)
theorem hQ_fails (a0 a1 : Int) (M : xM) (r : xM) (h : fQ_fails a0 a1 M = r) : xEv (99, 0, [some (13, a0), some (0, a1)], [], M) (none, r) := by
  unfold fQ_fails at h
  refine xEvG_n xml xfetch 3 (y := (99, if (M a0 12) = 0 then 8 else 7, [some (13, a0), some (0, a1)], [], M)) rfl trivial ?_
  refine xEvG_br xml xfetch (fun c_ => ?_) (fun c_ => ?_)
  · have h := xif_t c_ h
    refine xEvG_n xml xfetch 7 (y := (99, 21, [some (13, a0), some (0, a1)], [], (xwr (xwr M a0 12 a1) a0 13 ((xwr M a0 12 a1) a0 9)))) rfl trivial ?_
    subst h
    exact xEvG_ret xml xfetch rfl
  · have h := xif_f c_ h
    subst h
    exact xEvG_ret xml xfetch rfl

/-- ConsentDoorsModel.asks(J)V -/
def fQ_asks (a0 a1 : Int) (M : xM) : Option xM := xB (fQ_takes a0 a1 M) (fun q_ => match q_ with | (v1, m1) => if v1 = 0 then (some (fQ_fails a0 1 m1)) else (some m1))
theorem hQ_asks (a0 a1 : Int) (M : xM) (r : xM) (h : fQ_asks a0 a1 M = some r) : xEv (102, 0, [some (13, a0), some (1, a1), none], [], M) (none, r) := by
  unfold fQ_asks at h
  refine xEvG_n xml xfetch 2 (y := (102, 2, [some (13, a0), some (1, a1), none], [(1, a1), (13, a0)], M)) rfl trivial ?_
  obtain ⟨⟨v1, m1⟩, e_, h⟩ := xB_t h
  refine xEvG_call xml xfetch (q := (some (0, v1), m1)) rfl (hQ_takes a0 a1 M _ e_) ?_
  show xEv (102, 5, [some (13, a0), some (1, a1), none], [(0, v1)], m1) _
  refine xEvG_n xml xfetch 1 (y := (102, if v1 = 0 then 8 else 13, [some (13, a0), some (1, a1), none], [], m1)) rfl trivial ?_
  refine xEvG_br xml xfetch (fun c_ => ?_) (fun c_ => ?_)
  · have h := xif_t c_ h
    refine xEvG_n xml xfetch 2 (y := (102, 10, [some (13, a0), some (1, a1), none], [(0, 1), (13, a0)], m1)) rfl trivial ?_
    refine xEvG_call xml xfetch (q := (none, fQ_fails a0 1 m1)) rfl (hQ_fails a0 1 m1 _ rfl) ?_
    show xEv (102, 13, [some (13, a0), some (1, a1), none], [], (fQ_fails a0 1 m1)) _
    cases h
    exact xEvG_ret xml xfetch rfl
  · have h := xif_f c_ h
    cases h
    exact xEvG_ret xml xfetch rfl

/-- ConsentDoorsModel.number(II)I -/
def fQ_number2 (a0 a1 a2 : Int) (M : xM) : Option (Int × xM) := if (M a0 12) = 0 then (if (M a0 8) = 2 then (if (fQ_in (M a0 10) a1 a2 M) = 0 then (some (a1, (fQ_fails a0 2 M))) else (xB (fQ_next a0 M) (fun m3 => some ((M a0 10), m3)))) else (some (a1, (fQ_fails a0 1 M)))) else (some (a1, M))
theorem hQ_number2 (a0 a1 a2 : Int) (M : xM) (r : Int × xM) (h : fQ_number2 a0 a1 a2 M = some r) : xEv (103, 0, [some (13, a0), some (0, a1), some (0, a2), none], [], M) (some (0, r.1), r.2) := by
  unfold fQ_number2 at h
  refine xEvG_n xml xfetch 3 (y := (103, if (M a0 12) = 0 then 9 else 7, [some (13, a0), some (0, a1), some (0, a2), none], [], M)) rfl trivial ?_
  refine xEvG_br xml xfetch (fun c_ => ?_) (fun c_ => ?_)
  · have h := xif_t c_ h
    refine xEvG_n xml xfetch 4 (y := (103, if (M a0 8) = 2 then 24 else 17, [some (13, a0), some (0, a1), some (0, a2), none], [], M)) rfl trivial ?_
    refine xEvG_br xml xfetch (fun c_ => ?_) (fun c_ => ?_)
    · have h := xif_t c_ h
      refine xEvG_n xml xfetch 7 (y := (103, 33, [some (13, a0), some (0, a1), some (0, a2), none], [(1, a2), (1, a1), (1, (M a0 10))], M)) rfl trivial ?_
      refine xEvG_call xml xfetch (q := (some (0, fQ_in (M a0 10) a1 a2 M), M)) rfl (hQ_in (M a0 10) a1 a2 M _ rfl) ?_
      show xEv (103, 36, [some (13, a0), some (0, a1), some (0, a2), none], [(0, (fQ_in (M a0 10) a1 a2 M))], M) _
      refine xEvG_n xml xfetch 1 (y := (103, if (fQ_in (M a0 10) a1 a2 M) = 0 then 39 else 46, [some (13, a0), some (0, a1), some (0, a2), none], [], M)) rfl trivial ?_
      refine xEvG_br xml xfetch (fun c_ => ?_) (fun c_ => ?_)
      · have h := xif_t c_ h
        refine xEvG_n xml xfetch 2 (y := (103, 41, [some (13, a0), some (0, a1), some (0, a2), none], [(0, 2), (13, a0)], M)) rfl trivial ?_
        refine xEvG_call xml xfetch (q := (none, fQ_fails a0 2 M)) rfl (hQ_fails a0 2 M _ rfl) ?_
        show xEv (103, 44, [some (13, a0), some (0, a1), some (0, a2), none], [], (fQ_fails a0 2 M)) _
        refine xEvG_n xml xfetch 1 (y := (103, 45, [some (13, a0), some (0, a1), some (0, a2), none], [(0, a1)], (fQ_fails a0 2 M))) rfl trivial ?_
        cases h
        exact xEvG_ret xml xfetch rfl
      · have h := xif_f c_ h
        refine xEvG_n xml xfetch 4 (y := (103, 52, [some (13, a0), some (0, a1), some (0, a2), some (0, (M a0 10))], [(13, a0)], M)) rfl trivial ?_
        obtain ⟨m3, e_, h⟩ := xB_t h
        refine xEvG_call xml xfetch (q := (none, m3)) rfl (hQ_next a0 M _ e_) ?_
        show xEv (103, 55, [some (13, a0), some (0, a1), some (0, a2), some (0, (M a0 10))], [], m3) _
        refine xEvG_n xml xfetch 1 (y := (103, 56, [some (13, a0), some (0, a1), some (0, a2), some (0, (M a0 10))], [(0, (M a0 10))], m3)) rfl trivial ?_
        cases h
        exact xEvG_ret xml xfetch rfl
    · have h := xif_f c_ h
      refine xEvG_n xml xfetch 2 (y := (103, 19, [some (13, a0), some (0, a1), some (0, a2), none], [(0, 1), (13, a0)], M)) rfl trivial ?_
      refine xEvG_call xml xfetch (q := (none, fQ_fails a0 1 M)) rfl (hQ_fails a0 1 M _ rfl) ?_
      show xEv (103, 22, [some (13, a0), some (0, a1), some (0, a2), none], [], (fQ_fails a0 1 M)) _
      refine xEvG_n xml xfetch 1 (y := (103, 23, [some (13, a0), some (0, a1), some (0, a2), none], [(0, a1)], (fQ_fails a0 1 M))) rfl trivial ?_
      cases h
      exact xEvG_ret xml xfetch rfl
  · have h := xif_f c_ h
    refine xEvG_n xml xfetch 1 (y := (103, 8, [some (13, a0), some (0, a1), some (0, a2), none], [(0, a1)], M)) rfl trivial ?_
    cases h
    exact xEvG_ret xml xfetch rfl

/-- ConsentDoorsModel.number(JII)I -/
def fQ_number3 (a0 a1 a2 a3 : Int) (M : xM) : Option (Int × xM) := xB (fQ_asks a0 a1 M) (fun m1 => xB (fQ_number2 a0 a2 a3 m1) (fun q_ => match q_ with | (v2, m2) => some (v2, m2)))
theorem hQ_number3 (a0 a1 a2 a3 : Int) (M : xM) (r : Int × xM) (h : fQ_number3 a0 a1 a2 a3 M = some r) : xEv (104, 0, [some (13, a0), some (1, a1), none, some (0, a2), some (0, a3)], [], M) (some (0, r.1), r.2) := by
  unfold fQ_number3 at h
  refine xEvG_n xml xfetch 2 (y := (104, 2, [some (13, a0), some (1, a1), none, some (0, a2), some (0, a3)], [(1, a1), (13, a0)], M)) rfl trivial ?_
  obtain ⟨m1, e_, h⟩ := xB_t h
  refine xEvG_call xml xfetch (q := (none, m1)) rfl (hQ_asks a0 a1 M _ e_) ?_
  show xEv (104, 5, [some (13, a0), some (1, a1), none, some (0, a2), some (0, a3)], [], m1) _
  refine xEvG_n xml xfetch 3 (y := (104, 9, [some (13, a0), some (1, a1), none, some (0, a2), some (0, a3)], [(0, a3), (0, a2), (13, a0)], m1)) rfl trivial ?_
  obtain ⟨⟨v2, m2⟩, e_, h⟩ := xB_t h
  refine xEvG_call xml xfetch (q := (some (0, v2), m2)) rfl (hQ_number2 a0 a2 a3 m1 _ e_) ?_
  show xEv (104, 12, [some (13, a0), some (1, a1), none, some (0, a2), some (0, a3)], [(0, v2)], m2) _
  cases h
  exact xEvG_ret xml xfetch rfl

/-- ConsentDoorsModel.hasRead(I)I -/
def fQ_hasRead (a0 a1 : Int) (M : xM) : Option Int := xA (0 ≤ (xw32 (28 + a1)) ∧ (xw32 (28 + a1)) < 35) (some (M (a0 + 7) (xw32 (28 + a1))))
theorem hQ_hasRead (a0 a1 : Int) (M : xM) (r : Int) (h : fQ_hasRead a0 a1 M = some r) : xEv (109, 0, [some (13, a0), some (0, a1)], [], M) (some (0, r), M) := by
  unfold fQ_hasRead at h
  have a0_ := (xA_t h).1
  have h := (xA_t h).2
  refine xEvG_n xml xfetch 6 (y := (109, 9, [some (13, a0), some (0, a1)], [(0, (M (a0 + 7) (xw32 (28 + a1))))], M)) rfl ⟨a0_, trivial⟩ ?_
  cases h
  exact xEvG_ret xml xfetch rfl

/-- ConsentDoorsModel.first()V -/
def fQ_first (a0 : Int) (M : xM) : Option xM := xB (fQ_asks a0 239339867 M) (fun m1 => xB (fQ_number3 a0 1701829 2 9 m1) (fun q_ => match q_ with | (v2, m2) => xB (fQ_number3 a0 4562587 1 24 (xwr m2 (a0 + 7) 28 v2)) (fun q_ => match q_ with | (v3, m3) => if (fQ_is a0 361240 (xwr m3 (a0 + 7) 29 v3)) = 0 then (if (fQ_is a0 13550 (xwr m3 (a0 + 7) 29 v3)) = 0 then (if (fQ_is a0 361240 (xwr m3 (a0 + 7) 29 v3)) = 0 then (if ((fQ_fails a0 1 (xwr m3 (a0 + 7) 29 v3)) a0 12) = 0 then (xB (fQ_next a0 (fQ_fails a0 1 (xwr m3 (a0 + 7) 29 v3))) (fun m7 => some (xwr m7 (a0 + 7) 31 (if (fQ_is a0 361240 (xwr m3 (a0 + 7) 29 v3)) = 0 then 0 else 1 : Int)))) else (some (fQ_fails a0 1 (xwr m3 (a0 + 7) 29 v3)))) else (xB (fQ_hasRead a0 0 (fQ_fails a0 1 (xwr m3 (a0 + 7) 29 v3))) (fun v8 => if v8 = 2 then (if ((fQ_fails a0 2 (fQ_fails a0 1 (xwr m3 (a0 + 7) 29 v3))) a0 12) = 0 then (xB (fQ_next a0 (fQ_fails a0 2 (fQ_fails a0 1 (xwr m3 (a0 + 7) 29 v3)))) (fun m10 => some (xwr m10 (a0 + 7) 31 (if (fQ_is a0 361240 (xwr m3 (a0 + 7) 29 v3)) = 0 then 0 else 1 : Int)))) else (some (fQ_fails a0 2 (fQ_fails a0 1 (xwr m3 (a0 + 7) 29 v3))))) else (if ((fQ_fails a0 1 (xwr m3 (a0 + 7) 29 v3)) a0 12) = 0 then (xB (fQ_next a0 (fQ_fails a0 1 (xwr m3 (a0 + 7) 29 v3))) (fun m11 => some (xwr m11 (a0 + 7) 31 (if (fQ_is a0 361240 (xwr m3 (a0 + 7) 29 v3)) = 0 then 0 else 1 : Int)))) else (some (fQ_fails a0 1 (xwr m3 (a0 + 7) 29 v3))))))) else (if (fQ_is a0 361240 (xwr m3 (a0 + 7) 29 v3)) = 0 then (if ((xwr m3 (a0 + 7) 29 v3) a0 12) = 0 then (xB (fQ_next a0 (xwr m3 (a0 + 7) 29 v3)) (fun m12 => some (xwr m12 (a0 + 7) 31 (if (fQ_is a0 361240 (xwr m3 (a0 + 7) 29 v3)) = 0 then 0 else 1 : Int)))) else (some (xwr m3 (a0 + 7) 29 v3))) else (xB (fQ_hasRead a0 0 (xwr m3 (a0 + 7) 29 v3)) (fun v13 => if v13 = 2 then (if ((fQ_fails a0 2 (xwr m3 (a0 + 7) 29 v3)) a0 12) = 0 then (xB (fQ_next a0 (fQ_fails a0 2 (xwr m3 (a0 + 7) 29 v3))) (fun m15 => some (xwr m15 (a0 + 7) 31 (if (fQ_is a0 361240 (xwr m3 (a0 + 7) 29 v3)) = 0 then 0 else 1 : Int)))) else (some (fQ_fails a0 2 (xwr m3 (a0 + 7) 29 v3)))) else (if ((xwr m3 (a0 + 7) 29 v3) a0 12) = 0 then (xB (fQ_next a0 (xwr m3 (a0 + 7) 29 v3)) (fun m16 => some (xwr m16 (a0 + 7) 31 (if (fQ_is a0 361240 (xwr m3 (a0 + 7) 29 v3)) = 0 then 0 else 1 : Int)))) else (some (xwr m3 (a0 + 7) 29 v3))))))) else (if (fQ_is a0 361240 (xwr m3 (a0 + 7) 29 v3)) = 0 then (if ((xwr m3 (a0 + 7) 29 v3) a0 12) = 0 then (xB (fQ_next a0 (xwr m3 (a0 + 7) 29 v3)) (fun m17 => some (xwr m17 (a0 + 7) 31 (if (fQ_is a0 361240 (xwr m3 (a0 + 7) 29 v3)) = 0 then 0 else 1 : Int)))) else (some (xwr m3 (a0 + 7) 29 v3))) else (xB (fQ_hasRead a0 0 (xwr m3 (a0 + 7) 29 v3)) (fun v18 => if v18 = 2 then (if ((fQ_fails a0 2 (xwr m3 (a0 + 7) 29 v3)) a0 12) = 0 then (xB (fQ_next a0 (fQ_fails a0 2 (xwr m3 (a0 + 7) 29 v3))) (fun m20 => some (xwr m20 (a0 + 7) 31 (if (fQ_is a0 361240 (xwr m3 (a0 + 7) 29 v3)) = 0 then 0 else 1 : Int)))) else (some (fQ_fails a0 2 (xwr m3 (a0 + 7) 29 v3)))) else (if ((xwr m3 (a0 + 7) 29 v3) a0 12) = 0 then (xB (fQ_next a0 (xwr m3 (a0 + 7) 29 v3)) (fun m21 => some (xwr m21 (a0 + 7) 31 (if (fQ_is a0 361240 (xwr m3 (a0 + 7) 29 v3)) = 0 then 0 else 1 : Int)))) else (some (xwr m3 (a0 + 7) 29 v3)))))))))
theorem hQ_first (a0 : Int) (M : xM) (r : xM) (h : fQ_first a0 M = some r) : xEv (110, 0, [some (13, a0), none], [], M) (none, r) := by
  unfold fQ_first at h
  refine xEvG_n xml xfetch 2 (y := (110, 4, [some (13, a0), none], [(1, 239339867), (13, a0)], M)) rfl trivial ?_
  obtain ⟨m1, e_, h⟩ := xB_t h
  refine xEvG_call xml xfetch (q := (none, m1)) rfl (hQ_asks a0 239339867 M _ e_) ?_
  show xEv (110, 7, [some (13, a0), none], [], m1) _
  refine xEvG_n xml xfetch 7 (y := (110, 20, [some (13, a0), none], [(0, 9), (0, 2), (1, 1701829), (13, a0), (0, 28), (34, (a0 + 7))], m1)) rfl trivial ?_
  obtain ⟨⟨v2, m2⟩, e_, h⟩ := xB_t h
  refine xEvG_call xml xfetch (q := (some (0, v2), m2)) rfl (hQ_number3 a0 1701829 2 9 m1 _ e_) ?_
  show xEv (110, 23, [some (13, a0), none], [(0, v2), (0, 28), (34, (a0 + 7))], m2) _
  refine xEvG_n xml xfetch 8 (y := (110, 37, [some (13, a0), none], [(0, 24), (0, 1), (1, 4562587), (13, a0), (0, 29), (34, (a0 + 7))], (xwr m2 (a0 + 7) 28 v2))) rfl ⟨by decide, trivial⟩ ?_
  obtain ⟨⟨v3, m3⟩, e_, h⟩ := xB_t h
  refine xEvG_call xml xfetch (q := (some (0, v3), m3)) rfl (hQ_number3 a0 4562587 1 24 (xwr m2 (a0 + 7) 28 v2) _ e_) ?_
  show xEv (110, 40, [some (13, a0), none], [(0, v3), (0, 29), (34, (a0 + 7))], m3) _
  refine xEvG_n xml xfetch 3 (y := (110, 45, [some (13, a0), none], [(1, 361240), (13, a0)], (xwr m3 (a0 + 7) 29 v3))) rfl ⟨by decide, trivial⟩ ?_
  refine xEvG_call xml xfetch (q := (some (0, fQ_is a0 361240 (xwr m3 (a0 + 7) 29 v3)), (xwr m3 (a0 + 7) 29 v3))) rfl (hQ_is a0 361240 (xwr m3 (a0 + 7) 29 v3) _ rfl) ?_
  show xEv (110, 48, [some (13, a0), none], [(0, (fQ_is a0 361240 (xwr m3 (a0 + 7) 29 v3)))], (xwr m3 (a0 + 7) 29 v3)) _
  refine xEvG_n xml xfetch 3 (y := (110, if (fQ_is a0 361240 (xwr m3 (a0 + 7) 29 v3)) = 0 then 53 else 68, [some (13, a0), some (0, (fQ_is a0 361240 (xwr m3 (a0 + 7) 29 v3)))], [], (xwr m3 (a0 + 7) 29 v3))) rfl trivial ?_
  refine xEvG_br xml xfetch (fun c_ => ?_) (fun c_ => ?_)
  · have h := xif_t c_ h
    refine xEvG_n xml xfetch 2 (y := (110, 57, [some (13, a0), some (0, (fQ_is a0 361240 (xwr m3 (a0 + 7) 29 v3)))], [(1, 13550), (13, a0)], (xwr m3 (a0 + 7) 29 v3))) rfl trivial ?_
    refine xEvG_call xml xfetch (q := (some (0, fQ_is a0 13550 (xwr m3 (a0 + 7) 29 v3)), (xwr m3 (a0 + 7) 29 v3))) rfl (hQ_is a0 13550 (xwr m3 (a0 + 7) 29 v3) _ rfl) ?_
    show xEv (110, 60, [some (13, a0), some (0, (fQ_is a0 361240 (xwr m3 (a0 + 7) 29 v3)))], [(0, (fQ_is a0 13550 (xwr m3 (a0 + 7) 29 v3)))], (xwr m3 (a0 + 7) 29 v3)) _
    refine xEvG_n xml xfetch 1 (y := (110, if (fQ_is a0 13550 (xwr m3 (a0 + 7) 29 v3)) = 0 then 63 else 68, [some (13, a0), some (0, (fQ_is a0 361240 (xwr m3 (a0 + 7) 29 v3)))], [], (xwr m3 (a0 + 7) 29 v3))) rfl trivial ?_
    refine xEvG_br xml xfetch (fun c_ => ?_) (fun c_ => ?_)
    · have h := xif_t c_ h
      refine xEvG_n xml xfetch 2 (y := (110, 65, [some (13, a0), some (0, (fQ_is a0 361240 (xwr m3 (a0 + 7) 29 v3)))], [(0, 1), (13, a0)], (xwr m3 (a0 + 7) 29 v3))) rfl trivial ?_
      refine xEvG_call xml xfetch (q := (none, fQ_fails a0 1 (xwr m3 (a0 + 7) 29 v3))) rfl (hQ_fails a0 1 (xwr m3 (a0 + 7) 29 v3) _ rfl) ?_
      show xEv (110, 68, [some (13, a0), some (0, (fQ_is a0 361240 (xwr m3 (a0 + 7) 29 v3)))], [], (fQ_fails a0 1 (xwr m3 (a0 + 7) 29 v3))) _
      refine xEvG_n xml xfetch 2 (y := (110, if (fQ_is a0 361240 (xwr m3 (a0 + 7) 29 v3)) = 0 then 86 else 72, [some (13, a0), some (0, (fQ_is a0 361240 (xwr m3 (a0 + 7) 29 v3)))], [], (fQ_fails a0 1 (xwr m3 (a0 + 7) 29 v3)))) rfl trivial ?_
      refine xEvG_br xml xfetch (fun c_ => ?_) (fun c_ => ?_)
      · have h := xif_t c_ h
        refine xEvG_n xml xfetch 3 (y := (110, if ((fQ_fails a0 1 (xwr m3 (a0 + 7) 29 v3)) a0 12) = 0 then 94 else 93, [some (13, a0), some (0, (fQ_is a0 361240 (xwr m3 (a0 + 7) 29 v3)))], [], (fQ_fails a0 1 (xwr m3 (a0 + 7) 29 v3)))) rfl trivial ?_
        refine xEvG_br xml xfetch (fun c_ => ?_) (fun c_ => ?_)
        · have h := xif_t c_ h
          refine xEvG_n xml xfetch 1 (y := (110, 95, [some (13, a0), some (0, (fQ_is a0 361240 (xwr m3 (a0 + 7) 29 v3)))], [(13, a0)], (fQ_fails a0 1 (xwr m3 (a0 + 7) 29 v3)))) rfl trivial ?_
          obtain ⟨m7, e_, h⟩ := xB_t h
          refine xEvG_call xml xfetch (q := (none, m7)) rfl (hQ_next a0 (fQ_fails a0 1 (xwr m3 (a0 + 7) 29 v3)) _ e_) ?_
          show xEv (110, 98, [some (13, a0), some (0, (fQ_is a0 361240 (xwr m3 (a0 + 7) 29 v3)))], [], m7) _
          refine xEvG_n xml xfetch 4 (y := (110, 105, [some (13, a0), some (0, (fQ_is a0 361240 (xwr m3 (a0 + 7) 29 v3)))], [(0, (fQ_is a0 361240 (xwr m3 (a0 + 7) 29 v3))), (0, 31), (34, (a0 + 7))], m7)) rfl trivial ?_
          have key_ : xEv (110, 113, [some (13, a0), some (0, (fQ_is a0 361240 (xwr m3 (a0 + 7) 29 v3)))], [(0, (if (fQ_is a0 361240 (xwr m3 (a0 + 7) 29 v3)) = 0 then 0 else 1 : Int)), (0, 31), (34, (a0 + 7))], m7) (none, r) := by
            refine xEvG_n xml xfetch 1 (y := (110, 114, [some (13, a0), some (0, (fQ_is a0 361240 (xwr m3 (a0 + 7) 29 v3)))], [], (xwr m7 (a0 + 7) 31 (if (fQ_is a0 361240 (xwr m3 (a0 + 7) 29 v3)) = 0 then 0 else 1 : Int)))) rfl ⟨by decide, trivial⟩ ?_
            cases h
            exact xEvG_ret xml xfetch rfl
          refine xEvG_n xml xfetch 1 (y := (110, if (fQ_is a0 361240 (xwr m3 (a0 + 7) 29 v3)) = 0 then 112 else 108, [some (13, a0), some (0, (fQ_is a0 361240 (xwr m3 (a0 + 7) 29 v3)))], [(0, 31), (34, (a0 + 7))], m7)) rfl trivial ?_
          refine xEvG_br xml xfetch (fun c10_ => ?_) (fun c10_ => ?_)
          · refine xEvG_n xml xfetch 1 (y := (110, 113, [some (13, a0), some (0, (fQ_is a0 361240 (xwr m3 (a0 + 7) 29 v3)))], [(0, 0), (0, 31), (34, (a0 + 7))], m7)) rfl trivial ?_
            try simp only [if_pos c10_] at key_
            try simp only [if_pos c10_]
            exact key_
          · refine xEvG_n xml xfetch 2 (y := (110, 113, [some (13, a0), some (0, (fQ_is a0 361240 (xwr m3 (a0 + 7) 29 v3)))], [(0, 1), (0, 31), (34, (a0 + 7))], m7)) rfl trivial ?_
            try simp only [if_neg c10_] at key_
            try simp only [if_neg c10_]
            exact key_
        · have h := xif_f c_ h
          cases h
          exact xEvG_ret xml xfetch rfl
      · have h := xif_f c_ h
        refine xEvG_n xml xfetch 2 (y := (110, 74, [some (13, a0), some (0, (fQ_is a0 361240 (xwr m3 (a0 + 7) 29 v3)))], [(0, 0), (13, a0)], (fQ_fails a0 1 (xwr m3 (a0 + 7) 29 v3)))) rfl trivial ?_
        obtain ⟨v8, e_, h⟩ := xB_t h
        refine xEvG_call xml xfetch (q := (some (0, v8), (fQ_fails a0 1 (xwr m3 (a0 + 7) 29 v3)))) rfl (hQ_hasRead a0 0 (fQ_fails a0 1 (xwr m3 (a0 + 7) 29 v3)) _ e_) ?_
        show xEv (110, 77, [some (13, a0), some (0, (fQ_is a0 361240 (xwr m3 (a0 + 7) 29 v3)))], [(0, v8)], (fQ_fails a0 1 (xwr m3 (a0 + 7) 29 v3))) _
        refine xEvG_n xml xfetch 2 (y := (110, if v8 = 2 then 81 else 86, [some (13, a0), some (0, (fQ_is a0 361240 (xwr m3 (a0 + 7) 29 v3)))], [], (fQ_fails a0 1 (xwr m3 (a0 + 7) 29 v3)))) rfl trivial ?_
        refine xEvG_br xml xfetch (fun c_ => ?_) (fun c_ => ?_)
        · have h := xif_t c_ h
          refine xEvG_n xml xfetch 2 (y := (110, 83, [some (13, a0), some (0, (fQ_is a0 361240 (xwr m3 (a0 + 7) 29 v3)))], [(0, 2), (13, a0)], (fQ_fails a0 1 (xwr m3 (a0 + 7) 29 v3)))) rfl trivial ?_
          refine xEvG_call xml xfetch (q := (none, fQ_fails a0 2 (fQ_fails a0 1 (xwr m3 (a0 + 7) 29 v3)))) rfl (hQ_fails a0 2 (fQ_fails a0 1 (xwr m3 (a0 + 7) 29 v3)) _ rfl) ?_
          show xEv (110, 86, [some (13, a0), some (0, (fQ_is a0 361240 (xwr m3 (a0 + 7) 29 v3)))], [], (fQ_fails a0 2 (fQ_fails a0 1 (xwr m3 (a0 + 7) 29 v3)))) _
          refine xEvG_n xml xfetch 3 (y := (110, if ((fQ_fails a0 2 (fQ_fails a0 1 (xwr m3 (a0 + 7) 29 v3))) a0 12) = 0 then 94 else 93, [some (13, a0), some (0, (fQ_is a0 361240 (xwr m3 (a0 + 7) 29 v3)))], [], (fQ_fails a0 2 (fQ_fails a0 1 (xwr m3 (a0 + 7) 29 v3))))) rfl trivial ?_
          refine xEvG_br xml xfetch (fun c_ => ?_) (fun c_ => ?_)
          · have h := xif_t c_ h
            refine xEvG_n xml xfetch 1 (y := (110, 95, [some (13, a0), some (0, (fQ_is a0 361240 (xwr m3 (a0 + 7) 29 v3)))], [(13, a0)], (fQ_fails a0 2 (fQ_fails a0 1 (xwr m3 (a0 + 7) 29 v3))))) rfl trivial ?_
            obtain ⟨m10, e_, h⟩ := xB_t h
            refine xEvG_call xml xfetch (q := (none, m10)) rfl (hQ_next a0 (fQ_fails a0 2 (fQ_fails a0 1 (xwr m3 (a0 + 7) 29 v3))) _ e_) ?_
            show xEv (110, 98, [some (13, a0), some (0, (fQ_is a0 361240 (xwr m3 (a0 + 7) 29 v3)))], [], m10) _
            refine xEvG_n xml xfetch 4 (y := (110, 105, [some (13, a0), some (0, (fQ_is a0 361240 (xwr m3 (a0 + 7) 29 v3)))], [(0, (fQ_is a0 361240 (xwr m3 (a0 + 7) 29 v3))), (0, 31), (34, (a0 + 7))], m10)) rfl trivial ?_
            have key_ : xEv (110, 113, [some (13, a0), some (0, (fQ_is a0 361240 (xwr m3 (a0 + 7) 29 v3)))], [(0, (if (fQ_is a0 361240 (xwr m3 (a0 + 7) 29 v3)) = 0 then 0 else 1 : Int)), (0, 31), (34, (a0 + 7))], m10) (none, r) := by
              refine xEvG_n xml xfetch 1 (y := (110, 114, [some (13, a0), some (0, (fQ_is a0 361240 (xwr m3 (a0 + 7) 29 v3)))], [], (xwr m10 (a0 + 7) 31 (if (fQ_is a0 361240 (xwr m3 (a0 + 7) 29 v3)) = 0 then 0 else 1 : Int)))) rfl ⟨by decide, trivial⟩ ?_
              cases h
              exact xEvG_ret xml xfetch rfl
            refine xEvG_n xml xfetch 1 (y := (110, if (fQ_is a0 361240 (xwr m3 (a0 + 7) 29 v3)) = 0 then 112 else 108, [some (13, a0), some (0, (fQ_is a0 361240 (xwr m3 (a0 + 7) 29 v3)))], [(0, 31), (34, (a0 + 7))], m10)) rfl trivial ?_
            refine xEvG_br xml xfetch (fun c12_ => ?_) (fun c12_ => ?_)
            · refine xEvG_n xml xfetch 1 (y := (110, 113, [some (13, a0), some (0, (fQ_is a0 361240 (xwr m3 (a0 + 7) 29 v3)))], [(0, 0), (0, 31), (34, (a0 + 7))], m10)) rfl trivial ?_
              try simp only [if_pos c12_] at key_
              try simp only [if_pos c12_]
              exact key_
            · refine xEvG_n xml xfetch 2 (y := (110, 113, [some (13, a0), some (0, (fQ_is a0 361240 (xwr m3 (a0 + 7) 29 v3)))], [(0, 1), (0, 31), (34, (a0 + 7))], m10)) rfl trivial ?_
              try simp only [if_neg c12_] at key_
              try simp only [if_neg c12_]
              exact key_
          · have h := xif_f c_ h
            cases h
            exact xEvG_ret xml xfetch rfl
        · have h := xif_f c_ h
          refine xEvG_n xml xfetch 3 (y := (110, if ((fQ_fails a0 1 (xwr m3 (a0 + 7) 29 v3)) a0 12) = 0 then 94 else 93, [some (13, a0), some (0, (fQ_is a0 361240 (xwr m3 (a0 + 7) 29 v3)))], [], (fQ_fails a0 1 (xwr m3 (a0 + 7) 29 v3)))) rfl trivial ?_
          refine xEvG_br xml xfetch (fun c_ => ?_) (fun c_ => ?_)
          · have h := xif_t c_ h
            refine xEvG_n xml xfetch 1 (y := (110, 95, [some (13, a0), some (0, (fQ_is a0 361240 (xwr m3 (a0 + 7) 29 v3)))], [(13, a0)], (fQ_fails a0 1 (xwr m3 (a0 + 7) 29 v3)))) rfl trivial ?_
            obtain ⟨m11, e_, h⟩ := xB_t h
            refine xEvG_call xml xfetch (q := (none, m11)) rfl (hQ_next a0 (fQ_fails a0 1 (xwr m3 (a0 + 7) 29 v3)) _ e_) ?_
            show xEv (110, 98, [some (13, a0), some (0, (fQ_is a0 361240 (xwr m3 (a0 + 7) 29 v3)))], [], m11) _
            refine xEvG_n xml xfetch 4 (y := (110, 105, [some (13, a0), some (0, (fQ_is a0 361240 (xwr m3 (a0 + 7) 29 v3)))], [(0, (fQ_is a0 361240 (xwr m3 (a0 + 7) 29 v3))), (0, 31), (34, (a0 + 7))], m11)) rfl trivial ?_
            have key_ : xEv (110, 113, [some (13, a0), some (0, (fQ_is a0 361240 (xwr m3 (a0 + 7) 29 v3)))], [(0, (if (fQ_is a0 361240 (xwr m3 (a0 + 7) 29 v3)) = 0 then 0 else 1 : Int)), (0, 31), (34, (a0 + 7))], m11) (none, r) := by
              refine xEvG_n xml xfetch 1 (y := (110, 114, [some (13, a0), some (0, (fQ_is a0 361240 (xwr m3 (a0 + 7) 29 v3)))], [], (xwr m11 (a0 + 7) 31 (if (fQ_is a0 361240 (xwr m3 (a0 + 7) 29 v3)) = 0 then 0 else 1 : Int)))) rfl ⟨by decide, trivial⟩ ?_
              cases h
              exact xEvG_ret xml xfetch rfl
            refine xEvG_n xml xfetch 1 (y := (110, if (fQ_is a0 361240 (xwr m3 (a0 + 7) 29 v3)) = 0 then 112 else 108, [some (13, a0), some (0, (fQ_is a0 361240 (xwr m3 (a0 + 7) 29 v3)))], [(0, 31), (34, (a0 + 7))], m11)) rfl trivial ?_
            refine xEvG_br xml xfetch (fun c12_ => ?_) (fun c12_ => ?_)
            · refine xEvG_n xml xfetch 1 (y := (110, 113, [some (13, a0), some (0, (fQ_is a0 361240 (xwr m3 (a0 + 7) 29 v3)))], [(0, 0), (0, 31), (34, (a0 + 7))], m11)) rfl trivial ?_
              try simp only [if_pos c12_] at key_
              try simp only [if_pos c12_]
              exact key_
            · refine xEvG_n xml xfetch 2 (y := (110, 113, [some (13, a0), some (0, (fQ_is a0 361240 (xwr m3 (a0 + 7) 29 v3)))], [(0, 1), (0, 31), (34, (a0 + 7))], m11)) rfl trivial ?_
              try simp only [if_neg c12_] at key_
              try simp only [if_neg c12_]
              exact key_
          · have h := xif_f c_ h
            cases h
            exact xEvG_ret xml xfetch rfl
    · have h := xif_f c_ h
      refine xEvG_n xml xfetch 2 (y := (110, if (fQ_is a0 361240 (xwr m3 (a0 + 7) 29 v3)) = 0 then 86 else 72, [some (13, a0), some (0, (fQ_is a0 361240 (xwr m3 (a0 + 7) 29 v3)))], [], (xwr m3 (a0 + 7) 29 v3))) rfl trivial ?_
      refine xEvG_br xml xfetch (fun c_ => ?_) (fun c_ => ?_)
      · have h := xif_t c_ h
        refine xEvG_n xml xfetch 3 (y := (110, if ((xwr m3 (a0 + 7) 29 v3) a0 12) = 0 then 94 else 93, [some (13, a0), some (0, (fQ_is a0 361240 (xwr m3 (a0 + 7) 29 v3)))], [], (xwr m3 (a0 + 7) 29 v3))) rfl trivial ?_
        refine xEvG_br xml xfetch (fun c_ => ?_) (fun c_ => ?_)
        · have h := xif_t c_ h
          refine xEvG_n xml xfetch 1 (y := (110, 95, [some (13, a0), some (0, (fQ_is a0 361240 (xwr m3 (a0 + 7) 29 v3)))], [(13, a0)], (xwr m3 (a0 + 7) 29 v3))) rfl trivial ?_
          obtain ⟨m12, e_, h⟩ := xB_t h
          refine xEvG_call xml xfetch (q := (none, m12)) rfl (hQ_next a0 (xwr m3 (a0 + 7) 29 v3) _ e_) ?_
          show xEv (110, 98, [some (13, a0), some (0, (fQ_is a0 361240 (xwr m3 (a0 + 7) 29 v3)))], [], m12) _
          refine xEvG_n xml xfetch 4 (y := (110, 105, [some (13, a0), some (0, (fQ_is a0 361240 (xwr m3 (a0 + 7) 29 v3)))], [(0, (fQ_is a0 361240 (xwr m3 (a0 + 7) 29 v3))), (0, 31), (34, (a0 + 7))], m12)) rfl trivial ?_
          have key_ : xEv (110, 113, [some (13, a0), some (0, (fQ_is a0 361240 (xwr m3 (a0 + 7) 29 v3)))], [(0, (if (fQ_is a0 361240 (xwr m3 (a0 + 7) 29 v3)) = 0 then 0 else 1 : Int)), (0, 31), (34, (a0 + 7))], m12) (none, r) := by
            refine xEvG_n xml xfetch 1 (y := (110, 114, [some (13, a0), some (0, (fQ_is a0 361240 (xwr m3 (a0 + 7) 29 v3)))], [], (xwr m12 (a0 + 7) 31 (if (fQ_is a0 361240 (xwr m3 (a0 + 7) 29 v3)) = 0 then 0 else 1 : Int)))) rfl ⟨by decide, trivial⟩ ?_
            cases h
            exact xEvG_ret xml xfetch rfl
          refine xEvG_n xml xfetch 1 (y := (110, if (fQ_is a0 361240 (xwr m3 (a0 + 7) 29 v3)) = 0 then 112 else 108, [some (13, a0), some (0, (fQ_is a0 361240 (xwr m3 (a0 + 7) 29 v3)))], [(0, 31), (34, (a0 + 7))], m12)) rfl trivial ?_
          refine xEvG_br xml xfetch (fun c10_ => ?_) (fun c10_ => ?_)
          · refine xEvG_n xml xfetch 1 (y := (110, 113, [some (13, a0), some (0, (fQ_is a0 361240 (xwr m3 (a0 + 7) 29 v3)))], [(0, 0), (0, 31), (34, (a0 + 7))], m12)) rfl trivial ?_
            try simp only [if_pos c10_] at key_
            try simp only [if_pos c10_]
            exact key_
          · refine xEvG_n xml xfetch 2 (y := (110, 113, [some (13, a0), some (0, (fQ_is a0 361240 (xwr m3 (a0 + 7) 29 v3)))], [(0, 1), (0, 31), (34, (a0 + 7))], m12)) rfl trivial ?_
            try simp only [if_neg c10_] at key_
            try simp only [if_neg c10_]
            exact key_
        · have h := xif_f c_ h
          cases h
          exact xEvG_ret xml xfetch rfl
      · have h := xif_f c_ h
        refine xEvG_n xml xfetch 2 (y := (110, 74, [some (13, a0), some (0, (fQ_is a0 361240 (xwr m3 (a0 + 7) 29 v3)))], [(0, 0), (13, a0)], (xwr m3 (a0 + 7) 29 v3))) rfl trivial ?_
        obtain ⟨v13, e_, h⟩ := xB_t h
        refine xEvG_call xml xfetch (q := (some (0, v13), (xwr m3 (a0 + 7) 29 v3))) rfl (hQ_hasRead a0 0 (xwr m3 (a0 + 7) 29 v3) _ e_) ?_
        show xEv (110, 77, [some (13, a0), some (0, (fQ_is a0 361240 (xwr m3 (a0 + 7) 29 v3)))], [(0, v13)], (xwr m3 (a0 + 7) 29 v3)) _
        refine xEvG_n xml xfetch 2 (y := (110, if v13 = 2 then 81 else 86, [some (13, a0), some (0, (fQ_is a0 361240 (xwr m3 (a0 + 7) 29 v3)))], [], (xwr m3 (a0 + 7) 29 v3))) rfl trivial ?_
        refine xEvG_br xml xfetch (fun c_ => ?_) (fun c_ => ?_)
        · have h := xif_t c_ h
          refine xEvG_n xml xfetch 2 (y := (110, 83, [some (13, a0), some (0, (fQ_is a0 361240 (xwr m3 (a0 + 7) 29 v3)))], [(0, 2), (13, a0)], (xwr m3 (a0 + 7) 29 v3))) rfl trivial ?_
          refine xEvG_call xml xfetch (q := (none, fQ_fails a0 2 (xwr m3 (a0 + 7) 29 v3))) rfl (hQ_fails a0 2 (xwr m3 (a0 + 7) 29 v3) _ rfl) ?_
          show xEv (110, 86, [some (13, a0), some (0, (fQ_is a0 361240 (xwr m3 (a0 + 7) 29 v3)))], [], (fQ_fails a0 2 (xwr m3 (a0 + 7) 29 v3))) _
          refine xEvG_n xml xfetch 3 (y := (110, if ((fQ_fails a0 2 (xwr m3 (a0 + 7) 29 v3)) a0 12) = 0 then 94 else 93, [some (13, a0), some (0, (fQ_is a0 361240 (xwr m3 (a0 + 7) 29 v3)))], [], (fQ_fails a0 2 (xwr m3 (a0 + 7) 29 v3)))) rfl trivial ?_
          refine xEvG_br xml xfetch (fun c_ => ?_) (fun c_ => ?_)
          · have h := xif_t c_ h
            refine xEvG_n xml xfetch 1 (y := (110, 95, [some (13, a0), some (0, (fQ_is a0 361240 (xwr m3 (a0 + 7) 29 v3)))], [(13, a0)], (fQ_fails a0 2 (xwr m3 (a0 + 7) 29 v3)))) rfl trivial ?_
            obtain ⟨m15, e_, h⟩ := xB_t h
            refine xEvG_call xml xfetch (q := (none, m15)) rfl (hQ_next a0 (fQ_fails a0 2 (xwr m3 (a0 + 7) 29 v3)) _ e_) ?_
            show xEv (110, 98, [some (13, a0), some (0, (fQ_is a0 361240 (xwr m3 (a0 + 7) 29 v3)))], [], m15) _
            refine xEvG_n xml xfetch 4 (y := (110, 105, [some (13, a0), some (0, (fQ_is a0 361240 (xwr m3 (a0 + 7) 29 v3)))], [(0, (fQ_is a0 361240 (xwr m3 (a0 + 7) 29 v3))), (0, 31), (34, (a0 + 7))], m15)) rfl trivial ?_
            have key_ : xEv (110, 113, [some (13, a0), some (0, (fQ_is a0 361240 (xwr m3 (a0 + 7) 29 v3)))], [(0, (if (fQ_is a0 361240 (xwr m3 (a0 + 7) 29 v3)) = 0 then 0 else 1 : Int)), (0, 31), (34, (a0 + 7))], m15) (none, r) := by
              refine xEvG_n xml xfetch 1 (y := (110, 114, [some (13, a0), some (0, (fQ_is a0 361240 (xwr m3 (a0 + 7) 29 v3)))], [], (xwr m15 (a0 + 7) 31 (if (fQ_is a0 361240 (xwr m3 (a0 + 7) 29 v3)) = 0 then 0 else 1 : Int)))) rfl ⟨by decide, trivial⟩ ?_
              cases h
              exact xEvG_ret xml xfetch rfl
            refine xEvG_n xml xfetch 1 (y := (110, if (fQ_is a0 361240 (xwr m3 (a0 + 7) 29 v3)) = 0 then 112 else 108, [some (13, a0), some (0, (fQ_is a0 361240 (xwr m3 (a0 + 7) 29 v3)))], [(0, 31), (34, (a0 + 7))], m15)) rfl trivial ?_
            refine xEvG_br xml xfetch (fun c12_ => ?_) (fun c12_ => ?_)
            · refine xEvG_n xml xfetch 1 (y := (110, 113, [some (13, a0), some (0, (fQ_is a0 361240 (xwr m3 (a0 + 7) 29 v3)))], [(0, 0), (0, 31), (34, (a0 + 7))], m15)) rfl trivial ?_
              try simp only [if_pos c12_] at key_
              try simp only [if_pos c12_]
              exact key_
            · refine xEvG_n xml xfetch 2 (y := (110, 113, [some (13, a0), some (0, (fQ_is a0 361240 (xwr m3 (a0 + 7) 29 v3)))], [(0, 1), (0, 31), (34, (a0 + 7))], m15)) rfl trivial ?_
              try simp only [if_neg c12_] at key_
              try simp only [if_neg c12_]
              exact key_
          · have h := xif_f c_ h
            cases h
            exact xEvG_ret xml xfetch rfl
        · have h := xif_f c_ h
          refine xEvG_n xml xfetch 3 (y := (110, if ((xwr m3 (a0 + 7) 29 v3) a0 12) = 0 then 94 else 93, [some (13, a0), some (0, (fQ_is a0 361240 (xwr m3 (a0 + 7) 29 v3)))], [], (xwr m3 (a0 + 7) 29 v3))) rfl trivial ?_
          refine xEvG_br xml xfetch (fun c_ => ?_) (fun c_ => ?_)
          · have h := xif_t c_ h
            refine xEvG_n xml xfetch 1 (y := (110, 95, [some (13, a0), some (0, (fQ_is a0 361240 (xwr m3 (a0 + 7) 29 v3)))], [(13, a0)], (xwr m3 (a0 + 7) 29 v3))) rfl trivial ?_
            obtain ⟨m16, e_, h⟩ := xB_t h
            refine xEvG_call xml xfetch (q := (none, m16)) rfl (hQ_next a0 (xwr m3 (a0 + 7) 29 v3) _ e_) ?_
            show xEv (110, 98, [some (13, a0), some (0, (fQ_is a0 361240 (xwr m3 (a0 + 7) 29 v3)))], [], m16) _
            refine xEvG_n xml xfetch 4 (y := (110, 105, [some (13, a0), some (0, (fQ_is a0 361240 (xwr m3 (a0 + 7) 29 v3)))], [(0, (fQ_is a0 361240 (xwr m3 (a0 + 7) 29 v3))), (0, 31), (34, (a0 + 7))], m16)) rfl trivial ?_
            have key_ : xEv (110, 113, [some (13, a0), some (0, (fQ_is a0 361240 (xwr m3 (a0 + 7) 29 v3)))], [(0, (if (fQ_is a0 361240 (xwr m3 (a0 + 7) 29 v3)) = 0 then 0 else 1 : Int)), (0, 31), (34, (a0 + 7))], m16) (none, r) := by
              refine xEvG_n xml xfetch 1 (y := (110, 114, [some (13, a0), some (0, (fQ_is a0 361240 (xwr m3 (a0 + 7) 29 v3)))], [], (xwr m16 (a0 + 7) 31 (if (fQ_is a0 361240 (xwr m3 (a0 + 7) 29 v3)) = 0 then 0 else 1 : Int)))) rfl ⟨by decide, trivial⟩ ?_
              cases h
              exact xEvG_ret xml xfetch rfl
            refine xEvG_n xml xfetch 1 (y := (110, if (fQ_is a0 361240 (xwr m3 (a0 + 7) 29 v3)) = 0 then 112 else 108, [some (13, a0), some (0, (fQ_is a0 361240 (xwr m3 (a0 + 7) 29 v3)))], [(0, 31), (34, (a0 + 7))], m16)) rfl trivial ?_
            refine xEvG_br xml xfetch (fun c12_ => ?_) (fun c12_ => ?_)
            · refine xEvG_n xml xfetch 1 (y := (110, 113, [some (13, a0), some (0, (fQ_is a0 361240 (xwr m3 (a0 + 7) 29 v3)))], [(0, 0), (0, 31), (34, (a0 + 7))], m16)) rfl trivial ?_
              try simp only [if_pos c12_] at key_
              try simp only [if_pos c12_]
              exact key_
            · refine xEvG_n xml xfetch 2 (y := (110, 113, [some (13, a0), some (0, (fQ_is a0 361240 (xwr m3 (a0 + 7) 29 v3)))], [(0, 1), (0, 31), (34, (a0 + 7))], m16)) rfl trivial ?_
              try simp only [if_neg c12_] at key_
              try simp only [if_neg c12_]
              exact key_
          · have h := xif_f c_ h
            cases h
            exact xEvG_ret xml xfetch rfl
  · have h := xif_f c_ h
    refine xEvG_n xml xfetch 2 (y := (110, if (fQ_is a0 361240 (xwr m3 (a0 + 7) 29 v3)) = 0 then 86 else 72, [some (13, a0), some (0, (fQ_is a0 361240 (xwr m3 (a0 + 7) 29 v3)))], [], (xwr m3 (a0 + 7) 29 v3))) rfl trivial ?_
    refine xEvG_br xml xfetch (fun c_ => ?_) (fun c_ => ?_)
    · have h := xif_t c_ h
      refine xEvG_n xml xfetch 3 (y := (110, if ((xwr m3 (a0 + 7) 29 v3) a0 12) = 0 then 94 else 93, [some (13, a0), some (0, (fQ_is a0 361240 (xwr m3 (a0 + 7) 29 v3)))], [], (xwr m3 (a0 + 7) 29 v3))) rfl trivial ?_
      refine xEvG_br xml xfetch (fun c_ => ?_) (fun c_ => ?_)
      · have h := xif_t c_ h
        refine xEvG_n xml xfetch 1 (y := (110, 95, [some (13, a0), some (0, (fQ_is a0 361240 (xwr m3 (a0 + 7) 29 v3)))], [(13, a0)], (xwr m3 (a0 + 7) 29 v3))) rfl trivial ?_
        obtain ⟨m17, e_, h⟩ := xB_t h
        refine xEvG_call xml xfetch (q := (none, m17)) rfl (hQ_next a0 (xwr m3 (a0 + 7) 29 v3) _ e_) ?_
        show xEv (110, 98, [some (13, a0), some (0, (fQ_is a0 361240 (xwr m3 (a0 + 7) 29 v3)))], [], m17) _
        refine xEvG_n xml xfetch 4 (y := (110, 105, [some (13, a0), some (0, (fQ_is a0 361240 (xwr m3 (a0 + 7) 29 v3)))], [(0, (fQ_is a0 361240 (xwr m3 (a0 + 7) 29 v3))), (0, 31), (34, (a0 + 7))], m17)) rfl trivial ?_
        have key_ : xEv (110, 113, [some (13, a0), some (0, (fQ_is a0 361240 (xwr m3 (a0 + 7) 29 v3)))], [(0, (if (fQ_is a0 361240 (xwr m3 (a0 + 7) 29 v3)) = 0 then 0 else 1 : Int)), (0, 31), (34, (a0 + 7))], m17) (none, r) := by
          refine xEvG_n xml xfetch 1 (y := (110, 114, [some (13, a0), some (0, (fQ_is a0 361240 (xwr m3 (a0 + 7) 29 v3)))], [], (xwr m17 (a0 + 7) 31 (if (fQ_is a0 361240 (xwr m3 (a0 + 7) 29 v3)) = 0 then 0 else 1 : Int)))) rfl ⟨by decide, trivial⟩ ?_
          cases h
          exact xEvG_ret xml xfetch rfl
        refine xEvG_n xml xfetch 1 (y := (110, if (fQ_is a0 361240 (xwr m3 (a0 + 7) 29 v3)) = 0 then 112 else 108, [some (13, a0), some (0, (fQ_is a0 361240 (xwr m3 (a0 + 7) 29 v3)))], [(0, 31), (34, (a0 + 7))], m17)) rfl trivial ?_
        refine xEvG_br xml xfetch (fun c8_ => ?_) (fun c8_ => ?_)
        · refine xEvG_n xml xfetch 1 (y := (110, 113, [some (13, a0), some (0, (fQ_is a0 361240 (xwr m3 (a0 + 7) 29 v3)))], [(0, 0), (0, 31), (34, (a0 + 7))], m17)) rfl trivial ?_
          try simp only [if_pos c8_] at key_
          try simp only [if_pos c8_]
          exact key_
        · refine xEvG_n xml xfetch 2 (y := (110, 113, [some (13, a0), some (0, (fQ_is a0 361240 (xwr m3 (a0 + 7) 29 v3)))], [(0, 1), (0, 31), (34, (a0 + 7))], m17)) rfl trivial ?_
          try simp only [if_neg c8_] at key_
          try simp only [if_neg c8_]
          exact key_
      · have h := xif_f c_ h
        cases h
        exact xEvG_ret xml xfetch rfl
    · have h := xif_f c_ h
      refine xEvG_n xml xfetch 2 (y := (110, 74, [some (13, a0), some (0, (fQ_is a0 361240 (xwr m3 (a0 + 7) 29 v3)))], [(0, 0), (13, a0)], (xwr m3 (a0 + 7) 29 v3))) rfl trivial ?_
      obtain ⟨v18, e_, h⟩ := xB_t h
      refine xEvG_call xml xfetch (q := (some (0, v18), (xwr m3 (a0 + 7) 29 v3))) rfl (hQ_hasRead a0 0 (xwr m3 (a0 + 7) 29 v3) _ e_) ?_
      show xEv (110, 77, [some (13, a0), some (0, (fQ_is a0 361240 (xwr m3 (a0 + 7) 29 v3)))], [(0, v18)], (xwr m3 (a0 + 7) 29 v3)) _
      refine xEvG_n xml xfetch 2 (y := (110, if v18 = 2 then 81 else 86, [some (13, a0), some (0, (fQ_is a0 361240 (xwr m3 (a0 + 7) 29 v3)))], [], (xwr m3 (a0 + 7) 29 v3))) rfl trivial ?_
      refine xEvG_br xml xfetch (fun c_ => ?_) (fun c_ => ?_)
      · have h := xif_t c_ h
        refine xEvG_n xml xfetch 2 (y := (110, 83, [some (13, a0), some (0, (fQ_is a0 361240 (xwr m3 (a0 + 7) 29 v3)))], [(0, 2), (13, a0)], (xwr m3 (a0 + 7) 29 v3))) rfl trivial ?_
        refine xEvG_call xml xfetch (q := (none, fQ_fails a0 2 (xwr m3 (a0 + 7) 29 v3))) rfl (hQ_fails a0 2 (xwr m3 (a0 + 7) 29 v3) _ rfl) ?_
        show xEv (110, 86, [some (13, a0), some (0, (fQ_is a0 361240 (xwr m3 (a0 + 7) 29 v3)))], [], (fQ_fails a0 2 (xwr m3 (a0 + 7) 29 v3))) _
        refine xEvG_n xml xfetch 3 (y := (110, if ((fQ_fails a0 2 (xwr m3 (a0 + 7) 29 v3)) a0 12) = 0 then 94 else 93, [some (13, a0), some (0, (fQ_is a0 361240 (xwr m3 (a0 + 7) 29 v3)))], [], (fQ_fails a0 2 (xwr m3 (a0 + 7) 29 v3)))) rfl trivial ?_
        refine xEvG_br xml xfetch (fun c_ => ?_) (fun c_ => ?_)
        · have h := xif_t c_ h
          refine xEvG_n xml xfetch 1 (y := (110, 95, [some (13, a0), some (0, (fQ_is a0 361240 (xwr m3 (a0 + 7) 29 v3)))], [(13, a0)], (fQ_fails a0 2 (xwr m3 (a0 + 7) 29 v3)))) rfl trivial ?_
          obtain ⟨m20, e_, h⟩ := xB_t h
          refine xEvG_call xml xfetch (q := (none, m20)) rfl (hQ_next a0 (fQ_fails a0 2 (xwr m3 (a0 + 7) 29 v3)) _ e_) ?_
          show xEv (110, 98, [some (13, a0), some (0, (fQ_is a0 361240 (xwr m3 (a0 + 7) 29 v3)))], [], m20) _
          refine xEvG_n xml xfetch 4 (y := (110, 105, [some (13, a0), some (0, (fQ_is a0 361240 (xwr m3 (a0 + 7) 29 v3)))], [(0, (fQ_is a0 361240 (xwr m3 (a0 + 7) 29 v3))), (0, 31), (34, (a0 + 7))], m20)) rfl trivial ?_
          have key_ : xEv (110, 113, [some (13, a0), some (0, (fQ_is a0 361240 (xwr m3 (a0 + 7) 29 v3)))], [(0, (if (fQ_is a0 361240 (xwr m3 (a0 + 7) 29 v3)) = 0 then 0 else 1 : Int)), (0, 31), (34, (a0 + 7))], m20) (none, r) := by
            refine xEvG_n xml xfetch 1 (y := (110, 114, [some (13, a0), some (0, (fQ_is a0 361240 (xwr m3 (a0 + 7) 29 v3)))], [], (xwr m20 (a0 + 7) 31 (if (fQ_is a0 361240 (xwr m3 (a0 + 7) 29 v3)) = 0 then 0 else 1 : Int)))) rfl ⟨by decide, trivial⟩ ?_
            cases h
            exact xEvG_ret xml xfetch rfl
          refine xEvG_n xml xfetch 1 (y := (110, if (fQ_is a0 361240 (xwr m3 (a0 + 7) 29 v3)) = 0 then 112 else 108, [some (13, a0), some (0, (fQ_is a0 361240 (xwr m3 (a0 + 7) 29 v3)))], [(0, 31), (34, (a0 + 7))], m20)) rfl trivial ?_
          refine xEvG_br xml xfetch (fun c10_ => ?_) (fun c10_ => ?_)
          · refine xEvG_n xml xfetch 1 (y := (110, 113, [some (13, a0), some (0, (fQ_is a0 361240 (xwr m3 (a0 + 7) 29 v3)))], [(0, 0), (0, 31), (34, (a0 + 7))], m20)) rfl trivial ?_
            try simp only [if_pos c10_] at key_
            try simp only [if_pos c10_]
            exact key_
          · refine xEvG_n xml xfetch 2 (y := (110, 113, [some (13, a0), some (0, (fQ_is a0 361240 (xwr m3 (a0 + 7) 29 v3)))], [(0, 1), (0, 31), (34, (a0 + 7))], m20)) rfl trivial ?_
            try simp only [if_neg c10_] at key_
            try simp only [if_neg c10_]
            exact key_
        · have h := xif_f c_ h
          cases h
          exact xEvG_ret xml xfetch rfl
      · have h := xif_f c_ h
        refine xEvG_n xml xfetch 3 (y := (110, if ((xwr m3 (a0 + 7) 29 v3) a0 12) = 0 then 94 else 93, [some (13, a0), some (0, (fQ_is a0 361240 (xwr m3 (a0 + 7) 29 v3)))], [], (xwr m3 (a0 + 7) 29 v3))) rfl trivial ?_
        refine xEvG_br xml xfetch (fun c_ => ?_) (fun c_ => ?_)
        · have h := xif_t c_ h
          refine xEvG_n xml xfetch 1 (y := (110, 95, [some (13, a0), some (0, (fQ_is a0 361240 (xwr m3 (a0 + 7) 29 v3)))], [(13, a0)], (xwr m3 (a0 + 7) 29 v3))) rfl trivial ?_
          obtain ⟨m21, e_, h⟩ := xB_t h
          refine xEvG_call xml xfetch (q := (none, m21)) rfl (hQ_next a0 (xwr m3 (a0 + 7) 29 v3) _ e_) ?_
          show xEv (110, 98, [some (13, a0), some (0, (fQ_is a0 361240 (xwr m3 (a0 + 7) 29 v3)))], [], m21) _
          refine xEvG_n xml xfetch 4 (y := (110, 105, [some (13, a0), some (0, (fQ_is a0 361240 (xwr m3 (a0 + 7) 29 v3)))], [(0, (fQ_is a0 361240 (xwr m3 (a0 + 7) 29 v3))), (0, 31), (34, (a0 + 7))], m21)) rfl trivial ?_
          have key_ : xEv (110, 113, [some (13, a0), some (0, (fQ_is a0 361240 (xwr m3 (a0 + 7) 29 v3)))], [(0, (if (fQ_is a0 361240 (xwr m3 (a0 + 7) 29 v3)) = 0 then 0 else 1 : Int)), (0, 31), (34, (a0 + 7))], m21) (none, r) := by
            refine xEvG_n xml xfetch 1 (y := (110, 114, [some (13, a0), some (0, (fQ_is a0 361240 (xwr m3 (a0 + 7) 29 v3)))], [], (xwr m21 (a0 + 7) 31 (if (fQ_is a0 361240 (xwr m3 (a0 + 7) 29 v3)) = 0 then 0 else 1 : Int)))) rfl ⟨by decide, trivial⟩ ?_
            cases h
            exact xEvG_ret xml xfetch rfl
          refine xEvG_n xml xfetch 1 (y := (110, if (fQ_is a0 361240 (xwr m3 (a0 + 7) 29 v3)) = 0 then 112 else 108, [some (13, a0), some (0, (fQ_is a0 361240 (xwr m3 (a0 + 7) 29 v3)))], [(0, 31), (34, (a0 + 7))], m21)) rfl trivial ?_
          refine xEvG_br xml xfetch (fun c10_ => ?_) (fun c10_ => ?_)
          · refine xEvG_n xml xfetch 1 (y := (110, 113, [some (13, a0), some (0, (fQ_is a0 361240 (xwr m3 (a0 + 7) 29 v3)))], [(0, 0), (0, 31), (34, (a0 + 7))], m21)) rfl trivial ?_
            try simp only [if_pos c10_] at key_
            try simp only [if_pos c10_]
            exact key_
          · refine xEvG_n xml xfetch 2 (y := (110, 113, [some (13, a0), some (0, (fQ_is a0 361240 (xwr m3 (a0 + 7) 29 v3)))], [(0, 1), (0, 31), (34, (a0 + 7))], m21)) rfl trivial ?_
            try simp only [if_neg c10_] at key_
            try simp only [if_neg c10_]
            exact key_
        · have h := xif_f c_ h
          cases h
          exact xEvG_ret xml xfetch rfl

/-- ConsentDoorsModel.ends()V -/
def fQ_ends (a0 : Int) (M : xM) : Option xM := if (M a0 8) = 3 then (if (M a0 12) = 0 then (xB (fQ_next a0 M) (fun m1 => some m1)) else (some M)) else (if ((fQ_fails a0 1 M) a0 12) = 0 then (xB (fQ_next a0 (fQ_fails a0 1 M)) (fun m3 => some m3)) else (some (fQ_fails a0 1 M)))
theorem hQ_ends (a0 : Int) (M : xM) (r : xM) (h : fQ_ends a0 M = some r) : xEv (105, 0, [some (13, a0)], [], M) (none, r) := by
  unfold fQ_ends at h
  refine xEvG_n xml xfetch 4 (y := (105, if (M a0 8) = 3 then 13 else 8, [some (13, a0)], [], M)) rfl trivial ?_
  refine xEvG_br xml xfetch (fun c_ => ?_) (fun c_ => ?_)
  · have h := xif_t c_ h
    refine xEvG_n xml xfetch 3 (y := (105, if (M a0 12) = 0 then 20 else 24, [some (13, a0)], [], M)) rfl trivial ?_
    refine xEvG_br xml xfetch (fun c_ => ?_) (fun c_ => ?_)
    · have h := xif_t c_ h
      refine xEvG_n xml xfetch 1 (y := (105, 21, [some (13, a0)], [(13, a0)], M)) rfl trivial ?_
      obtain ⟨m1, e_, h⟩ := xB_t h
      refine xEvG_call xml xfetch (q := (none, m1)) rfl (hQ_next a0 M _ e_) ?_
      show xEv (105, 24, [some (13, a0)], [], m1) _
      cases h
      exact xEvG_ret xml xfetch rfl
    · have h := xif_f c_ h
      cases h
      exact xEvG_ret xml xfetch rfl
  · have h := xif_f c_ h
    refine xEvG_n xml xfetch 2 (y := (105, 10, [some (13, a0)], [(0, 1), (13, a0)], M)) rfl trivial ?_
    refine xEvG_call xml xfetch (q := (none, fQ_fails a0 1 M)) rfl (hQ_fails a0 1 M _ rfl) ?_
    show xEv (105, 13, [some (13, a0)], [], (fQ_fails a0 1 M)) _
    refine xEvG_n xml xfetch 3 (y := (105, if ((fQ_fails a0 1 M) a0 12) = 0 then 20 else 24, [some (13, a0)], [], (fQ_fails a0 1 M))) rfl trivial ?_
    refine xEvG_br xml xfetch (fun c_ => ?_) (fun c_ => ?_)
    · have h := xif_t c_ h
      refine xEvG_n xml xfetch 1 (y := (105, 21, [some (13, a0)], [(13, a0)], (fQ_fails a0 1 M))) rfl trivial ?_
      obtain ⟨m3, e_, h⟩ := xB_t h
      refine xEvG_call xml xfetch (q := (none, m3)) rfl (hQ_next a0 (fQ_fails a0 1 M) _ e_) ?_
      show xEv (105, 24, [some (13, a0)], [], m3) _
      cases h
      exact xEvG_ret xml xfetch rfl
    · have h := xif_f c_ h
      cases h
      exact xEvG_ret xml xfetch rfl

/-- ConsentDoorsModel.cellHere()I -/
def fQ_cellHere (a0 : Int) (M : xM) : Option (Int × xM) := xB (fQ_hasRead a0 0 M) (fun v1 => xB (fQ_number2 a0 0 (xw32 (v1 - 1)) M) (fun q_ => match q_ with | (v2, m2) => some (v2, m2)))
theorem hQ_cellHere (a0 : Int) (M : xM) (r : Int × xM) (h : fQ_cellHere a0 M = some r) : xEv (112, 0, [some (13, a0)], [], M) (some (0, r.1), r.2) := by
  unfold fQ_cellHere at h
  refine xEvG_n xml xfetch 4 (y := (112, 4, [some (13, a0)], [(0, 0), (13, a0), (0, 0), (13, a0)], M)) rfl trivial ?_
  obtain ⟨v1, e_, h⟩ := xB_t h
  refine xEvG_call xml xfetch (q := (some (0, v1), M)) rfl (hQ_hasRead a0 0 M _ e_) ?_
  show xEv (112, 7, [some (13, a0)], [(0, v1), (0, 0), (13, a0)], M) _
  refine xEvG_n xml xfetch 2 (y := (112, 9, [some (13, a0)], [(0, (xw32 (v1 - 1))), (0, 0), (13, a0)], M)) rfl trivial ?_
  obtain ⟨⟨v2, m2⟩, e_, h⟩ := xB_t h
  refine xEvG_call xml xfetch (q := (some (0, v2), m2)) rfl (hQ_number2 a0 0 (xw32 (v1 - 1)) M _ e_) ?_
  show xEv (112, 12, [some (13, a0)], [(0, v2)], m2) _
  cases h
  exact xEvG_ret xml xfetch rfl

/-- ConsentDoorsModel.besideIn(III)I -/
def fQ_besideIn (a0 a1 a2 a3 : Int) (M : xM) : Option Int := xA (0 ≤ (xw32 ((xw32 (7 * a1)) + 0)) ∧ (xw32 ((xw32 (7 * a1)) + 0)) < 35) (xA (0 ≤ (xw32 ((xw32 (7 * a1)) + 3)) ∧ (xw32 ((xw32 (7 * a1)) + 3)) < 35) (if (M (a0 + 7) (xw32 ((xw32 (7 * a1)) + 3))) = 1 then (xA ((M (a0 + 7) (xw32 ((xw32 (7 * a1)) + 0))) ≠ 0) (some (xrem (xw32 ((if a3 = 0 then (xw32 (a2 - 1)) else (xw32 (a2 + 1)) : Int) + (M (a0 + 7) (xw32 ((xw32 (7 * a1)) + 0))))) (M (a0 + 7) (xw32 ((xw32 (7 * a1)) + 0)))))) else (some (if (if a3 = 0 then (xw32 (a2 - 1)) else (xw32 (a2 + 1)) : Int) < 0 then (-1) else (if (if a3 = 0 then (xw32 (a2 - 1)) else (xw32 (a2 + 1)) : Int) < (M (a0 + 7) (xw32 ((xw32 (7 * a1)) + 0))) then (if a3 = 0 then (xw32 (a2 - 1)) else (xw32 (a2 + 1)) : Int) else (-1) : Int) : Int))))
theorem hQ_besideIn (a0 a1 a2 a3 : Int) (M : xM) (r : Int) (h : fQ_besideIn a0 a1 a2 a3 M = some r) : xEv (113, 0, [some (13, a0), some (0, a1), some (0, a2), some (0, a3), none, none], [], M) (some (0, r), M) := by
  unfold fQ_besideIn at h
  have a0_ := (xA_t h).1
  have h := (xA_t h).2
  refine xEvG_n xml xfetch 10 (y := (113, 14, [some (13, a0), some (0, a1), some (0, a2), some (0, a3), some (0, (M (a0 + 7) (xw32 ((xw32 (7 * a1)) + 0)))), none], [(0, a3)], M)) rfl ⟨a0_, trivial⟩ ?_
  have key_ : xEv (113, 26, [some (13, a0), some (0, a1), some (0, a2), some (0, a3), some (0, (M (a0 + 7) (xw32 ((xw32 (7 * a1)) + 0)))), none], [(0, (if a3 = 0 then (xw32 (a2 - 1)) else (xw32 (a2 + 1)) : Int))], M) (some (0, r), M) := by
    have a0_ := (xA_t h).1
    have h := (xA_t h).2
    refine xEvG_n xml xfetch 11 (y := (113, if (M (a0 + 7) (xw32 ((xw32 (7 * a1)) + 3))) = 1 then 43 else 54, [some (13, a0), some (0, a1), some (0, a2), some (0, a3), some (0, (M (a0 + 7) (xw32 ((xw32 (7 * a1)) + 0)))), some (0, (if a3 = 0 then (xw32 (a2 - 1)) else (xw32 (a2 + 1)) : Int))], [], M)) rfl ⟨a0_, trivial⟩ ?_
    refine xEvG_br xml xfetch (fun c_ => ?_) (fun c_ => ?_)
    · have h := xif_t c_ h
      have a0_ := (xA_t h).1
      have h := (xA_t h).2
      refine xEvG_n xml xfetch 6 (y := (113, 72, [some (13, a0), some (0, a1), some (0, a2), some (0, a3), some (0, (M (a0 + 7) (xw32 ((xw32 (7 * a1)) + 0)))), some (0, (if a3 = 0 then (xw32 (a2 - 1)) else (xw32 (a2 + 1)) : Int))], [(0, (xrem (xw32 ((if a3 = 0 then (xw32 (a2 - 1)) else (xw32 (a2 + 1)) : Int) + (M (a0 + 7) (xw32 ((xw32 (7 * a1)) + 0))))) (M (a0 + 7) (xw32 ((xw32 (7 * a1)) + 0)))))], M)) rfl ⟨a0_, trivial⟩ ?_
      cases h
      exact xEvG_ret xml xfetch rfl
    · have h := xif_f c_ h
      refine xEvG_n xml xfetch 1 (y := (113, 56, [some (13, a0), some (0, a1), some (0, a2), some (0, a3), some (0, (M (a0 + 7) (xw32 ((xw32 (7 * a1)) + 0)))), some (0, (if a3 = 0 then (xw32 (a2 - 1)) else (xw32 (a2 + 1)) : Int))], [(0, (if a3 = 0 then (xw32 (a2 - 1)) else (xw32 (a2 + 1)) : Int))], M)) rfl trivial ?_
      have key_ : xEv (113, 72, [some (13, a0), some (0, a1), some (0, a2), some (0, a3), some (0, (M (a0 + 7) (xw32 ((xw32 (7 * a1)) + 0)))), some (0, (if a3 = 0 then (xw32 (a2 - 1)) else (xw32 (a2 + 1)) : Int))], [(0, (if (if a3 = 0 then (xw32 (a2 - 1)) else (xw32 (a2 + 1)) : Int) < 0 then (-1) else (if (if a3 = 0 then (xw32 (a2 - 1)) else (xw32 (a2 + 1)) : Int) < (M (a0 + 7) (xw32 ((xw32 (7 * a1)) + 0))) then (if a3 = 0 then (xw32 (a2 - 1)) else (xw32 (a2 + 1)) : Int) else (-1) : Int) : Int))], M) (some (0, r), M) := by
        cases h
        exact xEvG_ret xml xfetch rfl
      refine xEvG_n xml xfetch 1 (y := (113, if (if a3 = 0 then (xw32 (a2 - 1)) else (xw32 (a2 + 1)) : Int) < 0 then 66 else 59, [some (13, a0), some (0, a1), some (0, a2), some (0, a3), some (0, (M (a0 + 7) (xw32 ((xw32 (7 * a1)) + 0)))), some (0, (if a3 = 0 then (xw32 (a2 - 1)) else (xw32 (a2 + 1)) : Int))], [], M)) rfl trivial ?_
      refine xEvG_br xml xfetch (fun c6_ => ?_) (fun c6_ => ?_)
      · refine xEvG_n xml xfetch 2 (y := (113, 72, [some (13, a0), some (0, a1), some (0, a2), some (0, a3), some (0, (M (a0 + 7) (xw32 ((xw32 (7 * a1)) + 0)))), some (0, (if a3 = 0 then (xw32 (a2 - 1)) else (xw32 (a2 + 1)) : Int))], [(0, (-1))], M)) rfl trivial ?_
        try simp only [if_pos c6_] at key_
        try simp only [if_pos c6_]
        exact key_
      · refine xEvG_n xml xfetch 3 (y := (113, if (if a3 = 0 then (xw32 (a2 - 1)) else (xw32 (a2 + 1)) : Int) < (M (a0 + 7) (xw32 ((xw32 (7 * a1)) + 0))) then 70 else 66, [some (13, a0), some (0, a1), some (0, a2), some (0, a3), some (0, (M (a0 + 7) (xw32 ((xw32 (7 * a1)) + 0)))), some (0, (if a3 = 0 then (xw32 (a2 - 1)) else (xw32 (a2 + 1)) : Int))], [], M)) rfl trivial ?_
        refine xEvG_br xml xfetch (fun c8_ => ?_) (fun c8_ => ?_)
        · refine xEvG_n xml xfetch 1 (y := (113, 72, [some (13, a0), some (0, a1), some (0, a2), some (0, a3), some (0, (M (a0 + 7) (xw32 ((xw32 (7 * a1)) + 0)))), some (0, (if a3 = 0 then (xw32 (a2 - 1)) else (xw32 (a2 + 1)) : Int))], [(0, (if a3 = 0 then (xw32 (a2 - 1)) else (xw32 (a2 + 1)) : Int))], M)) rfl trivial ?_
          try simp only [if_neg c6_, if_pos c8_] at key_
          try simp only [if_neg c6_, if_pos c8_]
          exact key_
        · refine xEvG_n xml xfetch 2 (y := (113, 72, [some (13, a0), some (0, a1), some (0, a2), some (0, a3), some (0, (M (a0 + 7) (xw32 ((xw32 (7 * a1)) + 0)))), some (0, (if a3 = 0 then (xw32 (a2 - 1)) else (xw32 (a2 + 1)) : Int))], [(0, (-1))], M)) rfl trivial ?_
          try simp only [if_neg c6_, if_neg c8_] at key_
          try simp only [if_neg c6_, if_neg c8_]
          exact key_
  refine xEvG_n xml xfetch 1 (y := (113, if a3 = 0 then 17 else 23, [some (13, a0), some (0, a1), some (0, a2), some (0, a3), some (0, (M (a0 + 7) (xw32 ((xw32 (7 * a1)) + 0)))), none], [], M)) rfl trivial ?_
  refine xEvG_br xml xfetch (fun c2_ => ?_) (fun c2_ => ?_)
  · refine xEvG_n xml xfetch 4 (y := (113, 26, [some (13, a0), some (0, a1), some (0, a2), some (0, a3), some (0, (M (a0 + 7) (xw32 ((xw32 (7 * a1)) + 0)))), none], [(0, (xw32 (a2 - 1)))], M)) rfl trivial ?_
    try simp only [if_pos c2_] at key_
    try simp only [if_pos c2_]
    exact key_
  · refine xEvG_n xml xfetch 3 (y := (113, 26, [some (13, a0), some (0, a1), some (0, a2), some (0, a3), some (0, (M (a0 + 7) (xw32 ((xw32 (7 * a1)) + 0)))), none], [(0, (xw32 (a2 + 1)))], M)) rfl trivial ?_
    try simp only [if_neg c2_] at key_
    try simp only [if_neg c2_]
    exact key_

/-- ConsentDoorsModel.quarrelLine()V -/
def fQ_quarrelLine (a0 : Int) (M : xM) : Option xM := if (M a0 12) = 0 then (if (M a0 8) = 2 then (xB (fQ_hasRead a0 0 M) (fun v1 => if (M a0 10) < v1 then (xB (fQ_besideIn a0 4 (M a0 10) 1 M) (fun v2 => if v2 = (-1) then (xB (fQ_cellHere a0 (fQ_fails a0 2 M)) (fun q_ => match q_ with | (v4, m4) => if (fQ_isGood a0 m4) = 0 then (some m4) else (some (xwr m4 (a0 + 7) 32 (xor32 (m4 (a0 + 7) 32) (xshl 1 v4)))))) else (xB (fQ_hasRead a0 4 M) (fun v6 => if (xand (xshr v6 (M a0 10)) 1) = 1 then (xB (fQ_cellHere a0 (fQ_fails a0 2 M)) (fun q_ => match q_ with | (v8, m8) => if (fQ_isGood a0 m8) = 0 then (some m8) else (some (xwr m8 (a0 + 7) 32 (xor32 (m8 (a0 + 7) 32) (xshl 1 v8)))))) else (xB (fQ_cellHere a0 M) (fun q_ => match q_ with | (v10, m10) => if (fQ_isGood a0 m10) = 0 then (some m10) else (some (xwr m10 (a0 + 7) 32 (xor32 (m10 (a0 + 7) 32) (xshl 1 v10)))))))))) else (xB (fQ_cellHere a0 M) (fun q_ => match q_ with | (v12, m12) => if (fQ_isGood a0 m12) = 0 then (some m12) else (some (xwr m12 (a0 + 7) 32 (xor32 (m12 (a0 + 7) 32) (xshl 1 v12)))))))) else (xB (fQ_cellHere a0 M) (fun q_ => match q_ with | (v14, m14) => if (fQ_isGood a0 m14) = 0 then (some m14) else (some (xwr m14 (a0 + 7) 32 (xor32 (m14 (a0 + 7) 32) (xshl 1 v14))))))) else (xB (fQ_cellHere a0 M) (fun q_ => match q_ with | (v16, m16) => if (fQ_isGood a0 m16) = 0 then (some m16) else (some (xwr m16 (a0 + 7) 32 (xor32 (m16 (a0 + 7) 32) (xshl 1 v16))))))
theorem hQ_quarrelLine (a0 : Int) (M : xM) (r : xM) (h : fQ_quarrelLine a0 M = some r) : xEv (114, 0, [some (13, a0), none], [], M) (none, r) := by
  unfold fQ_quarrelLine at h
  refine xEvG_n xml xfetch 3 (y := (114, if (M a0 12) = 0 then 7 else 62, [some (13, a0), none], [], M)) rfl trivial ?_
  refine xEvG_br xml xfetch (fun c_ => ?_) (fun c_ => ?_)
  · have h := xif_t c_ h
    refine xEvG_n xml xfetch 4 (y := (114, if (M a0 8) = 2 then 15 else 62, [some (13, a0), none], [], M)) rfl trivial ?_
    refine xEvG_br xml xfetch (fun c_ => ?_) (fun c_ => ?_)
    · have h := xif_t c_ h
      refine xEvG_n xml xfetch 4 (y := (114, 21, [some (13, a0), none], [(0, 0), (13, a0), (0, (M a0 10))], M)) rfl trivial ?_
      obtain ⟨v1, e_, h⟩ := xB_t h
      refine xEvG_call xml xfetch (q := (some (0, v1), M)) rfl (hQ_hasRead a0 0 M _ e_) ?_
      show xEv (114, 24, [some (13, a0), none], [(0, v1), (0, (M a0 10))], M) _
      refine xEvG_n xml xfetch 1 (y := (114, if (M a0 10) < v1 then 27 else 62, [some (13, a0), none], [], M)) rfl trivial ?_
      refine xEvG_br xml xfetch (fun c_ => ?_) (fun c_ => ?_)
      · have h := xif_t c_ h
        refine xEvG_n xml xfetch 5 (y := (114, 34, [some (13, a0), none], [(0, 1), (0, (M a0 10)), (0, 4), (13, a0)], M)) rfl trivial ?_
        obtain ⟨v2, e_, h⟩ := xB_t h
        refine xEvG_call xml xfetch (q := (some (0, v2), M)) rfl (hQ_besideIn a0 4 (M a0 10) 1 M _ e_) ?_
        show xEv (114, 37, [some (13, a0), none], [(0, v2)], M) _
        refine xEvG_n xml xfetch 2 (y := (114, if v2 = (-1) then 57 else 41, [some (13, a0), none], [], M)) rfl trivial ?_
        refine xEvG_br xml xfetch (fun c_ => ?_) (fun c_ => ?_)
        · have h := xif_t c_ h
          refine xEvG_n xml xfetch 2 (y := (114, 59, [some (13, a0), none], [(0, 2), (13, a0)], M)) rfl trivial ?_
          refine xEvG_call xml xfetch (q := (none, fQ_fails a0 2 M)) rfl (hQ_fails a0 2 M _ rfl) ?_
          show xEv (114, 62, [some (13, a0), none], [], (fQ_fails a0 2 M)) _
          refine xEvG_n xml xfetch 1 (y := (114, 63, [some (13, a0), none], [(13, a0)], (fQ_fails a0 2 M))) rfl trivial ?_
          obtain ⟨⟨v4, m4⟩, e_, h⟩ := xB_t h
          refine xEvG_call xml xfetch (q := (some (0, v4), m4)) rfl (hQ_cellHere a0 (fQ_fails a0 2 M) _ e_) ?_
          show xEv (114, 66, [some (13, a0), none], [(0, v4)], m4) _
          refine xEvG_n xml xfetch 2 (y := (114, 68, [some (13, a0), some (0, v4)], [(13, a0)], m4)) rfl trivial ?_
          refine xEvG_call xml xfetch (q := (some (0, fQ_isGood a0 m4), m4)) rfl (hQ_isGood a0 m4 _ rfl) ?_
          show xEv (114, 71, [some (13, a0), some (0, v4)], [(0, (fQ_isGood a0 m4))], m4) _
          refine xEvG_n xml xfetch 1 (y := (114, if (fQ_isGood a0 m4) = 0 then 87 else 74, [some (13, a0), some (0, v4)], [], m4)) rfl trivial ?_
          refine xEvG_br xml xfetch (fun c_ => ?_) (fun c_ => ?_)
          · have h := xif_t c_ h
            cases h
            exact xEvG_ret xml xfetch rfl
          · have h := xif_f c_ h
            refine xEvG_n xml xfetch 10 (y := (114, 87, [some (13, a0), some (0, v4)], [], (xwr m4 (a0 + 7) 32 (xor32 (m4 (a0 + 7) 32) (xshl 1 v4))))) rfl ⟨by decide, by decide, trivial⟩ ?_
            cases h
            exact xEvG_ret xml xfetch rfl
        · have h := xif_f c_ h
          refine xEvG_n xml xfetch 2 (y := (114, 43, [some (13, a0), none], [(0, 4), (13, a0)], M)) rfl trivial ?_
          obtain ⟨v6, e_, h⟩ := xB_t h
          refine xEvG_call xml xfetch (q := (some (0, v6), M)) rfl (hQ_hasRead a0 4 M _ e_) ?_
          show xEv (114, 46, [some (13, a0), none], [(0, v6)], M) _
          refine xEvG_n xml xfetch 7 (y := (114, if (xand (xshr v6 (M a0 10)) 1) = 1 then 57 else 62, [some (13, a0), none], [], M)) rfl trivial ?_
          refine xEvG_br xml xfetch (fun c_ => ?_) (fun c_ => ?_)
          · have h := xif_t c_ h
            refine xEvG_n xml xfetch 2 (y := (114, 59, [some (13, a0), none], [(0, 2), (13, a0)], M)) rfl trivial ?_
            refine xEvG_call xml xfetch (q := (none, fQ_fails a0 2 M)) rfl (hQ_fails a0 2 M _ rfl) ?_
            show xEv (114, 62, [some (13, a0), none], [], (fQ_fails a0 2 M)) _
            refine xEvG_n xml xfetch 1 (y := (114, 63, [some (13, a0), none], [(13, a0)], (fQ_fails a0 2 M))) rfl trivial ?_
            obtain ⟨⟨v8, m8⟩, e_, h⟩ := xB_t h
            refine xEvG_call xml xfetch (q := (some (0, v8), m8)) rfl (hQ_cellHere a0 (fQ_fails a0 2 M) _ e_) ?_
            show xEv (114, 66, [some (13, a0), none], [(0, v8)], m8) _
            refine xEvG_n xml xfetch 2 (y := (114, 68, [some (13, a0), some (0, v8)], [(13, a0)], m8)) rfl trivial ?_
            refine xEvG_call xml xfetch (q := (some (0, fQ_isGood a0 m8), m8)) rfl (hQ_isGood a0 m8 _ rfl) ?_
            show xEv (114, 71, [some (13, a0), some (0, v8)], [(0, (fQ_isGood a0 m8))], m8) _
            refine xEvG_n xml xfetch 1 (y := (114, if (fQ_isGood a0 m8) = 0 then 87 else 74, [some (13, a0), some (0, v8)], [], m8)) rfl trivial ?_
            refine xEvG_br xml xfetch (fun c_ => ?_) (fun c_ => ?_)
            · have h := xif_t c_ h
              cases h
              exact xEvG_ret xml xfetch rfl
            · have h := xif_f c_ h
              refine xEvG_n xml xfetch 10 (y := (114, 87, [some (13, a0), some (0, v8)], [], (xwr m8 (a0 + 7) 32 (xor32 (m8 (a0 + 7) 32) (xshl 1 v8))))) rfl ⟨by decide, by decide, trivial⟩ ?_
              cases h
              exact xEvG_ret xml xfetch rfl
          · have h := xif_f c_ h
            refine xEvG_n xml xfetch 1 (y := (114, 63, [some (13, a0), none], [(13, a0)], M)) rfl trivial ?_
            obtain ⟨⟨v10, m10⟩, e_, h⟩ := xB_t h
            refine xEvG_call xml xfetch (q := (some (0, v10), m10)) rfl (hQ_cellHere a0 M _ e_) ?_
            show xEv (114, 66, [some (13, a0), none], [(0, v10)], m10) _
            refine xEvG_n xml xfetch 2 (y := (114, 68, [some (13, a0), some (0, v10)], [(13, a0)], m10)) rfl trivial ?_
            refine xEvG_call xml xfetch (q := (some (0, fQ_isGood a0 m10), m10)) rfl (hQ_isGood a0 m10 _ rfl) ?_
            show xEv (114, 71, [some (13, a0), some (0, v10)], [(0, (fQ_isGood a0 m10))], m10) _
            refine xEvG_n xml xfetch 1 (y := (114, if (fQ_isGood a0 m10) = 0 then 87 else 74, [some (13, a0), some (0, v10)], [], m10)) rfl trivial ?_
            refine xEvG_br xml xfetch (fun c_ => ?_) (fun c_ => ?_)
            · have h := xif_t c_ h
              cases h
              exact xEvG_ret xml xfetch rfl
            · have h := xif_f c_ h
              refine xEvG_n xml xfetch 10 (y := (114, 87, [some (13, a0), some (0, v10)], [], (xwr m10 (a0 + 7) 32 (xor32 (m10 (a0 + 7) 32) (xshl 1 v10))))) rfl ⟨by decide, by decide, trivial⟩ ?_
              cases h
              exact xEvG_ret xml xfetch rfl
      · have h := xif_f c_ h
        refine xEvG_n xml xfetch 1 (y := (114, 63, [some (13, a0), none], [(13, a0)], M)) rfl trivial ?_
        obtain ⟨⟨v12, m12⟩, e_, h⟩ := xB_t h
        refine xEvG_call xml xfetch (q := (some (0, v12), m12)) rfl (hQ_cellHere a0 M _ e_) ?_
        show xEv (114, 66, [some (13, a0), none], [(0, v12)], m12) _
        refine xEvG_n xml xfetch 2 (y := (114, 68, [some (13, a0), some (0, v12)], [(13, a0)], m12)) rfl trivial ?_
        refine xEvG_call xml xfetch (q := (some (0, fQ_isGood a0 m12), m12)) rfl (hQ_isGood a0 m12 _ rfl) ?_
        show xEv (114, 71, [some (13, a0), some (0, v12)], [(0, (fQ_isGood a0 m12))], m12) _
        refine xEvG_n xml xfetch 1 (y := (114, if (fQ_isGood a0 m12) = 0 then 87 else 74, [some (13, a0), some (0, v12)], [], m12)) rfl trivial ?_
        refine xEvG_br xml xfetch (fun c_ => ?_) (fun c_ => ?_)
        · have h := xif_t c_ h
          cases h
          exact xEvG_ret xml xfetch rfl
        · have h := xif_f c_ h
          refine xEvG_n xml xfetch 10 (y := (114, 87, [some (13, a0), some (0, v12)], [], (xwr m12 (a0 + 7) 32 (xor32 (m12 (a0 + 7) 32) (xshl 1 v12))))) rfl ⟨by decide, by decide, trivial⟩ ?_
          cases h
          exact xEvG_ret xml xfetch rfl
    · have h := xif_f c_ h
      refine xEvG_n xml xfetch 1 (y := (114, 63, [some (13, a0), none], [(13, a0)], M)) rfl trivial ?_
      obtain ⟨⟨v14, m14⟩, e_, h⟩ := xB_t h
      refine xEvG_call xml xfetch (q := (some (0, v14), m14)) rfl (hQ_cellHere a0 M _ e_) ?_
      show xEv (114, 66, [some (13, a0), none], [(0, v14)], m14) _
      refine xEvG_n xml xfetch 2 (y := (114, 68, [some (13, a0), some (0, v14)], [(13, a0)], m14)) rfl trivial ?_
      refine xEvG_call xml xfetch (q := (some (0, fQ_isGood a0 m14), m14)) rfl (hQ_isGood a0 m14 _ rfl) ?_
      show xEv (114, 71, [some (13, a0), some (0, v14)], [(0, (fQ_isGood a0 m14))], m14) _
      refine xEvG_n xml xfetch 1 (y := (114, if (fQ_isGood a0 m14) = 0 then 87 else 74, [some (13, a0), some (0, v14)], [], m14)) rfl trivial ?_
      refine xEvG_br xml xfetch (fun c_ => ?_) (fun c_ => ?_)
      · have h := xif_t c_ h
        cases h
        exact xEvG_ret xml xfetch rfl
      · have h := xif_f c_ h
        refine xEvG_n xml xfetch 10 (y := (114, 87, [some (13, a0), some (0, v14)], [], (xwr m14 (a0 + 7) 32 (xor32 (m14 (a0 + 7) 32) (xshl 1 v14))))) rfl ⟨by decide, by decide, trivial⟩ ?_
        cases h
        exact xEvG_ret xml xfetch rfl
  · have h := xif_f c_ h
    refine xEvG_n xml xfetch 1 (y := (114, 63, [some (13, a0), none], [(13, a0)], M)) rfl trivial ?_
    obtain ⟨⟨v16, m16⟩, e_, h⟩ := xB_t h
    refine xEvG_call xml xfetch (q := (some (0, v16), m16)) rfl (hQ_cellHere a0 M _ e_) ?_
    show xEv (114, 66, [some (13, a0), none], [(0, v16)], m16) _
    refine xEvG_n xml xfetch 2 (y := (114, 68, [some (13, a0), some (0, v16)], [(13, a0)], m16)) rfl trivial ?_
    refine xEvG_call xml xfetch (q := (some (0, fQ_isGood a0 m16), m16)) rfl (hQ_isGood a0 m16 _ rfl) ?_
    show xEv (114, 71, [some (13, a0), some (0, v16)], [(0, (fQ_isGood a0 m16))], m16) _
    refine xEvG_n xml xfetch 1 (y := (114, if (fQ_isGood a0 m16) = 0 then 87 else 74, [some (13, a0), some (0, v16)], [], m16)) rfl trivial ?_
    refine xEvG_br xml xfetch (fun c_ => ?_) (fun c_ => ?_)
    · have h := xif_t c_ h
      cases h
      exact xEvG_ret xml xfetch rfl
    · have h := xif_f c_ h
      refine xEvG_n xml xfetch 10 (y := (114, 87, [some (13, a0), some (0, v16)], [], (xwr m16 (a0 + 7) 32 (xor32 (m16 (a0 + 7) 32) (xshl 1 v16))))) rfl ⟨by decide, by decide, trivial⟩ ?_
      cases h
      exact xEvG_ret xml xfetch rfl

/-- ConsentDoorsModel.soupLine()V -/
def fQ_soupLine (a0 : Int) (M : xM) : Option xM := xB (fQ_hasRead a0 6 M) (fun v1 => xB (fQ_cellHere a0 M) (fun q_ => match q_ with | (v2, m2) => xB (fQ_asks a0 3913426 m2) (fun m3 => if (fQ_is a0 240023 m3) = 0 then (if (fQ_is a0 9748424 m3) = 0 then (if ((fQ_fails a0 1 m3) a0 12) = 0 then (xB (fQ_besideIn a0 4 v2 (if (fQ_is a0 240023 m3) = 0 then 1 else 0 : Int) (fQ_fails a0 1 m3)) (fun v7 => if v7 = (-1) then (if ((fQ_fails a0 2 (fQ_fails a0 1 m3)) a0 12) = 0 then (xB (fQ_next a0 (fQ_fails a0 2 (fQ_fails a0 1 m3))) (fun m9 => xA (0 ≤ (xw32 (4 * (xw32 (32 + v1)))) ∧ (xw32 (4 * (xw32 (32 + v1)))) < 160) (xA (0 ≤ (xw32 ((xw32 (4 * (xw32 (32 + v1)))) + 1)) ∧ (xw32 ((xw32 (4 * (xw32 (32 + v1)))) + 1)) < 160) (xB (fQ_number2 a0 1 9 (xwr (xwr m9 (a0 + 10) (xw32 (4 * (xw32 (32 + v1)))) v2) (a0 + 10) (xw32 ((xw32 (4 * (xw32 (32 + v1)))) + 1)) (if (fQ_is a0 240023 m3) = 0 then 1 else 0 : Int))) (fun q_ => match q_ with | (v10, m10) => xA (0 ≤ (xw32 ((xw32 (4 * (xw32 (32 + v1)))) + 2)) ∧ (xw32 ((xw32 (4 * (xw32 (32 + v1)))) + 2)) < 160) (xB (fQ_hasRead a0 1 (xwr m10 (a0 + 10) (xw32 ((xw32 (4 * (xw32 (32 + v1)))) + 2)) v10)) (fun v11 => xB (fQ_number3 a0 257 0 (xw32 (v11 - 1)) (xwr m10 (a0 + 10) (xw32 ((xw32 (4 * (xw32 (32 + v1)))) + 2)) v10)) (fun q_ => match q_ with | (v12, m12) => xA (0 ≤ (xw32 ((xw32 (4 * (xw32 (32 + v1)))) + 3)) ∧ (xw32 ((xw32 (4 * (xw32 (32 + v1)))) + 3)) < 160) (some (xwr (xwr m12 (a0 + 10) (xw32 ((xw32 (4 * (xw32 (32 + v1)))) + 3)) v12) (a0 + 7) 34 (xw32 (((xwr m12 (a0 + 10) (xw32 ((xw32 (4 * (xw32 (32 + v1)))) + 3)) v12) (a0 + 7) 34) + 1)))))))))))) else (some (fQ_fails a0 2 (fQ_fails a0 1 m3)))) else (if ((fQ_fails a0 1 m3) a0 12) = 0 then (xB (fQ_next a0 (fQ_fails a0 1 m3)) (fun m13 => xA (0 ≤ (xw32 (4 * (xw32 (32 + v1)))) ∧ (xw32 (4 * (xw32 (32 + v1)))) < 160) (xA (0 ≤ (xw32 ((xw32 (4 * (xw32 (32 + v1)))) + 1)) ∧ (xw32 ((xw32 (4 * (xw32 (32 + v1)))) + 1)) < 160) (xB (fQ_number2 a0 1 9 (xwr (xwr m13 (a0 + 10) (xw32 (4 * (xw32 (32 + v1)))) v2) (a0 + 10) (xw32 ((xw32 (4 * (xw32 (32 + v1)))) + 1)) (if (fQ_is a0 240023 m3) = 0 then 1 else 0 : Int))) (fun q_ => match q_ with | (v14, m14) => xA (0 ≤ (xw32 ((xw32 (4 * (xw32 (32 + v1)))) + 2)) ∧ (xw32 ((xw32 (4 * (xw32 (32 + v1)))) + 2)) < 160) (xB (fQ_hasRead a0 1 (xwr m14 (a0 + 10) (xw32 ((xw32 (4 * (xw32 (32 + v1)))) + 2)) v14)) (fun v15 => xB (fQ_number3 a0 257 0 (xw32 (v15 - 1)) (xwr m14 (a0 + 10) (xw32 ((xw32 (4 * (xw32 (32 + v1)))) + 2)) v14)) (fun q_ => match q_ with | (v16, m16) => xA (0 ≤ (xw32 ((xw32 (4 * (xw32 (32 + v1)))) + 3)) ∧ (xw32 ((xw32 (4 * (xw32 (32 + v1)))) + 3)) < 160) (some (xwr (xwr m16 (a0 + 10) (xw32 ((xw32 (4 * (xw32 (32 + v1)))) + 3)) v16) (a0 + 7) 34 (xw32 (((xwr m16 (a0 + 10) (xw32 ((xw32 (4 * (xw32 (32 + v1)))) + 3)) v16) (a0 + 7) 34) + 1)))))))))))) else (some (fQ_fails a0 1 m3))))) else (if ((fQ_fails a0 1 m3) a0 12) = 0 then (xB (fQ_next a0 (fQ_fails a0 1 m3)) (fun m17 => xA (0 ≤ (xw32 (4 * (xw32 (32 + v1)))) ∧ (xw32 (4 * (xw32 (32 + v1)))) < 160) (xA (0 ≤ (xw32 ((xw32 (4 * (xw32 (32 + v1)))) + 1)) ∧ (xw32 ((xw32 (4 * (xw32 (32 + v1)))) + 1)) < 160) (xB (fQ_number2 a0 1 9 (xwr (xwr m17 (a0 + 10) (xw32 (4 * (xw32 (32 + v1)))) v2) (a0 + 10) (xw32 ((xw32 (4 * (xw32 (32 + v1)))) + 1)) (if (fQ_is a0 240023 m3) = 0 then 1 else 0 : Int))) (fun q_ => match q_ with | (v18, m18) => xA (0 ≤ (xw32 ((xw32 (4 * (xw32 (32 + v1)))) + 2)) ∧ (xw32 ((xw32 (4 * (xw32 (32 + v1)))) + 2)) < 160) (xB (fQ_hasRead a0 1 (xwr m18 (a0 + 10) (xw32 ((xw32 (4 * (xw32 (32 + v1)))) + 2)) v18)) (fun v19 => xB (fQ_number3 a0 257 0 (xw32 (v19 - 1)) (xwr m18 (a0 + 10) (xw32 ((xw32 (4 * (xw32 (32 + v1)))) + 2)) v18)) (fun q_ => match q_ with | (v20, m20) => xA (0 ≤ (xw32 ((xw32 (4 * (xw32 (32 + v1)))) + 3)) ∧ (xw32 ((xw32 (4 * (xw32 (32 + v1)))) + 3)) < 160) (some (xwr (xwr m20 (a0 + 10) (xw32 ((xw32 (4 * (xw32 (32 + v1)))) + 3)) v20) (a0 + 7) 34 (xw32 (((xwr m20 (a0 + 10) (xw32 ((xw32 (4 * (xw32 (32 + v1)))) + 3)) v20) (a0 + 7) 34) + 1)))))))))))) else (some (fQ_fails a0 1 m3)))) else (if (m3 a0 12) = 0 then (xB (fQ_besideIn a0 4 v2 (if (fQ_is a0 240023 m3) = 0 then 1 else 0 : Int) m3) (fun v21 => if v21 = (-1) then (if ((fQ_fails a0 2 m3) a0 12) = 0 then (xB (fQ_next a0 (fQ_fails a0 2 m3)) (fun m23 => xA (0 ≤ (xw32 (4 * (xw32 (32 + v1)))) ∧ (xw32 (4 * (xw32 (32 + v1)))) < 160) (xA (0 ≤ (xw32 ((xw32 (4 * (xw32 (32 + v1)))) + 1)) ∧ (xw32 ((xw32 (4 * (xw32 (32 + v1)))) + 1)) < 160) (xB (fQ_number2 a0 1 9 (xwr (xwr m23 (a0 + 10) (xw32 (4 * (xw32 (32 + v1)))) v2) (a0 + 10) (xw32 ((xw32 (4 * (xw32 (32 + v1)))) + 1)) (if (fQ_is a0 240023 m3) = 0 then 1 else 0 : Int))) (fun q_ => match q_ with | (v24, m24) => xA (0 ≤ (xw32 ((xw32 (4 * (xw32 (32 + v1)))) + 2)) ∧ (xw32 ((xw32 (4 * (xw32 (32 + v1)))) + 2)) < 160) (xB (fQ_hasRead a0 1 (xwr m24 (a0 + 10) (xw32 ((xw32 (4 * (xw32 (32 + v1)))) + 2)) v24)) (fun v25 => xB (fQ_number3 a0 257 0 (xw32 (v25 - 1)) (xwr m24 (a0 + 10) (xw32 ((xw32 (4 * (xw32 (32 + v1)))) + 2)) v24)) (fun q_ => match q_ with | (v26, m26) => xA (0 ≤ (xw32 ((xw32 (4 * (xw32 (32 + v1)))) + 3)) ∧ (xw32 ((xw32 (4 * (xw32 (32 + v1)))) + 3)) < 160) (some (xwr (xwr m26 (a0 + 10) (xw32 ((xw32 (4 * (xw32 (32 + v1)))) + 3)) v26) (a0 + 7) 34 (xw32 (((xwr m26 (a0 + 10) (xw32 ((xw32 (4 * (xw32 (32 + v1)))) + 3)) v26) (a0 + 7) 34) + 1)))))))))))) else (some (fQ_fails a0 2 m3))) else (if (m3 a0 12) = 0 then (xB (fQ_next a0 m3) (fun m27 => xA (0 ≤ (xw32 (4 * (xw32 (32 + v1)))) ∧ (xw32 (4 * (xw32 (32 + v1)))) < 160) (xA (0 ≤ (xw32 ((xw32 (4 * (xw32 (32 + v1)))) + 1)) ∧ (xw32 ((xw32 (4 * (xw32 (32 + v1)))) + 1)) < 160) (xB (fQ_number2 a0 1 9 (xwr (xwr m27 (a0 + 10) (xw32 (4 * (xw32 (32 + v1)))) v2) (a0 + 10) (xw32 ((xw32 (4 * (xw32 (32 + v1)))) + 1)) (if (fQ_is a0 240023 m3) = 0 then 1 else 0 : Int))) (fun q_ => match q_ with | (v28, m28) => xA (0 ≤ (xw32 ((xw32 (4 * (xw32 (32 + v1)))) + 2)) ∧ (xw32 ((xw32 (4 * (xw32 (32 + v1)))) + 2)) < 160) (xB (fQ_hasRead a0 1 (xwr m28 (a0 + 10) (xw32 ((xw32 (4 * (xw32 (32 + v1)))) + 2)) v28)) (fun v29 => xB (fQ_number3 a0 257 0 (xw32 (v29 - 1)) (xwr m28 (a0 + 10) (xw32 ((xw32 (4 * (xw32 (32 + v1)))) + 2)) v28)) (fun q_ => match q_ with | (v30, m30) => xA (0 ≤ (xw32 ((xw32 (4 * (xw32 (32 + v1)))) + 3)) ∧ (xw32 ((xw32 (4 * (xw32 (32 + v1)))) + 3)) < 160) (some (xwr (xwr m30 (a0 + 10) (xw32 ((xw32 (4 * (xw32 (32 + v1)))) + 3)) v30) (a0 + 7) 34 (xw32 (((xwr m30 (a0 + 10) (xw32 ((xw32 (4 * (xw32 (32 + v1)))) + 3)) v30) (a0 + 7) 34) + 1)))))))))))) else (some m3)))) else (if (m3 a0 12) = 0 then (xB (fQ_next a0 m3) (fun m31 => xA (0 ≤ (xw32 (4 * (xw32 (32 + v1)))) ∧ (xw32 (4 * (xw32 (32 + v1)))) < 160) (xA (0 ≤ (xw32 ((xw32 (4 * (xw32 (32 + v1)))) + 1)) ∧ (xw32 ((xw32 (4 * (xw32 (32 + v1)))) + 1)) < 160) (xB (fQ_number2 a0 1 9 (xwr (xwr m31 (a0 + 10) (xw32 (4 * (xw32 (32 + v1)))) v2) (a0 + 10) (xw32 ((xw32 (4 * (xw32 (32 + v1)))) + 1)) (if (fQ_is a0 240023 m3) = 0 then 1 else 0 : Int))) (fun q_ => match q_ with | (v32, m32) => xA (0 ≤ (xw32 ((xw32 (4 * (xw32 (32 + v1)))) + 2)) ∧ (xw32 ((xw32 (4 * (xw32 (32 + v1)))) + 2)) < 160) (xB (fQ_hasRead a0 1 (xwr m32 (a0 + 10) (xw32 ((xw32 (4 * (xw32 (32 + v1)))) + 2)) v32)) (fun v33 => xB (fQ_number3 a0 257 0 (xw32 (v33 - 1)) (xwr m32 (a0 + 10) (xw32 ((xw32 (4 * (xw32 (32 + v1)))) + 2)) v32)) (fun q_ => match q_ with | (v34, m34) => xA (0 ≤ (xw32 ((xw32 (4 * (xw32 (32 + v1)))) + 3)) ∧ (xw32 ((xw32 (4 * (xw32 (32 + v1)))) + 3)) < 160) (some (xwr (xwr m34 (a0 + 10) (xw32 ((xw32 (4 * (xw32 (32 + v1)))) + 3)) v34) (a0 + 7) 34 (xw32 (((xwr m34 (a0 + 10) (xw32 ((xw32 (4 * (xw32 (32 + v1)))) + 3)) v34) (a0 + 7) 34) + 1)))))))))))) else (some m3)))) else (if (m3 a0 12) = 0 then (xB (fQ_besideIn a0 4 v2 (if (fQ_is a0 240023 m3) = 0 then 1 else 0 : Int) m3) (fun v35 => if v35 = (-1) then (if ((fQ_fails a0 2 m3) a0 12) = 0 then (xB (fQ_next a0 (fQ_fails a0 2 m3)) (fun m37 => xA (0 ≤ (xw32 (4 * (xw32 (32 + v1)))) ∧ (xw32 (4 * (xw32 (32 + v1)))) < 160) (xA (0 ≤ (xw32 ((xw32 (4 * (xw32 (32 + v1)))) + 1)) ∧ (xw32 ((xw32 (4 * (xw32 (32 + v1)))) + 1)) < 160) (xB (fQ_number2 a0 1 9 (xwr (xwr m37 (a0 + 10) (xw32 (4 * (xw32 (32 + v1)))) v2) (a0 + 10) (xw32 ((xw32 (4 * (xw32 (32 + v1)))) + 1)) (if (fQ_is a0 240023 m3) = 0 then 1 else 0 : Int))) (fun q_ => match q_ with | (v38, m38) => xA (0 ≤ (xw32 ((xw32 (4 * (xw32 (32 + v1)))) + 2)) ∧ (xw32 ((xw32 (4 * (xw32 (32 + v1)))) + 2)) < 160) (xB (fQ_hasRead a0 1 (xwr m38 (a0 + 10) (xw32 ((xw32 (4 * (xw32 (32 + v1)))) + 2)) v38)) (fun v39 => xB (fQ_number3 a0 257 0 (xw32 (v39 - 1)) (xwr m38 (a0 + 10) (xw32 ((xw32 (4 * (xw32 (32 + v1)))) + 2)) v38)) (fun q_ => match q_ with | (v40, m40) => xA (0 ≤ (xw32 ((xw32 (4 * (xw32 (32 + v1)))) + 3)) ∧ (xw32 ((xw32 (4 * (xw32 (32 + v1)))) + 3)) < 160) (some (xwr (xwr m40 (a0 + 10) (xw32 ((xw32 (4 * (xw32 (32 + v1)))) + 3)) v40) (a0 + 7) 34 (xw32 (((xwr m40 (a0 + 10) (xw32 ((xw32 (4 * (xw32 (32 + v1)))) + 3)) v40) (a0 + 7) 34) + 1)))))))))))) else (some (fQ_fails a0 2 m3))) else (if (m3 a0 12) = 0 then (xB (fQ_next a0 m3) (fun m41 => xA (0 ≤ (xw32 (4 * (xw32 (32 + v1)))) ∧ (xw32 (4 * (xw32 (32 + v1)))) < 160) (xA (0 ≤ (xw32 ((xw32 (4 * (xw32 (32 + v1)))) + 1)) ∧ (xw32 ((xw32 (4 * (xw32 (32 + v1)))) + 1)) < 160) (xB (fQ_number2 a0 1 9 (xwr (xwr m41 (a0 + 10) (xw32 (4 * (xw32 (32 + v1)))) v2) (a0 + 10) (xw32 ((xw32 (4 * (xw32 (32 + v1)))) + 1)) (if (fQ_is a0 240023 m3) = 0 then 1 else 0 : Int))) (fun q_ => match q_ with | (v42, m42) => xA (0 ≤ (xw32 ((xw32 (4 * (xw32 (32 + v1)))) + 2)) ∧ (xw32 ((xw32 (4 * (xw32 (32 + v1)))) + 2)) < 160) (xB (fQ_hasRead a0 1 (xwr m42 (a0 + 10) (xw32 ((xw32 (4 * (xw32 (32 + v1)))) + 2)) v42)) (fun v43 => xB (fQ_number3 a0 257 0 (xw32 (v43 - 1)) (xwr m42 (a0 + 10) (xw32 ((xw32 (4 * (xw32 (32 + v1)))) + 2)) v42)) (fun q_ => match q_ with | (v44, m44) => xA (0 ≤ (xw32 ((xw32 (4 * (xw32 (32 + v1)))) + 3)) ∧ (xw32 ((xw32 (4 * (xw32 (32 + v1)))) + 3)) < 160) (some (xwr (xwr m44 (a0 + 10) (xw32 ((xw32 (4 * (xw32 (32 + v1)))) + 3)) v44) (a0 + 7) 34 (xw32 (((xwr m44 (a0 + 10) (xw32 ((xw32 (4 * (xw32 (32 + v1)))) + 3)) v44) (a0 + 7) 34) + 1)))))))))))) else (some m3)))) else (if (m3 a0 12) = 0 then (xB (fQ_next a0 m3) (fun m45 => xA (0 ≤ (xw32 (4 * (xw32 (32 + v1)))) ∧ (xw32 (4 * (xw32 (32 + v1)))) < 160) (xA (0 ≤ (xw32 ((xw32 (4 * (xw32 (32 + v1)))) + 1)) ∧ (xw32 ((xw32 (4 * (xw32 (32 + v1)))) + 1)) < 160) (xB (fQ_number2 a0 1 9 (xwr (xwr m45 (a0 + 10) (xw32 (4 * (xw32 (32 + v1)))) v2) (a0 + 10) (xw32 ((xw32 (4 * (xw32 (32 + v1)))) + 1)) (if (fQ_is a0 240023 m3) = 0 then 1 else 0 : Int))) (fun q_ => match q_ with | (v46, m46) => xA (0 ≤ (xw32 ((xw32 (4 * (xw32 (32 + v1)))) + 2)) ∧ (xw32 ((xw32 (4 * (xw32 (32 + v1)))) + 2)) < 160) (xB (fQ_hasRead a0 1 (xwr m46 (a0 + 10) (xw32 ((xw32 (4 * (xw32 (32 + v1)))) + 2)) v46)) (fun v47 => xB (fQ_number3 a0 257 0 (xw32 (v47 - 1)) (xwr m46 (a0 + 10) (xw32 ((xw32 (4 * (xw32 (32 + v1)))) + 2)) v46)) (fun q_ => match q_ with | (v48, m48) => xA (0 ≤ (xw32 ((xw32 (4 * (xw32 (32 + v1)))) + 3)) ∧ (xw32 ((xw32 (4 * (xw32 (32 + v1)))) + 3)) < 160) (some (xwr (xwr m48 (a0 + 10) (xw32 ((xw32 (4 * (xw32 (32 + v1)))) + 3)) v48) (a0 + 7) 34 (xw32 (((xwr m48 (a0 + 10) (xw32 ((xw32 (4 * (xw32 (32 + v1)))) + 3)) v48) (a0 + 7) 34) + 1)))))))))))) else (some m3))))))
theorem hQ_soupLine (a0 : Int) (M : xM) (r : xM) (h : fQ_soupLine a0 M = some r) : xEv (116, 0, [some (13, a0), none, none, none], [], M) (none, r) := by
  unfold fQ_soupLine at h
  refine xEvG_n xml xfetch 4 (y := (116, 6, [some (13, a0), none, none, none], [(0, 6), (13, a0), (0, 32), (0, 4)], M)) rfl trivial ?_
  obtain ⟨v1, e_, h⟩ := xB_t h
  refine xEvG_call xml xfetch (q := (some (0, v1), M)) rfl (hQ_hasRead a0 6 M _ e_) ?_
  show xEv (116, 9, [some (13, a0), none, none, none], [(0, v1), (0, 32), (0, 4)], M) _
  refine xEvG_n xml xfetch 4 (y := (116, 13, [some (13, a0), some (0, (xw32 (4 * (xw32 (32 + v1))))), none, none], [(13, a0)], M)) rfl trivial ?_
  obtain ⟨⟨v2, m2⟩, e_, h⟩ := xB_t h
  refine xEvG_call xml xfetch (q := (some (0, v2), m2)) rfl (hQ_cellHere a0 M _ e_) ?_
  show xEv (116, 16, [some (13, a0), some (0, (xw32 (4 * (xw32 (32 + v1))))), none, none], [(0, v2)], m2) _
  refine xEvG_n xml xfetch 3 (y := (116, 21, [some (13, a0), some (0, (xw32 (4 * (xw32 (32 + v1))))), some (0, v2), none], [(1, 3913426), (13, a0)], m2)) rfl trivial ?_
  obtain ⟨m3, e_, h⟩ := xB_t h
  refine xEvG_call xml xfetch (q := (none, m3)) rfl (hQ_asks a0 3913426 m2 _ e_) ?_
  show xEv (116, 24, [some (13, a0), some (0, (xw32 (4 * (xw32 (32 + v1))))), some (0, v2), none], [], m3) _
  refine xEvG_n xml xfetch 2 (y := (116, 28, [some (13, a0), some (0, (xw32 (4 * (xw32 (32 + v1))))), some (0, v2), none], [(1, 240023), (13, a0)], m3)) rfl trivial ?_
  refine xEvG_call xml xfetch (q := (some (0, fQ_is a0 240023 m3), m3)) rfl (hQ_is a0 240023 m3 _ rfl) ?_
  show xEv (116, 31, [some (13, a0), some (0, (xw32 (4 * (xw32 (32 + v1))))), some (0, v2), none], [(0, (fQ_is a0 240023 m3))], m3) _
  refine xEvG_n xml xfetch 3 (y := (116, if (fQ_is a0 240023 m3) = 0 then 36 else 51, [some (13, a0), some (0, (xw32 (4 * (xw32 (32 + v1))))), some (0, v2), some (0, (fQ_is a0 240023 m3))], [], m3)) rfl trivial ?_
  refine xEvG_br xml xfetch (fun c_ => ?_) (fun c_ => ?_)
  · have h := xif_t c_ h
    refine xEvG_n xml xfetch 2 (y := (116, 40, [some (13, a0), some (0, (xw32 (4 * (xw32 (32 + v1))))), some (0, v2), some (0, (fQ_is a0 240023 m3))], [(1, 9748424), (13, a0)], m3)) rfl trivial ?_
    refine xEvG_call xml xfetch (q := (some (0, fQ_is a0 9748424 m3), m3)) rfl (hQ_is a0 9748424 m3 _ rfl) ?_
    show xEv (116, 43, [some (13, a0), some (0, (xw32 (4 * (xw32 (32 + v1))))), some (0, v2), some (0, (fQ_is a0 240023 m3))], [(0, (fQ_is a0 9748424 m3))], m3) _
    refine xEvG_n xml xfetch 1 (y := (116, if (fQ_is a0 9748424 m3) = 0 then 46 else 51, [some (13, a0), some (0, (xw32 (4 * (xw32 (32 + v1))))), some (0, v2), some (0, (fQ_is a0 240023 m3))], [], m3)) rfl trivial ?_
    refine xEvG_br xml xfetch (fun c_ => ?_) (fun c_ => ?_)
    · have h := xif_t c_ h
      refine xEvG_n xml xfetch 2 (y := (116, 48, [some (13, a0), some (0, (xw32 (4 * (xw32 (32 + v1))))), some (0, v2), some (0, (fQ_is a0 240023 m3))], [(0, 1), (13, a0)], m3)) rfl trivial ?_
      refine xEvG_call xml xfetch (q := (none, fQ_fails a0 1 m3)) rfl (hQ_fails a0 1 m3 _ rfl) ?_
      show xEv (116, 51, [some (13, a0), some (0, (xw32 (4 * (xw32 (32 + v1))))), some (0, v2), some (0, (fQ_is a0 240023 m3))], [], (fQ_fails a0 1 m3)) _
      refine xEvG_n xml xfetch 3 (y := (116, if ((fQ_fails a0 1 m3) a0 12) = 0 then 58 else 82, [some (13, a0), some (0, (xw32 (4 * (xw32 (32 + v1))))), some (0, v2), some (0, (fQ_is a0 240023 m3))], [], (fQ_fails a0 1 m3))) rfl trivial ?_
      refine xEvG_br xml xfetch (fun c_ => ?_) (fun c_ => ?_)
      · have h := xif_t c_ h
        refine xEvG_n xml xfetch 4 (y := (116, 62, [some (13, a0), some (0, (xw32 (4 * (xw32 (32 + v1))))), some (0, v2), some (0, (fQ_is a0 240023 m3))], [(0, (fQ_is a0 240023 m3)), (0, v2), (0, 4), (13, a0)], (fQ_fails a0 1 m3))) rfl trivial ?_
        have key_ : xEv (116, 70, [some (13, a0), some (0, (xw32 (4 * (xw32 (32 + v1))))), some (0, v2), some (0, (fQ_is a0 240023 m3))], [(0, (if (fQ_is a0 240023 m3) = 0 then 1 else 0 : Int)), (0, v2), (0, 4), (13, a0)], (fQ_fails a0 1 m3)) (none, r) := by
          obtain ⟨v7, e_, h⟩ := xB_t h
          refine xEvG_call xml xfetch (q := (some (0, v7), (fQ_fails a0 1 m3))) rfl (hQ_besideIn a0 4 v2 (if (fQ_is a0 240023 m3) = 0 then 1 else 0 : Int) (fQ_fails a0 1 m3) _ e_) ?_
          show xEv (116, 73, [some (13, a0), some (0, (xw32 (4 * (xw32 (32 + v1))))), some (0, v2), some (0, (fQ_is a0 240023 m3))], [(0, v7)], (fQ_fails a0 1 m3)) _
          refine xEvG_n xml xfetch 2 (y := (116, if v7 = (-1) then 77 else 82, [some (13, a0), some (0, (xw32 (4 * (xw32 (32 + v1))))), some (0, v2), some (0, (fQ_is a0 240023 m3))], [], (fQ_fails a0 1 m3))) rfl trivial ?_
          refine xEvG_br xml xfetch (fun c_ => ?_) (fun c_ => ?_)
          · have h := xif_t c_ h
            refine xEvG_n xml xfetch 2 (y := (116, 79, [some (13, a0), some (0, (xw32 (4 * (xw32 (32 + v1))))), some (0, v2), some (0, (fQ_is a0 240023 m3))], [(0, 2), (13, a0)], (fQ_fails a0 1 m3))) rfl trivial ?_
            refine xEvG_call xml xfetch (q := (none, fQ_fails a0 2 (fQ_fails a0 1 m3))) rfl (hQ_fails a0 2 (fQ_fails a0 1 m3) _ rfl) ?_
            show xEv (116, 82, [some (13, a0), some (0, (xw32 (4 * (xw32 (32 + v1))))), some (0, v2), some (0, (fQ_is a0 240023 m3))], [], (fQ_fails a0 2 (fQ_fails a0 1 m3))) _
            refine xEvG_n xml xfetch 3 (y := (116, if ((fQ_fails a0 2 (fQ_fails a0 1 m3)) a0 12) = 0 then 90 else 89, [some (13, a0), some (0, (xw32 (4 * (xw32 (32 + v1))))), some (0, v2), some (0, (fQ_is a0 240023 m3))], [], (fQ_fails a0 2 (fQ_fails a0 1 m3)))) rfl trivial ?_
            refine xEvG_br xml xfetch (fun c_ => ?_) (fun c_ => ?_)
            · have h := xif_t c_ h
              refine xEvG_n xml xfetch 1 (y := (116, 91, [some (13, a0), some (0, (xw32 (4 * (xw32 (32 + v1))))), some (0, v2), some (0, (fQ_is a0 240023 m3))], [(13, a0)], (fQ_fails a0 2 (fQ_fails a0 1 m3)))) rfl trivial ?_
              obtain ⟨m9, e_, h⟩ := xB_t h
              refine xEvG_call xml xfetch (q := (none, m9)) rfl (hQ_next a0 (fQ_fails a0 2 (fQ_fails a0 1 m3)) _ e_) ?_
              show xEv (116, 94, [some (13, a0), some (0, (xw32 (4 * (xw32 (32 + v1))))), some (0, v2), some (0, (fQ_is a0 240023 m3))], [], m9) _
              have a0_ := (xA_t h).1
              have h := (xA_t h).2
              refine xEvG_n xml xfetch 11 (y := (116, 109, [some (13, a0), some (0, (xw32 (4 * (xw32 (32 + v1))))), some (0, v2), some (0, (fQ_is a0 240023 m3))], [(0, (fQ_is a0 240023 m3)), (0, (xw32 ((xw32 (4 * (xw32 (32 + v1)))) + 1))), (37, (a0 + 10))], (xwr m9 (a0 + 10) (xw32 (4 * (xw32 (32 + v1)))) v2))) rfl ⟨a0_, trivial⟩ ?_
              have key_ : xEv (116, 117, [some (13, a0), some (0, (xw32 (4 * (xw32 (32 + v1))))), some (0, v2), some (0, (fQ_is a0 240023 m3))], [(0, (if (fQ_is a0 240023 m3) = 0 then 1 else 0 : Int)), (0, (xw32 ((xw32 (4 * (xw32 (32 + v1)))) + 1))), (37, (a0 + 10))], (xwr m9 (a0 + 10) (xw32 (4 * (xw32 (32 + v1)))) v2)) (none, r) := by
                have a0_ := (xA_t h).1
                have h := (xA_t h).2
                refine xEvG_n xml xfetch 9 (y := (116, 129, [some (13, a0), some (0, (xw32 (4 * (xw32 (32 + v1))))), some (0, v2), some (0, (fQ_is a0 240023 m3))], [(0, 9), (0, 1), (13, a0), (0, (xw32 ((xw32 (4 * (xw32 (32 + v1)))) + 2))), (37, (a0 + 10))], (xwr (xwr m9 (a0 + 10) (xw32 (4 * (xw32 (32 + v1)))) v2) (a0 + 10) (xw32 ((xw32 (4 * (xw32 (32 + v1)))) + 1)) (if (fQ_is a0 240023 m3) = 0 then 1 else 0 : Int)))) rfl ⟨a0_, trivial⟩ ?_
                obtain ⟨⟨v10, m10⟩, e_, h⟩ := xB_t h
                refine xEvG_call xml xfetch (q := (some (0, v10), m10)) rfl (hQ_number2 a0 1 9 (xwr (xwr m9 (a0 + 10) (xw32 (4 * (xw32 (32 + v1)))) v2) (a0 + 10) (xw32 ((xw32 (4 * (xw32 (32 + v1)))) + 1)) (if (fQ_is a0 240023 m3) = 0 then 1 else 0 : Int)) _ e_) ?_
                show xEv (116, 132, [some (13, a0), some (0, (xw32 (4 * (xw32 (32 + v1))))), some (0, v2), some (0, (fQ_is a0 240023 m3))], [(0, v10), (0, (xw32 ((xw32 (4 * (xw32 (32 + v1)))) + 2))), (37, (a0 + 10))], m10) _
                have a0_ := (xA_t h).1
                have h := (xA_t h).2
                refine xEvG_n xml xfetch 11 (y := (116, 147, [some (13, a0), some (0, (xw32 (4 * (xw32 (32 + v1))))), some (0, v2), some (0, (fQ_is a0 240023 m3))], [(0, 1), (13, a0), (0, 0), (1, 257), (13, a0), (0, (xw32 ((xw32 (4 * (xw32 (32 + v1)))) + 3))), (37, (a0 + 10))], (xwr m10 (a0 + 10) (xw32 ((xw32 (4 * (xw32 (32 + v1)))) + 2)) v10))) rfl ⟨a0_, trivial⟩ ?_
                obtain ⟨v11, e_, h⟩ := xB_t h
                refine xEvG_call xml xfetch (q := (some (0, v11), (xwr m10 (a0 + 10) (xw32 ((xw32 (4 * (xw32 (32 + v1)))) + 2)) v10))) rfl (hQ_hasRead a0 1 (xwr m10 (a0 + 10) (xw32 ((xw32 (4 * (xw32 (32 + v1)))) + 2)) v10) _ e_) ?_
                show xEv (116, 150, [some (13, a0), some (0, (xw32 (4 * (xw32 (32 + v1))))), some (0, v2), some (0, (fQ_is a0 240023 m3))], [(0, v11), (0, 0), (1, 257), (13, a0), (0, (xw32 ((xw32 (4 * (xw32 (32 + v1)))) + 3))), (37, (a0 + 10))], (xwr m10 (a0 + 10) (xw32 ((xw32 (4 * (xw32 (32 + v1)))) + 2)) v10)) _
                refine xEvG_n xml xfetch 2 (y := (116, 152, [some (13, a0), some (0, (xw32 (4 * (xw32 (32 + v1))))), some (0, v2), some (0, (fQ_is a0 240023 m3))], [(0, (xw32 (v11 - 1))), (0, 0), (1, 257), (13, a0), (0, (xw32 ((xw32 (4 * (xw32 (32 + v1)))) + 3))), (37, (a0 + 10))], (xwr m10 (a0 + 10) (xw32 ((xw32 (4 * (xw32 (32 + v1)))) + 2)) v10))) rfl trivial ?_
                obtain ⟨⟨v12, m12⟩, e_, h⟩ := xB_t h
                refine xEvG_call xml xfetch (q := (some (0, v12), m12)) rfl (hQ_number3 a0 257 0 (xw32 (v11 - 1)) (xwr m10 (a0 + 10) (xw32 ((xw32 (4 * (xw32 (32 + v1)))) + 2)) v10) _ e_) ?_
                show xEv (116, 155, [some (13, a0), some (0, (xw32 (4 * (xw32 (32 + v1))))), some (0, v2), some (0, (fQ_is a0 240023 m3))], [(0, v12), (0, (xw32 ((xw32 (4 * (xw32 (32 + v1)))) + 3))), (37, (a0 + 10))], m12) _
                have a0_ := (xA_t h).1
                have h := (xA_t h).2
                refine xEvG_n xml xfetch 9 (y := (116, 167, [some (13, a0), some (0, (xw32 (4 * (xw32 (32 + v1))))), some (0, v2), some (0, (fQ_is a0 240023 m3))], [], (xwr (xwr m12 (a0 + 10) (xw32 ((xw32 (4 * (xw32 (32 + v1)))) + 3)) v12) (a0 + 7) 34 (xw32 (((xwr m12 (a0 + 10) (xw32 ((xw32 (4 * (xw32 (32 + v1)))) + 3)) v12) (a0 + 7) 34) + 1))))) rfl ⟨a0_, by decide, by decide, trivial⟩ ?_
                cases h
                exact xEvG_ret xml xfetch rfl
              refine xEvG_n xml xfetch 1 (y := (116, if (fQ_is a0 240023 m3) = 0 then 116 else 112, [some (13, a0), some (0, (xw32 (4 * (xw32 (32 + v1))))), some (0, v2), some (0, (fQ_is a0 240023 m3))], [(0, (xw32 ((xw32 (4 * (xw32 (32 + v1)))) + 1))), (37, (a0 + 10))], (xwr m9 (a0 + 10) (xw32 (4 * (xw32 (32 + v1)))) v2))) rfl trivial ?_
              refine xEvG_br xml xfetch (fun c14_ => ?_) (fun c14_ => ?_)
              · refine xEvG_n xml xfetch 1 (y := (116, 117, [some (13, a0), some (0, (xw32 (4 * (xw32 (32 + v1))))), some (0, v2), some (0, (fQ_is a0 240023 m3))], [(0, 1), (0, (xw32 ((xw32 (4 * (xw32 (32 + v1)))) + 1))), (37, (a0 + 10))], (xwr m9 (a0 + 10) (xw32 (4 * (xw32 (32 + v1)))) v2))) rfl trivial ?_
                try simp only [if_pos c14_] at key_
                try simp only [if_pos c14_]
                exact key_
              · refine xEvG_n xml xfetch 2 (y := (116, 117, [some (13, a0), some (0, (xw32 (4 * (xw32 (32 + v1))))), some (0, v2), some (0, (fQ_is a0 240023 m3))], [(0, 0), (0, (xw32 ((xw32 (4 * (xw32 (32 + v1)))) + 1))), (37, (a0 + 10))], (xwr m9 (a0 + 10) (xw32 (4 * (xw32 (32 + v1)))) v2))) rfl trivial ?_
                try simp only [if_neg c14_] at key_
                try simp only [if_neg c14_]
                exact key_
            · have h := xif_f c_ h
              cases h
              exact xEvG_ret xml xfetch rfl
          · have h := xif_f c_ h
            refine xEvG_n xml xfetch 3 (y := (116, if ((fQ_fails a0 1 m3) a0 12) = 0 then 90 else 89, [some (13, a0), some (0, (xw32 (4 * (xw32 (32 + v1))))), some (0, v2), some (0, (fQ_is a0 240023 m3))], [], (fQ_fails a0 1 m3))) rfl trivial ?_
            refine xEvG_br xml xfetch (fun c_ => ?_) (fun c_ => ?_)
            · have h := xif_t c_ h
              refine xEvG_n xml xfetch 1 (y := (116, 91, [some (13, a0), some (0, (xw32 (4 * (xw32 (32 + v1))))), some (0, v2), some (0, (fQ_is a0 240023 m3))], [(13, a0)], (fQ_fails a0 1 m3))) rfl trivial ?_
              obtain ⟨m13, e_, h⟩ := xB_t h
              refine xEvG_call xml xfetch (q := (none, m13)) rfl (hQ_next a0 (fQ_fails a0 1 m3) _ e_) ?_
              show xEv (116, 94, [some (13, a0), some (0, (xw32 (4 * (xw32 (32 + v1))))), some (0, v2), some (0, (fQ_is a0 240023 m3))], [], m13) _
              have a0_ := (xA_t h).1
              have h := (xA_t h).2
              refine xEvG_n xml xfetch 11 (y := (116, 109, [some (13, a0), some (0, (xw32 (4 * (xw32 (32 + v1))))), some (0, v2), some (0, (fQ_is a0 240023 m3))], [(0, (fQ_is a0 240023 m3)), (0, (xw32 ((xw32 (4 * (xw32 (32 + v1)))) + 1))), (37, (a0 + 10))], (xwr m13 (a0 + 10) (xw32 (4 * (xw32 (32 + v1)))) v2))) rfl ⟨a0_, trivial⟩ ?_
              have key_ : xEv (116, 117, [some (13, a0), some (0, (xw32 (4 * (xw32 (32 + v1))))), some (0, v2), some (0, (fQ_is a0 240023 m3))], [(0, (if (fQ_is a0 240023 m3) = 0 then 1 else 0 : Int)), (0, (xw32 ((xw32 (4 * (xw32 (32 + v1)))) + 1))), (37, (a0 + 10))], (xwr m13 (a0 + 10) (xw32 (4 * (xw32 (32 + v1)))) v2)) (none, r) := by
                have a0_ := (xA_t h).1
                have h := (xA_t h).2
                refine xEvG_n xml xfetch 9 (y := (116, 129, [some (13, a0), some (0, (xw32 (4 * (xw32 (32 + v1))))), some (0, v2), some (0, (fQ_is a0 240023 m3))], [(0, 9), (0, 1), (13, a0), (0, (xw32 ((xw32 (4 * (xw32 (32 + v1)))) + 2))), (37, (a0 + 10))], (xwr (xwr m13 (a0 + 10) (xw32 (4 * (xw32 (32 + v1)))) v2) (a0 + 10) (xw32 ((xw32 (4 * (xw32 (32 + v1)))) + 1)) (if (fQ_is a0 240023 m3) = 0 then 1 else 0 : Int)))) rfl ⟨a0_, trivial⟩ ?_
                obtain ⟨⟨v14, m14⟩, e_, h⟩ := xB_t h
                refine xEvG_call xml xfetch (q := (some (0, v14), m14)) rfl (hQ_number2 a0 1 9 (xwr (xwr m13 (a0 + 10) (xw32 (4 * (xw32 (32 + v1)))) v2) (a0 + 10) (xw32 ((xw32 (4 * (xw32 (32 + v1)))) + 1)) (if (fQ_is a0 240023 m3) = 0 then 1 else 0 : Int)) _ e_) ?_
                show xEv (116, 132, [some (13, a0), some (0, (xw32 (4 * (xw32 (32 + v1))))), some (0, v2), some (0, (fQ_is a0 240023 m3))], [(0, v14), (0, (xw32 ((xw32 (4 * (xw32 (32 + v1)))) + 2))), (37, (a0 + 10))], m14) _
                have a0_ := (xA_t h).1
                have h := (xA_t h).2
                refine xEvG_n xml xfetch 11 (y := (116, 147, [some (13, a0), some (0, (xw32 (4 * (xw32 (32 + v1))))), some (0, v2), some (0, (fQ_is a0 240023 m3))], [(0, 1), (13, a0), (0, 0), (1, 257), (13, a0), (0, (xw32 ((xw32 (4 * (xw32 (32 + v1)))) + 3))), (37, (a0 + 10))], (xwr m14 (a0 + 10) (xw32 ((xw32 (4 * (xw32 (32 + v1)))) + 2)) v14))) rfl ⟨a0_, trivial⟩ ?_
                obtain ⟨v15, e_, h⟩ := xB_t h
                refine xEvG_call xml xfetch (q := (some (0, v15), (xwr m14 (a0 + 10) (xw32 ((xw32 (4 * (xw32 (32 + v1)))) + 2)) v14))) rfl (hQ_hasRead a0 1 (xwr m14 (a0 + 10) (xw32 ((xw32 (4 * (xw32 (32 + v1)))) + 2)) v14) _ e_) ?_
                show xEv (116, 150, [some (13, a0), some (0, (xw32 (4 * (xw32 (32 + v1))))), some (0, v2), some (0, (fQ_is a0 240023 m3))], [(0, v15), (0, 0), (1, 257), (13, a0), (0, (xw32 ((xw32 (4 * (xw32 (32 + v1)))) + 3))), (37, (a0 + 10))], (xwr m14 (a0 + 10) (xw32 ((xw32 (4 * (xw32 (32 + v1)))) + 2)) v14)) _
                refine xEvG_n xml xfetch 2 (y := (116, 152, [some (13, a0), some (0, (xw32 (4 * (xw32 (32 + v1))))), some (0, v2), some (0, (fQ_is a0 240023 m3))], [(0, (xw32 (v15 - 1))), (0, 0), (1, 257), (13, a0), (0, (xw32 ((xw32 (4 * (xw32 (32 + v1)))) + 3))), (37, (a0 + 10))], (xwr m14 (a0 + 10) (xw32 ((xw32 (4 * (xw32 (32 + v1)))) + 2)) v14))) rfl trivial ?_
                obtain ⟨⟨v16, m16⟩, e_, h⟩ := xB_t h
                refine xEvG_call xml xfetch (q := (some (0, v16), m16)) rfl (hQ_number3 a0 257 0 (xw32 (v15 - 1)) (xwr m14 (a0 + 10) (xw32 ((xw32 (4 * (xw32 (32 + v1)))) + 2)) v14) _ e_) ?_
                show xEv (116, 155, [some (13, a0), some (0, (xw32 (4 * (xw32 (32 + v1))))), some (0, v2), some (0, (fQ_is a0 240023 m3))], [(0, v16), (0, (xw32 ((xw32 (4 * (xw32 (32 + v1)))) + 3))), (37, (a0 + 10))], m16) _
                have a0_ := (xA_t h).1
                have h := (xA_t h).2
                refine xEvG_n xml xfetch 9 (y := (116, 167, [some (13, a0), some (0, (xw32 (4 * (xw32 (32 + v1))))), some (0, v2), some (0, (fQ_is a0 240023 m3))], [], (xwr (xwr m16 (a0 + 10) (xw32 ((xw32 (4 * (xw32 (32 + v1)))) + 3)) v16) (a0 + 7) 34 (xw32 (((xwr m16 (a0 + 10) (xw32 ((xw32 (4 * (xw32 (32 + v1)))) + 3)) v16) (a0 + 7) 34) + 1))))) rfl ⟨a0_, by decide, by decide, trivial⟩ ?_
                cases h
                exact xEvG_ret xml xfetch rfl
              refine xEvG_n xml xfetch 1 (y := (116, if (fQ_is a0 240023 m3) = 0 then 116 else 112, [some (13, a0), some (0, (xw32 (4 * (xw32 (32 + v1))))), some (0, v2), some (0, (fQ_is a0 240023 m3))], [(0, (xw32 ((xw32 (4 * (xw32 (32 + v1)))) + 1))), (37, (a0 + 10))], (xwr m13 (a0 + 10) (xw32 (4 * (xw32 (32 + v1)))) v2))) rfl trivial ?_
              refine xEvG_br xml xfetch (fun c14_ => ?_) (fun c14_ => ?_)
              · refine xEvG_n xml xfetch 1 (y := (116, 117, [some (13, a0), some (0, (xw32 (4 * (xw32 (32 + v1))))), some (0, v2), some (0, (fQ_is a0 240023 m3))], [(0, 1), (0, (xw32 ((xw32 (4 * (xw32 (32 + v1)))) + 1))), (37, (a0 + 10))], (xwr m13 (a0 + 10) (xw32 (4 * (xw32 (32 + v1)))) v2))) rfl trivial ?_
                try simp only [if_pos c14_] at key_
                try simp only [if_pos c14_]
                exact key_
              · refine xEvG_n xml xfetch 2 (y := (116, 117, [some (13, a0), some (0, (xw32 (4 * (xw32 (32 + v1))))), some (0, v2), some (0, (fQ_is a0 240023 m3))], [(0, 0), (0, (xw32 ((xw32 (4 * (xw32 (32 + v1)))) + 1))), (37, (a0 + 10))], (xwr m13 (a0 + 10) (xw32 (4 * (xw32 (32 + v1)))) v2))) rfl trivial ?_
                try simp only [if_neg c14_] at key_
                try simp only [if_neg c14_]
                exact key_
            · have h := xif_f c_ h
              cases h
              exact xEvG_ret xml xfetch rfl
        refine xEvG_n xml xfetch 1 (y := (116, if (fQ_is a0 240023 m3) = 0 then 69 else 65, [some (13, a0), some (0, (xw32 (4 * (xw32 (32 + v1))))), some (0, v2), some (0, (fQ_is a0 240023 m3))], [(0, v2), (0, 4), (13, a0)], (fQ_fails a0 1 m3))) rfl trivial ?_
        refine xEvG_br xml xfetch (fun c8_ => ?_) (fun c8_ => ?_)
        · refine xEvG_n xml xfetch 1 (y := (116, 70, [some (13, a0), some (0, (xw32 (4 * (xw32 (32 + v1))))), some (0, v2), some (0, (fQ_is a0 240023 m3))], [(0, 1), (0, v2), (0, 4), (13, a0)], (fQ_fails a0 1 m3))) rfl trivial ?_
          try simp only [if_pos c8_] at key_
          try simp only [if_pos c8_]
          exact key_
        · refine xEvG_n xml xfetch 2 (y := (116, 70, [some (13, a0), some (0, (xw32 (4 * (xw32 (32 + v1))))), some (0, v2), some (0, (fQ_is a0 240023 m3))], [(0, 0), (0, v2), (0, 4), (13, a0)], (fQ_fails a0 1 m3))) rfl trivial ?_
          try simp only [if_neg c8_] at key_
          try simp only [if_neg c8_]
          exact key_
      · have h := xif_f c_ h
        refine xEvG_n xml xfetch 3 (y := (116, if ((fQ_fails a0 1 m3) a0 12) = 0 then 90 else 89, [some (13, a0), some (0, (xw32 (4 * (xw32 (32 + v1))))), some (0, v2), some (0, (fQ_is a0 240023 m3))], [], (fQ_fails a0 1 m3))) rfl trivial ?_
        refine xEvG_br xml xfetch (fun c_ => ?_) (fun c_ => ?_)
        · have h := xif_t c_ h
          refine xEvG_n xml xfetch 1 (y := (116, 91, [some (13, a0), some (0, (xw32 (4 * (xw32 (32 + v1))))), some (0, v2), some (0, (fQ_is a0 240023 m3))], [(13, a0)], (fQ_fails a0 1 m3))) rfl trivial ?_
          obtain ⟨m17, e_, h⟩ := xB_t h
          refine xEvG_call xml xfetch (q := (none, m17)) rfl (hQ_next a0 (fQ_fails a0 1 m3) _ e_) ?_
          show xEv (116, 94, [some (13, a0), some (0, (xw32 (4 * (xw32 (32 + v1))))), some (0, v2), some (0, (fQ_is a0 240023 m3))], [], m17) _
          have a0_ := (xA_t h).1
          have h := (xA_t h).2
          refine xEvG_n xml xfetch 11 (y := (116, 109, [some (13, a0), some (0, (xw32 (4 * (xw32 (32 + v1))))), some (0, v2), some (0, (fQ_is a0 240023 m3))], [(0, (fQ_is a0 240023 m3)), (0, (xw32 ((xw32 (4 * (xw32 (32 + v1)))) + 1))), (37, (a0 + 10))], (xwr m17 (a0 + 10) (xw32 (4 * (xw32 (32 + v1)))) v2))) rfl ⟨a0_, trivial⟩ ?_
          have key_ : xEv (116, 117, [some (13, a0), some (0, (xw32 (4 * (xw32 (32 + v1))))), some (0, v2), some (0, (fQ_is a0 240023 m3))], [(0, (if (fQ_is a0 240023 m3) = 0 then 1 else 0 : Int)), (0, (xw32 ((xw32 (4 * (xw32 (32 + v1)))) + 1))), (37, (a0 + 10))], (xwr m17 (a0 + 10) (xw32 (4 * (xw32 (32 + v1)))) v2)) (none, r) := by
            have a0_ := (xA_t h).1
            have h := (xA_t h).2
            refine xEvG_n xml xfetch 9 (y := (116, 129, [some (13, a0), some (0, (xw32 (4 * (xw32 (32 + v1))))), some (0, v2), some (0, (fQ_is a0 240023 m3))], [(0, 9), (0, 1), (13, a0), (0, (xw32 ((xw32 (4 * (xw32 (32 + v1)))) + 2))), (37, (a0 + 10))], (xwr (xwr m17 (a0 + 10) (xw32 (4 * (xw32 (32 + v1)))) v2) (a0 + 10) (xw32 ((xw32 (4 * (xw32 (32 + v1)))) + 1)) (if (fQ_is a0 240023 m3) = 0 then 1 else 0 : Int)))) rfl ⟨a0_, trivial⟩ ?_
            obtain ⟨⟨v18, m18⟩, e_, h⟩ := xB_t h
            refine xEvG_call xml xfetch (q := (some (0, v18), m18)) rfl (hQ_number2 a0 1 9 (xwr (xwr m17 (a0 + 10) (xw32 (4 * (xw32 (32 + v1)))) v2) (a0 + 10) (xw32 ((xw32 (4 * (xw32 (32 + v1)))) + 1)) (if (fQ_is a0 240023 m3) = 0 then 1 else 0 : Int)) _ e_) ?_
            show xEv (116, 132, [some (13, a0), some (0, (xw32 (4 * (xw32 (32 + v1))))), some (0, v2), some (0, (fQ_is a0 240023 m3))], [(0, v18), (0, (xw32 ((xw32 (4 * (xw32 (32 + v1)))) + 2))), (37, (a0 + 10))], m18) _
            have a0_ := (xA_t h).1
            have h := (xA_t h).2
            refine xEvG_n xml xfetch 11 (y := (116, 147, [some (13, a0), some (0, (xw32 (4 * (xw32 (32 + v1))))), some (0, v2), some (0, (fQ_is a0 240023 m3))], [(0, 1), (13, a0), (0, 0), (1, 257), (13, a0), (0, (xw32 ((xw32 (4 * (xw32 (32 + v1)))) + 3))), (37, (a0 + 10))], (xwr m18 (a0 + 10) (xw32 ((xw32 (4 * (xw32 (32 + v1)))) + 2)) v18))) rfl ⟨a0_, trivial⟩ ?_
            obtain ⟨v19, e_, h⟩ := xB_t h
            refine xEvG_call xml xfetch (q := (some (0, v19), (xwr m18 (a0 + 10) (xw32 ((xw32 (4 * (xw32 (32 + v1)))) + 2)) v18))) rfl (hQ_hasRead a0 1 (xwr m18 (a0 + 10) (xw32 ((xw32 (4 * (xw32 (32 + v1)))) + 2)) v18) _ e_) ?_
            show xEv (116, 150, [some (13, a0), some (0, (xw32 (4 * (xw32 (32 + v1))))), some (0, v2), some (0, (fQ_is a0 240023 m3))], [(0, v19), (0, 0), (1, 257), (13, a0), (0, (xw32 ((xw32 (4 * (xw32 (32 + v1)))) + 3))), (37, (a0 + 10))], (xwr m18 (a0 + 10) (xw32 ((xw32 (4 * (xw32 (32 + v1)))) + 2)) v18)) _
            refine xEvG_n xml xfetch 2 (y := (116, 152, [some (13, a0), some (0, (xw32 (4 * (xw32 (32 + v1))))), some (0, v2), some (0, (fQ_is a0 240023 m3))], [(0, (xw32 (v19 - 1))), (0, 0), (1, 257), (13, a0), (0, (xw32 ((xw32 (4 * (xw32 (32 + v1)))) + 3))), (37, (a0 + 10))], (xwr m18 (a0 + 10) (xw32 ((xw32 (4 * (xw32 (32 + v1)))) + 2)) v18))) rfl trivial ?_
            obtain ⟨⟨v20, m20⟩, e_, h⟩ := xB_t h
            refine xEvG_call xml xfetch (q := (some (0, v20), m20)) rfl (hQ_number3 a0 257 0 (xw32 (v19 - 1)) (xwr m18 (a0 + 10) (xw32 ((xw32 (4 * (xw32 (32 + v1)))) + 2)) v18) _ e_) ?_
            show xEv (116, 155, [some (13, a0), some (0, (xw32 (4 * (xw32 (32 + v1))))), some (0, v2), some (0, (fQ_is a0 240023 m3))], [(0, v20), (0, (xw32 ((xw32 (4 * (xw32 (32 + v1)))) + 3))), (37, (a0 + 10))], m20) _
            have a0_ := (xA_t h).1
            have h := (xA_t h).2
            refine xEvG_n xml xfetch 9 (y := (116, 167, [some (13, a0), some (0, (xw32 (4 * (xw32 (32 + v1))))), some (0, v2), some (0, (fQ_is a0 240023 m3))], [], (xwr (xwr m20 (a0 + 10) (xw32 ((xw32 (4 * (xw32 (32 + v1)))) + 3)) v20) (a0 + 7) 34 (xw32 (((xwr m20 (a0 + 10) (xw32 ((xw32 (4 * (xw32 (32 + v1)))) + 3)) v20) (a0 + 7) 34) + 1))))) rfl ⟨a0_, by decide, by decide, trivial⟩ ?_
            cases h
            exact xEvG_ret xml xfetch rfl
          refine xEvG_n xml xfetch 1 (y := (116, if (fQ_is a0 240023 m3) = 0 then 116 else 112, [some (13, a0), some (0, (xw32 (4 * (xw32 (32 + v1))))), some (0, v2), some (0, (fQ_is a0 240023 m3))], [(0, (xw32 ((xw32 (4 * (xw32 (32 + v1)))) + 1))), (37, (a0 + 10))], (xwr m17 (a0 + 10) (xw32 (4 * (xw32 (32 + v1)))) v2))) rfl trivial ?_
          refine xEvG_br xml xfetch (fun c10_ => ?_) (fun c10_ => ?_)
          · refine xEvG_n xml xfetch 1 (y := (116, 117, [some (13, a0), some (0, (xw32 (4 * (xw32 (32 + v1))))), some (0, v2), some (0, (fQ_is a0 240023 m3))], [(0, 1), (0, (xw32 ((xw32 (4 * (xw32 (32 + v1)))) + 1))), (37, (a0 + 10))], (xwr m17 (a0 + 10) (xw32 (4 * (xw32 (32 + v1)))) v2))) rfl trivial ?_
            try simp only [if_pos c10_] at key_
            try simp only [if_pos c10_]
            exact key_
          · refine xEvG_n xml xfetch 2 (y := (116, 117, [some (13, a0), some (0, (xw32 (4 * (xw32 (32 + v1))))), some (0, v2), some (0, (fQ_is a0 240023 m3))], [(0, 0), (0, (xw32 ((xw32 (4 * (xw32 (32 + v1)))) + 1))), (37, (a0 + 10))], (xwr m17 (a0 + 10) (xw32 (4 * (xw32 (32 + v1)))) v2))) rfl trivial ?_
            try simp only [if_neg c10_] at key_
            try simp only [if_neg c10_]
            exact key_
        · have h := xif_f c_ h
          cases h
          exact xEvG_ret xml xfetch rfl
    · have h := xif_f c_ h
      refine xEvG_n xml xfetch 3 (y := (116, if (m3 a0 12) = 0 then 58 else 82, [some (13, a0), some (0, (xw32 (4 * (xw32 (32 + v1))))), some (0, v2), some (0, (fQ_is a0 240023 m3))], [], m3)) rfl trivial ?_
      refine xEvG_br xml xfetch (fun c_ => ?_) (fun c_ => ?_)
      · have h := xif_t c_ h
        refine xEvG_n xml xfetch 4 (y := (116, 62, [some (13, a0), some (0, (xw32 (4 * (xw32 (32 + v1))))), some (0, v2), some (0, (fQ_is a0 240023 m3))], [(0, (fQ_is a0 240023 m3)), (0, v2), (0, 4), (13, a0)], m3)) rfl trivial ?_
        have key_ : xEv (116, 70, [some (13, a0), some (0, (xw32 (4 * (xw32 (32 + v1))))), some (0, v2), some (0, (fQ_is a0 240023 m3))], [(0, (if (fQ_is a0 240023 m3) = 0 then 1 else 0 : Int)), (0, v2), (0, 4), (13, a0)], m3) (none, r) := by
          obtain ⟨v21, e_, h⟩ := xB_t h
          refine xEvG_call xml xfetch (q := (some (0, v21), m3)) rfl (hQ_besideIn a0 4 v2 (if (fQ_is a0 240023 m3) = 0 then 1 else 0 : Int) m3 _ e_) ?_
          show xEv (116, 73, [some (13, a0), some (0, (xw32 (4 * (xw32 (32 + v1))))), some (0, v2), some (0, (fQ_is a0 240023 m3))], [(0, v21)], m3) _
          refine xEvG_n xml xfetch 2 (y := (116, if v21 = (-1) then 77 else 82, [some (13, a0), some (0, (xw32 (4 * (xw32 (32 + v1))))), some (0, v2), some (0, (fQ_is a0 240023 m3))], [], m3)) rfl trivial ?_
          refine xEvG_br xml xfetch (fun c_ => ?_) (fun c_ => ?_)
          · have h := xif_t c_ h
            refine xEvG_n xml xfetch 2 (y := (116, 79, [some (13, a0), some (0, (xw32 (4 * (xw32 (32 + v1))))), some (0, v2), some (0, (fQ_is a0 240023 m3))], [(0, 2), (13, a0)], m3)) rfl trivial ?_
            refine xEvG_call xml xfetch (q := (none, fQ_fails a0 2 m3)) rfl (hQ_fails a0 2 m3 _ rfl) ?_
            show xEv (116, 82, [some (13, a0), some (0, (xw32 (4 * (xw32 (32 + v1))))), some (0, v2), some (0, (fQ_is a0 240023 m3))], [], (fQ_fails a0 2 m3)) _
            refine xEvG_n xml xfetch 3 (y := (116, if ((fQ_fails a0 2 m3) a0 12) = 0 then 90 else 89, [some (13, a0), some (0, (xw32 (4 * (xw32 (32 + v1))))), some (0, v2), some (0, (fQ_is a0 240023 m3))], [], (fQ_fails a0 2 m3))) rfl trivial ?_
            refine xEvG_br xml xfetch (fun c_ => ?_) (fun c_ => ?_)
            · have h := xif_t c_ h
              refine xEvG_n xml xfetch 1 (y := (116, 91, [some (13, a0), some (0, (xw32 (4 * (xw32 (32 + v1))))), some (0, v2), some (0, (fQ_is a0 240023 m3))], [(13, a0)], (fQ_fails a0 2 m3))) rfl trivial ?_
              obtain ⟨m23, e_, h⟩ := xB_t h
              refine xEvG_call xml xfetch (q := (none, m23)) rfl (hQ_next a0 (fQ_fails a0 2 m3) _ e_) ?_
              show xEv (116, 94, [some (13, a0), some (0, (xw32 (4 * (xw32 (32 + v1))))), some (0, v2), some (0, (fQ_is a0 240023 m3))], [], m23) _
              have a0_ := (xA_t h).1
              have h := (xA_t h).2
              refine xEvG_n xml xfetch 11 (y := (116, 109, [some (13, a0), some (0, (xw32 (4 * (xw32 (32 + v1))))), some (0, v2), some (0, (fQ_is a0 240023 m3))], [(0, (fQ_is a0 240023 m3)), (0, (xw32 ((xw32 (4 * (xw32 (32 + v1)))) + 1))), (37, (a0 + 10))], (xwr m23 (a0 + 10) (xw32 (4 * (xw32 (32 + v1)))) v2))) rfl ⟨a0_, trivial⟩ ?_
              have key_ : xEv (116, 117, [some (13, a0), some (0, (xw32 (4 * (xw32 (32 + v1))))), some (0, v2), some (0, (fQ_is a0 240023 m3))], [(0, (if (fQ_is a0 240023 m3) = 0 then 1 else 0 : Int)), (0, (xw32 ((xw32 (4 * (xw32 (32 + v1)))) + 1))), (37, (a0 + 10))], (xwr m23 (a0 + 10) (xw32 (4 * (xw32 (32 + v1)))) v2)) (none, r) := by
                have a0_ := (xA_t h).1
                have h := (xA_t h).2
                refine xEvG_n xml xfetch 9 (y := (116, 129, [some (13, a0), some (0, (xw32 (4 * (xw32 (32 + v1))))), some (0, v2), some (0, (fQ_is a0 240023 m3))], [(0, 9), (0, 1), (13, a0), (0, (xw32 ((xw32 (4 * (xw32 (32 + v1)))) + 2))), (37, (a0 + 10))], (xwr (xwr m23 (a0 + 10) (xw32 (4 * (xw32 (32 + v1)))) v2) (a0 + 10) (xw32 ((xw32 (4 * (xw32 (32 + v1)))) + 1)) (if (fQ_is a0 240023 m3) = 0 then 1 else 0 : Int)))) rfl ⟨a0_, trivial⟩ ?_
                obtain ⟨⟨v24, m24⟩, e_, h⟩ := xB_t h
                refine xEvG_call xml xfetch (q := (some (0, v24), m24)) rfl (hQ_number2 a0 1 9 (xwr (xwr m23 (a0 + 10) (xw32 (4 * (xw32 (32 + v1)))) v2) (a0 + 10) (xw32 ((xw32 (4 * (xw32 (32 + v1)))) + 1)) (if (fQ_is a0 240023 m3) = 0 then 1 else 0 : Int)) _ e_) ?_
                show xEv (116, 132, [some (13, a0), some (0, (xw32 (4 * (xw32 (32 + v1))))), some (0, v2), some (0, (fQ_is a0 240023 m3))], [(0, v24), (0, (xw32 ((xw32 (4 * (xw32 (32 + v1)))) + 2))), (37, (a0 + 10))], m24) _
                have a0_ := (xA_t h).1
                have h := (xA_t h).2
                refine xEvG_n xml xfetch 11 (y := (116, 147, [some (13, a0), some (0, (xw32 (4 * (xw32 (32 + v1))))), some (0, v2), some (0, (fQ_is a0 240023 m3))], [(0, 1), (13, a0), (0, 0), (1, 257), (13, a0), (0, (xw32 ((xw32 (4 * (xw32 (32 + v1)))) + 3))), (37, (a0 + 10))], (xwr m24 (a0 + 10) (xw32 ((xw32 (4 * (xw32 (32 + v1)))) + 2)) v24))) rfl ⟨a0_, trivial⟩ ?_
                obtain ⟨v25, e_, h⟩ := xB_t h
                refine xEvG_call xml xfetch (q := (some (0, v25), (xwr m24 (a0 + 10) (xw32 ((xw32 (4 * (xw32 (32 + v1)))) + 2)) v24))) rfl (hQ_hasRead a0 1 (xwr m24 (a0 + 10) (xw32 ((xw32 (4 * (xw32 (32 + v1)))) + 2)) v24) _ e_) ?_
                show xEv (116, 150, [some (13, a0), some (0, (xw32 (4 * (xw32 (32 + v1))))), some (0, v2), some (0, (fQ_is a0 240023 m3))], [(0, v25), (0, 0), (1, 257), (13, a0), (0, (xw32 ((xw32 (4 * (xw32 (32 + v1)))) + 3))), (37, (a0 + 10))], (xwr m24 (a0 + 10) (xw32 ((xw32 (4 * (xw32 (32 + v1)))) + 2)) v24)) _
                refine xEvG_n xml xfetch 2 (y := (116, 152, [some (13, a0), some (0, (xw32 (4 * (xw32 (32 + v1))))), some (0, v2), some (0, (fQ_is a0 240023 m3))], [(0, (xw32 (v25 - 1))), (0, 0), (1, 257), (13, a0), (0, (xw32 ((xw32 (4 * (xw32 (32 + v1)))) + 3))), (37, (a0 + 10))], (xwr m24 (a0 + 10) (xw32 ((xw32 (4 * (xw32 (32 + v1)))) + 2)) v24))) rfl trivial ?_
                obtain ⟨⟨v26, m26⟩, e_, h⟩ := xB_t h
                refine xEvG_call xml xfetch (q := (some (0, v26), m26)) rfl (hQ_number3 a0 257 0 (xw32 (v25 - 1)) (xwr m24 (a0 + 10) (xw32 ((xw32 (4 * (xw32 (32 + v1)))) + 2)) v24) _ e_) ?_
                show xEv (116, 155, [some (13, a0), some (0, (xw32 (4 * (xw32 (32 + v1))))), some (0, v2), some (0, (fQ_is a0 240023 m3))], [(0, v26), (0, (xw32 ((xw32 (4 * (xw32 (32 + v1)))) + 3))), (37, (a0 + 10))], m26) _
                have a0_ := (xA_t h).1
                have h := (xA_t h).2
                refine xEvG_n xml xfetch 9 (y := (116, 167, [some (13, a0), some (0, (xw32 (4 * (xw32 (32 + v1))))), some (0, v2), some (0, (fQ_is a0 240023 m3))], [], (xwr (xwr m26 (a0 + 10) (xw32 ((xw32 (4 * (xw32 (32 + v1)))) + 3)) v26) (a0 + 7) 34 (xw32 (((xwr m26 (a0 + 10) (xw32 ((xw32 (4 * (xw32 (32 + v1)))) + 3)) v26) (a0 + 7) 34) + 1))))) rfl ⟨a0_, by decide, by decide, trivial⟩ ?_
                cases h
                exact xEvG_ret xml xfetch rfl
              refine xEvG_n xml xfetch 1 (y := (116, if (fQ_is a0 240023 m3) = 0 then 116 else 112, [some (13, a0), some (0, (xw32 (4 * (xw32 (32 + v1))))), some (0, v2), some (0, (fQ_is a0 240023 m3))], [(0, (xw32 ((xw32 (4 * (xw32 (32 + v1)))) + 1))), (37, (a0 + 10))], (xwr m23 (a0 + 10) (xw32 (4 * (xw32 (32 + v1)))) v2))) rfl trivial ?_
              refine xEvG_br xml xfetch (fun c14_ => ?_) (fun c14_ => ?_)
              · refine xEvG_n xml xfetch 1 (y := (116, 117, [some (13, a0), some (0, (xw32 (4 * (xw32 (32 + v1))))), some (0, v2), some (0, (fQ_is a0 240023 m3))], [(0, 1), (0, (xw32 ((xw32 (4 * (xw32 (32 + v1)))) + 1))), (37, (a0 + 10))], (xwr m23 (a0 + 10) (xw32 (4 * (xw32 (32 + v1)))) v2))) rfl trivial ?_
                try simp only [if_pos c14_] at key_
                try simp only [if_pos c14_]
                exact key_
              · refine xEvG_n xml xfetch 2 (y := (116, 117, [some (13, a0), some (0, (xw32 (4 * (xw32 (32 + v1))))), some (0, v2), some (0, (fQ_is a0 240023 m3))], [(0, 0), (0, (xw32 ((xw32 (4 * (xw32 (32 + v1)))) + 1))), (37, (a0 + 10))], (xwr m23 (a0 + 10) (xw32 (4 * (xw32 (32 + v1)))) v2))) rfl trivial ?_
                try simp only [if_neg c14_] at key_
                try simp only [if_neg c14_]
                exact key_
            · have h := xif_f c_ h
              cases h
              exact xEvG_ret xml xfetch rfl
          · have h := xif_f c_ h
            refine xEvG_n xml xfetch 3 (y := (116, if (m3 a0 12) = 0 then 90 else 89, [some (13, a0), some (0, (xw32 (4 * (xw32 (32 + v1))))), some (0, v2), some (0, (fQ_is a0 240023 m3))], [], m3)) rfl trivial ?_
            refine xEvG_br xml xfetch (fun c_ => ?_) (fun c_ => ?_)
            · have h := xif_t c_ h
              refine xEvG_n xml xfetch 1 (y := (116, 91, [some (13, a0), some (0, (xw32 (4 * (xw32 (32 + v1))))), some (0, v2), some (0, (fQ_is a0 240023 m3))], [(13, a0)], m3)) rfl trivial ?_
              obtain ⟨m27, e_, h⟩ := xB_t h
              refine xEvG_call xml xfetch (q := (none, m27)) rfl (hQ_next a0 m3 _ e_) ?_
              show xEv (116, 94, [some (13, a0), some (0, (xw32 (4 * (xw32 (32 + v1))))), some (0, v2), some (0, (fQ_is a0 240023 m3))], [], m27) _
              have a0_ := (xA_t h).1
              have h := (xA_t h).2
              refine xEvG_n xml xfetch 11 (y := (116, 109, [some (13, a0), some (0, (xw32 (4 * (xw32 (32 + v1))))), some (0, v2), some (0, (fQ_is a0 240023 m3))], [(0, (fQ_is a0 240023 m3)), (0, (xw32 ((xw32 (4 * (xw32 (32 + v1)))) + 1))), (37, (a0 + 10))], (xwr m27 (a0 + 10) (xw32 (4 * (xw32 (32 + v1)))) v2))) rfl ⟨a0_, trivial⟩ ?_
              have key_ : xEv (116, 117, [some (13, a0), some (0, (xw32 (4 * (xw32 (32 + v1))))), some (0, v2), some (0, (fQ_is a0 240023 m3))], [(0, (if (fQ_is a0 240023 m3) = 0 then 1 else 0 : Int)), (0, (xw32 ((xw32 (4 * (xw32 (32 + v1)))) + 1))), (37, (a0 + 10))], (xwr m27 (a0 + 10) (xw32 (4 * (xw32 (32 + v1)))) v2)) (none, r) := by
                have a0_ := (xA_t h).1
                have h := (xA_t h).2
                refine xEvG_n xml xfetch 9 (y := (116, 129, [some (13, a0), some (0, (xw32 (4 * (xw32 (32 + v1))))), some (0, v2), some (0, (fQ_is a0 240023 m3))], [(0, 9), (0, 1), (13, a0), (0, (xw32 ((xw32 (4 * (xw32 (32 + v1)))) + 2))), (37, (a0 + 10))], (xwr (xwr m27 (a0 + 10) (xw32 (4 * (xw32 (32 + v1)))) v2) (a0 + 10) (xw32 ((xw32 (4 * (xw32 (32 + v1)))) + 1)) (if (fQ_is a0 240023 m3) = 0 then 1 else 0 : Int)))) rfl ⟨a0_, trivial⟩ ?_
                obtain ⟨⟨v28, m28⟩, e_, h⟩ := xB_t h
                refine xEvG_call xml xfetch (q := (some (0, v28), m28)) rfl (hQ_number2 a0 1 9 (xwr (xwr m27 (a0 + 10) (xw32 (4 * (xw32 (32 + v1)))) v2) (a0 + 10) (xw32 ((xw32 (4 * (xw32 (32 + v1)))) + 1)) (if (fQ_is a0 240023 m3) = 0 then 1 else 0 : Int)) _ e_) ?_
                show xEv (116, 132, [some (13, a0), some (0, (xw32 (4 * (xw32 (32 + v1))))), some (0, v2), some (0, (fQ_is a0 240023 m3))], [(0, v28), (0, (xw32 ((xw32 (4 * (xw32 (32 + v1)))) + 2))), (37, (a0 + 10))], m28) _
                have a0_ := (xA_t h).1
                have h := (xA_t h).2
                refine xEvG_n xml xfetch 11 (y := (116, 147, [some (13, a0), some (0, (xw32 (4 * (xw32 (32 + v1))))), some (0, v2), some (0, (fQ_is a0 240023 m3))], [(0, 1), (13, a0), (0, 0), (1, 257), (13, a0), (0, (xw32 ((xw32 (4 * (xw32 (32 + v1)))) + 3))), (37, (a0 + 10))], (xwr m28 (a0 + 10) (xw32 ((xw32 (4 * (xw32 (32 + v1)))) + 2)) v28))) rfl ⟨a0_, trivial⟩ ?_
                obtain ⟨v29, e_, h⟩ := xB_t h
                refine xEvG_call xml xfetch (q := (some (0, v29), (xwr m28 (a0 + 10) (xw32 ((xw32 (4 * (xw32 (32 + v1)))) + 2)) v28))) rfl (hQ_hasRead a0 1 (xwr m28 (a0 + 10) (xw32 ((xw32 (4 * (xw32 (32 + v1)))) + 2)) v28) _ e_) ?_
                show xEv (116, 150, [some (13, a0), some (0, (xw32 (4 * (xw32 (32 + v1))))), some (0, v2), some (0, (fQ_is a0 240023 m3))], [(0, v29), (0, 0), (1, 257), (13, a0), (0, (xw32 ((xw32 (4 * (xw32 (32 + v1)))) + 3))), (37, (a0 + 10))], (xwr m28 (a0 + 10) (xw32 ((xw32 (4 * (xw32 (32 + v1)))) + 2)) v28)) _
                refine xEvG_n xml xfetch 2 (y := (116, 152, [some (13, a0), some (0, (xw32 (4 * (xw32 (32 + v1))))), some (0, v2), some (0, (fQ_is a0 240023 m3))], [(0, (xw32 (v29 - 1))), (0, 0), (1, 257), (13, a0), (0, (xw32 ((xw32 (4 * (xw32 (32 + v1)))) + 3))), (37, (a0 + 10))], (xwr m28 (a0 + 10) (xw32 ((xw32 (4 * (xw32 (32 + v1)))) + 2)) v28))) rfl trivial ?_
                obtain ⟨⟨v30, m30⟩, e_, h⟩ := xB_t h
                refine xEvG_call xml xfetch (q := (some (0, v30), m30)) rfl (hQ_number3 a0 257 0 (xw32 (v29 - 1)) (xwr m28 (a0 + 10) (xw32 ((xw32 (4 * (xw32 (32 + v1)))) + 2)) v28) _ e_) ?_
                show xEv (116, 155, [some (13, a0), some (0, (xw32 (4 * (xw32 (32 + v1))))), some (0, v2), some (0, (fQ_is a0 240023 m3))], [(0, v30), (0, (xw32 ((xw32 (4 * (xw32 (32 + v1)))) + 3))), (37, (a0 + 10))], m30) _
                have a0_ := (xA_t h).1
                have h := (xA_t h).2
                refine xEvG_n xml xfetch 9 (y := (116, 167, [some (13, a0), some (0, (xw32 (4 * (xw32 (32 + v1))))), some (0, v2), some (0, (fQ_is a0 240023 m3))], [], (xwr (xwr m30 (a0 + 10) (xw32 ((xw32 (4 * (xw32 (32 + v1)))) + 3)) v30) (a0 + 7) 34 (xw32 (((xwr m30 (a0 + 10) (xw32 ((xw32 (4 * (xw32 (32 + v1)))) + 3)) v30) (a0 + 7) 34) + 1))))) rfl ⟨a0_, by decide, by decide, trivial⟩ ?_
                cases h
                exact xEvG_ret xml xfetch rfl
              refine xEvG_n xml xfetch 1 (y := (116, if (fQ_is a0 240023 m3) = 0 then 116 else 112, [some (13, a0), some (0, (xw32 (4 * (xw32 (32 + v1))))), some (0, v2), some (0, (fQ_is a0 240023 m3))], [(0, (xw32 ((xw32 (4 * (xw32 (32 + v1)))) + 1))), (37, (a0 + 10))], (xwr m27 (a0 + 10) (xw32 (4 * (xw32 (32 + v1)))) v2))) rfl trivial ?_
              refine xEvG_br xml xfetch (fun c14_ => ?_) (fun c14_ => ?_)
              · refine xEvG_n xml xfetch 1 (y := (116, 117, [some (13, a0), some (0, (xw32 (4 * (xw32 (32 + v1))))), some (0, v2), some (0, (fQ_is a0 240023 m3))], [(0, 1), (0, (xw32 ((xw32 (4 * (xw32 (32 + v1)))) + 1))), (37, (a0 + 10))], (xwr m27 (a0 + 10) (xw32 (4 * (xw32 (32 + v1)))) v2))) rfl trivial ?_
                try simp only [if_pos c14_] at key_
                try simp only [if_pos c14_]
                exact key_
              · refine xEvG_n xml xfetch 2 (y := (116, 117, [some (13, a0), some (0, (xw32 (4 * (xw32 (32 + v1))))), some (0, v2), some (0, (fQ_is a0 240023 m3))], [(0, 0), (0, (xw32 ((xw32 (4 * (xw32 (32 + v1)))) + 1))), (37, (a0 + 10))], (xwr m27 (a0 + 10) (xw32 (4 * (xw32 (32 + v1)))) v2))) rfl trivial ?_
                try simp only [if_neg c14_] at key_
                try simp only [if_neg c14_]
                exact key_
            · have h := xif_f c_ h
              cases h
              exact xEvG_ret xml xfetch rfl
        refine xEvG_n xml xfetch 1 (y := (116, if (fQ_is a0 240023 m3) = 0 then 69 else 65, [some (13, a0), some (0, (xw32 (4 * (xw32 (32 + v1))))), some (0, v2), some (0, (fQ_is a0 240023 m3))], [(0, v2), (0, 4), (13, a0)], m3)) rfl trivial ?_
        refine xEvG_br xml xfetch (fun c8_ => ?_) (fun c8_ => ?_)
        · refine xEvG_n xml xfetch 1 (y := (116, 70, [some (13, a0), some (0, (xw32 (4 * (xw32 (32 + v1))))), some (0, v2), some (0, (fQ_is a0 240023 m3))], [(0, 1), (0, v2), (0, 4), (13, a0)], m3)) rfl trivial ?_
          try simp only [if_pos c8_] at key_
          try simp only [if_pos c8_]
          exact key_
        · refine xEvG_n xml xfetch 2 (y := (116, 70, [some (13, a0), some (0, (xw32 (4 * (xw32 (32 + v1))))), some (0, v2), some (0, (fQ_is a0 240023 m3))], [(0, 0), (0, v2), (0, 4), (13, a0)], m3)) rfl trivial ?_
          try simp only [if_neg c8_] at key_
          try simp only [if_neg c8_]
          exact key_
      · have h := xif_f c_ h
        refine xEvG_n xml xfetch 3 (y := (116, if (m3 a0 12) = 0 then 90 else 89, [some (13, a0), some (0, (xw32 (4 * (xw32 (32 + v1))))), some (0, v2), some (0, (fQ_is a0 240023 m3))], [], m3)) rfl trivial ?_
        refine xEvG_br xml xfetch (fun c_ => ?_) (fun c_ => ?_)
        · have h := xif_t c_ h
          refine xEvG_n xml xfetch 1 (y := (116, 91, [some (13, a0), some (0, (xw32 (4 * (xw32 (32 + v1))))), some (0, v2), some (0, (fQ_is a0 240023 m3))], [(13, a0)], m3)) rfl trivial ?_
          obtain ⟨m31, e_, h⟩ := xB_t h
          refine xEvG_call xml xfetch (q := (none, m31)) rfl (hQ_next a0 m3 _ e_) ?_
          show xEv (116, 94, [some (13, a0), some (0, (xw32 (4 * (xw32 (32 + v1))))), some (0, v2), some (0, (fQ_is a0 240023 m3))], [], m31) _
          have a0_ := (xA_t h).1
          have h := (xA_t h).2
          refine xEvG_n xml xfetch 11 (y := (116, 109, [some (13, a0), some (0, (xw32 (4 * (xw32 (32 + v1))))), some (0, v2), some (0, (fQ_is a0 240023 m3))], [(0, (fQ_is a0 240023 m3)), (0, (xw32 ((xw32 (4 * (xw32 (32 + v1)))) + 1))), (37, (a0 + 10))], (xwr m31 (a0 + 10) (xw32 (4 * (xw32 (32 + v1)))) v2))) rfl ⟨a0_, trivial⟩ ?_
          have key_ : xEv (116, 117, [some (13, a0), some (0, (xw32 (4 * (xw32 (32 + v1))))), some (0, v2), some (0, (fQ_is a0 240023 m3))], [(0, (if (fQ_is a0 240023 m3) = 0 then 1 else 0 : Int)), (0, (xw32 ((xw32 (4 * (xw32 (32 + v1)))) + 1))), (37, (a0 + 10))], (xwr m31 (a0 + 10) (xw32 (4 * (xw32 (32 + v1)))) v2)) (none, r) := by
            have a0_ := (xA_t h).1
            have h := (xA_t h).2
            refine xEvG_n xml xfetch 9 (y := (116, 129, [some (13, a0), some (0, (xw32 (4 * (xw32 (32 + v1))))), some (0, v2), some (0, (fQ_is a0 240023 m3))], [(0, 9), (0, 1), (13, a0), (0, (xw32 ((xw32 (4 * (xw32 (32 + v1)))) + 2))), (37, (a0 + 10))], (xwr (xwr m31 (a0 + 10) (xw32 (4 * (xw32 (32 + v1)))) v2) (a0 + 10) (xw32 ((xw32 (4 * (xw32 (32 + v1)))) + 1)) (if (fQ_is a0 240023 m3) = 0 then 1 else 0 : Int)))) rfl ⟨a0_, trivial⟩ ?_
            obtain ⟨⟨v32, m32⟩, e_, h⟩ := xB_t h
            refine xEvG_call xml xfetch (q := (some (0, v32), m32)) rfl (hQ_number2 a0 1 9 (xwr (xwr m31 (a0 + 10) (xw32 (4 * (xw32 (32 + v1)))) v2) (a0 + 10) (xw32 ((xw32 (4 * (xw32 (32 + v1)))) + 1)) (if (fQ_is a0 240023 m3) = 0 then 1 else 0 : Int)) _ e_) ?_
            show xEv (116, 132, [some (13, a0), some (0, (xw32 (4 * (xw32 (32 + v1))))), some (0, v2), some (0, (fQ_is a0 240023 m3))], [(0, v32), (0, (xw32 ((xw32 (4 * (xw32 (32 + v1)))) + 2))), (37, (a0 + 10))], m32) _
            have a0_ := (xA_t h).1
            have h := (xA_t h).2
            refine xEvG_n xml xfetch 11 (y := (116, 147, [some (13, a0), some (0, (xw32 (4 * (xw32 (32 + v1))))), some (0, v2), some (0, (fQ_is a0 240023 m3))], [(0, 1), (13, a0), (0, 0), (1, 257), (13, a0), (0, (xw32 ((xw32 (4 * (xw32 (32 + v1)))) + 3))), (37, (a0 + 10))], (xwr m32 (a0 + 10) (xw32 ((xw32 (4 * (xw32 (32 + v1)))) + 2)) v32))) rfl ⟨a0_, trivial⟩ ?_
            obtain ⟨v33, e_, h⟩ := xB_t h
            refine xEvG_call xml xfetch (q := (some (0, v33), (xwr m32 (a0 + 10) (xw32 ((xw32 (4 * (xw32 (32 + v1)))) + 2)) v32))) rfl (hQ_hasRead a0 1 (xwr m32 (a0 + 10) (xw32 ((xw32 (4 * (xw32 (32 + v1)))) + 2)) v32) _ e_) ?_
            show xEv (116, 150, [some (13, a0), some (0, (xw32 (4 * (xw32 (32 + v1))))), some (0, v2), some (0, (fQ_is a0 240023 m3))], [(0, v33), (0, 0), (1, 257), (13, a0), (0, (xw32 ((xw32 (4 * (xw32 (32 + v1)))) + 3))), (37, (a0 + 10))], (xwr m32 (a0 + 10) (xw32 ((xw32 (4 * (xw32 (32 + v1)))) + 2)) v32)) _
            refine xEvG_n xml xfetch 2 (y := (116, 152, [some (13, a0), some (0, (xw32 (4 * (xw32 (32 + v1))))), some (0, v2), some (0, (fQ_is a0 240023 m3))], [(0, (xw32 (v33 - 1))), (0, 0), (1, 257), (13, a0), (0, (xw32 ((xw32 (4 * (xw32 (32 + v1)))) + 3))), (37, (a0 + 10))], (xwr m32 (a0 + 10) (xw32 ((xw32 (4 * (xw32 (32 + v1)))) + 2)) v32))) rfl trivial ?_
            obtain ⟨⟨v34, m34⟩, e_, h⟩ := xB_t h
            refine xEvG_call xml xfetch (q := (some (0, v34), m34)) rfl (hQ_number3 a0 257 0 (xw32 (v33 - 1)) (xwr m32 (a0 + 10) (xw32 ((xw32 (4 * (xw32 (32 + v1)))) + 2)) v32) _ e_) ?_
            show xEv (116, 155, [some (13, a0), some (0, (xw32 (4 * (xw32 (32 + v1))))), some (0, v2), some (0, (fQ_is a0 240023 m3))], [(0, v34), (0, (xw32 ((xw32 (4 * (xw32 (32 + v1)))) + 3))), (37, (a0 + 10))], m34) _
            have a0_ := (xA_t h).1
            have h := (xA_t h).2
            refine xEvG_n xml xfetch 9 (y := (116, 167, [some (13, a0), some (0, (xw32 (4 * (xw32 (32 + v1))))), some (0, v2), some (0, (fQ_is a0 240023 m3))], [], (xwr (xwr m34 (a0 + 10) (xw32 ((xw32 (4 * (xw32 (32 + v1)))) + 3)) v34) (a0 + 7) 34 (xw32 (((xwr m34 (a0 + 10) (xw32 ((xw32 (4 * (xw32 (32 + v1)))) + 3)) v34) (a0 + 7) 34) + 1))))) rfl ⟨a0_, by decide, by decide, trivial⟩ ?_
            cases h
            exact xEvG_ret xml xfetch rfl
          refine xEvG_n xml xfetch 1 (y := (116, if (fQ_is a0 240023 m3) = 0 then 116 else 112, [some (13, a0), some (0, (xw32 (4 * (xw32 (32 + v1))))), some (0, v2), some (0, (fQ_is a0 240023 m3))], [(0, (xw32 ((xw32 (4 * (xw32 (32 + v1)))) + 1))), (37, (a0 + 10))], (xwr m31 (a0 + 10) (xw32 (4 * (xw32 (32 + v1)))) v2))) rfl trivial ?_
          refine xEvG_br xml xfetch (fun c10_ => ?_) (fun c10_ => ?_)
          · refine xEvG_n xml xfetch 1 (y := (116, 117, [some (13, a0), some (0, (xw32 (4 * (xw32 (32 + v1))))), some (0, v2), some (0, (fQ_is a0 240023 m3))], [(0, 1), (0, (xw32 ((xw32 (4 * (xw32 (32 + v1)))) + 1))), (37, (a0 + 10))], (xwr m31 (a0 + 10) (xw32 (4 * (xw32 (32 + v1)))) v2))) rfl trivial ?_
            try simp only [if_pos c10_] at key_
            try simp only [if_pos c10_]
            exact key_
          · refine xEvG_n xml xfetch 2 (y := (116, 117, [some (13, a0), some (0, (xw32 (4 * (xw32 (32 + v1))))), some (0, v2), some (0, (fQ_is a0 240023 m3))], [(0, 0), (0, (xw32 ((xw32 (4 * (xw32 (32 + v1)))) + 1))), (37, (a0 + 10))], (xwr m31 (a0 + 10) (xw32 (4 * (xw32 (32 + v1)))) v2))) rfl trivial ?_
            try simp only [if_neg c10_] at key_
            try simp only [if_neg c10_]
            exact key_
        · have h := xif_f c_ h
          cases h
          exact xEvG_ret xml xfetch rfl
  · have h := xif_f c_ h
    refine xEvG_n xml xfetch 3 (y := (116, if (m3 a0 12) = 0 then 58 else 82, [some (13, a0), some (0, (xw32 (4 * (xw32 (32 + v1))))), some (0, v2), some (0, (fQ_is a0 240023 m3))], [], m3)) rfl trivial ?_
    refine xEvG_br xml xfetch (fun c_ => ?_) (fun c_ => ?_)
    · have h := xif_t c_ h
      refine xEvG_n xml xfetch 4 (y := (116, 62, [some (13, a0), some (0, (xw32 (4 * (xw32 (32 + v1))))), some (0, v2), some (0, (fQ_is a0 240023 m3))], [(0, (fQ_is a0 240023 m3)), (0, v2), (0, 4), (13, a0)], m3)) rfl trivial ?_
      have key_ : xEv (116, 70, [some (13, a0), some (0, (xw32 (4 * (xw32 (32 + v1))))), some (0, v2), some (0, (fQ_is a0 240023 m3))], [(0, (if (fQ_is a0 240023 m3) = 0 then 1 else 0 : Int)), (0, v2), (0, 4), (13, a0)], m3) (none, r) := by
        obtain ⟨v35, e_, h⟩ := xB_t h
        refine xEvG_call xml xfetch (q := (some (0, v35), m3)) rfl (hQ_besideIn a0 4 v2 (if (fQ_is a0 240023 m3) = 0 then 1 else 0 : Int) m3 _ e_) ?_
        show xEv (116, 73, [some (13, a0), some (0, (xw32 (4 * (xw32 (32 + v1))))), some (0, v2), some (0, (fQ_is a0 240023 m3))], [(0, v35)], m3) _
        refine xEvG_n xml xfetch 2 (y := (116, if v35 = (-1) then 77 else 82, [some (13, a0), some (0, (xw32 (4 * (xw32 (32 + v1))))), some (0, v2), some (0, (fQ_is a0 240023 m3))], [], m3)) rfl trivial ?_
        refine xEvG_br xml xfetch (fun c_ => ?_) (fun c_ => ?_)
        · have h := xif_t c_ h
          refine xEvG_n xml xfetch 2 (y := (116, 79, [some (13, a0), some (0, (xw32 (4 * (xw32 (32 + v1))))), some (0, v2), some (0, (fQ_is a0 240023 m3))], [(0, 2), (13, a0)], m3)) rfl trivial ?_
          refine xEvG_call xml xfetch (q := (none, fQ_fails a0 2 m3)) rfl (hQ_fails a0 2 m3 _ rfl) ?_
          show xEv (116, 82, [some (13, a0), some (0, (xw32 (4 * (xw32 (32 + v1))))), some (0, v2), some (0, (fQ_is a0 240023 m3))], [], (fQ_fails a0 2 m3)) _
          refine xEvG_n xml xfetch 3 (y := (116, if ((fQ_fails a0 2 m3) a0 12) = 0 then 90 else 89, [some (13, a0), some (0, (xw32 (4 * (xw32 (32 + v1))))), some (0, v2), some (0, (fQ_is a0 240023 m3))], [], (fQ_fails a0 2 m3))) rfl trivial ?_
          refine xEvG_br xml xfetch (fun c_ => ?_) (fun c_ => ?_)
          · have h := xif_t c_ h
            refine xEvG_n xml xfetch 1 (y := (116, 91, [some (13, a0), some (0, (xw32 (4 * (xw32 (32 + v1))))), some (0, v2), some (0, (fQ_is a0 240023 m3))], [(13, a0)], (fQ_fails a0 2 m3))) rfl trivial ?_
            obtain ⟨m37, e_, h⟩ := xB_t h
            refine xEvG_call xml xfetch (q := (none, m37)) rfl (hQ_next a0 (fQ_fails a0 2 m3) _ e_) ?_
            show xEv (116, 94, [some (13, a0), some (0, (xw32 (4 * (xw32 (32 + v1))))), some (0, v2), some (0, (fQ_is a0 240023 m3))], [], m37) _
            have a0_ := (xA_t h).1
            have h := (xA_t h).2
            refine xEvG_n xml xfetch 11 (y := (116, 109, [some (13, a0), some (0, (xw32 (4 * (xw32 (32 + v1))))), some (0, v2), some (0, (fQ_is a0 240023 m3))], [(0, (fQ_is a0 240023 m3)), (0, (xw32 ((xw32 (4 * (xw32 (32 + v1)))) + 1))), (37, (a0 + 10))], (xwr m37 (a0 + 10) (xw32 (4 * (xw32 (32 + v1)))) v2))) rfl ⟨a0_, trivial⟩ ?_
            have key_ : xEv (116, 117, [some (13, a0), some (0, (xw32 (4 * (xw32 (32 + v1))))), some (0, v2), some (0, (fQ_is a0 240023 m3))], [(0, (if (fQ_is a0 240023 m3) = 0 then 1 else 0 : Int)), (0, (xw32 ((xw32 (4 * (xw32 (32 + v1)))) + 1))), (37, (a0 + 10))], (xwr m37 (a0 + 10) (xw32 (4 * (xw32 (32 + v1)))) v2)) (none, r) := by
              have a0_ := (xA_t h).1
              have h := (xA_t h).2
              refine xEvG_n xml xfetch 9 (y := (116, 129, [some (13, a0), some (0, (xw32 (4 * (xw32 (32 + v1))))), some (0, v2), some (0, (fQ_is a0 240023 m3))], [(0, 9), (0, 1), (13, a0), (0, (xw32 ((xw32 (4 * (xw32 (32 + v1)))) + 2))), (37, (a0 + 10))], (xwr (xwr m37 (a0 + 10) (xw32 (4 * (xw32 (32 + v1)))) v2) (a0 + 10) (xw32 ((xw32 (4 * (xw32 (32 + v1)))) + 1)) (if (fQ_is a0 240023 m3) = 0 then 1 else 0 : Int)))) rfl ⟨a0_, trivial⟩ ?_
              obtain ⟨⟨v38, m38⟩, e_, h⟩ := xB_t h
              refine xEvG_call xml xfetch (q := (some (0, v38), m38)) rfl (hQ_number2 a0 1 9 (xwr (xwr m37 (a0 + 10) (xw32 (4 * (xw32 (32 + v1)))) v2) (a0 + 10) (xw32 ((xw32 (4 * (xw32 (32 + v1)))) + 1)) (if (fQ_is a0 240023 m3) = 0 then 1 else 0 : Int)) _ e_) ?_
              show xEv (116, 132, [some (13, a0), some (0, (xw32 (4 * (xw32 (32 + v1))))), some (0, v2), some (0, (fQ_is a0 240023 m3))], [(0, v38), (0, (xw32 ((xw32 (4 * (xw32 (32 + v1)))) + 2))), (37, (a0 + 10))], m38) _
              have a0_ := (xA_t h).1
              have h := (xA_t h).2
              refine xEvG_n xml xfetch 11 (y := (116, 147, [some (13, a0), some (0, (xw32 (4 * (xw32 (32 + v1))))), some (0, v2), some (0, (fQ_is a0 240023 m3))], [(0, 1), (13, a0), (0, 0), (1, 257), (13, a0), (0, (xw32 ((xw32 (4 * (xw32 (32 + v1)))) + 3))), (37, (a0 + 10))], (xwr m38 (a0 + 10) (xw32 ((xw32 (4 * (xw32 (32 + v1)))) + 2)) v38))) rfl ⟨a0_, trivial⟩ ?_
              obtain ⟨v39, e_, h⟩ := xB_t h
              refine xEvG_call xml xfetch (q := (some (0, v39), (xwr m38 (a0 + 10) (xw32 ((xw32 (4 * (xw32 (32 + v1)))) + 2)) v38))) rfl (hQ_hasRead a0 1 (xwr m38 (a0 + 10) (xw32 ((xw32 (4 * (xw32 (32 + v1)))) + 2)) v38) _ e_) ?_
              show xEv (116, 150, [some (13, a0), some (0, (xw32 (4 * (xw32 (32 + v1))))), some (0, v2), some (0, (fQ_is a0 240023 m3))], [(0, v39), (0, 0), (1, 257), (13, a0), (0, (xw32 ((xw32 (4 * (xw32 (32 + v1)))) + 3))), (37, (a0 + 10))], (xwr m38 (a0 + 10) (xw32 ((xw32 (4 * (xw32 (32 + v1)))) + 2)) v38)) _
              refine xEvG_n xml xfetch 2 (y := (116, 152, [some (13, a0), some (0, (xw32 (4 * (xw32 (32 + v1))))), some (0, v2), some (0, (fQ_is a0 240023 m3))], [(0, (xw32 (v39 - 1))), (0, 0), (1, 257), (13, a0), (0, (xw32 ((xw32 (4 * (xw32 (32 + v1)))) + 3))), (37, (a0 + 10))], (xwr m38 (a0 + 10) (xw32 ((xw32 (4 * (xw32 (32 + v1)))) + 2)) v38))) rfl trivial ?_
              obtain ⟨⟨v40, m40⟩, e_, h⟩ := xB_t h
              refine xEvG_call xml xfetch (q := (some (0, v40), m40)) rfl (hQ_number3 a0 257 0 (xw32 (v39 - 1)) (xwr m38 (a0 + 10) (xw32 ((xw32 (4 * (xw32 (32 + v1)))) + 2)) v38) _ e_) ?_
              show xEv (116, 155, [some (13, a0), some (0, (xw32 (4 * (xw32 (32 + v1))))), some (0, v2), some (0, (fQ_is a0 240023 m3))], [(0, v40), (0, (xw32 ((xw32 (4 * (xw32 (32 + v1)))) + 3))), (37, (a0 + 10))], m40) _
              have a0_ := (xA_t h).1
              have h := (xA_t h).2
              refine xEvG_n xml xfetch 9 (y := (116, 167, [some (13, a0), some (0, (xw32 (4 * (xw32 (32 + v1))))), some (0, v2), some (0, (fQ_is a0 240023 m3))], [], (xwr (xwr m40 (a0 + 10) (xw32 ((xw32 (4 * (xw32 (32 + v1)))) + 3)) v40) (a0 + 7) 34 (xw32 (((xwr m40 (a0 + 10) (xw32 ((xw32 (4 * (xw32 (32 + v1)))) + 3)) v40) (a0 + 7) 34) + 1))))) rfl ⟨a0_, by decide, by decide, trivial⟩ ?_
              cases h
              exact xEvG_ret xml xfetch rfl
            refine xEvG_n xml xfetch 1 (y := (116, if (fQ_is a0 240023 m3) = 0 then 116 else 112, [some (13, a0), some (0, (xw32 (4 * (xw32 (32 + v1))))), some (0, v2), some (0, (fQ_is a0 240023 m3))], [(0, (xw32 ((xw32 (4 * (xw32 (32 + v1)))) + 1))), (37, (a0 + 10))], (xwr m37 (a0 + 10) (xw32 (4 * (xw32 (32 + v1)))) v2))) rfl trivial ?_
            refine xEvG_br xml xfetch (fun c12_ => ?_) (fun c12_ => ?_)
            · refine xEvG_n xml xfetch 1 (y := (116, 117, [some (13, a0), some (0, (xw32 (4 * (xw32 (32 + v1))))), some (0, v2), some (0, (fQ_is a0 240023 m3))], [(0, 1), (0, (xw32 ((xw32 (4 * (xw32 (32 + v1)))) + 1))), (37, (a0 + 10))], (xwr m37 (a0 + 10) (xw32 (4 * (xw32 (32 + v1)))) v2))) rfl trivial ?_
              try simp only [if_pos c12_] at key_
              try simp only [if_pos c12_]
              exact key_
            · refine xEvG_n xml xfetch 2 (y := (116, 117, [some (13, a0), some (0, (xw32 (4 * (xw32 (32 + v1))))), some (0, v2), some (0, (fQ_is a0 240023 m3))], [(0, 0), (0, (xw32 ((xw32 (4 * (xw32 (32 + v1)))) + 1))), (37, (a0 + 10))], (xwr m37 (a0 + 10) (xw32 (4 * (xw32 (32 + v1)))) v2))) rfl trivial ?_
              try simp only [if_neg c12_] at key_
              try simp only [if_neg c12_]
              exact key_
          · have h := xif_f c_ h
            cases h
            exact xEvG_ret xml xfetch rfl
        · have h := xif_f c_ h
          refine xEvG_n xml xfetch 3 (y := (116, if (m3 a0 12) = 0 then 90 else 89, [some (13, a0), some (0, (xw32 (4 * (xw32 (32 + v1))))), some (0, v2), some (0, (fQ_is a0 240023 m3))], [], m3)) rfl trivial ?_
          refine xEvG_br xml xfetch (fun c_ => ?_) (fun c_ => ?_)
          · have h := xif_t c_ h
            refine xEvG_n xml xfetch 1 (y := (116, 91, [some (13, a0), some (0, (xw32 (4 * (xw32 (32 + v1))))), some (0, v2), some (0, (fQ_is a0 240023 m3))], [(13, a0)], m3)) rfl trivial ?_
            obtain ⟨m41, e_, h⟩ := xB_t h
            refine xEvG_call xml xfetch (q := (none, m41)) rfl (hQ_next a0 m3 _ e_) ?_
            show xEv (116, 94, [some (13, a0), some (0, (xw32 (4 * (xw32 (32 + v1))))), some (0, v2), some (0, (fQ_is a0 240023 m3))], [], m41) _
            have a0_ := (xA_t h).1
            have h := (xA_t h).2
            refine xEvG_n xml xfetch 11 (y := (116, 109, [some (13, a0), some (0, (xw32 (4 * (xw32 (32 + v1))))), some (0, v2), some (0, (fQ_is a0 240023 m3))], [(0, (fQ_is a0 240023 m3)), (0, (xw32 ((xw32 (4 * (xw32 (32 + v1)))) + 1))), (37, (a0 + 10))], (xwr m41 (a0 + 10) (xw32 (4 * (xw32 (32 + v1)))) v2))) rfl ⟨a0_, trivial⟩ ?_
            have key_ : xEv (116, 117, [some (13, a0), some (0, (xw32 (4 * (xw32 (32 + v1))))), some (0, v2), some (0, (fQ_is a0 240023 m3))], [(0, (if (fQ_is a0 240023 m3) = 0 then 1 else 0 : Int)), (0, (xw32 ((xw32 (4 * (xw32 (32 + v1)))) + 1))), (37, (a0 + 10))], (xwr m41 (a0 + 10) (xw32 (4 * (xw32 (32 + v1)))) v2)) (none, r) := by
              have a0_ := (xA_t h).1
              have h := (xA_t h).2
              refine xEvG_n xml xfetch 9 (y := (116, 129, [some (13, a0), some (0, (xw32 (4 * (xw32 (32 + v1))))), some (0, v2), some (0, (fQ_is a0 240023 m3))], [(0, 9), (0, 1), (13, a0), (0, (xw32 ((xw32 (4 * (xw32 (32 + v1)))) + 2))), (37, (a0 + 10))], (xwr (xwr m41 (a0 + 10) (xw32 (4 * (xw32 (32 + v1)))) v2) (a0 + 10) (xw32 ((xw32 (4 * (xw32 (32 + v1)))) + 1)) (if (fQ_is a0 240023 m3) = 0 then 1 else 0 : Int)))) rfl ⟨a0_, trivial⟩ ?_
              obtain ⟨⟨v42, m42⟩, e_, h⟩ := xB_t h
              refine xEvG_call xml xfetch (q := (some (0, v42), m42)) rfl (hQ_number2 a0 1 9 (xwr (xwr m41 (a0 + 10) (xw32 (4 * (xw32 (32 + v1)))) v2) (a0 + 10) (xw32 ((xw32 (4 * (xw32 (32 + v1)))) + 1)) (if (fQ_is a0 240023 m3) = 0 then 1 else 0 : Int)) _ e_) ?_
              show xEv (116, 132, [some (13, a0), some (0, (xw32 (4 * (xw32 (32 + v1))))), some (0, v2), some (0, (fQ_is a0 240023 m3))], [(0, v42), (0, (xw32 ((xw32 (4 * (xw32 (32 + v1)))) + 2))), (37, (a0 + 10))], m42) _
              have a0_ := (xA_t h).1
              have h := (xA_t h).2
              refine xEvG_n xml xfetch 11 (y := (116, 147, [some (13, a0), some (0, (xw32 (4 * (xw32 (32 + v1))))), some (0, v2), some (0, (fQ_is a0 240023 m3))], [(0, 1), (13, a0), (0, 0), (1, 257), (13, a0), (0, (xw32 ((xw32 (4 * (xw32 (32 + v1)))) + 3))), (37, (a0 + 10))], (xwr m42 (a0 + 10) (xw32 ((xw32 (4 * (xw32 (32 + v1)))) + 2)) v42))) rfl ⟨a0_, trivial⟩ ?_
              obtain ⟨v43, e_, h⟩ := xB_t h
              refine xEvG_call xml xfetch (q := (some (0, v43), (xwr m42 (a0 + 10) (xw32 ((xw32 (4 * (xw32 (32 + v1)))) + 2)) v42))) rfl (hQ_hasRead a0 1 (xwr m42 (a0 + 10) (xw32 ((xw32 (4 * (xw32 (32 + v1)))) + 2)) v42) _ e_) ?_
              show xEv (116, 150, [some (13, a0), some (0, (xw32 (4 * (xw32 (32 + v1))))), some (0, v2), some (0, (fQ_is a0 240023 m3))], [(0, v43), (0, 0), (1, 257), (13, a0), (0, (xw32 ((xw32 (4 * (xw32 (32 + v1)))) + 3))), (37, (a0 + 10))], (xwr m42 (a0 + 10) (xw32 ((xw32 (4 * (xw32 (32 + v1)))) + 2)) v42)) _
              refine xEvG_n xml xfetch 2 (y := (116, 152, [some (13, a0), some (0, (xw32 (4 * (xw32 (32 + v1))))), some (0, v2), some (0, (fQ_is a0 240023 m3))], [(0, (xw32 (v43 - 1))), (0, 0), (1, 257), (13, a0), (0, (xw32 ((xw32 (4 * (xw32 (32 + v1)))) + 3))), (37, (a0 + 10))], (xwr m42 (a0 + 10) (xw32 ((xw32 (4 * (xw32 (32 + v1)))) + 2)) v42))) rfl trivial ?_
              obtain ⟨⟨v44, m44⟩, e_, h⟩ := xB_t h
              refine xEvG_call xml xfetch (q := (some (0, v44), m44)) rfl (hQ_number3 a0 257 0 (xw32 (v43 - 1)) (xwr m42 (a0 + 10) (xw32 ((xw32 (4 * (xw32 (32 + v1)))) + 2)) v42) _ e_) ?_
              show xEv (116, 155, [some (13, a0), some (0, (xw32 (4 * (xw32 (32 + v1))))), some (0, v2), some (0, (fQ_is a0 240023 m3))], [(0, v44), (0, (xw32 ((xw32 (4 * (xw32 (32 + v1)))) + 3))), (37, (a0 + 10))], m44) _
              have a0_ := (xA_t h).1
              have h := (xA_t h).2
              refine xEvG_n xml xfetch 9 (y := (116, 167, [some (13, a0), some (0, (xw32 (4 * (xw32 (32 + v1))))), some (0, v2), some (0, (fQ_is a0 240023 m3))], [], (xwr (xwr m44 (a0 + 10) (xw32 ((xw32 (4 * (xw32 (32 + v1)))) + 3)) v44) (a0 + 7) 34 (xw32 (((xwr m44 (a0 + 10) (xw32 ((xw32 (4 * (xw32 (32 + v1)))) + 3)) v44) (a0 + 7) 34) + 1))))) rfl ⟨a0_, by decide, by decide, trivial⟩ ?_
              cases h
              exact xEvG_ret xml xfetch rfl
            refine xEvG_n xml xfetch 1 (y := (116, if (fQ_is a0 240023 m3) = 0 then 116 else 112, [some (13, a0), some (0, (xw32 (4 * (xw32 (32 + v1))))), some (0, v2), some (0, (fQ_is a0 240023 m3))], [(0, (xw32 ((xw32 (4 * (xw32 (32 + v1)))) + 1))), (37, (a0 + 10))], (xwr m41 (a0 + 10) (xw32 (4 * (xw32 (32 + v1)))) v2))) rfl trivial ?_
            refine xEvG_br xml xfetch (fun c12_ => ?_) (fun c12_ => ?_)
            · refine xEvG_n xml xfetch 1 (y := (116, 117, [some (13, a0), some (0, (xw32 (4 * (xw32 (32 + v1))))), some (0, v2), some (0, (fQ_is a0 240023 m3))], [(0, 1), (0, (xw32 ((xw32 (4 * (xw32 (32 + v1)))) + 1))), (37, (a0 + 10))], (xwr m41 (a0 + 10) (xw32 (4 * (xw32 (32 + v1)))) v2))) rfl trivial ?_
              try simp only [if_pos c12_] at key_
              try simp only [if_pos c12_]
              exact key_
            · refine xEvG_n xml xfetch 2 (y := (116, 117, [some (13, a0), some (0, (xw32 (4 * (xw32 (32 + v1))))), some (0, v2), some (0, (fQ_is a0 240023 m3))], [(0, 0), (0, (xw32 ((xw32 (4 * (xw32 (32 + v1)))) + 1))), (37, (a0 + 10))], (xwr m41 (a0 + 10) (xw32 (4 * (xw32 (32 + v1)))) v2))) rfl trivial ?_
              try simp only [if_neg c12_] at key_
              try simp only [if_neg c12_]
              exact key_
          · have h := xif_f c_ h
            cases h
            exact xEvG_ret xml xfetch rfl
      refine xEvG_n xml xfetch 1 (y := (116, if (fQ_is a0 240023 m3) = 0 then 69 else 65, [some (13, a0), some (0, (xw32 (4 * (xw32 (32 + v1))))), some (0, v2), some (0, (fQ_is a0 240023 m3))], [(0, v2), (0, 4), (13, a0)], m3)) rfl trivial ?_
      refine xEvG_br xml xfetch (fun c6_ => ?_) (fun c6_ => ?_)
      · refine xEvG_n xml xfetch 1 (y := (116, 70, [some (13, a0), some (0, (xw32 (4 * (xw32 (32 + v1))))), some (0, v2), some (0, (fQ_is a0 240023 m3))], [(0, 1), (0, v2), (0, 4), (13, a0)], m3)) rfl trivial ?_
        try simp only [if_pos c6_] at key_
        try simp only [if_pos c6_]
        exact key_
      · refine xEvG_n xml xfetch 2 (y := (116, 70, [some (13, a0), some (0, (xw32 (4 * (xw32 (32 + v1))))), some (0, v2), some (0, (fQ_is a0 240023 m3))], [(0, 0), (0, v2), (0, 4), (13, a0)], m3)) rfl trivial ?_
        try simp only [if_neg c6_] at key_
        try simp only [if_neg c6_]
        exact key_
    · have h := xif_f c_ h
      refine xEvG_n xml xfetch 3 (y := (116, if (m3 a0 12) = 0 then 90 else 89, [some (13, a0), some (0, (xw32 (4 * (xw32 (32 + v1))))), some (0, v2), some (0, (fQ_is a0 240023 m3))], [], m3)) rfl trivial ?_
      refine xEvG_br xml xfetch (fun c_ => ?_) (fun c_ => ?_)
      · have h := xif_t c_ h
        refine xEvG_n xml xfetch 1 (y := (116, 91, [some (13, a0), some (0, (xw32 (4 * (xw32 (32 + v1))))), some (0, v2), some (0, (fQ_is a0 240023 m3))], [(13, a0)], m3)) rfl trivial ?_
        obtain ⟨m45, e_, h⟩ := xB_t h
        refine xEvG_call xml xfetch (q := (none, m45)) rfl (hQ_next a0 m3 _ e_) ?_
        show xEv (116, 94, [some (13, a0), some (0, (xw32 (4 * (xw32 (32 + v1))))), some (0, v2), some (0, (fQ_is a0 240023 m3))], [], m45) _
        have a0_ := (xA_t h).1
        have h := (xA_t h).2
        refine xEvG_n xml xfetch 11 (y := (116, 109, [some (13, a0), some (0, (xw32 (4 * (xw32 (32 + v1))))), some (0, v2), some (0, (fQ_is a0 240023 m3))], [(0, (fQ_is a0 240023 m3)), (0, (xw32 ((xw32 (4 * (xw32 (32 + v1)))) + 1))), (37, (a0 + 10))], (xwr m45 (a0 + 10) (xw32 (4 * (xw32 (32 + v1)))) v2))) rfl ⟨a0_, trivial⟩ ?_
        have key_ : xEv (116, 117, [some (13, a0), some (0, (xw32 (4 * (xw32 (32 + v1))))), some (0, v2), some (0, (fQ_is a0 240023 m3))], [(0, (if (fQ_is a0 240023 m3) = 0 then 1 else 0 : Int)), (0, (xw32 ((xw32 (4 * (xw32 (32 + v1)))) + 1))), (37, (a0 + 10))], (xwr m45 (a0 + 10) (xw32 (4 * (xw32 (32 + v1)))) v2)) (none, r) := by
          have a0_ := (xA_t h).1
          have h := (xA_t h).2
          refine xEvG_n xml xfetch 9 (y := (116, 129, [some (13, a0), some (0, (xw32 (4 * (xw32 (32 + v1))))), some (0, v2), some (0, (fQ_is a0 240023 m3))], [(0, 9), (0, 1), (13, a0), (0, (xw32 ((xw32 (4 * (xw32 (32 + v1)))) + 2))), (37, (a0 + 10))], (xwr (xwr m45 (a0 + 10) (xw32 (4 * (xw32 (32 + v1)))) v2) (a0 + 10) (xw32 ((xw32 (4 * (xw32 (32 + v1)))) + 1)) (if (fQ_is a0 240023 m3) = 0 then 1 else 0 : Int)))) rfl ⟨a0_, trivial⟩ ?_
          obtain ⟨⟨v46, m46⟩, e_, h⟩ := xB_t h
          refine xEvG_call xml xfetch (q := (some (0, v46), m46)) rfl (hQ_number2 a0 1 9 (xwr (xwr m45 (a0 + 10) (xw32 (4 * (xw32 (32 + v1)))) v2) (a0 + 10) (xw32 ((xw32 (4 * (xw32 (32 + v1)))) + 1)) (if (fQ_is a0 240023 m3) = 0 then 1 else 0 : Int)) _ e_) ?_
          show xEv (116, 132, [some (13, a0), some (0, (xw32 (4 * (xw32 (32 + v1))))), some (0, v2), some (0, (fQ_is a0 240023 m3))], [(0, v46), (0, (xw32 ((xw32 (4 * (xw32 (32 + v1)))) + 2))), (37, (a0 + 10))], m46) _
          have a0_ := (xA_t h).1
          have h := (xA_t h).2
          refine xEvG_n xml xfetch 11 (y := (116, 147, [some (13, a0), some (0, (xw32 (4 * (xw32 (32 + v1))))), some (0, v2), some (0, (fQ_is a0 240023 m3))], [(0, 1), (13, a0), (0, 0), (1, 257), (13, a0), (0, (xw32 ((xw32 (4 * (xw32 (32 + v1)))) + 3))), (37, (a0 + 10))], (xwr m46 (a0 + 10) (xw32 ((xw32 (4 * (xw32 (32 + v1)))) + 2)) v46))) rfl ⟨a0_, trivial⟩ ?_
          obtain ⟨v47, e_, h⟩ := xB_t h
          refine xEvG_call xml xfetch (q := (some (0, v47), (xwr m46 (a0 + 10) (xw32 ((xw32 (4 * (xw32 (32 + v1)))) + 2)) v46))) rfl (hQ_hasRead a0 1 (xwr m46 (a0 + 10) (xw32 ((xw32 (4 * (xw32 (32 + v1)))) + 2)) v46) _ e_) ?_
          show xEv (116, 150, [some (13, a0), some (0, (xw32 (4 * (xw32 (32 + v1))))), some (0, v2), some (0, (fQ_is a0 240023 m3))], [(0, v47), (0, 0), (1, 257), (13, a0), (0, (xw32 ((xw32 (4 * (xw32 (32 + v1)))) + 3))), (37, (a0 + 10))], (xwr m46 (a0 + 10) (xw32 ((xw32 (4 * (xw32 (32 + v1)))) + 2)) v46)) _
          refine xEvG_n xml xfetch 2 (y := (116, 152, [some (13, a0), some (0, (xw32 (4 * (xw32 (32 + v1))))), some (0, v2), some (0, (fQ_is a0 240023 m3))], [(0, (xw32 (v47 - 1))), (0, 0), (1, 257), (13, a0), (0, (xw32 ((xw32 (4 * (xw32 (32 + v1)))) + 3))), (37, (a0 + 10))], (xwr m46 (a0 + 10) (xw32 ((xw32 (4 * (xw32 (32 + v1)))) + 2)) v46))) rfl trivial ?_
          obtain ⟨⟨v48, m48⟩, e_, h⟩ := xB_t h
          refine xEvG_call xml xfetch (q := (some (0, v48), m48)) rfl (hQ_number3 a0 257 0 (xw32 (v47 - 1)) (xwr m46 (a0 + 10) (xw32 ((xw32 (4 * (xw32 (32 + v1)))) + 2)) v46) _ e_) ?_
          show xEv (116, 155, [some (13, a0), some (0, (xw32 (4 * (xw32 (32 + v1))))), some (0, v2), some (0, (fQ_is a0 240023 m3))], [(0, v48), (0, (xw32 ((xw32 (4 * (xw32 (32 + v1)))) + 3))), (37, (a0 + 10))], m48) _
          have a0_ := (xA_t h).1
          have h := (xA_t h).2
          refine xEvG_n xml xfetch 9 (y := (116, 167, [some (13, a0), some (0, (xw32 (4 * (xw32 (32 + v1))))), some (0, v2), some (0, (fQ_is a0 240023 m3))], [], (xwr (xwr m48 (a0 + 10) (xw32 ((xw32 (4 * (xw32 (32 + v1)))) + 3)) v48) (a0 + 7) 34 (xw32 (((xwr m48 (a0 + 10) (xw32 ((xw32 (4 * (xw32 (32 + v1)))) + 3)) v48) (a0 + 7) 34) + 1))))) rfl ⟨a0_, by decide, by decide, trivial⟩ ?_
          cases h
          exact xEvG_ret xml xfetch rfl
        refine xEvG_n xml xfetch 1 (y := (116, if (fQ_is a0 240023 m3) = 0 then 116 else 112, [some (13, a0), some (0, (xw32 (4 * (xw32 (32 + v1))))), some (0, v2), some (0, (fQ_is a0 240023 m3))], [(0, (xw32 ((xw32 (4 * (xw32 (32 + v1)))) + 1))), (37, (a0 + 10))], (xwr m45 (a0 + 10) (xw32 (4 * (xw32 (32 + v1)))) v2))) rfl trivial ?_
        refine xEvG_br xml xfetch (fun c8_ => ?_) (fun c8_ => ?_)
        · refine xEvG_n xml xfetch 1 (y := (116, 117, [some (13, a0), some (0, (xw32 (4 * (xw32 (32 + v1))))), some (0, v2), some (0, (fQ_is a0 240023 m3))], [(0, 1), (0, (xw32 ((xw32 (4 * (xw32 (32 + v1)))) + 1))), (37, (a0 + 10))], (xwr m45 (a0 + 10) (xw32 (4 * (xw32 (32 + v1)))) v2))) rfl trivial ?_
          try simp only [if_pos c8_] at key_
          try simp only [if_pos c8_]
          exact key_
        · refine xEvG_n xml xfetch 2 (y := (116, 117, [some (13, a0), some (0, (xw32 (4 * (xw32 (32 + v1))))), some (0, v2), some (0, (fQ_is a0 240023 m3))], [(0, 0), (0, (xw32 ((xw32 (4 * (xw32 (32 + v1)))) + 1))), (37, (a0 + 10))], (xwr m45 (a0 + 10) (xw32 (4 * (xw32 (32 + v1)))) v2))) rfl trivial ?_
          try simp only [if_neg c8_] at key_
          try simp only [if_neg c8_]
          exact key_
      · have h := xif_f c_ h
        cases h
        exact xEvG_ret xml xfetch rfl

end
