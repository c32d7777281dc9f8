/-! a prison of the class, as its fields V tell it -/
noncomputable section
def xvd (a i : Int) : Prop := 0 ≤ i ∧ ((a = 0 ∧ i < 8) ∨ (1 ≤ a ∧ a ≤ 5 ∧ i < 9) ∨ (a = 6 ∧ i < 18) ∨ (7 ≤ a ∧ a ≤ 9 ∧ i < 9) ∨ (a = 10 ∧ i < 24))
def xPv (M : xM) (p : Int) (V : xM) : Prop := ∀ a i : Int, xvd a i → M (p + a) i = V a i
theorem xPv_0 {M V : xM} {p : Int} (h : xPv M p V) (i : Int) (h0 : 0 ≤ i) (h1 : i < 8) : M p i = V 0 i := by
  have := h 0 i ⟨h0, Or.inl ⟨rfl, h1⟩⟩
  rwa [Int.add_zero] at this
theorem xPv_1 {M V : xM} {p : Int} (h : xPv M p V) (a i : Int) (h1 : 1 ≤ a) (h2 : a ≤ 5) (h3 : 0 ≤ i) (h4 : i < 9) : M (p + a) i = V a i := h a i ⟨h3, Or.inr (Or.inl ⟨h1, h2, h4⟩)⟩
theorem xPv_6 {M V : xM} {p : Int} (h : xPv M p V) (i : Int) (h3 : 0 ≤ i) (h4 : i < 18) : M (p + 6) i = V 6 i := h 6 i ⟨h3, Or.inr (Or.inr (Or.inl ⟨rfl, h4⟩))⟩
theorem xPv_7 {M V : xM} {p : Int} (h : xPv M p V) (a i : Int) (h1 : 7 ≤ a) (h2 : a ≤ 9) (h3 : 0 ≤ i) (h4 : i < 9) : M (p + a) i = V a i := h a i ⟨h3, Or.inr (Or.inr (Or.inr (Or.inl ⟨h1, h2, h4⟩)))⟩
theorem xPv_10 {M V : xM} {p : Int} (h : xPv M p V) (i : Int) (h3 : 0 ≤ i) (h4 : i < 24) : M (p + 10) i = V 10 i := h 10 i ⟨h3, Or.inr (Or.inr (Or.inr (Or.inr ⟨rfl, h4⟩)))⟩
theorem xPv_go {M m V : xM} {p : Int} (h : xPv M p V) (hf : ∀ a : Int, p ≤ a → a ≤ p + 10 → m a = M a) : xPv m p V := fun a i ha => by
  have h0 : 0 ≤ a ∧ a ≤ 10 := by unfold xvd at ha; omega
  rw [hf (p + a) (by omega) (by omega)]
  exact h a i ha
/-- the fields in their bounds -/
def xWF (V : xM) : Prop := (0 ≤ V 0 0 ∧ V 0 0 ≤ 9) ∧ (0 ≤ V 0 1 ∧ V 0 1 ≤ 24) ∧ (V 0 3 = 0 ∨ V 0 3 = 1) ∧ (0 ≤ V 0 7 ∧ V 0 7 ≤ 9) ∧ (∀ c : Int, 0 ≤ c → c < 9 → (0 ≤ V 1 c ∧ V 1 c ≤ 3) ∧ (0 ≤ V 2 c ∧ V 2 c ≤ 9) ∧ (V 1 c = 2 → 2 ≤ V 2 c) ∧ (0 ≤ V 3 c ∧ V 3 c ≤ 9) ∧ x32 (V 5 c)) ∧ (∀ b : Int, 0 ≤ b → b < 18 → 0 ≤ V 6 b ∧ V 6 b ≤ 9) ∧ (∀ i : Int, 0 ≤ i → i < 9 → 0 ≤ V 8 i ∧ V 8 i ≤ 9) ∧ x32 (V 0 4) ∧ x32 (V 0 5) ∧ (∀ h : Int, 0 ≤ h → h < 24 → -1 ≤ V 10 h ∧ V 10 h < 9)
def xnb (N ring c s : Int) : Int := if s = 0 then (if c = 0 then (if ring = 0 then -1 else N - 1) else c - 1) else (if c = N - 1 then (if ring = 0 then -1 else 0) else c + 1)
theorem xnb_rg {N ring c s : Int} (h0 : 0 ≤ c) (h1 : c < N) : -1 ≤ xnb N ring c s ∧ xnb N ring c s < N := by
  unfold xnb; (repeat' split) <;> omega
theorem nb_s {M V : xM} {p c s : Int} (hv : xPv M p V) (w : xWF V) (h0 : 0 ≤ c) (h1 : c < V 0 0) : fPrison_neighbour p c s M = xnb (V 0 0) (V 0 3) c s := by
  have hN := w.1
  unfold fPrison_neighbour xnb
  rw [xPv_0 hv 0 (by decide) (by decide), xPv_0 hv 3 (by decide) (by decide)]
  rw [xw32_id (x := c - 1) (by omega) (by omega), xw32_id (x := c + 1) (by omega) (by omega), xw32_id (x := V 0 0 - 1) (by omega) (by omega)]
  (repeat' split) <;> first | rfl | omega
def xsp (V : xM) (b h : Int) : Nat → Int
  | 0 => 0
  | i + 1 => xsp V b h i + (if V 7 (i : Int) = b ∧ V 9 (i : Int) ≤ h then V 8 (i : Int) else 0)
def xlk (V : xM) (b h : Int) : Int := V 6 b + xsp V b h (V 0 7).toNat
theorem xsp_rg {V : xM} (w : xWF V) (b h : Int) : ∀ i : Nat, i ≤ 9 → 0 ≤ xsp V b h i ∧ xsp V b h i ≤ 9 * i
  | 0, _ => by simp [xsp]
  | i + 1, hi => by
    have ih := xsp_rg w b h i (by omega)
    have h8 := w.2.2.2.2.2.2.1 (i : Int) (by omega) (by omega)
    unfold xsp
    split <;> omega
theorem xlk_rg {V : xM} (w : xWF V) {b : Int} (h : Int) (h0 : 0 ≤ b) (h1 : b < 18) : 0 ≤ xlk V b h ∧ xlk V b h ≤ 90 := by
  have a := xsp_rg w b h (V 0 7).toNat (by have := w.2.2.2.1; omega)
  have c := w.2.2.2.2.2.1 b h0 h1
  have d := w.2.2.2.1
  unfold xlk
  omega
theorem liking_L {M V : xM} {p b h : Int} (hv : xPv M p V) (w : xWF V) (hb : 0 ≤ b ∧ b < 18) : ∀ (n g i : Nat), n < g → i + n = (V 0 7).toNat → fPrison_liking_L10 g p b h (V 6 b + xsp V b h i) (i : Int) M = some (xlk V b h)
  | _, 0, _, hg, _ => absurd hg (Nat.not_lt_zero _)
  | 0, g + 1, i, _, hi => by
    have h7 := w.2.2.2.1
    unfold fPrison_liking_L10
    rw [xPv_0 hv 7 (by decide) (by decide), if_neg (by omega)]
    have : i = (V 0 7).toNat := by omega
    subst this
    rfl
  | n + 1, g + 1, i, hg, hi => by
    have h7 := w.2.2.2.1
    have hr := xsp_rg w b h i (by omega)
    have h8 := w.2.2.2.2.2.2.1 (i : Int) (by omega) (by omega)
    have h6 := w.2.2.2.2.2.1 b hb.1 hb.2
    have ih := liking_L hv w hb n g (i + 1) (by omega) (by omega) (h := h)
    rw [show ((i + 1 : Nat) : Int) = (i : Int) + 1 from rfl] at ih
    unfold xsp at ih
    unfold fPrison_liking_L10
    rw [xPv_0 hv 7 (by decide) (by decide), if_pos (by omega), xA_p (by omega), xPv_7 hv 7 (i : Int) (by decide) (by decide) (by omega) (by omega), xw32_id (x := (i : Int) + 1) (by omega) (by omega)]
    by_cases hc : V 7 (i : Int) = b
    · rw [if_pos hc, xA_p (by omega), xPv_7 hv 9 (i : Int) (by decide) (by decide) (by omega) (by omega)]
      by_cases hd : h < V 9 (i : Int)
      · rw [if_pos hd]
        rw [if_neg (by omega), Int.add_zero] at ih
        exact ih
      · rw [if_neg hd, xA_p (by omega), xPv_7 hv 8 (i : Int) (by decide) (by decide) (by omega) (by omega)]
        rw [if_pos (by omega)] at ih
        rw [xw32_id (by omega) (by omega), Int.add_assoc]
        exact ih
    · rw [if_neg hc]
      rw [if_neg (by omega), Int.add_zero] at ih
      exact ih
theorem liking_s {M V : xM} {p b : Int} (h : Int) (hv : xPv M p V) (w : xWF V) (h0 : 0 ≤ b) (h1 : b < 18) : fPrison_liking p b h M = some (xlk V b h) := by
  have h7 := w.2.2.2.1
  unfold fPrison_liking
  rw [xA_p ⟨h0, h1⟩, xPv_6 hv b h0 h1]
  have := liking_L hv w ⟨h0, h1⟩ (V 0 7).toNat 20001 0 (by omega) (by omega) (h := h)
  unfold xsp at this
  rw [Int.add_zero] at this
  exact this
def xhis (V : xM) (c s h : Int) : Bool := if V 1 c = 1 then decide (h % 2 = if s = 0 then 0 else 1) else if V 1 c = 2 then decide (h % V 2 c = 0) else true
theorem his_s {M V : xM} {p c s h : Int} (hv : xPv M p V) (w : xWF V) (h0 : 0 ≤ c) (h1 : c < 9) (hh : 0 ≤ h) : fPrison_isHisHour p c s h M = some (if xhis V c s h then 1 else 0) := by
  have hc := w.2.2.2.2.1 c h0 h1
  unfold fPrison_isHisHour xhis
  rw [xA_p ⟨h0, h1⟩, xPv_1 hv 1 c (by decide) (by decide) h0 h1, xPv_1 hv 2 c (by decide) (by decide) h0 h1, xrem_n hh, xrem_n hh]
  by_cases e1 : V 1 c = 1
  · rw [if_pos e1, if_pos e1]
    by_cases e : h % 2 = if s = 0 then 0 else 1
    · rw [if_pos e]; simp [e]
    · rw [if_neg e]; simp [e]
  · rw [if_neg e1, if_neg e1, xA_p ⟨h0, h1⟩]
    by_cases e2 : V 1 c = 2
    · rw [if_pos e2, if_pos e2, xA_p ⟨h0, h1⟩, if_neg (by omega), xA_p ⟨h0, h1⟩, xA_p (by omega)]
      by_cases e : h % V 2 c = 0
      · rw [if_pos e]; simp [e]
      · rw [if_neg e]; simp [e]
    · rw [if_neg e2, if_neg e2]; rfl
def xwy (V : xM) (c s h g : Int) : Int := if xnb (V 0 0) (V 0 3) c s = -1 then 1 else if (xbt g c && !xbt (V 0 4) c) = true then 2 else if xbt (V 5 c) h = true then 3 else if V 1 c = 3 then 4 else if xbt (V 0 5) (if s = 1 then c else xnb (V 0 0) (V 0 3) c s) = true then 5 else if xhis V c s h = false then 6 else if xlk V (2 * c + s) h < V 3 c then 7 else 0
theorem xif10 (b : Bool) : ((if b = true then (1 : Int) else 0) = 1) ↔ b = true := by cases b <;> simp
theorem xif10z (b : Bool) : ((if b = true then (1 : Int) else 0) = 0) ↔ b = false := by cases b <;> simp
theorem why_s {M V : xM} {p c s h g : Int} (hv : xPv M p V) (w : xWF V) (h0 : 0 ≤ c) (h1 : c < V 0 0) (hs : s = 0 ∨ s = 1) (hh : 0 ≤ h) (hh2 : h < 32) : fPrison_whyNot p c s h g M = some (xwy V c s h g) := by
  have hN := w.1
  have hr := xnb_rg (ring := V 0 3) (s := s) h0 h1
  unfold fPrison_whyNot xwy
  rw [nb_s hv w h0 h1, xPv_0 hv 4 (by decide) (by decide), xPv_0 hv 5 (by decide) (by decide), xPv_1 hv 5 c (by decide) (by decide) h0 (by omega), xPv_1 hv 1 c (by decide) (by decide) h0 (by omega), xPv_1 hv 3 c (by decide) (by decide) h0 (by omega)]
  by_cases e1 : xnb (V 0 0) (V 0 3) c s = -1
  · rw [if_pos e1, if_pos e1]
  rw [if_neg e1, if_neg e1, fD_bit_s _ M h0 (by omega), xbt_and, xbt_not _ h0 (by omega)]
  by_cases e2 : (xbt g c && !xbt (V 0 4) c) = true
  · rw [if_pos ((xif10 _).mpr e2), if_pos e2]
  rw [if_neg (fun e => e2 ((xif10 _).mp e)), if_neg e2, xA_p ⟨h0, by omega⟩, fD_bit_s _ M hh hh2]
  by_cases e3 : xbt (V 5 c) h = true
  · rw [if_pos ((xif10 _).mpr e3), if_pos e3]
  rw [if_neg (fun e => e3 ((xif10 _).mp e)), if_neg e3, xA_p ⟨h0, by omega⟩]
  by_cases e4 : V 1 c = 3
  · rw [if_pos e4, if_pos e4]
  have hq : 0 ≤ (if s = 1 then c else xnb (V 0 0) (V 0 3) c s) ∧ (if s = 1 then c else xnb (V 0 0) (V 0 3) c s) < 32 := by split <;> omega
  rw [if_neg e4, if_neg e4, fD_bit_s _ M hq.1 hq.2]
  by_cases e5 : xbt (V 0 5) (if s = 1 then c else xnb (V 0 0) (V 0 3) c s) = true
  · rw [if_pos ((xif10 _).mpr e5), if_pos e5]
  rw [if_neg (fun e => e5 ((xif10 _).mp e)), if_neg e5, his_s hv w h0 (by omega) hh, xB_s]
  by_cases e6 : xhis V c s h = false
  · rw [if_pos ((xif10z _).mpr e6), if_pos e6]
  rw [if_neg (fun e => e6 ((xif10z _).mp e)), if_neg e6, xw32_id (x := 2 * c) (by omega) (by omega), xw32_id (by omega) (by omega), liking_s h hv w (by omega) (by omega), xB_s, xA_p ⟨h0, by omega⟩]
/-- nobody being out -/
def xwo (V : xM) (c s h : Int) : Int := xwy V c s h 0
def xT (V : xM) (c s h : Int) : Bool := decide (xwo V c s h = 0)
def xnv (V : xM) (c s : Int) : Int := xnb (V 0 0) (V 0 3) c s
def xLy (V : xM) (c : Int) : Bool := xbt (V 0 4) c
end
