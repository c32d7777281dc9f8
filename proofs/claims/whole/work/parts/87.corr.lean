/-! corridors: which cells, and what they cost -/
noncomputable section
theorem str_L {M m V : xM} {t : Int} (W : xWF V) (hv : xPv M (1 + 15) V) (Q : m (310 + 7) 0 = V 0 0) (t0 : 0 ≤ t) (t1 : t < V 0 0) : ∀ (k g g' i : Nat) (b b' c : Int), k + 2 ≤ g → k < g' → (i : Int) + k < V 0 0 → 0 ≤ c → c < V 0 0 → ((k : Int) = t - c ∨ (t < c ∧ V 0 3 = 1 ∧ (k : Int) = V 0 0 + t - c)) → 0 ≤ b → b < 2 ^ (V 0 0).toNat → x32 b' → (∀ d : Int, 0 ≤ d → d < 32 → xbt b' d = (xbt b d || decide (d = t))) → ∃ v : Int, fPrison_stretch_L8 g (1 + 15) t b c (i : Int) M = some v ∧ fQ_corridorOf_L41 g' 310 t b' c m = some v ∧ 0 ≤ v ∧ v < 2 ^ (V 0 0).toNat
  | 0, g + 2, g' + 1, i, b, b', c, _, _, hi, c0, c1, hk, b0, b1, x, hb => by
    have hN := W.1
    have e : c = t := by omega
    subst e
    have r := xad_rg b0 b1 c0 (n := (V 0 0).toNat) (by omega) (by omega)
    have eq : b' = xad b c := xbt_ext x (xad_in _ _) (fun d d0 d1 => by rw [hb d d0 d1, xbt_ad _ c0 (by omega) d0 d1])
    refine ⟨xad b c, ?_, ?_, r⟩
    · rw [fPrison_stretch_L8, xPv_0 hv 0 (by decide) (by decide), if_pos (by omega), if_neg (by omega), if_pos rfl, xw32_id (by omega) (by omega), fPrison_stretch_L8, xPv_0 hv 0 (by decide) (by decide)]
      show (if _ then (if (-1 : Int) = -1 then some (xad b c) else _) else some (xad b c)) = _
      rw [if_pos (show (-1 : Int) = -1 from rfl)]
      split <;> rfl
    · rw [fQ_corridorOf_L41, if_pos rfl, eq]
  | k + 1, 0, _, _, _, _, _, hg, _, _, _, _, _, _, _, _, _ => absurd hg (by omega)
  | 0, 0, _, _, _, _, _, hg, _, _, _, _, _, _, _, _, _ => absurd hg (by omega)
  | 0, 1, _, _, _, _, _, hg, _, _, _, _, _, _, _, _, _ => absurd hg (by omega)
  | _, _, 0, _, _, _, _, _, hg, _, _, _, _, _, _, _, _ => absurd hg (Nat.not_lt_zero _)
  | k + 1, g + 1, g' + 1, i, b, b', c, hg, hg', hi, c0, c1, hk, b0, b1, x, hb => by
    have hN := W.1
    have ne : c ≠ t := by omega
    have r := xad_rg b0 b1 c0 (n := (V 0 0).toNat) (by omega) (by omega)
    have n1 : xnb (V 0 0) (V 0 3) c 1 = (if c = V 0 0 - 1 then 0 else c + 1) := by
      unfold xnb
      rw [if_neg (by decide)]
      by_cases e : c = V 0 0 - 1
      · rw [if_pos e, if_pos e, if_neg (by omega)]
      · rw [if_neg e, if_neg e]
    have n2 : xrem (xw32 (c + 1)) (V 0 0) = (if c = V 0 0 - 1 then 0 else c + 1) := by
      rw [xw32_id (by omega) (by omega), xrem_n (by omega)]
      by_cases e : c = V 0 0 - 1
      · rw [if_pos e, show c + 1 = V 0 0 by omega, Int.emod_self]
      · rw [if_neg e, Int.emod_eq_of_lt (by omega) (by omega)]
    have nx : 0 ≤ (if c = V 0 0 - 1 then 0 else c + 1) ∧ (if c = V 0 0 - 1 then 0 else c + 1) < V 0 0 := by split <;> omega
    obtain ⟨v, v1, v2, v3⟩ := str_L W hv Q t0 t1 k g g' (i + 1) (xad b c) (xad b' c) (if c = V 0 0 - 1 then 0 else c + 1) (by omega) (by omega) (by omega) nx.1 nx.2 (by split <;> omega) r.1 r.2 (xad_in _ _) (fun d d0 d1 => by
      rw [xbt_ad _ c0 (by omega) d0 d1, xbt_ad _ c0 (by omega) d0 d1, hb d d0 d1]
      cases xbt b d <;> cases decide (d = t) <;> cases decide (d = c) <;> rfl)
    refine ⟨v, ?_, ?_, v3⟩
    · rw [fPrison_stretch_L8, xPv_0 hv 0 (by decide) (by decide), if_pos (by omega), if_neg (by omega), if_neg ne, xw32_id (by omega) (by omega), nb_s hv W c0 c1, n1]
      exact v1
    · rw [fQ_corridorOf_L41, if_neg ne, Q, xA_p (by omega), n2]
      exact v2
/-- who keeps the door of c shut is in, if s are out -/
def xIn (V : xM) (c s o : Int) : Bool := decide (xnv V c s = -1) || (!xbt o (xnv V c s) || xLy V (xnv V c s))
def xfb (V : xM) (c o : Int) : Bool := !xbt o c && (xIn V c 0 o && xIn V c 1 o)
theorem isIn_s {m V : xM} {c s o : Int} (W : xWF V) (E : xEf m 310 V) (c0 : 0 ≤ c) (c1 : c < V 0 0) (hs : s = 0 ∨ s = 1) : fQ_isIn 310 c s o m = some (if xIn V c s o then 1 else 0) := by
  have hN := W.1
  unfold fQ_isIn xIn
  rw [besideV E W c0 c1 hs, xB_s]
  by_cases e : xnv V c s = -1
  · rw [if_pos e]; simp [e]
  · have r := xnv_rg c0 c1 e
    rw [if_neg e, fQ_isBit_s _ m r.1 (by omega), loyal_s E W r.1 r.2, xB_s, decide_eq_false e, Bool.false_or]
    cases xbt o (xnv V c s) <;> cases xLy V (xnv V c s) <;> rfl
theorem xfb_iff {V : xM} {c o : Int} (W : xWF V) (c0 : 0 ≤ c) (c1 : c < V 0 0) : xfb V c o = true ↔ ∀ d : Int, 0 ≤ d → d < 32 → xbt o d = true → xBr V c d = false := by
  have hN := W.1
  unfold xfb xIn xBr xN2
  rw [Bool.and_eq_true, Bool.and_eq_true]
  constructor
  · rintro ⟨a, b, e⟩ d d0 d1 hd
    have hc : d ≠ c := fun x => by rw [x] at hd; rw [hd] at a; cases a
    rw [decide_eq_false hc, Bool.false_or]
    by_cases x : d = xnv V c 0
    · rw [← x, hd, decide_eq_false (show ¬ d = -1 by omega)] at b
      cases hl : xLy V d
      · rw [hl] at b; cases b
      · simp
    · by_cases y : d = xnv V c 1
      · rw [← y, hd, decide_eq_false (show ¬ d = -1 by omega)] at e
        cases hl : xLy V d
        · rw [hl] at e; cases e
        · simp
      · rw [decide_eq_false x, decide_eq_false y]; rfl
  · intro h
    have side : ∀ s : Int, (s = 0 ∨ s = 1) → (decide (xnv V c s = -1) || (!xbt o (xnv V c s) || xLy V (xnv V c s))) = true := fun s hs => by
      by_cases e : xnv V c s = -1
      · simp [e]
      · have r := xnv_rg c0 c1 e
        cases hb : xbt o (xnv V c s)
        · simp
        · have q := h _ r.1 (by omega) hb
          have m2 : (decide (xnv V c s = xnv V c 0) || decide (xnv V c s = xnv V c 1)) = true := by
            rcases hs with rfl | rfl <;> simp
          rw [m2, Bool.true_and] at q
          cases hl : xLy V (xnv V c s)
          · rw [hl] at q; simp at q
          · simp
    refine ⟨?_, side 0 (Or.inl rfl), side 1 (Or.inr rfl)⟩
    cases hb : xbt o c
    · rfl
    · have := h c c0 (by omega) hb
      simp at this
theorem xfb_bar {m V : xM} {k c o : Int} (W : xWF V) (hk : xKD m k V c) (c0 : 0 ≤ c) (c1 : c < V 0 0) : xand (m (k + 4) c) o = 0 ↔ xfb V c o = true := by
  rw [xfb_iff W c0 c1, xand_0]
  constructor
  · intro h d d0 d1 hd
    cases hx : xBr V c d
    · rfl
    · exact absurd ⟨by rw [hk.2.2.2.1 d d0 d1]; exact hx, hd⟩ (h d d0 d1)
  · rintro h d d0 d1 ⟨x, y⟩
    rw [hk.2.2.2.1 d d0 d1, h d d0 d1 y] at x
    cases x
/-! the table of costs, as a function -/
def xcs (V : xM) (h pm al s : Int) (C : Int → Int) (c : Int) : Int → Int := if xbt al c = true ∧ xprc V c h pm ≠ -1 ∧ xfb V c s = true then (fun t => if t = xad s c then (if C s + xprc V c h pm < C t then C s + xprc V c h pm else C t) else C t) else C
def xcf (V : xM) (h pm al s : Int) : Nat → Nat → (Int → Int) → (Int → Int)
  | 0, _, C => C
  | k + 1, i, C => xcf V h pm al s k (i + 1) (xcs V h pm al s C (i : Int))
def xsf (V : xM) (h pm al : Int) : Nat → (Int → Int) → (Int → Int)
  | 0, C => C
  | k + 1, C => xsf V h pm al k (if C (k : Int) < 1000000 then xcf V h pm al (k : Int) (V 0 0).toNat 0 C else C)
def xhu (V : xM) (pm al : Int) (B : Nat) : Nat → Nat → (Int → Int) → (Int → Int)
  | 0, _, C => C
  | k + 1, h, C => xhu V pm al B k (h + 1) (xsf V (h : Int) pm al B C)
/-- the costs in their bounds; what is not too dear is of the cells -/
def xJ (N : Nat) (al : Int) (C : Int → Int) : Prop := ∀ t : Int, 0 ≤ t → t < 2 ^ N → (0 ≤ C t ∧ C t ≤ 1000000) ∧ (C t < 1000000 → ∀ d : Int, 0 ≤ d → d < 32 → xbt t d = true → xbt al d = true)
theorem xcs_y {V : xM} {h pm al s c : Int} {C : Int → Int} (h1 : xbt al c = true) (h2 : xprc V c h pm ≠ -1) (h3 : xfb V c s = true) (t : Int) : xcs V h pm al s C c t = if t = xad s c then (if C s + xprc V c h pm < C t then C s + xprc V c h pm else C t) else C t := by
  unfold xcs
  rw [if_pos (show xbt al c = true ∧ xprc V c h pm ≠ -1 ∧ xfb V c s = true from ⟨h1, h2, h3⟩)]
theorem xcs_J {V : xM} {h pm al s c : Int} {C : Int → Int} (W : xWF V) (J : xJ (V 0 0).toNat al C) (c0 : 0 ≤ c) (c1 : c < V 0 0) (s0 : 0 ≤ s) (s1 : s < 2 ^ (V 0 0).toNat) (sa : ∀ d : Int, 0 ≤ d → d < 32 → xbt s d = true → xbt al d = true) : xJ (V 0 0).toNat al (xcs V h pm al s C c) := by
  have hN := W.1
  have pr := xprc_rg (h := h) (pm := pm) W c0 c1
  intro t t0 t1
  unfold xcs
  by_cases e : xbt al c = true ∧ xprc V c h pm ≠ -1 ∧ xfb V c s = true
  · rw [if_pos e]
    by_cases x : t = xad s c
    · have a := (J s s0 s1).1
      have b := (J t t0 t1).1
      refine ⟨?_, fun _ d d0 d1 hd => ?_⟩
      · show 0 ≤ (if t = xad s c then _ else _) ∧ (if t = xad s c then _ else _) ≤ 1000000
        rw [if_pos x]
        split <;> omega
      · rw [x, xbt_ad s c0 (by omega) d0 d1, Bool.or_eq_true] at hd
        rcases hd with y | y
        · exact sa d d0 d1 y
        · rw [of_decide_eq_true y]; exact e.1
    · show (0 ≤ (if t = xad s c then _ else _) ∧ (if t = xad s c then _ else _) ≤ 1000000) ∧ ((if t = xad s c then _ else _) < 1000000 → _)
      rw [if_neg x]
      exact J t t0 t1
  · rw [if_neg e]
    exact J t t0 t1
theorem xcf_J {V : xM} {h pm al s : Int} (W : xWF V) (s0 : 0 ≤ s) (s1 : s < 2 ^ (V 0 0).toNat) (sa : ∀ d : Int, 0 ≤ d → d < 32 → xbt s d = true → xbt al d = true) : ∀ (k i : Nat) (C : Int → Int), (i : Int) + k ≤ V 0 0 → xJ (V 0 0).toNat al C → xJ (V 0 0).toNat al (xcf V h pm al s k i C)
  | 0, _, _, _, J => J
  | k + 1, i, C, hi, J => by
    unfold xcf
    exact xcf_J W s0 s1 sa k (i + 1) _ (by omega) (xcs_J W J (by omega) (by omega) s0 s1 sa)
theorem xpwn {N : Int} (h0 : 0 ≤ N) (h1 : N ≤ 9) : (2 : Int) ^ N.toNat = ((2 ^ N.toNat : Nat) : Int) ∧ (2 : Int) ^ N.toNat ≤ 512 := ⟨by rw [Int.natCast_pow]; rfl, xpw2 N.toNat (by omega)⟩
theorem xsf_J {V : xM} {h pm al : Int} (W : xWF V) : ∀ (k : Nat) (C : Int → Int), (k : Int) ≤ 2 ^ (V 0 0).toNat → xJ (V 0 0).toNat al C → xJ (V 0 0).toNat al (xsf V h pm al k C)
  | 0, _, _, J => J
  | k + 1, C, hk, J => by
    have hN := W.1
    unfold xsf
    refine xsf_J W k _ (by omega) ?_
    split
    · next x => exact xcf_J W (by omega) (by omega) ((J (k : Int) (by omega) (by omega)).2 x) (V 0 0).toNat 0 C (by omega) J
    · exact J
theorem xsub_le {t al : Int} (t0 : 0 ≤ t) (t1 : t < 512) (a0 : 0 ≤ al) (a1 : al < 512) (h : ∀ d : Int, 0 ≤ d → d < 32 → xbt t d = true → xbt al d = true) : t ≤ al := by
  have e : xand t al = t := xbt_ext (xand_in _ _) (by constructor <;> omega) (fun d d0 d1 => by
    rw [xbt_and]
    cases hb : xbt t d
    · rfl
    · rw [h d d0 d1 hb]; rfl)
  obtain ⟨x, rfl⟩ := Int.eq_ofNat_of_zero_le t0
  obtain ⟨y, rfl⟩ := Int.eq_ofNat_of_zero_le a0
  rw [xand_nat (by omega) (by omega)] at e
  have : x &&& y ≤ y := Nat.and_le_right
  omega
theorem xsf_cut {V : xM} {h pm al : Int} (W : xWF V) (a0 : 0 ≤ al) (a1 : al < 512) : ∀ (k : Nat) (C : Int → Int), al + 1 ≤ (k : Int) → (k : Int) ≤ 2 ^ (V 0 0).toNat → xJ (V 0 0).toNat al C → xsf V h pm al k C = xsf V h pm al (al + 1).toNat C
  | 0, _, hk, _, _ => absurd hk (by omega)
  | k + 1, C, hk, hk2, J => by
    have hN := W.1
    have p9 := (xpwn hN.1 hN.2).2
    by_cases e : (k : Int) = al
    · rw [show (al + 1).toNat = k + 1 by omega]
    · have nb : ¬ C (k : Int) < 1000000 := fun x => by
        have := xsub_le (by omega) (by omega) a0 a1 ((J (k : Int) (by omega) (by omega)).2 x)
        omega
      have ih := xsf_cut (h := h) (pm := pm) W a0 a1 k C (by omega) (by omega) J
      rw [xsf, if_neg nb, ih]
theorem xhu_cut {V : xM} {pm al : Int} {B : Nat} (W : xWF V) (a0 : 0 ≤ al) (a1 : al < 2 ^ (V 0 0).toNat) (hB : (B : Int) = 2 ^ (V 0 0).toNat) : ∀ (k i : Nat) (C : Int → Int), xJ (V 0 0).toNat al C → xhu V pm al B k i C = xhu V pm al (al + 1).toNat k i C ∧ xJ (V 0 0).toNat al (xhu V pm al B k i C)
  | 0, _, _, J => ⟨rfl, J⟩
  | k + 1, i, C, J => by
    have hN := W.1
    have p9 := (xpwn hN.1 hN.2).2
    have J1 := xsf_J (h := (i : Int)) (pm := pm) W B C (by omega) J
    unfold xhu
    rw [← xsf_cut (h := (i : Int)) (pm := pm) W a0 (by omega) B C (by omega) (by omega) J]
    exact xhu_cut W a0 a1 hB k (i + 1) _ J1
/-- the table is in the cell -/
def xtb (m : xM) (a : Int) (N : Nat) (C : Int → Int) : Prop := ∀ t : Int, 0 ≤ t → t < 2 ^ N → m a t = C t
/-! the class -/
theorem oneD_L {M V : xM} {h pm al s : Int} (W : xWF V) (k : xKO M (1 + 37 + 1) V) (hp : ∀ c : Int, 0 ≤ c → c < V 0 0 → M (1 + 261 + 2) c = if xbt al c = true then xprc V c h pm else -1) (s0 : 0 ≤ s) (s1 : s < 2 ^ (V 0 0).toNat) (sa : ∀ d : Int, 0 ≤ d → d < 32 → xbt s d = true → xbt al d = true) : ∀ (n g i : Nat) (m : xM) (C : Int → Int), n < g → (i : Int) + n = V 0 0 → xF 263 263 M m → xtb m 263 (V 0 0).toNat C → xJ (V 0 0).toNat al C → xP (fCorridor_openOneMore_L2 g (1 + 261) (1 + 37 + 1) s (i : Int) m) (fun m' => xF 263 263 M m' ∧ xtb m' 263 (V 0 0).toNat (xcf V h pm al s n i C))
  | _, 0, _, _, _, hg, _, _, _, _ => absurd hg (Nat.not_lt_zero _)
  | 0, g + 1, i, m, C, _, hi, hF, hC, J => by
    rw [fCorridor_openOneMore_L2, hF (1 + 37 + 1) (by omega), k.1, if_neg (by omega)]
    exact xP_some ⟨hF, hC⟩
  | n + 1, g + 1, i, m, C, hg, hi, hF, hC, J => by
    have hN := W.1
    have p9 := (xpwn hN.1 hN.2).2
    have c0 : 0 ≤ (i : Int) := by omega
    have c1 : (i : Int) < V 0 0 := by omega
    have pr := xprc_rg (h := h) (pm := pm) W c0 c1
    have J1 := xcs_J (h := h) (pm := pm) W J c0 c1 s0 s1 sa
    have r := xad_rg s0 s1 c0 (n := (V 0 0).toNat) (by omega) (by omega)
    have js := (J s s0 s1).1
    have jt := (J (xad s i) r.1 r.2).1
    rw [fCorridor_openOneMore_L2, hF (1 + 37 + 1) (by omega), k.1, if_pos c1, hF (1 + 261 + 2) (by omega), hp _ c0 c1, xA_p (by omega), xA_p (by omega), hF (1 + 37 + 1 + 4) (by omega), xw32_id (x := (i : Int) + 1) (by omega) (by omega)]
    have skip : ¬ (xbt al i = true ∧ xprc V i h pm ≠ -1 ∧ xfb V i s = true) → xP (fCorridor_openOneMore_L2 g (1 + 261) (1 + 37 + 1) s ((i : Int) + 1) m) (fun m' => xF 263 263 M m' ∧ xtb m' 263 (V 0 0).toNat (xcf V h pm al s (n + 1) i C)) := fun x => by
      have e : xcs V h pm al s C (i : Int) = C := by unfold xcs; rw [if_neg x]
      rw [xcf, e]
      exact oneD_L W k hp s0 s1 sa n g (i + 1) m C (by omega) (by omega) hF hC J
    by_cases e1 : xbt al i = true
    · rw [if_pos e1]
      by_cases e2 : xprc V i h pm = -1
      · rw [if_pos e2]
        exact skip (fun x => x.2.1 e2)
      · rw [if_neg e2]
        by_cases e3 : xfb V i s = true
        · rw [if_pos ((xfb_bar W (k.2.2.2 _ c0 c1) c0 c1).mpr e3), show xor32 s (xshl 1 (i : Int)) = xad s i from rfl, xA_p (by omega), xA_p (by omega), xA_p (by omega), xA_p (by omega), show m (1 + 261 + 1) = m 263 from rfl, hC s s0 s1, hC _ r.1 r.2, xw32_id (by omega) (by omega)]
          rw [xcf]
          refine oneD_L W k hp s0 s1 sa n g (i + 1) _ _ (by omega) (by omega) (xwr_F hF (by omega) (by omega)) (fun t t0 t1 => ?_) J1
          rw [xcs_y e1 e2 e3, xwr_at]
          unfold fJM_min
          by_cases x : t = xad s i
          · rw [if_pos ⟨rfl, x⟩, if_pos x, x]
          · rw [if_neg (fun y => x y.2), if_neg x]
            exact hC t t0 t1
        · rw [if_neg (fun x => e3 ((xfb_bar W (k.2.2.2 _ c0 c1) c0 c1).mp x))]
          exact skip (fun x => e3 x.2.2)
    · rw [if_neg e1, if_pos rfl]
      exact skip (fun x => e1 x.1)
theorem setsD_L {M V : xM} {h pm al : Int} {Q : Int × xM → Prop} {K : Int → Int → Int → Int → Int → Int → xM → Option (Int × xM)} (W : xWF V) (k : xKO M (1 + 37 + 1) V) (h0 : 0 ≤ h) (h1 : h < 100) (hp : ∀ c : Int, 0 ≤ c → c < V 0 0 → M (1 + 261 + 2) c = if xbt al c = true then xprc V c h pm else -1) : ∀ (n g : Nat) (m : xM) (C : Int → Int), n < g → (n : Int) ≤ 2 ^ (V 0 0).toNat → xF 263 263 M m → xtb m 263 (V 0 0).toNat C → xJ (V 0 0).toNat al C → (∀ m' : xM, xF 263 263 M m' → xtb m' 263 (V 0 0).toNat (xsf V h pm al n C) → xP (K (1 + 261) (1 + 15) (1 + 37 + 1) al pm (h + 1) m') Q) → xP (fCorridor_cheapest_L80 K g (1 + 261) (1 + 15) (1 + 37 + 1) al pm h ((n : Int) - 1) m) Q
  | _, 0, _, _, hg, _, _, _, _, _ => absurd hg (Nat.not_lt_zero _)
  | 0, g + 1, m, C, _, _, hF, hC, J, hK => by
    rw [fCorridor_cheapest_L80, if_pos (by omega), xw32_id (by omega) (by omega)]
    exact hK m hF hC
  | n + 1, g + 1, m, C, hg, hn, hF, hC, J, hK => by
    have hN := W.1
    have p9 := (xpwn hN.1 hN.2).2
    have en : ((n + 1 : Nat) : Int) - 1 = (n : Int) := by omega
    have jn := J (n : Int) (by omega) (by omega)
    rw [fCorridor_cheapest_L80, en, if_neg (by omega), xA_p (by omega), show m (1 + 261 + 1) = m 263 from rfl, hC _ (by omega) (by omega), xw32_id (x := (n : Int) + -1) (by omega) (by omega), show (n : Int) + -1 = (n : Int) - 1 from rfl]
    rw [xsf] at hK
    by_cases e : C (n : Int) < 1000000
    · rw [if_pos e] at hK ⊢
      have kp : ∀ a : Int, a ≠ 263 → m a = M a := fun a ha => hF a (by omega)
      refine xP_B (oneD_L (M := M) (C := C) W k hp (by omega) (by omega) (jn.2 e) (V 0 0).toNat 20001 0 m (by omega) (by omega) hF hC J) ?_
      rintro m1 ⟨f1, t1⟩
      exact setsD_L W k h0 h1 hp n g m1 _ (by omega) (by omega) f1 t1 (xcf_J W (by omega) (by omega) (jn.2 e) (V 0 0).toNat 0 C (by omega) J) hK
    · rw [if_neg e] at hK ⊢
      exact setsD_L W k h0 h1 hp n g m C (by omega) (by omega) hF hC J hK
theorem fillD_L {M V : xM} {h pm al : Int} {Q : Int × xM → Prop} {K : Int → Int → Int → Int → Int → Int → xM → Option (Int × xM)} (W : xWF V) (p2 : 2 ≤ V 0 0) (hv : xPv M (1 + 15) V) (h0 : 0 ≤ h) (h1 : h < V 0 1) : ∀ (n g i : Nat) (m : xM), n < g → (i : Int) + n = V 0 0 → xF 264 264 M m → (∀ c : Int, 0 ≤ c → c < i → m 264 c = if xbt al c = true then xprc V c h pm else -1) → (∀ m' : xM, xF 264 264 M m' → (∀ c : Int, 0 ≤ c → c < V 0 0 → m' 264 c = if xbt al c = true then xprc V c h pm else -1) → xP (fCorridor_cheapest_L80 K 20001 (1 + 261) (1 + 15) (1 + 37 + 1) al pm h al m') Q) → xP (fCorridor_cheapest_L31 K g (1 + 261) (1 + 15) (1 + 37 + 1) al pm h (i : Int) m) Q
  | _, 0, _, _, hg, _, _, _, _ => absurd hg (Nat.not_lt_zero _)
  | 0, g + 1, i, m, _, hi, hF, hc, hK => by
    rw [fCorridor_cheapest_L31, xPv_0 (xPv_go hv (fun a _ _ => hF a (by omega))) 0 (by decide) (by decide), if_neg (by omega)]
    exact hK m hF (fun c c0 c1 => hc c c0 (by omega))
  | n + 1, g + 1, i, m, hg, hi, hF, hc, hK => by
    have hN := W.1
    have hv' := xPv_go hv (fun a _ _ => hF a (by omega))
    have next : ∀ v : Int, v = (if xbt al i = true then xprc V i h pm else -1) → xP (fCorridor_cheapest_L31 K g (1 + 261) (1 + 15) (1 + 37 + 1) al pm h ((i : Int) + 1) (xwr m (1 + 261 + 2) (i : Int) v)) Q := fun v e => by
      refine fillD_L W p2 hv h0 h1 n g (i + 1) _ (by omega) (by omega) (xwr_F hF (by omega) (by omega)) (fun c c0 c1 => ?_) hK
      rw [show (264 : Int) = 1 + 261 + 2 from rfl, xwr_at]
      by_cases x : c = i
      · rw [if_pos ⟨rfl, x⟩, e, x]
      · rw [if_neg (fun y => x y.2)]
        exact hc c c0 (by omega)
    rw [fCorridor_cheapest_L31, xPv_0 hv' 0 (by decide) (by decide), if_pos (by omega), fD_bit_s _ m (by omega) (by omega), price_s W p2 hv' (by omega) (by omega) h0 h1, xB_s, xA_p (by omega), xA_p (by omega), xw32_id (x := (i : Int) + 1) (by omega) (by omega)]
    by_cases e : xbt al i = true
    · rw [if_pos ((xif10 _).mpr e)]
      exact next _ (by rw [if_pos e])
    · rw [if_neg (fun x => e ((xif10 _).mp x))]
      exact next _ (by rw [if_neg e])
theorem hoursD_L {M V : xM} {pm al : Int} (W : xWF V) (p2 : 2 ≤ V 0 0) (hv : xPv M (1 + 15) V) (k : xKO M (1 + 37 + 1) V) (a0 : 0 ≤ al) (a1 : al < 2 ^ (V 0 0).toNat) : ∀ (n g i : Nat) (m : xM) (C : Int → Int), n < g → (i : Int) + n = V 0 1 → xF 263 264 M m → xtb m 263 (V 0 0).toNat C → xJ (V 0 0).toNat al C → xP (fCorridor_cheapest_L19 g (1 + 261) (1 + 15) (1 + 37 + 1) al pm (i : Int) m) (fun x => x.1 = (if xhu V pm al (al + 1).toNat n i C al < 1000000 then xhu V pm al (al + 1).toNat n i C al else -1) ∧ xF 263 264 M x.2)
  | _, 0, _, _, _, hg, _, _, _, _ => absurd hg (Nat.not_lt_zero _)
  | 0, g + 1, i, m, C, _, hi, hF, hC, J => by
    have hN := W.1
    have p9 := (xpwn hN.1 hN.2).2
    rw [fCorridor_cheapest_L19, xPv_0 (xPv_go hv (fun a _ _ => hF a (by omega))) 1 (by decide) (by decide), if_neg (by omega), xA_p (by omega), xA_p (by omega), show m (1 + 261 + 1) = m 263 from rfl, hC al a0 a1]
    unfold xhu
    by_cases e : C al < 1000000
    · rw [if_pos e]; exact xP_some ⟨(if_pos e).symm, hF⟩
    · rw [if_neg e]; exact xP_some ⟨(if_neg e).symm, hF⟩
  | n + 1, g + 1, i, m, C, hg, hi, hF, hC, J => by
    have hN := W.1
    have hH := W.2.1
    have p9 := (xpwn hN.1 hN.2).2
    have hv' := xPv_go hv (fun a _ _ => hF a (by omega))
    rw [fCorridor_cheapest_L19, xPv_0 hv' 1 (by decide) (by decide), if_pos (by omega), xhu]
    refine fillD_L (M := m) W p2 hv' (by omega) (by omega) (V 0 0).toNat 20001 0 m (by omega) (by omega) (xF_rfl _ _ _) (fun c c0 c1 => absurd c1 (by omega)) (fun m1 f1 p1 => ?_)
    have f2 : xF 263 264 M m1 := xF_tr hF (xF_w f1 (by omega) (by omega))
    have st := setsD_L (M := m1) (V := V) (h := (i : Int)) (pm := pm) (al := al) (K := fCorridor_cheapest_L19 g) (Q := fun x => x.1 = (if xhu V pm al (al + 1).toNat n (i + 1) (xsf V (i : Int) pm al (al + 1).toNat C) al < 1000000 then xhu V pm al (al + 1).toNat n (i + 1) (xsf V (i : Int) pm al (al + 1).toNat C) al else -1) ∧ xF 263 264 M x.2) W (xKO_go k (fun a _ _ => f2 a (by omega))) (by omega) (by omega) p1 (al + 1).toNat 20001 m1 C (by omega) (by omega) (xF_rfl _ _ _) (fun t t0 t1 => by rw [f1 263 (by omega)]; exact hC t t0 t1) J (fun m2 f3 t3 => hoursD_L W p2 hv k a0 a1 n g (i + 1) m2 _ (by omega) (by omega) (xF_tr f2 (xF_w f3 (by omega) (by omega))) t3 (xsf_J W _ C (by omega) J))
    rw [show (((al + 1).toNat : Nat) : Int) - 1 = al by omega] at st
    exact st
def xC0 : Int → Int := fun t => if t = 0 then 0 else 1000000
theorem xC0_J (N : Nat) (al : Int) : xJ N al xC0 := fun t _ _ => by
  unfold xC0
  by_cases e : t = 0
  · subst e
    exact ⟨by rw [if_pos rfl]; decide, fun _ d _ _ hd => by rw [xbt_0] at hd; cases hd⟩
  · rw [if_neg e]
    exact ⟨by decide, fun x => absurd x (by decide)⟩
theorem cheapD_s {M V : xM} {pm al : Int} (W : xWF V) (p2 : 2 ≤ V 0 0) (hv : xPv M (1 + 15) V) (k : xKO M (1 + 37 + 1) V) (a0 : 0 ≤ al) (a1 : al < 2 ^ (V 0 0).toNat) : xP (fCorridor_cheapest (1 + 261) (1 + 15) (1 + 37 + 1) al pm M) (fun x => x.1 = (if xhu V pm al (al + 1).toNat (V 0 1).toNat 0 xC0 al < 1000000 then xhu V pm al (al + 1).toNat (V 0 1).toNat 0 xC0 al else -1) ∧ xF 263 264 M x.2) := by
  have hN := W.1
  have hH := W.2.1
  have p9 := (xpwn hN.1 hN.2).2
  unfold fCorridor_cheapest
  refine xP_B (fill_k26_s (1 + 261 + 1) 1000000 M) ?_
  rintro m1 ⟨f1, t1⟩
  have f1 : xF 263 263 M m1 := f1
  refine hoursD_L W p2 hv k a0 a1 (V 0 1).toNat 20001 0 _ xC0 (by omega) (by omega) (xwr_F (xF_w f1 (by omega) (by omega)) (by omega) (by omega)) (fun t t0 t1' => ?_) (xC0_J _ _)
  unfold xC0
  rw [show (263 : Int) = 1 + 261 + 1 from rfl, xwr_at, t1 t]
  by_cases e : t = 0
  · rw [if_pos ⟨rfl, e⟩, if_pos e]
  · rw [if_neg (fun x => e x.2), if_neg e, if_pos (by omega)]
/-! the reference -/
theorem oneQ_L {M V : xM} {h pm al s : Int} {Q : Int × xM → Prop} {K : Int → Int → Int → Int → Int → Int → xM → Option (Int × xM)} {B : Int} (W : xWF V) (p2 : 2 ≤ V 0 0) (E : xEf M 310 V) (hpm : pm = 0 ∨ pm = 1) (h0 : 0 ≤ h) (h1 : h < V 0 1) (s0 : 0 ≤ s) (s1 : s < 2 ^ (V 0 0).toNat) (sa : ∀ d : Int, 0 ≤ d → d < 32 → xbt s d = true → xbt al d = true) : ∀ (n g i : Nat) (m : xM) (C : Int → Int), n < g → (i : Int) + n = V 0 0 → xF 329 329 M m → xtb m 329 (V 0 0).toNat C → xJ (V 0 0).toNat al C → (∀ m' : xM, xF 329 329 M m' → xtb m' 329 (V 0 0).toNat (xcf V h pm al s n i C) → xP (K 310 al pm B h (s - 1) m') Q) → xP (fQ_corridorBy_L84 K g 310 al pm B h s (i : Int) m) Q
  | _, 0, _, _, _, hg, _, _, _, _, _ => absurd hg (Nat.not_lt_zero _)
  | 0, g + 1, i, m, C, _, hi, hF, hC, J, hK => by
    have hN := W.1
    have p9 := (xpwn hN.1 hN.2).2
    rw [fQ_corridorBy_L84, hF (310 + 7) (by omega), E.1.1, if_neg (by omega), show s + -1 = s - 1 from rfl, xw32_id (by omega) (by omega)]
    exact hK m hF hC
  | n + 1, g + 1, i, m, C, hg, hi, hF, hC, J, hK => by
    have hN := W.1
    have p9 := (xpwn hN.1 hN.2).2
    have c0 : 0 ≤ (i : Int) := by omega
    have c1 : (i : Int) < V 0 0 := by omega
    have Em : xEf m 310 V := xEf_go E (fun j _ _ => by rw [hF 310 (by omega)]) (hF _ (by omega)) (hF _ (by omega)) (hF _ (by omega)) (hF _ (by omega)) (hF _ (by omega))
    have J1 := xcs_J (h := h) (pm := pm) W J c0 c1 s0 s1 sa
    have r := xad_rg s0 s1 c0 (n := (V 0 0).toNat) (by omega) (by omega)
    have js := (J s s0 s1).1
    have jt := (J (xad s i) r.1 r.2).1
    have q0 := xps_rg (h := h) W c0 c1 (Or.inl rfl)
    have q1 := xps_rg (h := h) W c0 c1 (Or.inr rfl)
    have skip : ¬ (xbt al i = true ∧ xprc V i h pm ≠ -1 ∧ xfb V i s = true) → xP (fQ_corridorBy_L84 K g 310 al pm B h s ((i : Int) + 1) m) Q := fun x => by
      have e : xcs V h pm al s C (i : Int) = C := by unfold xcs; rw [if_neg x]
      rw [xcf, e] at hK
      exact oneQ_L W p2 E hpm h0 h1 s0 s1 sa n g (i + 1) m C (by omega) (by omega) hF hC J hK
    have fin : ∀ y : Int, xbt al i = true → xprc V i h pm ≠ -1 → xfb V i s = true → y = xprc V i h pm → 0 ≤ y → y ≤ 100 → xP (fQ_corridorBy_L220 (fQ_corridorBy_L84 K g) 310 al pm B h s (i : Int) y (m (310 + 19) s) m) Q := fun y e1 e2 e3 ey y0 y1 => by
      have hs : m (310 + 19) s = C s := hC s s0 s1
      have ht : m (310 + 19) (xad s i) = C (xad s i) := hC _ r.1 r.2
      unfold fQ_corridorBy_L220
      rw [show xor32 s (xshl 1 (i : Int)) = xad s i from rfl, hs, ht, xA_p (by omega), xA_p (by omega), xA_p (by omega), xw32_id (x := C s + y) (by omega) (by omega), xw32_id (x := (i : Int) + 1) (by omega) (by omega)]
      rw [xcf] at hK
      by_cases lt : C s + y < C (xad s i)
      · rw [if_pos lt]
        refine oneQ_L W p2 E hpm h0 h1 s0 s1 sa n g (i + 1) _ _ (by omega) (by omega) (xwr_F (a := 310 + 19) hF (by omega) (by omega)) (fun t t0 t1 => ?_) J1 hK
        rw [xcs_y e1 e2 e3, show (329 : Int) = 310 + 19 from rfl, xwr_at]
        by_cases x : t = xad s i
        · rw [if_pos ⟨rfl, x⟩, if_pos x, x, ← ey, if_pos lt]
        · rw [if_neg (fun z => x z.2), if_neg x]
          exact hC t t0 t1
      · rw [if_neg lt, xA_p (by omega)]
        refine oneQ_L W p2 E hpm h0 h1 s0 s1 sa n g (i + 1) _ _ (by omega) (by omega) (xwr_F (a := 310 + 19) hF (by omega) (by omega)) (fun t t0 t1 => ?_) J1 hK
        rw [xcs_y e1 e2 e3, show (329 : Int) = 310 + 19 from rfl, xwr_at]
        by_cases x : t = xad s i
        · rw [if_pos ⟨rfl, x⟩, if_pos x, x, ← ey, if_neg lt]
        · rw [if_neg (fun z => x z.2), if_neg x]
          exact hC t t0 t1
    rw [fQ_corridorBy_L84, hF (310 + 7) (by omega), E.1.1, if_pos c1, fQ_isBit_s _ m c0 (by omega), fQ_isBit_s _ m c0 (by omega), isIn_s W Em c0 c1 (Or.inl rfl), isIn_s W Em c0 c1 (Or.inr rfl), xB_s, xB_s, points_s W p2 Em c0 c1 (Or.inl rfl) h0 h1, points_s W p2 Em c0 c1 (Or.inr rfl) h0 h1, xB_s, xB_s, xw32_id (x := (i : Int) + 1) (by omega) (by omega)]
    by_cases e1 : xbt al i = true
    · rw [if_neg (fun x => absurd ((xif10z _).mp x) (by rw [e1]; decide))]
      by_cases e2 : xbt s i = true
      · rw [if_neg (fun x => absurd ((xif10z _).mp x) (by rw [e2]; decide))]
        exact skip (fun x => by have := x.2.2; unfold xfb at this; rw [e2] at this; cases this)
      · rw [if_pos ((xif10z _).mpr (by simpa using e2))]
        by_cases e3 : xIn V i 0 s = true
        · rw [if_neg (fun x => absurd ((xif10z _).mp x) (by rw [e3]; decide))]
          by_cases e4 : xIn V i 1 s = true
          · have ef : xfb V i s = true := by unfold xfb; rw [e3, e4]; simpa using e2
            rw [if_neg (fun x => absurd ((xif10z _).mp x) (by rw [e4]; decide))]
            by_cases e5 : xps V i 0 h = 1000000
            · rw [if_neg (by omega)]
              exact skip (fun x => x.2.1 (by unfold xprc; rw [if_pos e5]))
            · rw [if_pos (by omega)]
              by_cases e6 : xps V i 1 h = 1000000
              · rw [if_neg (by omega)]
                exact skip (fun x => x.2.1 (by unfold xprc; rw [if_neg e5, if_pos e6]))
              · have ep : xprc V i h pm = xp1 V i 0 h pm + xp1 V i 1 h pm := by unfold xprc; rw [if_neg e5, if_neg e6]
                have z0 : 0 ≤ xp1 V i 0 h pm ∧ xp1 V i 0 h pm ≤ 9 := by unfold xp1; (repeat' split) <;> omega
                have z1 : 0 ≤ xp1 V i 1 h pm ∧ xp1 V i 1 h pm ≤ 9 := by unfold xp1; (repeat' split) <;> omega
                rw [if_pos (by omega), xA_p (by omega)]
                rcases hpm with rfl | rfl
                · rw [if_pos rfl]
                  have z2 : xp1 V i 0 h 0 = xps V i 0 h := if_pos rfl
                  have z3 : xp1 V i 1 h 0 = xps V i 1 h := if_pos rfl
                  exact fin _ e1 (by omega) ef (by rw [xw32_id (by omega) (by omega), ep, z2, z3]) (by rw [xw32_id (by omega) (by omega)]; omega) (by rw [xw32_id (by omega) (by omega)]; omega)
                · rw [if_neg (by decide)]
                  unfold fQ_corridorBy_L201 fQ_corridorBy_L211
                  have z2 : xp1 V i 0 h 1 = if 0 < xps V i 0 h then 1 else 0 := if_neg (by decide)
                  have z3 : xp1 V i 1 h 1 = if 0 < xps V i 1 h then 1 else 0 := if_neg (by decide)
                  by_cases g0 : 0 < xps V i 0 h
                  · rw [if_pos g0] at z2
                    by_cases g1 : 0 < xps V i 1 h
                    · rw [if_pos g1] at z3
                      rw [if_pos g0, if_pos g1]
                      exact fin _ e1 (by omega) ef (by rw [xw32_id (by omega) (by omega), ep, z2, z3]) (by rw [xw32_id (by omega) (by omega)]; omega) (by rw [xw32_id (by omega) (by omega)]; omega)
                    · rw [if_neg g1] at z3
                      rw [if_pos g0, if_neg g1]
                      exact fin _ e1 (by omega) ef (by rw [xw32_id (by omega) (by omega), ep, z2, z3]) (by rw [xw32_id (by omega) (by omega)]; omega) (by rw [xw32_id (by omega) (by omega)]; omega)
                  · rw [if_neg g0] at z2
                    by_cases g1 : 0 < xps V i 1 h
                    · rw [if_pos g1] at z3
                      rw [if_neg g0, if_pos g1]
                      exact fin _ e1 (by omega) ef (by rw [xw32_id (by omega) (by omega), ep, z2, z3]) (by rw [xw32_id (by omega) (by omega)]; omega) (by rw [xw32_id (by omega) (by omega)]; omega)
                    · rw [if_neg g1] at z3
                      rw [if_neg g0, if_neg g1]
                      exact fin _ e1 (by omega) ef (by rw [xw32_id (by omega) (by omega), ep, z2, z3]) (by rw [xw32_id (by omega) (by omega)]; omega) (by rw [xw32_id (by omega) (by omega)]; omega)
          · rw [if_pos ((xif10z _).mpr (by simpa using e4))]
            exact skip (fun x => by have := x.2.2; unfold xfb at this; rw [Bool.and_eq_true, Bool.and_eq_true] at this; exact e4 this.2.2)
        · rw [if_pos ((xif10z _).mpr (by simpa using e3))]
          exact skip (fun x => by have := x.2.2; unfold xfb at this; rw [Bool.and_eq_true, Bool.and_eq_true] at this; exact e3 this.2.1)
    · rw [if_pos ((xif10z _).mpr (by simpa using e1))]
      exact skip (fun x => e1 x.1)
theorem csetsQ_L {M V : xM} {h pm al B : Int} {Q : Int × xM → Prop} {K : Int → Int → Int → Int → Int → xM → Option (Int × xM)} (W : xWF V) (p2 : 2 ≤ V 0 0) (E : xEf M 310 V) (hpm : pm = 0 ∨ pm = 1) (h0 : 0 ≤ h) (h1 : h < V 0 1) : ∀ (n g : Nat) (m : xM) (C : Int → Int), n < g → (n : Int) ≤ 2 ^ (V 0 0).toNat → xF 329 329 M m → xtb m 329 (V 0 0).toNat C → xJ (V 0 0).toNat al C → (∀ m' : xM, xF 329 329 M m' → xtb m' 329 (V 0 0).toNat (xsf V h pm al n C) → xP (K 310 al pm B (h + 1) m') Q) → xP (fQ_corridorBy_L61 K g 310 al pm B h ((n : Int) - 1) m) Q
  | _, 0, _, _, hg, _, _, _, _, _ => absurd hg (Nat.not_lt_zero _)
  | 0, g + 1, m, C, _, _, hF, hC, J, hK => by
    have hH := W.2.1
    rw [fQ_corridorBy_L61, if_pos (by omega), xw32_id (by omega) (by omega)]
    exact hK m hF hC
  | n + 1, g + 1, m, C, hg, hn, hF, hC, J, hK => by
    have hN := W.1
    have p9 := (xpwn hN.1 hN.2).2
    have en : ((n + 1 : Nat) : Int) - 1 = (n : Int) := by omega
    have jn := J (n : Int) (by omega) (by omega)
    rw [fQ_corridorBy_L61, en, if_neg (by omega), xA_p (by omega), show m (310 + 19) = m 329 from rfl, hC _ (by omega) (by omega), xw32_id (x := (n : Int) + -1) (by omega) (by omega), show (n : Int) + -1 = (n : Int) - 1 from rfl]
    rw [xsf] at hK
    by_cases e : C (n : Int) < 1000000
    · rw [if_pos e] at hK
      rw [if_neg (by omega)]
      refine oneQ_L W p2 E hpm h0 h1 (by omega) (by omega) (jn.2 e) (V 0 0).toNat 20001 0 m C (by omega) (by omega) hF hC J (fun m1 f1 t1 => ?_)
      exact csetsQ_L W p2 E hpm h0 h1 n g m1 _ (by omega) (by omega) f1 t1 (xcf_J W (by omega) (by omega) (jn.2 e) (V 0 0).toNat 0 C (by omega) J) hK
    · rw [if_neg e] at hK
      rw [if_pos (by omega)]
      exact csetsQ_L W p2 E hpm h0 h1 n g m C (by omega) (by omega) hF hC J hK
theorem hoursQ_L {M V : xM} {pm al : Int} {B : Nat} (W : xWF V) (p2 : 2 ≤ V 0 0) (E : xEf M 310 V) (hpm : pm = 0 ∨ pm = 1) (a0 : 0 ≤ al) (a1 : al < 2 ^ (V 0 0).toNat) (hB : (B : Int) = 2 ^ (V 0 0).toNat) : ∀ (n g i : Nat) (m : xM) (C : Int → Int), n < g → (i : Int) + n = V 0 1 → xF 329 329 M m → xtb m 329 (V 0 0).toNat C → xJ (V 0 0).toNat al C → xP (fQ_corridorBy_L45 g 310 al pm (B : Int) (i : Int) m) (fun x => x.1 = (if xhu V pm al B n i C al < 1000000 then xhu V pm al B n i C al else -1) ∧ xF 329 329 M x.2)
  | _, 0, _, _, _, hg, _, _, _, _ => absurd hg (Nat.not_lt_zero _)
  | 0, g + 1, i, m, C, _, hi, hF, hC, J => by
    have hN := W.1
    have p9 := (xpwn hN.1 hN.2).2
    have ja := (J al a0 a1).1
    rw [fQ_corridorBy_L45, hF (310 + 7) (by omega), E.1.2.1, if_neg (by omega), xA_p (by omega), xA_p (by omega), show m (310 + 19) = m 329 from rfl, hC al a0 a1]
    unfold xhu
    by_cases e : C al < 1000000
    · rw [if_neg (by omega)]; exact xP_some ⟨(if_pos e).symm, hF⟩
    · rw [if_pos (by omega)]; exact xP_some ⟨(if_neg e).symm, hF⟩
  | n + 1, g + 1, i, m, C, hg, hi, hF, hC, J => by
    have hN := W.1
    have hH := W.2.1
    have p9 := (xpwn hN.1 hN.2).2
    rw [fQ_corridorBy_L45, hF (310 + 7) (by omega), E.1.2.1, if_pos (by omega), xhu, xw32_id (by omega) (by omega)]
    exact csetsQ_L W p2 E hpm (by omega) (by omega) B 20001 m C (by omega) (by omega) hF hC J (fun m1 f1 t1 => hoursQ_L W p2 E hpm a0 a1 hB n g (i + 1) m1 _ (by omega) (by omega) f1 t1 (xsf_J W B C (by omega) J))
theorem tableQ_L {M V : xM} {pm al : Int} {B : Nat} (W : xWF V) (p2 : 2 ≤ V 0 0) (E : xEf M 310 V) (hpm : pm = 0 ∨ pm = 1) (a0 : 0 ≤ al) (a1 : al < 2 ^ (V 0 0).toNat) (hB : (B : Int) = 2 ^ (V 0 0).toNat) : ∀ (n g i : Nat) (m : xM), n < g → i + n = B → xF 329 329 M m → (∀ t : Int, 0 ≤ t → t < i → m 329 t = xC0 t) → xP (fQ_corridorBy_L12 g 310 al pm (B : Int) (i : Int) m) (fun x => x.1 = (if xhu V pm al B (V 0 1).toNat 0 xC0 al < 1000000 then xhu V pm al B (V 0 1).toNat 0 xC0 al else -1) ∧ xF 329 329 M x.2)
  | _, 0, _, _, hg, _, _, _ => absurd hg (Nat.not_lt_zero _)
  | 0, g + 1, i, m, _, hi, hF, hC => by
    have hH := W.2.1
    rw [fQ_corridorBy_L12, if_neg (by omega)]
    exact hoursQ_L W p2 E hpm a0 a1 hB (V 0 1).toNat 20001 0 m xC0 (by omega) (by omega) hF (fun t t0 t1 => hC t t0 (by omega)) (xC0_J _ _)
  | n + 1, g + 1, i, m, hg, hi, hF, hC => by
    have hN := W.1
    have p9 := (xpwn hN.1 hN.2).2
    have next : ∀ v : Int, v = xC0 i → xP (fQ_corridorBy_L12 g 310 al pm (B : Int) ((i : Int) + 1) (xwr m (310 + 19) (i : Int) v)) (fun x => x.1 = (if xhu V pm al B (V 0 1).toNat 0 xC0 al < 1000000 then xhu V pm al B (V 0 1).toNat 0 xC0 al else -1) ∧ xF 329 329 M x.2) := fun v ev => by
      refine tableQ_L W p2 E hpm a0 a1 hB n g (i + 1) _ (by omega) (by omega) (xwr_F hF (by omega) (by omega)) (fun t t0 t1 => ?_)
      rw [show (329 : Int) = 310 + 19 from rfl, xwr_at]
      by_cases x : t = i
      · rw [if_pos ⟨rfl, x⟩, ev, x]
      · rw [if_neg (fun y => x y.2)]
        exact hC t t0 (by omega)
    rw [fQ_corridorBy_L12, if_pos (by omega), xA_p (by omega), xA_p (by omega), xw32_id (x := (i : Int) + 1) (by omega) (by omega)]
    by_cases e : (i : Int) = 0
    · rw [if_pos e]
      exact next 0 (by unfold xC0; rw [if_pos e])
    · rw [if_neg e]
      exact next 1000000 (by unfold xC0; rw [if_neg e])
theorem cheapQ_s {M V : xM} {pm al : Int} (W : xWF V) (p2 : 2 ≤ V 0 0) (E : xEf M 310 V) (hpm : pm = 0 ∨ pm = 1) (a0 : 0 ≤ al) (a1 : al < 2 ^ (V 0 0).toNat) : xP (fQ_corridorBy 310 al pm M) (fun x => x.1 = (if xhu V pm al (al + 1).toNat (V 0 1).toNat 0 xC0 al < 1000000 then xhu V pm al (al + 1).toNat (V 0 1).toNat 0 xC0 al else -1) ∧ xF 329 329 M x.2) := by
  have hN := W.1
  have pn := xpwn hN.1 hN.2
  have sh := (xshl1_pw hN.1 (by omega)).1
  have hB : ((2 ^ (V 0 0).toNat : Nat) : Int) = 2 ^ (V 0 0).toNat := pn.1.symm
  have := tableQ_L (pm := pm) (B := 2 ^ (V 0 0).toNat) W p2 E hpm a0 a1 hB (2 ^ (V 0 0).toNat) 20001 0 M (by omega) (by omega) (xF_rfl _ _ _) (fun t t0 t1 => absurd t1 (by omega))
  rw [(xhu_cut (pm := pm) (B := 2 ^ (V 0 0).toNat) W a0 a1 hB (V 0 1).toNat 0 xC0 (xC0_J _ _)).1, hB] at this
  unfold fQ_corridorBy
  rw [E.1.1, sh]
  exact this
theorem call_cor {M : xM} (S : Sim M) (a b pm : Int) (hpm : pm = 0 ∨ pm = 1) : ∃ r : Int, xP (fD_cheapestCorridor 1 a b pm M) (fun x => x.1 = r ∧ xKp M x.2 ∧ xP (fQ_corridorOf 310 a b (xwr x.2 310 0 0)) (fun v => (v = -1 → r = -2) ∧ (v ≠ -1 → xP (fQ_corridorBy 310 v pm (fQ_plainly 310 (xwr x.2 310 0 0))) (fun y => y.1 = r ∧ xKp x.2 y.2)))) := by
  obtain ⟨V, hv, W, Q, K, Q0, L⟩ := opn S
  have hN := W.1.1
  have hR : M (1 + 15) 3 = V 0 3 := xPv_0 hv 3 (by decide) (by decide)
  have Q3 : ∀ m : xM, xKp M m → xQ0 (xwr m 310 0 0) 310 0 V := fun m k => xQ0_kp Q (xKp_tr k (xKp_w (xKp_rfl m) (by decide) (by decide) (by decide)))
  unfold fD_cheapestCorridor
  rw [hasCell_s, hasCell_s, xPv_0 hv 0 (by decide) (by decide), hR]
  simp only [if10]
  have bad : fQ_corridorOf 310 a b (xwr M 310 0 0) = some (-1) → ∃ r : Int, xP (some ((-2 : Int), M)) (fun x => x.1 = r ∧ xKp M x.2 ∧ xP (fQ_corridorOf 310 a b (xwr x.2 310 0 0)) (fun v => (v = -1 → r = -2) ∧ (v ≠ -1 → xP (fQ_corridorBy 310 v pm (fQ_plainly 310 (xwr x.2 310 0 0))) (fun y => y.1 = r ∧ xKp x.2 y.2)))) := fun e => ⟨-2, xP_some ⟨rfl, xKp_rfl M, xP_of e ⟨fun _ => rfl, fun x => absurd rfl x⟩⟩⟩
  have ref : ∀ m : xM, xKp M m → 0 ≤ a ∧ a < V 0 0 → 0 ≤ b ∧ b < V 0 0 → fQ_corridorOf 310 a b (xwr m 310 0 0) = if V 0 3 = 0 then (if b < a then some (-1) else fQ_corridorOf_L41 20001 310 b (xshl 1 b) a (xwr m 310 0 0)) else fQ_corridorOf_L41 20001 310 b (xshl 1 b) a (xwr m 310 0 0) := fun m k h1 h2 => by
    unfold fQ_corridorOf
    rw [qCell_s (Q3 m k) W, qCell_s (Q3 m k) W, (show (xwr m 310 0 0) (310 + 7) 3 = V 0 3 from (Q3 m k).2)]
    simp only [if10]
    rw [if_neg (not_not_intro h1), if_neg (not_not_intro h2)]
  by_cases h1 : 0 ≤ a ∧ a < V 0 0
  · rw [if_neg (not_not_intro h1)]
    by_cases h2 : 0 ≤ b ∧ b < V 0 0
    · rw [if_neg (not_not_intro h2)]
      have p2 := W2 W h1.1 h1.2
      have go : (a ≤ b ∨ V 0 3 = 1) → ∃ r : Int, xP (xB (fPrison_stretch (1 + 15) a b M) (fun v3 => xB (fCorridor_cheapest (1 + 261) (1 + 15) ((1 + 37) + 1) v3 pm M) (fun q_ => match q_ with | (v4, m4) => some (v4, m4)))) (fun x => x.1 = r ∧ xKp M x.2 ∧ xP (fQ_corridorOf 310 a b (xwr x.2 310 0 0)) (fun v => (v = -1 → r = -2) ∧ (v ≠ -1 → xP (fQ_corridorBy 310 v pm (fQ_plainly 310 (xwr x.2 310 0 0))) (fun y => y.1 = r ∧ xKp x.2 y.2)))) := by
        intro hab
        have st : ∀ m : xM, xKp M m → ∃ v : Int, fPrison_stretch (1 + 15) a b M = some v ∧ fQ_corridorOf_L41 20001 310 b (xshl 1 b) a (xwr m 310 0 0) = some v ∧ 0 ≤ v ∧ v < 2 ^ (V 0 0).toNat := fun m k => by
          refine str_L W.1 hv (Q3 m k).1.1.2.1 h2.1 h2.2 (if a ≤ b then b - a else V 0 0 + b - a).toNat 20001 20001 0 0 (xshl 1 b) a (by split <;> omega) (by split <;> omega) (by split <;> omega) h1.1 h1.2 (by split <;> omega) (by decide) (Int.pow_pos (by decide)) (by rw [xshl_eq]; exact xi_in _) (fun d d0 d1 => by rw [xbt_shl1 h2.1 (by omega) d0 d1, xbt_0, Bool.false_or])
        obtain ⟨v, v1, -, v2, v3⟩ := st M (xKp_rfl M)
        refine ⟨(if xhu V pm v (v + 1).toNat (V 0 1).toNat 0 xC0 v < 1000000 then xhu V pm v (v + 1).toNat (V 0 1).toNat 0 xC0 v else -1), ?_⟩
        rw [v1, xB_s]
        refine xP_B (cheapD_s (pm := pm) W.1 p2 hv (L p2).1.1 v2 v3) ?_
        rintro ⟨r, m⟩ ⟨er, fr⟩
        have kr : xKp M m := xKp_F fr (fun x _ _ => by unfold xPer; omega)
        refine xP_some ⟨er, kr, ?_⟩
        obtain ⟨v', w1, w2, -, -⟩ := st m kr
        have ev : v' = v := by rw [v1] at w1; exact (Option.some.inj w1).symm
        rw [ev] at w2
        have e0 : fQ_corridorOf 310 a b (xwr m 310 0 0) = some v := by
          rw [ref m kr h1 h2]
          by_cases x : V 0 3 = 0
          · rw [if_pos x, if_neg (by omega)]; exact w2
          · rw [if_neg x]; exact w2
        refine xP_of e0 ⟨fun x => absurd x (by omega), fun _ => ?_⟩
        have kq := plainly_kp (xwr m 310 0 0)
        refine xP_mono (cheapQ_s (pm := pm) W.1 p2 (xEf_pl (xQ0_kp (Q3 m kr) kq) W p2 (plainly_s 310 (xwr m 310 0 0)).1) hpm v2 v3) ?_
        rintro ⟨r', m'⟩ ⟨er', fr'⟩
        exact ⟨er', xKp_tr (xKp_tr (xKp_w (xKp_rfl m) (by decide) (by decide) (by decide)) kq) (xKp_F fr' (fun x _ _ => by unfold xPer; omega))⟩
      have r3 := W.1.2.2.1
      by_cases h3 : V 0 3 = 0
      · rw [if_pos h3]
        by_cases h4 : b < a
        · rw [if_pos h4]
          exact bad (by rw [ref M (xKp_rfl M) h1 h2, if_pos h3, if_pos h4])
        · rw [if_neg h4]
          exact go (Or.inl (by omega))
      · rw [if_neg h3]
        exact go (Or.inr (by omega))
    · rw [if_pos h2]
      refine bad ?_
      unfold fQ_corridorOf
      rw [qCell_s Q0 W, qCell_s Q0 W]
      simp only [if10]
      rw [if_neg (not_not_intro h1), if_pos h2]
  · rw [if_pos h1]
    refine bad ?_
    unfold fQ_corridorOf
    rw [qCell_s Q0 W]
    simp only [if10]
    rw [if_pos h1]
theorem call_33 {M : xM} (S : Sim M) (a b : Int) : xC2 (fD_corridor 1 a b M) (fun m => fQ_corridor 310 a b m) M := by
  obtain ⟨r, ⟨r1, m1⟩, e1, e2, k1, v, e3, e4, e5⟩ := call_cor S a b 0 (Or.inl rfl)
  have e2 : r1 = r := e2
  subst e2
  by_cases x : v = -1
  · refine ⟨r1, m1, xwr m1 310 0 0, by unfold fD_corridor; rw [e1, xB_s], k1, ?_, xKp_w (xKp_rfl m1) (by decide) (by decide) (by decide)⟩
    show fQ_corridor 310 a b m1 = _
    unfold fQ_corridor
    rw [e3, xB_s, if_pos x, e4 x]
  · obtain ⟨⟨r2, m2⟩, e6, e7, k2⟩ := e5 x
    have e7 : r2 = r1 := e7
    subst e7
    refine ⟨r2, m1, m2, by unfold fD_corridor; rw [e1, xB_s], k1, ?_, k2⟩
    show fQ_corridor 310 a b m1 = _
    unfold fQ_corridor
    rw [e3, xB_s, if_neg x, e6, xB_s]
theorem call_34 {M : xM} (S : Sim M) (a b : Int) : xC2 (fD_friends 1 a b M) (fun m => fQ_friends 310 a b m) M := by
  obtain ⟨r, ⟨r1, m1⟩, e1, e2, k1, v, e3, e4, e5⟩ := call_cor S a b 1 (Or.inr rfl)
  have e2 : r1 = r := e2
  subst e2
  by_cases x : v = -1
  · refine ⟨r1, m1, xwr m1 310 0 0, by unfold fD_friends; rw [e1, xB_s], k1, ?_, xKp_w (xKp_rfl m1) (by decide) (by decide) (by decide)⟩
    show fQ_friends 310 a b m1 = _
    unfold fQ_friends
    rw [e3, xB_s, if_pos x, e4 x]
  · obtain ⟨⟨r2, m2⟩, e6, e7, k2⟩ := e5 x
    have e7 : r2 = r1 := e7
    subst e7
    refine ⟨r2, m1, m2, by unfold fD_friends; rw [e1, xB_s], k1, ?_, k2⟩
    show fQ_friends 310 a b m1 = _
    unfold fQ_friends
    rw [e3, xB_s, if_neg x, e6, xB_s]
end
