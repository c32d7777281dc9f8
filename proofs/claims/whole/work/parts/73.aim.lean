/-! the sets that still come to the most: the class's side -/
noncomputable section
def wr (x h : Int) : Int := x + 8 + 3 + 4 * h
/-- s has k hours to go and can still come to top -/
def xPw (V : xM) (top : Int) : Nat → Int → Prop
  | 0, s => (0 ≤ s ∧ s < 2 ^ (V 0 0).toNat) ∧ xpc s = top
  | k + 1, s => (0 ≤ s ∧ s < 2 ^ (V 0 0).toNat) ∧ (xPw V top k s ∨ ∃ c : Int, 0 ≤ c ∧ c < V 0 0 ∧ xop V c (V 0 1 - ((k : Int) + 1)) s = true ∧ xPw V top k (xad s c))
theorem xPw_rg {V : xM} {top : Int} : ∀ (k : Nat) (s : Int), xPw V top k s → 0 ≤ s ∧ s < 2 ^ (V 0 0).toNat
  | 0, _, h => h.1
  | _ + 1, _, h => h.1
def xFw (x : Int) (M m : xM) : Prop := ∀ a : Int, (a ≤ x + 11 ∨ a % 4 ≠ (x + 12) % 4 ∨ x + 108 < a) → m a = M a
theorem xFw_tr {x : Int} {M m k : xM} (a : xFw x M m) (b : xFw x m k) : xFw x M k := fun y h => (b y h).trans (a y h)
theorem xFw_of {x h : Int} {M m : xM} (f : xF (wr x h + 1) (wr x h + 1) M m) (h0 : 0 ≤ h) (h1 : h ≤ 24) : xFw x M m := fun a ha => f a (by unfold wr; omega)
theorem xad_ge {s c : Int} (s0 : 0 ≤ s) (s1 : s < 512) (c0 : 0 ≤ c) (c1 : c < 9) : s ≤ xad s c := by
  cases h : xbt s c
  · rw [xad_9 s0 s1 c0 c1 h]
    have := pw_9 c0 (show c ≤ 9 by omega)
    omega
  · rw [xad_has s0 s1 c0 c1 h]
    exact Int.le_refl _
theorem aim_L94 {V : xM} {x h top : Int} {k : Nat} (w : xWF V) {K : Int → Int → xM → Option xM} {Q : xM → Prop} (hh : h = V 0 1 - ((k : Int) + 1)) (h1 : 1 ≤ h) {M : xM}
    (hK : ∀ m : xM, xF (wr x h + 1) (wr x h + 1) M m → xSt m (wr x h) (xPw V top (k + 1)) → xP (K x (h - 1) m) Q) (hk : xKO M (x + 1) V) (hr : xSt M (wr x (h + 1)) (xPw V top k)) :
    ∀ (n g i : Nat) (m : xM), n < g → (i : Int) + n = V 0 0 → xF (wr x h + 1) (wr x h + 1) M m → xSt m (wr x h) (fun s => xPw V top k s ∨ ∃ c : Int, 0 ≤ c ∧ c < i ∧ xop V c h s = true ∧ xPw V top k (xad s c)) → xP (fOutlook_aimAtMost_L94 K g x h (i : Int) m) Q
  | _, 0, _, _, hg, _, _, _ => absurd hg (Nat.not_lt_zero _)
  | 0, g + 1, i, m, _, hi, hF, hS => by
    have hN := w.1
    have hH := w.2.1
    have f : ∀ b : Int, b < x + 9 → m b = M b := fun b hb => hF b (by unfold wr; omega)
    unfold fOutlook_aimAtMost_L94
    rw [f (x + 1) (by omega), hk.1, if_neg (by omega), xw32_id (by omega) (by omega)]
    refine hK m hF (xSt_iff hS (fun s s0 s1 => ?_))
    rw [show (i : Int) = V 0 0 by omega, hh]
    constructor
    · rintro (q | ⟨c, c0, c1, q, r⟩)
      · exact ⟨xPw_rg k s q, Or.inl q⟩
      · have b := xPw_rg k _ r
        have d := xad_ge s0 s1 c0 (by omega)
        exact ⟨⟨s0, by omega⟩, Or.inr ⟨c, c0, c1, q, r⟩⟩
    · exact fun q => q.2
  | n + 1, g + 1, i, m, hg, hi, hF, hS => by
    have hN := w.1
    have hH := w.2.1
    have f : ∀ b : Int, b < x + 9 → m b = M b := fun b hb => hF b (by unfold wr; omega)
    have hk' : xKO m (x + 1) V := xKO_go hk (fun a a0 a1 => f a (by omega))
    have hD := hk'.2.2.2 i (by omega) (by omega)
    unfold fOutlook_aimAtMost_L94
    rw [f (x + 1) (by omega), hk.1, if_pos (by omega), xA_p (by omega), fD_bit_s _ m (by omega) (by omega), hD.2.1 h (by omega) (by omega), decide_eq_true (show h < V 0 1 by omega), Bool.true_and, xw32_id (x := (i : Int) + 1) (by omega) (by omega), xw32_id (x := h + 1) (by omega) (by omega)]
    by_cases ho : xOk V i h = true
    · rw [if_pos ((xif10 _).mpr ho), xA_p (by omega), xA_p (by omega)]
      refine xP_B (addPrev_s (r := wr x h) (a := wr x (h + 1)) (k := x + 1) (c := i) w hk' (xSt_go hr (hF _ (by unfold wr; omega))) hS (by omega) (by omega) (by unfold wr; omega) (by unfold wr; omega) (fun s e => xPw_rg k s e)) ?_
      rintro m' ⟨hF', hS'⟩
      refine aim_L94 w hh h1 hK hk hr n g (i + 1) m' (by omega) (by omega) (xF_tr hF hF') (xSt_iff hS' (fun s s0 s1 => ?_))
      constructor
      · rintro ((q | ⟨c, c0, c1, q⟩) | ⟨q1, q2⟩)
        · exact Or.inl q
        · exact Or.inr ⟨c, c0, by omega, q⟩
        · exact Or.inr ⟨i, by omega, by omega, (xop_bar hD).mpr ⟨ho, q1⟩, q2⟩
      · rintro (q | ⟨c, c0, c1, q1, q2⟩)
        · exact Or.inl (Or.inl q)
        · by_cases e : c = i
          · subst e
            exact Or.inr ⟨((xop_bar hD).mp q1).2, q2⟩
          · exact Or.inl (Or.inr ⟨c, c0, by omega, q1, q2⟩)
    · rw [if_neg (fun e => ho ((xif10 _).mp e))]
      refine aim_L94 w hh h1 hK hk hr n g (i + 1) m (by omega) (by omega) hF (xSt_iff hS (fun s s0 s1 => ?_))
      constructor
      · rintro (q | ⟨c, c0, c1, q⟩)
        · exact Or.inl q
        · exact Or.inr ⟨c, c0, by omega, q⟩
      · rintro (q | ⟨c, c0, c1, q1, q2⟩)
        · exact Or.inl q
        · by_cases e : c = i
          · subst e
            exact absurd (xop_iff.mp q1).1 ho
          · exact Or.inr ⟨c, c0, by omega, q1, q2⟩
theorem aim_L70 {V M : xM} {x top : Int} (w : xWF V) (hk : xKO M (x + 1) V) : ∀ (n g k : Nat) (m : xM), n < g → (k : Int) + n = V 0 1 - 1 → xFw x M m → (∀ j : Nat, j ≤ k → xSt m (wr x (V 0 1 - j)) (xPw V top j)) → xP (fOutlook_aimAtMost_L70 g x (V 0 1 - 1 - k) m) (fun m' => xFw x M m' ∧ ∀ j : Nat, (j : Int) < V 0 1 → xSt m' (wr x (V 0 1 - j)) (xPw V top j))
  | _, 0, _, _, hg, _, _, _ => absurd hg (Nat.not_lt_zero _)
  | 0, g + 1, k, m, _, hi, hF, hS => by
    unfold fOutlook_aimAtMost_L70
    rw [if_neg (by omega)]
    exact xP_some ⟨hF, fun j hj => hS j (by omega)⟩
  | n + 1, g + 1, k, m, hg, hi, hF, hS => by
    have hN := w.1
    have hH := w.2.1
    have f : ∀ b : Int, b < x + 9 → m b = M b := fun b hb => hF b (by omega)
    unfold fOutlook_aimAtMost_L70
    rw [if_pos (by omega), xw32_id (x := V 0 1 - 1 - (k : Int) + 1) (by omega) (by omega), xA_p (by omega), xA_p (by omega)]
    have Sk : xSt m (wr x (V 0 1 - 1 - (k : Int) + 1)) (xPw V top k) := by
      have := hS k (Nat.le_refl _)
      rwa [show V 0 1 - (k : Int) = V 0 1 - 1 - (k : Int) + 1 by omega] at this
    have cp := copySet_s (a := wr x (V 0 1 - 1 - (k : Int))) Sk
    have hF1 : xFw x M (fSets_copy (wr x (V 0 1 - 1 - (k : Int))) (wr x (V 0 1 - 1 - (k : Int) + 1)) m) := xFw_tr hF (xFw_of cp.1 (by omega) (by omega))
    have hS1 : ∀ j : Nat, j ≤ k → xSt (fSets_copy (wr x (V 0 1 - 1 - (k : Int))) (wr x (V 0 1 - 1 - (k : Int) + 1)) m) (wr x (V 0 1 - j)) (xPw V top j) := fun j hj => xSt_go (hS j hj) (cp.1 _ (by unfold wr; omega))
    refine aim_L94 (k := k) (M := fSets_copy (wr x (V 0 1 - 1 - (k : Int))) (wr x (V 0 1 - 1 - (k : Int) + 1)) m) w (by omega) (by omega) (fun m' hF' hS' => ?_) (xKO_go hk (fun a a0 a1 => hF1 a (by omega))) (xSt_go Sk (cp.1 _ (by unfold wr; omega))) (V 0 0).toNat 20001 0 _ (by omega) (by omega) (xF_rfl _ _ _) (xSt_iff cp.2 (fun s s0 s1 => ?_))
    · have := aim_L70 (top := top) w hk n g (k + 1) m' (by omega) (by omega) (xFw_tr hF1 (xFw_of hF' (by omega) (by omega))) (fun j hj => ?_)
      · rwa [show V 0 1 - 1 - ((k + 1 : Nat) : Int) = V 0 1 - 1 - (k : Int) - 1 by omega] at this
      · by_cases e : j = k + 1
        · subst e
          rw [show V 0 1 - ((k + 1 : Nat) : Int) = V 0 1 - 1 - (k : Int) by omega]
          exact hS'
        · exact xSt_go (hS1 j (by omega)) (hF' _ (by unfold wr; omega))
    · constructor
      · exact Or.inl
      · rintro (q | ⟨c, c0, c1, q⟩)
        · exact q
        · exact absurd c1 (by omega)
theorem aim_L28 {V M : xM} {x top : Int} (w : xWF V) (hH1 : 1 ≤ V 0 1) (hk : xKO M (x + 1) V) : ∀ (n g i : Nat) (m : xM), n < g → (i : Int) + n = 2 ^ (V 0 0).toNat → xFw x M m → xSt m (wr x (V 0 1)) (fun s => (0 ≤ s ∧ s < i) ∧ xpc s = top) → xP (fOutlook_aimAtMost_L28 g x top (wr x (V 0 1)) (i : Int) m) (fun m' => xFw x M m' ∧ ∀ j : Nat, (j : Int) < V 0 1 → xSt m' (wr x (V 0 1 - j)) (xPw V top j))
  | _, 0, _, _, hg, _, _, _ => absurd hg (Nat.not_lt_zero _)
  | 0, g + 1, i, m, _, hi, hF, hS => by
    have hN := w.1
    have hH := w.2.1
    unfold fOutlook_aimAtMost_L28
    rw [hF (x + 1) (by omega), hk.1, hk.2.1, (xshl1_pw hN.1 (by omega)).1, if_neg (by omega), xw32_id (x := V 0 1 - 1) (by omega) (by omega)]
    have := aim_L70 (top := top) w hk (V 0 1 - 1).toNat 20001 0 m (by omega) (by omega) hF (fun j hj => ?_)
    · rwa [show V 0 1 - 1 - ((0 : Nat) : Int) = V 0 1 - 1 by omega] at this
    · have e : j = 0 := by omega
      subst e
      rw [show V 0 1 - ((0 : Nat) : Int) = V 0 1 by omega]
      refine xSt_iff hS (fun s s0 s1 => ?_)
      rw [show (i : Int) = 2 ^ (V 0 0).toNat by omega]
      rfl
  | n + 1, g + 1, i, m, hg, hi, hF, hS => by
    have hN := w.1
    have hH := w.2.1
    have pw := pw_9 hN.1 hN.2
    unfold fOutlook_aimAtMost_L28
    rw [hF (x + 1) (by omega), hk.1, (xshl1_pw hN.1 (by omega)).1, if_pos (by omega), JI_bc ⟨by omega, by omega⟩, xw32_id (x := (i : Int) + 1) (by omega) (by omega)]
    by_cases e : xpc (i : Int) = top
    · rw [if_pos e]
      refine xP_B (add_s hS (s := (i : Int)) (by omega) (by omega)) ?_
      rintro m' ⟨f', s'⟩
      refine aim_L28 w hH1 hk n g (i + 1) m' (by omega) (by omega) (xFw_tr hF (xFw_of f' (by omega) (by omega))) (xSt_iff s' (fun s s0 s1 => ?_))
      constructor
      · rintro (⟨a, b⟩ | a)
        · exact ⟨by omega, b⟩
        · rw [a]; exact ⟨by omega, e⟩
      · rintro ⟨a, b⟩
        by_cases z : s = (i : Int)
        · exact Or.inr z
        · exact Or.inl ⟨by omega, b⟩
    · rw [if_neg e]
      refine aim_L28 w hH1 hk n g (i + 1) m (by omega) (by omega) hF (xSt_iff hS (fun s s0 s1 => ?_))
      constructor
      · rintro ⟨a, b⟩
        exact ⟨by omega, b⟩
      · rintro ⟨a, b⟩
        by_cases z : s = (i : Int)
        · rw [z] at b; exact absurd b e
        · exact ⟨by omega, b⟩
theorem aim_s {V m : xM} {x : Int} (w : xWF V) (hH1 : 1 ≤ V 0 1) (l : xLook m x V) : xP (fOutlook_aimAtMost x m) (fun m' => xFw x m m' ∧ ∀ j : Nat, (j : Int) < V 0 1 → xSt m' (wr x (V 0 1 - j)) (xPw V (xmm V) j)) := by
  have hN := w.1
  have hH := w.2.1
  have pw := pw_9 hN.1 hN.2
  unfold fOutlook_aimAtMost
  rw [atL w l, xB_s]
  refine xP_B (largest_s (l.2 (V 0 1).toNat (by omega))) ?_
  intro q hq
  rw [← xmm_eq hq, l.1.2.1, xA_p (by omega)]
  refine xP_B (clear_s (wr x (V 0 1)) m) ?_
  rintro m2 ⟨f2, s2⟩
  have F2 := xFw_of f2 hH.1 hH.2
  refine xP_mono (aim_L28 (M := m2) (top := xmm V) w hH1 (xKO_go l.1 (fun a a0 a1 => F2 a (by omega))) ((2 : Int) ^ (V 0 0).toNat).toNat 20001 0 m2 (by omega) (by omega) (fun _ _ => rfl) (xSt_iff s2 (fun s s0 s1 => ⟨fun y => absurd y id, fun y => absurd y.1.2 (by omega)⟩))) ?_
  rintro m' ⟨a, b⟩
  exact ⟨xFw_tr F2 a, b⟩
end
