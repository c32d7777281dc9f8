/-! the most: of which of the sets how many men -/
noncomputable section
theorem havingAll_L (t : Int) (M : xM) : ∀ (n g i : Nat) (a : Int), n < g → i + n = 6 → (∀ j : Int, 0 ≤ j → j < 64 → (xbl a j = true ↔ ∀ d : Int, 0 ≤ d → d < i → xbt t d = true → xbt j d = true)) → xP (fKeys_havingAll_L6 g t a (i : Int) M) (fun v => ∀ j : Int, 0 ≤ j → j < 64 → (xbl v j = true ↔ ∀ d : Int, 0 ≤ d → d < 6 → xbt t d = true → xbt j d = true))
  | _, 0, _, _, hg, _, _ => absurd hg (Nat.not_lt_zero _)
  | 0, g + 1, i, a, _, hi, h => by
    have : i = 6 := by omega
    subst this
    unfold fKeys_havingAll_L6
    rw [if_neg (by decide)]
    exact xP_some h
  | n + 1, g + 1, i, a, hg, hi, h => by
    unfold fKeys_havingAll_L6
    rw [if_pos (by omega), xbit_t t (by omega) (by omega), xw32_id (x := (i : Int) + 1) (by omega) (by omega)]
    have step : ∀ a' : Int, (∀ j : Int, 0 ≤ j → j < 64 → (xbl a' j = true ↔ (xbl a j = true ∧ (xbt t i = true → xbt j i = true)))) → xP (fKeys_havingAll_L6 g t a' ((i : Int) + 1) M) (fun v => ∀ j : Int, 0 ≤ j → j < 64 → (xbl v j = true ↔ ∀ d : Int, 0 ≤ d → d < 6 → xbt t d = true → xbt j d = true)) := by
      intro a' ha
      refine havingAll_L t M n g (i + 1) a' (by omega) (by omega) (fun j h0 h1 => ?_)
      rw [ha j h0 h1, h j h0 h1]
      constructor
      · rintro ⟨p, q⟩ d d0 d1
        by_cases e : d = i
        · rw [e]; exact q
        · exact p d d0 (by omega)
      · intro p
        exact ⟨fun d d0 d1 => p d d0 (by omega), p i (by omega) (by omega)⟩
    by_cases hb : xbt t i = true
    · rw [if_pos ((xif10 _).mpr hb), xA_p (by omega)]
      refine step _ (fun j h0 h1 => ?_)
      rw [xbl_and, xbl_not _ h0 h1, xbl_lack (by omega) (by omega) h0 h1, hb]
      simp
    · rw [if_neg (fun e => hb ((xif10 _).mp e))]
      exact step _ (fun j h0 h1 => by simp [hb])
theorem havingAll_s (t : Int) (M : xM) : xP (fKeys_havingAll t M) (fun v => ∀ j : Int, 0 ≤ j → j < 64 → (xbl v j = true ↔ ∀ d : Int, 0 ≤ d → d < 6 → xbt t d = true → xbt j d = true)) :=
  havingAll_L t M 6 20001 0 (-1) (by omega) rfl (fun j h0 h1 => by
    rw [xbl_m1 h0 h1]
    exact ⟨fun _ d d0 d1 => absurd d1 (by omega), fun _ => rfl⟩)
theorem largestIn_L (wd : Int) (M : xM) : ∀ (n g i : Nat) (a : Int), n < g → i + n = 64 → 0 ≤ a → a ≤ 32 → xP (fSets_largestIn_L4 g wd a (i : Int) M) (fun v => (a ≤ v ∧ v ≤ 32) ∧ (∀ j : Int, i ≤ j → j < 64 → xbl wd j = true → xpc j ≤ v) ∧ (v = a ∨ ∃ j : Int, i ≤ j ∧ j < 64 ∧ xbl wd j = true ∧ v = xpc j))
  | _, 0, _, _, hg, _, _, _ => absurd hg (Nat.not_lt_zero _)
  | 0, g + 1, i, a, _, hi, a0, a1 => by
    unfold fSets_largestIn_L4
    rw [if_neg (by omega)]
    exact xP_some ⟨by omega, fun j j0 j1 => by omega, Or.inl rfl⟩
  | n + 1, g + 1, i, a, hg, hi, a0, a1 => by
    have hp := xpc_rg (i : Int)
    unfold fSets_largestIn_L4
    rw [if_pos (by omega), xbl_t wd (by omega) (by omega), xw32_id (x := (i : Int) + 1) (by omega) (by omega), JI_bc (by constructor <;> omega)]
    by_cases hb : xbl wd i = true
    · have e : xcmpL (if xbl wd (i : Int) = true then 1 else 0) 1 = 0 := by rw [xcmp_0, if_pos hb]
      rw [if_pos e]
      unfold fJM_max
      refine xP_mono (largestIn_L wd M n g (i + 1) (if a < xpc i then xpc i else a) (by omega) (by omega) (by split <;> omega) (by split <;> omega)) ?_
      rintro v ⟨q1, q2, q3⟩
      have q4 : a ≤ v ∧ xpc (i : Int) ≤ v := by split at q1 <;> omega
      refine ⟨by omega, fun j j0 j1 jb => ?_, ?_⟩
      · by_cases e2 : j = i
        · rw [e2]; exact q4.2
        · exact q2 j (by omega) j1 jb
      · rcases q3 with q3 | ⟨j, j0, j1, q3⟩
        · split at q3
          · exact Or.inr ⟨i, by omega, by omega, hb, q3⟩
          · exact Or.inl q3
        · exact Or.inr ⟨j, by omega, j1, q3⟩
    · have e : ¬ xcmpL (if xbl wd (i : Int) = true then 1 else 0) 1 = 0 := by rw [xcmp_0, if_neg hb]; decide
      rw [if_neg e]
      refine xP_mono (largestIn_L wd M n g (i + 1) a (by omega) (by omega) a0 a1) ?_
      rintro v ⟨q1, q2, q3⟩
      refine ⟨q1, fun j j0 j1 jb => ?_, ?_⟩
      · by_cases e2 : j = i
        · rw [e2] at jb; exact absurd jb hb
        · exact q2 j (by omega) j1 jb
      · rcases q3 with q3 | ⟨j, j0, j1, q3⟩
        · exact Or.inl q3
        · exact Or.inr ⟨j, by omega, j1, q3⟩
/-- r is the most men of a set with P; -1: there is none -/
def xMx (P : Int → Prop) (r : Int) : Prop := (∀ s : Int, 0 ≤ s → s < 512 → P s → xpc s ≤ r) ∧ ((r = -1 ∧ ∀ s : Int, 0 ≤ s → s < 512 → ¬ P s) ∨ ∃ s : Int, 0 ≤ s ∧ s < 512 ∧ P s ∧ r = xpc s)
theorem xMx_one {P : Int → Prop} {r q : Int} (h : xMx P r) (k : xMx P q) : r = q := by
  rcases h.2 with ⟨e, h2⟩ | ⟨s, s0, s1, s2, e⟩ <;> rcases k.2 with ⟨f, k2⟩ | ⟨t, t0, t1, t2, f⟩
  · omega
  · exact absurd t2 (h2 t t0 t1)
  · exact absurd s2 (k2 s s0 s1)
  · have := h.1 t t0 t1 t2
    have := k.1 s s0 s1 s2
    omega
theorem xMx_iff {P Q : Int → Prop} {r : Int} (h : xMx P r) (e : ∀ s : Int, 0 ≤ s → s < 512 → (P s ↔ Q s)) : xMx Q r := by
  refine ⟨fun s s0 s1 q => h.1 s s0 s1 ((e s s0 s1).mpr q), ?_⟩
  rcases h.2 with ⟨a, b⟩ | ⟨s, s0, s1, s2, a⟩
  · exact Or.inl ⟨a, fun s s0 s1 q => b s s0 s1 ((e s s0 s1).mpr q)⟩
  · exact Or.inr ⟨s, s0, s1, (e s s0 s1).mp s2, a⟩
theorem xMx_rg {P : Int → Prop} {r : Int} (h : xMx P r) : -1 ≤ r ∧ r ≤ 32 := by
  rcases h.2 with ⟨a, -⟩ | ⟨s, -, -, -, a⟩
  · omega
  · have := xpc_rg s; omega
/-- all of t are of s -/
def xsbs (t s : Int) : Prop := ∀ d : Int, 0 ≤ d → d < 32 → xbt t d = true → xbt s d = true
theorem xsb_split {t s : Int} (s0 : 0 ≤ s) (s1 : s < 512) (t0 : 0 ≤ t) (t1 : t < 512) : xsbs t s ↔ (xand (s / 64) (t / 64) = t / 64 ∧ ∀ i : Int, 0 ≤ i → i < 6 → xbt t i = true → xbt (s % 64) i = true) := by
  have key : xand (s / 64) (t / 64) = t / 64 ↔ ∀ d : Int, 0 ≤ d → d < 3 → xbt t (d + 6) = true → xbt s (d + 6) = true := by
    constructor
    · intro e d d0 d1 h
      have := xbt_and (s / 64) (t / 64) d
      rw [e, xbt_high t d0 d1, xbt_high s d0 d1, h] at this
      simpa using this.symm
    · intro e
      refine xbt_ext (xand_in _ _) (by constructor <;> omega) (fun d d0 d1 => ?_)
      rw [xbt_and]
      by_cases h3 : d < 3
      · rw [xbt_high t d0 h3, xbt_high s d0 h3]
        have := e d d0 h3
        cases hx : xbt t (d + 6)
        · simp
        · simp [this hx]
      · rw [xbt_hi (n := 3) (x := t / 64) (by omega) (by omega) (by omega) d1]; simp
  rw [key]
  constructor
  · intro h
    exact ⟨fun d d0 d1 => h (d + 6) (by omega) (by omega), fun i i0 i1 hi => by rw [xbt_low s i0 i1]; exact h i i0 (by omega) hi⟩
  · rintro ⟨p, q⟩ d d0 d1 hd
    by_cases e : d < 6
    · rw [← xbt_low s d0 e]; exact q d d0 e hd
    · by_cases e2 : d < 9
      · have := p (d - 6) (by omega) (by omega)
        rw [show d - 6 + 6 = d by omega] at this
        exact this hd
      · rw [xbt_9 t0 t1 (by omega) d1] at hd; cases hd
theorem largestWith_L {m : xM} {r t v1 : Int} {P : Int → Prop} (hS : xSt m r P) (t0 : 0 ≤ t) (t1 : t < 512) (hv : ∀ j : Int, 0 ≤ j → j < 64 → (xbl v1 j = true ↔ ∀ d : Int, 0 ≤ d → d < 6 → xbt t d = true → xbt j d = true)) : ∀ (n g i : Nat) (a : Int), n < g → i + n = 8 → xMx (fun s => s / 64 < i ∧ P s ∧ xsbs t s) a → xP (fSets_largestWith_L16 g r a (t / 64) v1 (i : Int) m) (fun q => xMx (fun s => P s ∧ xsbs t s) q)
  | _, 0, _, _, hg, _, _ => absurd hg (Nat.not_lt_zero _)
  | 0, g + 1, i, a, _, hi, ha => by
    unfold fSets_largestWith_L16
    rw [if_neg (by omega)]
    exact xP_some (xMx_iff ha (fun s s0 s1 => ⟨fun x => x.2, fun x => ⟨by omega, x⟩⟩))
  | n + 1, g + 1, i, a, hg, hi, ha => by
    have ar := xMx_rg ha
    have word : ∀ s : Int, 0 ≤ s → s < 512 → s / 64 = i → ((P s ∧ xsbs t s) ↔ xand (i : Int) (t / 64) = t / 64 ∧ xbl (xandL (m (r + 1) i) v1) (s % 64) = true) := by
      intro s s0 s1 e
      rw [xsb_split s0 s1 t0 t1, e, xbl_and, Bool.and_eq_true, ← hS s s0 s1, e, hv _ (by omega) (by omega)]
      constructor
      · rintro ⟨x, y, z⟩; exact ⟨y, x, z⟩
      · rintro ⟨y, x, z⟩; exact ⟨x, y, z⟩
    have none : (∀ s : Int, 0 ≤ s → s < 512 → s / 64 = i → ¬ (P s ∧ xsbs t s)) → xMx (fun s => s / 64 < ((i + 1 : Nat) : Int) ∧ P s ∧ xsbs t s) a := by
      intro h
      refine xMx_iff ha (fun s s0 s1 => ⟨fun x => ⟨by omega, x.2⟩, fun x => ⟨?_, x.2⟩⟩)
      by_cases e : s / 64 = i
      · exact absurd x.2 (h s s0 s1 e)
      · have := x.1; omega
    unfold fSets_largestWith_L16
    rw [if_pos (by omega), xA_p (by omega), xw32_id (x := (i : Int) + 1) (by omega) (by omega)]
    by_cases hw : xand (i : Int) (t / 64) = t / 64
    · rw [if_pos hw]
      by_cases hz : xandL (m (r + 1) i) v1 = 0
      · have e : xcmpL (xandL (m (r + 1) i) v1) 0 = 0 := by rw [xcmp_0]; exact hz
        rw [if_pos e]
        refine largestWith_L hS t0 t1 hv n g (i + 1) a (by omega) (by omega) (none (fun s s0 s1 e x => ?_))
        have := ((word s s0 s1 e).mp x).2
        rw [hz, xbl_0] at this
        cases this
      · have e : ¬ xcmpL (xandL (m (r + 1) i) v1) 0 = 0 := by rw [xcmp_0]; exact hz
        rw [if_neg e]
        refine xP_B (largestIn_L (xandL (m (r + 1) i) v1) m 64 20001 0 0 (by omega) rfl (by decide) (by decide)) ?_
        rintro v ⟨q1, q2, q3⟩
        have hp := xpc_rg (i : Int)
        rw [JI_bc (by constructor <;> omega), xw32_id (by omega) (by omega)]
        unfold fJM_max
        have ex : ∃ j : Int, 0 ≤ j ∧ j < 64 ∧ xbl (xandL (m (r + 1) i) v1) j = true := by
          refine Classical.byContradiction (fun h => hz (xbl_ext (xandL_in _ _) (by constructor <;> decide) (fun c c0 c1 => ?_)))
          rw [xbl_0]
          cases hx : xbl (xandL (m (r + 1) i) v1) c
          · rfl
          · exact absurd ⟨c, c0, c1, hx⟩ h
        have ex2 : ∃ j : Int, 0 ≤ j ∧ j < 64 ∧ xbl (xandL (m (r + 1) i) v1) j = true ∧ v = xpc j := by
          rcases q3 with q3 | ⟨j, j0, j1, j2, j3⟩
          · obtain ⟨j, j0, j1, j2⟩ := ex
            have := q2 j j0 j1 j2
            have := xpc_rg j
            exact ⟨j, j0, j1, j2, by omega⟩
          · exact ⟨j, by omega, j1, j2, j3⟩
        obtain ⟨j, j0, j1, j2, j3⟩ := ex2
        have sd : (64 * (i : Int) + j) / 64 = i ∧ (64 * (i : Int) + j) % 64 = j := by omega
        have hsum : xpc (64 * (i : Int) + j) = xpc i + v := by rw [xpc_split (by omega) (by omega), sd.1, sd.2, j3]
        have hin := (word (64 * (i : Int) + j) (by omega) (by omega) sd.1).mpr ⟨hw, by rw [sd.2]; exact j2⟩
        have hup : ∀ s : Int, 0 ≤ s → s < 512 → s / 64 = i → P s ∧ xsbs t s → xpc s ≤ xpc i + v := by
          intro s s0 s1 e2 x
          have := q2 (s % 64) (by omega) (by omega) ((word s s0 s1 e2).mp x).2
          rw [xpc_split s0 s1, e2]
          omega
        refine largestWith_L hS t0 t1 hv n g (i + 1) _ (by omega) (by omega) ⟨fun s s0 s1 x => ?_, Or.inr ?_⟩
        · by_cases e2 : s / 64 = i
          · have := hup s s0 s1 e2 x.2
            split <;> omega
          · have := ha.1 s s0 s1 ⟨by have := x.1; omega, x.2⟩
            split <;> omega
        · by_cases e3 : a < xpc i + v
          · rw [if_pos e3]
            exact ⟨64 * i + j, by omega, by omega, ⟨by omega, hin⟩, hsum.symm⟩
          · rw [if_neg e3]
            rcases ha.2 with ⟨x, -⟩ | ⟨s, s0, s1, s2, s3⟩
            · have := xpc_rg j; omega
            · exact ⟨s, s0, s1, ⟨by omega, s2.2⟩, s3⟩
    · rw [if_neg hw]
      exact largestWith_L hS t0 t1 hv n g (i + 1) a (by omega) (by omega) (none (fun s s0 s1 e x => hw ((word s s0 s1 e).mp x).1))
theorem largestWith_s {m : xM} {r t : Int} {P : Int → Prop} (hS : xSt m r P) (t0 : 0 ≤ t) (t1 : t < 512) : xP (fSets_largestWith r t m) (fun q => xMx (fun s => P s ∧ xsbs t s) q) := by
  unfold fSets_largestWith
  refine xP_B (havingAll_s t m) (fun v hv => ?_)
  rw [xshr_pw t (by decide) (by decide), show (2 : Int) ^ (6 : Int).toNat = 64 from rfl]
  exact largestWith_L hS t0 t1 hv 8 20001 0 (-1) (by omega) rfl ⟨fun s s0 s1 x => absurd x.1 (by omega), Or.inl ⟨rfl, fun s s0 s1 x => absurd x.1 (by omega)⟩⟩
theorem xsb_0 (s : Int) : xsbs 0 s := fun d _ _ h => by rw [xbt_0] at h; cases h
theorem largest_s {m : xM} {r : Int} {P : Int → Prop} (hS : xSt m r P) : xP (fSets_largestWith r 0 m) (fun q => xMx P q) :=
  xP_mono (largestWith_s hS (t := 0) (by decide) (by decide)) (fun q h => xMx_iff h (fun s _ _ => ⟨fun x => x.1, fun x => ⟨x, xsb_0 s⟩⟩))
end
