/-! forged, forger -/
noncomputable section
theorem xsm_a (f : Nat → Int) : ∀ (k i : Nat) (a : Int), xsm f k i a = a + xsm f k i 0
  | 0, _, a => by unfold xsm; omega
  | k + 1, i, a => by
    rw [xsm, xsm, xsm_a f k (i + 1) (a + f i), xsm_a f k (i + 1) (0 + f i)]
    omega
theorem xsm_p (f g : Nat → Int) : ∀ (k i : Nat), xsm (fun c => f c + g c) k i 0 = xsm f k i 0 + xsm g k i 0
  | 0, _ => by unfold xsm; rfl
  | k + 1, i => by
    have ih := xsm_p f g k (i + 1)
    rw [xsm, xsm, xsm, xsm_a (fun c => f c + g c), xsm_a f k (i + 1), xsm_a g k (i + 1), ih]
    omega
theorem xsm_z (f : Nat → Int) (h : ∀ c, f c = 0) : ∀ (k i : Nat), xsm f k i 0 = 0
  | 0, _ => rfl
  | k + 1, i => by rw [xsm, h i]; exact xsm_z f h k (i + 1)
theorem xsm_c {f g : Nat → Int} : ∀ (k i : Nat), (∀ c, i ≤ c → c < i + k → f c = g c) → xsm f k i 0 = xsm g k i 0
  | 0, _, _ => rfl
  | k + 1, i, h => by
    rw [xsm, xsm, xsm_a f, xsm_a g, h i (Nat.le_refl _) (by omega), xsm_c k (i + 1) (fun c a b => h c (by omega) (by omega))]
theorem xsm_1 (t : Int) (b : Bool) : ∀ (k i : Nat), xsm (fun c => if ((c : Int) = -1 ∨ t = (c : Int)) ∧ b = true then (1 : Int) else 0) k i 0 = if ((i : Int) ≤ t ∧ t < (i : Int) + k) ∧ b = true then 1 else 0
  | 0, i => by unfold xsm; rw [if_neg (by omega)]
  | k + 1, i => by
    rw [xsm, xsm_a, xsm_1 t b k (i + 1)]
    by_cases hb : b = true
    · by_cases e : t = (i : Int)
      · rw [if_pos ⟨Or.inr e, hb⟩, if_neg (by omega), if_pos ⟨by omega, hb⟩]; rfl
      · rw [if_neg (fun y => by rcases y.1 with y | y; omega; exact e y)]
        by_cases z : (i : Int) ≤ t ∧ t < (i : Int) + ((k + 1 : Nat) : Int)
        · rw [if_pos ⟨by omega, hb⟩, if_pos ⟨z, hb⟩]; rfl
        · rw [if_neg (by omega), if_neg (fun y => z y.1)]; rfl
    · rw [if_neg (fun y => hb y.2), if_neg (fun y => hb y.2), if_neg (fun y => hb y.2)]; rfl
theorem xfc_sum {V : xM} {T : Int → Int} (N : Nat) : ∀ (n j : Nat), (∀ k : Nat, j ≤ k → k < j + n → 0 ≤ T (3 * (k : Int) + 1) ∧ T (3 * (k : Int) + 1) < N) → xsm (fun c => xsm (xfc V T (c : Int)) n j 0) N 0 0 = xsm (xfc V T (-1)) n j 0
  | 0, j, _ => xsm_z _ (fun c => rfl) N 0
  | n + 1, j, h => by
    have ih := xfc_sum (V := V) N n (j + 1) (fun k a b => h k (by omega) (by omega))
    have o := h j (Nat.le_refl _) (by omega)
    have e : xsm (fun c => xsm (xfc V T (c : Int)) (n + 1) j 0) N 0 0 = xsm (fun c => xfc V T (c : Int) j + xsm (xfc V T (c : Int)) n (j + 1) 0) N 0 0 := xsm_c N 0 (fun c _ _ => by
      rw [xsm, xsm_a]; omega)
    have s1 := xsm_1 (T (3 * (j : Int) + 1)) (xfj V T j) N 0
    have s1 : xsm (fun c : Nat => xfc V T (c : Int) j) N 0 0 = _ := s1
    rw [e, xsm_p, ih, s1, xsm, xsm_a (xfc V T (-1)) n (j + 1) (0 + xfc V T (-1) j)]
    have z : xfc V T (-1) j = if xfj V T j = true then 1 else 0 := by
      unfold xfc
      by_cases b : xfj V T j = true
      · rw [if_pos ⟨Or.inl rfl, b⟩, if_pos b]
      · rw [if_neg (fun y => b y.2), if_neg b]
    rw [z]
    by_cases b : xfj V T j = true
    · rw [if_pos ⟨by omega, b⟩, if_pos b]; omega
    · rw [if_neg (fun y => b y.2), if_neg b]; omega
theorem xfc_rg {V : xM} {T : Int → Int} {c : Int} : ∀ (n j : Nat), 0 ≤ xsm (xfc V T c) n j 0 ∧ xsm (xfc V T c) n j 0 ≤ n
  | 0, _ => by unfold xsm; omega
  | n + 1, j => by
    have ih := xfc_rg (V := V) (T := T) (c := c) n (j + 1)
    rw [xsm, xsm_a]
    have : 0 ≤ xfc V T c j ∧ xfc V T c j ≤ 1 := by unfold xfc; split <;> omega
    omega
def xa9 (f : Nat → Int) : Nat → Nat → Int → Int → Int
  | 0, _, _, first => first
  | k + 1, i, most, first => if most < f i then xa9 f k (i + 1) (f i) (i : Int) else xa9 f k (i + 1) most first
/-- what a tale that stands gives for both sides -/
theorem tale_D {M V : xM} {s : Int} (hv : xPv M (1 + 15) V) (W : xWE V) (C : xCs M (1 + 255) V) {n : Nat} (e : M 312 s = 3 * (n : Int)) (n20 : n ≤ 20) (hL : M (302 + 2 * s) 2 = M 312 s) (hT : ∀ i : Int, 0 ≤ i → i < M 312 s → M (303 + 2 * s) i = xRt M s i) (ok : xtl (xRt M s) (V 0 1) (V 0 0) n 0 = true) {c : Int} (c0 : 0 ≤ c) (c1 : c < V 0 0) : fInquiry_forgedNods (1 + 264) (1 + 15) (1 + 255) ((1 + 267) + 34 + 2 * s) c M = some (xsm (xfc V (xRt M s) c) n 0 0) := by
  unfold fInquiry_forgedNods
  rw [show 1 + 267 + 34 + 2 * s = 302 + 2 * s by omega]
  exact nodsD_L (L := M 312 s) hv W C hL (by omega) (T := xRt M s) (fun i i0 i1 => by rw [show 302 + 2 * s + 1 = 303 + 2 * s by omega]; exact hT i i0 i1) c0 c1 (fun k hk => xtl_at n 0 ok k (by omega) (by omega)) n 20001 0 0 (by omega) (by omega) (by decide) (by decide)
theorem tale_Q {M V m : xM} {s : Int} (E : xEf m 310 V) (W : xWE V) (A : ∀ h : Nat, (h : Int) < V 0 1 → m (310 + 15) h = xcm V h ∧ m (310 + 16) h = xgn V (h + 1)) (s0 : 0 ≤ s) (s1 : s < 4) (h2 : m (310 + 2) = M 312) (h3 : m (310 + 3) = M 313) {n : Nat} (e : M 312 s = 3 * (n : Int)) (n20 : n ≤ 20) (ok : xtl (xRt M s) (V 0 1) (V 0 0) n 0 = true) (c : Int) : fQ_forgedOf 310 s c m = some (xsm (xfc V (xRt M s) c) n 0 0) := by
  unfold fQ_forgedOf
  exact nodsQ_L (L := M 312 s) E W A s0 s1 (by rw [h2]) (by omega) (T := xRt M s) (fun i i0 i1 => by rw [h3]; rfl) (fun k hk => xtl_at n 0 ok k (by omega) (by omega)) n 20001 0 0 (by omega) (by omega) (by decide) (by decide)
theorem forgedD_L {M : xM} {s N : Int} {f : Nat → Int} (s0 : 0 ≤ s) (s1 : s < 4) (hN : M (1 + 15) 0 = N) (N9 : N ≤ 9) (fr : ∀ c, 0 ≤ f c ∧ f c ≤ 20) (hf : ∀ c : Nat, (c : Int) < N → fInquiry_forgedNods (1 + 264) (1 + 15) (1 + 255) ((1 + 267) + 34 + 2 * s) (c : Int) M = some (f c)) : ∀ (k g i : Nat) (a : Int), k < g → (i : Int) + k = N → 0 ≤ a → a ≤ 20 * i → fD_forged_L18 g 1 s a (i : Int) M = some (xsm f k i a)
  | _, 0, _, _, hg, _, _, _ => absurd hg (Nat.not_lt_zero _)
  | 0, g + 1, i, a, _, hi, _, _ => by
    unfold fD_forged_L18 xsm
    rw [hN, if_neg (by omega)]
  | k + 1, g + 1, i, a, hg, hi, a0, a1 => by
    have r := fr i
    rw [fD_forged_L18, xsm]
    rw [hN, if_pos (by omega), xA_p (by omega), hf i (by omega), xB_s, xw32_id (x := a + f i) (by omega) (by omega), xw32_id (x := (i : Int) + 1) (by omega) (by omega)]
    exact forgedD_L s0 s1 hN N9 fr hf k g (i + 1) _ (by omega) (by omega) (by omega) (by omega)
theorem forgerD_L {M : xM} {s N : Int} {f : Nat → Int} (s0 : 0 ≤ s) (s1 : s < 4) (hN : M (1 + 15) 0 = N) (N9 : N ≤ 9) (hf : ∀ c : Nat, (c : Int) < N → fInquiry_forgedNods (1 + 264) (1 + 15) (1 + 255) ((1 + 267) + 34 + 2 * s) (c : Int) M = some (f c)) : ∀ (k g i : Nat) (a b : Int), k < g → (i : Int) + k = N → fD_forger_L21 g 1 s a b (i : Int) M = some (xa9 f k i a b)
  | _, 0, _, _, _, hg, _ => absurd hg (Nat.not_lt_zero _)
  | 0, g + 1, i, a, b, _, hi => by
    unfold fD_forger_L21 xa9
    rw [hN, if_neg (by omega)]
  | k + 1, g + 1, i, a, b, hg, hi => by
    rw [fD_forger_L21, xa9]
    rw [hN, if_pos (by omega), xA_p (by omega), hf i (by omega), xB_s, xw32_id (x := (i : Int) + 1) (by omega) (by omega)]
    by_cases e : a < f i
    · rw [if_pos e, if_pos e]
      exact forgerD_L s0 s1 hN N9 hf k g (i + 1) _ _ (by omega) (by omega)
    · rw [if_neg e, if_neg e]
      exact forgerD_L s0 s1 hN N9 hf k g (i + 1) _ _ (by omega) (by omega)
theorem forgerQ_L {m : xM} {s N : Int} {f : Nat → Int} (hN : m (310 + 7) 0 = N) (N9 : N ≤ 9) (hf : ∀ c : Nat, (c : Int) < N → fQ_forgedOf 310 s (c : Int) m = some (f c)) : ∀ (k g i : Nat) (a b : Int), k < g → (i : Int) + k = N → fQ_forger_L30 g 310 s b a (i : Int) m = some (xa9 f k i a b, m)
  | _, 0, _, _, _, hg, _ => absurd hg (Nat.not_lt_zero _)
  | 0, g + 1, i, a, b, _, hi => by
    unfold fQ_forger_L30 xa9
    rw [hN, if_neg (by omega)]
  | k + 1, g + 1, i, a, b, hg, hi => by
    rw [fQ_forger_L30, xa9]
    rw [hN, if_pos (by omega), hf i (by omega), xB_s, xw32_id (x := (i : Int) + 1) (by omega) (by omega)]
    by_cases e : a < f i
    · rw [if_pos e, if_pos e]
      exact forgerQ_L hN N9 hf k g (i + 1) _ _ (by omega) (by omega)
    · rw [if_neg e, if_neg e]
      exact forgerQ_L hN N9 hf k g (i + 1) _ _ (by omega) (by omega)
theorem call_51 {M : xM} (S : Sim M) (s : Int) : xC1 (fD_forger 1 s M) (fQ_forger 310 s M) M := by
  obtain ⟨V, hv, W, Q, K, Q0, L⟩ := opn S
  have hN := W.1.1
  obtain ⟨r, d, q, ok⟩ := bar_s (m := xwr M 310 0 0) S hv W Q0 (xwr_a _ (by decide)) (xwr_a _ (by decide)) (xwr_a _ (by decide)) s 0
  have q : fQ_whyNot 310 s 1 (xwr M 310 0 0) = some r := q
  unfold fD_forger fQ_forger
  rw [d, q, xB_s, xB_s]
  by_cases h : r = 0
  · rw [if_pos h, if_pos h]
    obtain ⟨⟨s0, s1⟩, p2, n, e, n20, hL, hT, tl⟩ := ok h
    obtain ⟨m2, e2, k2, E, D, P, A⟩ := asTold_s Q0 W p2
    have dl := forgerD_L (f := fun c => xsm (xfc V (xRt M s) (c : Int)) n 0 0) s0 s1 (xPv_0 hv 0 (by decide) (by decide)) hN.2 (fun c hc => tale_D hv W (L p2).2 e n20 hL hT tl (by omega) hc) (V 0 0).toNat 20001 0 0 (-1) (by omega) (by omega)
    have ql := forgerQ_L (m := m2) (s := s) (f := fun c => xsm (xfc V (xRt M s) (c : Int)) n 0 0) E.1.1 hN.2 (fun c hc => tale_Q E W A s0 s1 (by rw [k2.1 (310 + 2) (by unfold xPer; omega)]; exact xwr_a _ (by decide)) (by rw [k2.1 (310 + 3) (by unfold xPer; omega)]; exact xwr_a _ (by decide)) e n20 tl _) (V 0 0).toNat 20001 0 0 (-1) (by omega) (by omega)
    have dl : fD_forger_L21 20001 1 s 0 (-1) 0 M = _ := dl
    have ql : fQ_forger_L30 20001 310 s (-1) 0 0 m2 = _ := ql
    rw [dl, e2, xB_s, ql]
    exact xC1_eq rfl rfl (xKp_tr K k2)
  · rw [if_neg h, if_neg h]
    exact xC1_eq rfl rfl K
theorem call_50 {M : xM} (S : Sim M) (s : Int) : xC1 (fD_forged 1 s M) (fQ_forged 310 s M) M := by
  obtain ⟨V, hv, W, Q, K, Q0, L⟩ := opn S
  have hN := W.1.1
  obtain ⟨r, d, q, ok⟩ := bar_s (m := xwr M 310 0 0) S hv W Q0 (xwr_a _ (by decide)) (xwr_a _ (by decide)) (xwr_a _ (by decide)) s 0
  have q : fQ_whyNot 310 s 1 (xwr M 310 0 0) = some r := q
  unfold fD_forged fQ_forged
  rw [d, q, xB_s, xB_s]
  by_cases h : r = 0
  · rw [if_pos h, if_pos h]
    obtain ⟨⟨s0, s1⟩, p2, n, e, n20, hL, hT, tl⟩ := ok h
    obtain ⟨m2, e2, k2, E, D, P, A⟩ := asTold_s Q0 W p2
    have dl := forgedD_L (f := fun c => xsm (xfc V (xRt M s) (c : Int)) n 0 0) s0 s1 (xPv_0 hv 0 (by decide) (by decide)) hN.2 (fun c => by have := xfc_rg (V := V) (T := xRt M s) (c := (c : Int)) n 0; omega) (fun c hc => tale_D hv W (L p2).2 e n20 hL hT tl (by omega) hc) (V 0 0).toNat 20001 0 0 (by omega) (by omega) (by decide) (by decide)
    have ql := tale_Q (M := M) (s := s) (c := -1) E W A s0 s1 (by rw [k2.1 (310 + 2) (by unfold xPer; omega)]; exact xwr_a _ (by decide)) (by rw [k2.1 (310 + 3) (by unfold xPer; omega)]; exact xwr_a _ (by decide)) e n20 tl
    have sm := xfc_sum (V := V) (T := xRt M s) (V 0 0).toNat n 0 (fun k a b => by have := (xtl_at n 0 tl k a b).2.1; omega)
    rw [sm] at dl
    have dl : fD_forged_L18 20001 1 s 0 0 M = _ := dl
    rw [dl, e2, xB_s, ql, xB_s]
    exact xC1_eq rfl rfl (xKp_tr K k2)
  · rw [if_neg h, if_neg h]
    exact xC1_eq rfl rfl K
end
