/-! the first nod of a tale that can't be -/
noncomputable section
theorem nbR_s {m V : xM} {k c R : Int} (hD : xKD m k V c) (w : xWF V) (c0 : 0 ≤ c) (c1 : c < V 0 0) : xand (m (k + 3) c) R = 0 ↔ ∀ s : Int, (s = 0 ∨ s = 1) → xnv V c s = -1 ∨ xbt R (xnv V c s) = false := by
  have hN := w.1
  rw [xand_0]
  constructor
  · intro h s hs
    by_cases e : xnv V c s = -1
    · exact Or.inl e
    · have r := xnv_rg c0 c1 e
      have z := h (xnv V c s) r.1 (by omega)
      rw [hD.2.2.1 _ r.1 (by omega)] at z
      have t : xN2 V c (xnv V c s) = true := by
        unfold xN2
        rcases hs with rfl | rfl
        · rw [decide_eq_true rfl, Bool.true_or]
        · rw [decide_eq_true (show xnv V c 1 = xnv V c 1 from rfl), Bool.or_true]
      cases x : xbt R (xnv V c s)
      · exact Or.inr rfl
      · exact absurd ⟨t, x⟩ z
  · rintro h d d0 d1 ⟨a, b⟩
    rw [hD.2.2.1 d d0 d1] at a
    unfold xN2 at a
    rw [Bool.or_eq_true] at a
    rcases a with a | a
    · have a := of_decide_eq_true a
      rcases h 0 (Or.inl rfl) with x | x
      · omega
      · rw [← a, b] at x; cases x
    · have a := of_decide_eq_true a
      rcases h 1 (Or.inr rfl) with x | x
      · omega
      · rw [← a, b] at x; cases x
theorem tnR {V : xM} {R : Int → Bool} {c s h o : Int} : xtn V R c s h o = (xtn V (fun _ => false) c s h o && (decide (xnv V c s = -1) || !R (xnv V c s))) := by
  unfold xtn
  cases decide (xnv V c s = -1) <;> cases xT V (xnv V c s) (1 - s) h <;> cases R (xnv V c s) <;> cases xbt o (xnv V c s) <;> cases xLy V (xnv V c s) <;> rfl
theorem opR_s {V : xM} {R c h o : Int} (w : xWF V) (c0 : 0 ≤ c) (c1 : c < V 0 0) : xopR V (fun d => xbt R d) c h o = true ↔ xop V c h o = true ∧ ∀ s : Int, (s = 0 ∨ s = 1) → xnv V c s = -1 ∨ xbt R (xnv V c s) = false := by
  rw [← xop_ref w c0 c1]
  unfold xopR
  rw [@tnR V (fun d => xbt R d) c 0 h o, @tnR V (fun d => xbt R d) c 1 h o]
  simp only [Bool.and_eq_true, Bool.or_eq_true, decide_eq_true_eq, Bool.not_eq_true']
  constructor
  · rintro ⟨a, ⟨b, b'⟩, d, d'⟩
    refine ⟨⟨a, b, d⟩, fun s hs => ?_⟩
    rcases hs with rfl | rfl
    · exact b'
    · exact d'
  · rintro ⟨⟨a, b, d⟩, h⟩
    exact ⟨a, ⟨b, h 0 (Or.inl rfl)⟩, d, h 1 (Or.inr rfl)⟩
def xun (V : xM) (R : Int) (T : Int → Int) : Nat → Nat → Int → Int
  | 0, _, _ => -1
  | n + 1, j, o => if xopR V (fun d => xbt R d) (T (3 * (j : Int) + 1)) (T (3 * (j : Int))) o = decide (T (3 * (j : Int) + 2) = 1) then xun V R T n (j + 1) (if xopR V (fun d => xbt R d) (T (3 * (j : Int) + 1)) (T (3 * (j : Int))) o = true then xad o (T (3 * (j : Int) + 1)) else o) else (j : Int)
theorem untrueD_L {m V : xM} {k r R L : Int} (W : xWF V) (hk : xKO m k V) (hL : m r 2 = L) (L60 : L ≤ 60) {T : Int → Int} (hT : ∀ i : Int, 0 ≤ i → i < L → m (r + 1) i = T i) (ok : ∀ k : Nat, 3 * (k : Int) < L → (0 ≤ T (3 * (k : Int)) ∧ T (3 * (k : Int)) < V 0 1) ∧ (0 ≤ T (3 * (k : Int) + 1) ∧ T (3 * (k : Int) + 1) < V 0 0) ∧ (0 ≤ T (3 * (k : Int) + 2) ∧ T (3 * (k : Int) + 2) < 2)) : ∀ (n g j : Nat) (o : Int), n < g → 3 * (j : Int) + 3 * n = L → 0 ≤ o → o < 2 ^ (V 0 0).toNat → fInquiry_firstUntrue_L6 g k r R o (3 * (j : Int)) m = some (xun V R T n j o)
  | _, 0, _, _, hg, _, _, _ => absurd hg (Nat.not_lt_zero _)
  | 0, g + 1, j, o, _, hj, _, _ => by
    unfold fInquiry_firstUntrue_L6 xun
    rw [hL, xw32_id (by omega) (by omega), if_neg (by omega)]
  | n + 1, g + 1, j, o, hg, hj, o0, o1 => by
    have hN := W.1
    have hH := W.2.1
    have pw := pw_9 hN.1 hN.2
    obtain ⟨q1, q2, q3⟩ := ok j (by omega)
    have hD := hk.2.2.2 _ q2.1 q2.2
    have ar : 0 ≤ xad o (T (3 * (j : Int) + 1)) ∧ xad o (T (3 * (j : Int) + 1)) < 2 ^ (V 0 0).toNat := xad_rg o0 o1 q2.1 (by omega) (by omega)
    have IH := fun b : Int => untrueD_L (R := R) W hk hL L60 hT ok n g (j + 1) b (by omega) (by omega)
    rw [show 3 * ((j + 1 : Nat) : Int) = 3 * (j : Int) + 3 by omega] at IH
    have dv : xdiv (3 * (j : Int)) 3 = (j : Int) := by rw [xdiv_n (by omega) (by omega) (by decide)]; omega
    have st := @opR_s V R (T (3 * (j : Int) + 1)) (T (3 * (j : Int))) o W q2.1 q2.2
    have nb := nbR_s (R := R) hD W q2.1 q2.2
    rw [fInquiry_firstUntrue_L6, xun]
    unfold fInquiry_firstUntrue_L69
    rw [hL, xw32_id (x := 3 * (j : Int) + 2) (by omega) (by omega), if_pos (by omega), xA_p (by omega), xw32_id (x := 3 * (j : Int) + 1) (by omega) (by omega), xA_p (by omega), hT _ (by omega) (by omega), hT _ (by omega) (by omega), hT _ (by omega) (by omega), xw32_id (x := T (3 * (j : Int))) (by omega) (by omega), xw32_id (x := T (3 * (j : Int) + 1)) (by omega) (by omega), opensFor_s hk W q2.1 q2.2 q1.1 q1.2, xB_s, xA_p (by omega), xA_p (by omega), xA_p (by omega), xw32_id (x := 3 * (j : Int) + 3) (by omega) (by omega), or_0 o0 (by omega), dv]
    have cm : ∀ b : Bool, ((if b = true then (1 : Int) else 0) = (if xcmpL (T (3 * (j : Int) + 2)) 1 = 0 then 1 else 0)) ↔ b = decide (T (3 * (j : Int) + 2) = 1) := fun b => by
      by_cases e : T (3 * (j : Int) + 2) = 1
      · rw [if_pos ((xcmp_0 _ _).mpr e), decide_eq_true e]
        cases b <;> decide
      · rw [if_neg (fun y => e ((xcmp_0 _ _).mp y)), decide_eq_false e]
        cases b <;> decide
    by_cases a : xop V (T (3 * (j : Int) + 1)) (T (3 * (j : Int))) o = true
    · rw [if_neg (by rw [if_pos a]; decide)]
      by_cases z : xand (m (k + 3) (T (3 * (j : Int) + 1))) R = 0
      · have t := st.mpr ⟨a, nb.mp z⟩
        have c1 := cm true
        rw [if_pos rfl] at c1
        rw [t, if_pos z, if_neg (show ¬ (1 : Int) = 0 by decide), if_pos (show true = true from rfl)]
        by_cases e : true = decide (T (3 * (j : Int) + 2) = 1)
        · rw [if_pos (c1.mpr e), if_pos e]
          exact IH _ ar.1 ar.2
        · rw [if_neg (fun y => e (c1.mp y)), if_neg e]
      · have t : xopR V (fun d => xbt R d) (T (3 * (j : Int) + 1)) (T (3 * (j : Int))) o = false := by
          cases x : xopR V (fun d => xbt R d) (T (3 * (j : Int) + 1)) (T (3 * (j : Int))) o
          · rfl
          · exact absurd (nb.mpr (st.mp x).2) z
        have c1 := cm false
        rw [if_neg (show ¬ false = true by decide)] at c1
        rw [t, if_neg z, if_pos (show (0 : Int) = 0 from rfl), if_neg (show ¬ false = true by decide)]
        by_cases e : false = decide (T (3 * (j : Int) + 2) = 1)
        · rw [if_pos (c1.mpr e), if_pos e]
          exact IH _ o0 o1
        · rw [if_neg (fun y => e (c1.mp y)), if_neg e]
    · have t : xopR V (fun d => xbt R d) (T (3 * (j : Int) + 1)) (T (3 * (j : Int))) o = false := by
        cases x : xopR V (fun d => xbt R d) (T (3 * (j : Int) + 1)) (T (3 * (j : Int))) o
        · rfl
        · exact absurd (st.mp x).1 a
      have c1 := cm false
      rw [if_neg (show ¬ false = true by decide)] at c1
      rw [if_pos (by rw [if_neg a]), t, if_neg (show ¬ false = true by decide), if_pos (show (0 : Int) = 0 from rfl)]
      by_cases e : false = decide (T (3 * (j : Int) + 2) = 1)
      · rw [if_pos (c1.mpr e), if_pos e]
        exact IH _ o0 o1
      · rw [if_neg (fun y => e (c1.mp y)), if_neg e]
end
