/-! the reference: a prison with what-ifs, as fields V tell it -/
noncomputable section
theorem beside_s {M : xM} {q w N R c s : Int} (h0 : M (q + 7) (7 * w) = N) (h3 : M (q + 7) (7 * w + 3) = R) (hR : R = 0 ∨ R = 1) (hN : N ≤ 9) (w0 : 0 ≤ w) (w1 : w ≤ 4) (c0 : 0 ≤ c) (c1 : c < N) (hs : s = 0 ∨ s = 1) : fQ_besideIn q w c s M = some (xnb N R c s) := by
  unfold fQ_besideIn xnb
  rw [xw32_id (x := 7 * w) (by omega) (by omega), xw32_id (x := 7 * w + 0) (by omega) (by omega), xw32_id (x := 7 * w + 3) (by omega) (by omega), xA_p (by omega), xA_p (by omega), Int.add_zero, h0, h3, xw32_id (x := c - 1) (by omega) (by omega), xw32_id (x := c + 1) (by omega) (by omega)]
  rcases hR with rfl | rfl
  · rw [if_neg (by decide)]
    congr 1
    (repeat' split) <;> omega
  · rw [if_pos rfl, xA_p (by omega)]
    congr 1
    rcases hs with rfl | rfl
    · rw [if_pos rfl, if_pos rfl, xw32_id (by omega) (by omega), xrem_n (by omega), if_neg (by decide : ¬ (1 : Int) = 0)]
      by_cases e : c = 0
      · rw [if_pos e, e, Int.emod_eq_of_lt (by omega) (by omega)]; omega
      · rw [if_neg e, show c - 1 + N = c - 1 + N * 1 by omega, Int.add_mul_emod_self_left, Int.emod_eq_of_lt (by omega) (by omega)]
    · rw [if_neg (by decide), if_neg (by decide), xw32_id (by omega) (by omega), xrem_n (by omega), if_neg (by decide : ¬ (1 : Int) = 0)]
      by_cases e : c = N - 1
      · rw [if_pos e, show c + 1 + N = 0 + N * 2 by omega, Int.add_mul_emod_self_left]; rfl
      · rw [if_neg e, show c + 1 + N = c + 1 + N * 1 by omega, Int.add_mul_emod_self_left, Int.emod_eq_of_lt (by omega) (by omega)]
def xsq (M : xM) (q b s h : Int) : Nat → Int
  | 0 => 0
  | k + 1 => xsq M q b s h k + (if M (q + 10) (4 * (k : Int)) = b ∧ M (q + 10) (4 * (k : Int) + 1) = 1 - s ∧ M (q + 10) (4 * (k : Int) + 3) ≤ h then M (q + 10) (4 * (k : Int) + 2) else 0)
/-- the reference's first prison, with its what-ifs, is one with the fields V -/
def xEf (M : xM) (q : Int) (V : xM) : Prop :=
  (M (q + 7) 0 = V 0 0 ∧ M (q + 7) 1 = V 0 1 ∧ M (q + 7) 3 = V 0 3) ∧ (0 ≤ M (q + 7) 5 ∧ M (q + 7) 5 ≤ 8) ∧ (0 ≤ M (q + 7) 6 ∧ M (q + 7) 6 ≤ 8) ∧
  (∀ c h : Int, 0 ≤ c → c < V 0 0 → 0 ≤ h → h < V 0 1 → (xbt (V 5 c) h = true ↔ (M q 23 = 0 ∧ ((∃ k : Int, 0 ≤ k ∧ k < M (q + 7) 5 ∧ M (q + 9) (3 * k) = c ∧ M (q + 9) (3 * k + 1) ≤ h ∧ h ≤ M (q + 9) (3 * k + 2)) ∨ (M q 35 ≠ 0 ∧ xbt (M (q + 13) h) c = true))))) ∧
  (∀ c : Int, 0 ≤ c → c < V 0 0 → V 1 c = (if xbt (M q 27) c = true then 3 else if M q 25 = 0 then M (q + 8) (6 * c) else 0) ∧ (V 1 c = 2 → V 2 c = M (q + 8) (6 * c + 1)) ∧ V 3 c = M (q + 8) (6 * c + 2) ∧ xbt (V 0 5) c = (xbt (M (q + 7) 4) c && !xbt (M q 26) c) ∧ xbt (V 0 4) c = (decide (M (q + 8) (6 * c + 5) = 1) || xbt (M q 28) c)) ∧
  (∀ c s h : Int, 0 ≤ c → c < V 0 0 → (s = 0 ∨ s = 1) → 0 ≤ h → h < V 0 1 → xnv V c s ≠ -1 → xlk V (2 * c + s) h = (if M q 24 = 0 then M (q + 8) (6 * c + 3 + s) else 9) + xsq M q (xnv V c s) s h (M (q + 7) 6).toNat + (if M q 30 = c ∧ M q 31 = s ∧ M q 33 ≤ h then M q 32 else 0)) ∧
  (∀ k : Int, 0 ≤ k → k < M (q + 7) 6 → 0 ≤ M (q + 10) (4 * k + 2) ∧ M (q + 10) (4 * k + 2) ≤ 9) ∧ (∀ c : Int, 0 ≤ c → c < 9 → 0 ≤ M (q + 8) (6 * c + 3) ∧ M (q + 8) (6 * c + 3) ≤ 9 ∧ 0 ≤ M (q + 8) (6 * c + 4) ∧ M (q + 8) (6 * c + 4) ≤ 9) ∧ (M q 30 ≠ -1 → 0 ≤ M q 32 ∧ M q 32 ≤ 9)
theorem xsq_go {M m : xM} {q : Int} (e : m (q + 10) = M (q + 10)) (b s h : Int) : ∀ k : Nat, xsq m q b s h k = xsq M q b s h k
  | 0 => rfl
  | k + 1 => by unfold xsq; rw [xsq_go e b s h k, e]
theorem xEf_go {M m V : xM} {q : Int} (h : xEf M q V) (e : ∀ i : Int, 23 ≤ i → i ≤ 35 → m q i = M q i) (e7 : m (q + 7) = M (q + 7)) (e8 : m (q + 8) = M (q + 8)) (e9 : m (q + 9) = M (q + 9)) (e10 : m (q + 10) = M (q + 10)) (e13 : m (q + 13) = M (q + 13)) : xEf m q V := by
  unfold xEf at h ⊢
  simp only [xsq_go e10]
  rw [e7, e8, e9, e10, e13, e 23 (by decide) (by decide), e 24 (by decide) (by decide), e 25 (by decide) (by decide), e 26 (by decide) (by decide), e 27 (by decide) (by decide), e 28 (by decide) (by decide), e 30 (by decide) (by decide), e 31 (by decide) (by decide), e 32 (by decide) (by decide), e 33 (by decide) (by decide), e 35 (by decide) (by decide)]
  exact h
theorem besideV {M V : xM} {q c s : Int} (E : xEf M q V) (w : xWF V) (c0 : 0 ≤ c) (c1 : c < V 0 0) (hs : s = 0 ∨ s = 1) : fQ_besideIn q 0 c s M = some (xnv V c s) :=
  beside_s (w := 0) (N := V 0 0) (R := V 0 3) E.1.1 E.1.2.2 w.2.2.1 w.1.2 (by decide) (by decide) c0 c1 hs
theorem xsq_s (M : xM) (q b s h : Int) (k : Nat) : xsq M q b s h (k + 1) = xsq M q b s h k + (if M (q + 10) (4 * (k : Int)) = b ∧ M (q + 10) (4 * (k : Int) + 1) = 1 - s ∧ M (q + 10) (4 * (k : Int) + 3) ≤ h then M (q + 10) (4 * (k : Int) + 2) else 0) := rfl
theorem told_L {M : xM} {q c h S : Int} (hS : M (q + 7) 5 = S) (s1 : S ≤ 8) : ∀ (n g i : Nat), n < g → (i : Int) + n = S → xP (fQ_sleepsTold_L2 g q c h (i : Int) M) (fun v => (v = 1 ∧ ∃ k : Int, i ≤ k ∧ k < S ∧ M (q + 9) (3 * k) = c ∧ M (q + 9) (3 * k + 1) ≤ h ∧ h ≤ M (q + 9) (3 * k + 2)) ∨ (v = 0 ∧ ¬ ∃ k : Int, i ≤ k ∧ k < S ∧ M (q + 9) (3 * k) = c ∧ M (q + 9) (3 * k + 1) ≤ h ∧ h ≤ M (q + 9) (3 * k + 2)))
  | _, 0, _, hg, _ => absurd hg (Nat.not_lt_zero _)
  | 0, g + 1, i, _, hi => by
    unfold fQ_sleepsTold_L2
    rw [hS, if_neg (by omega)]
    exact xP_some (Or.inr ⟨rfl, fun ⟨k, k0, k1, _⟩ => by omega⟩)
  | n + 1, g + 1, i, hg, hi => by
    have next : ¬ (M (q + 9) (3 * (i : Int)) = c ∧ M (q + 9) (3 * (i : Int) + 1) ≤ h ∧ h ≤ M (q + 9) (3 * (i : Int) + 2)) → xP (fQ_sleepsTold_L2 g q c h ((i : Int) + 1) M) (fun v => (v = 1 ∧ ∃ k : Int, i ≤ k ∧ k < S ∧ M (q + 9) (3 * k) = c ∧ M (q + 9) (3 * k + 1) ≤ h ∧ h ≤ M (q + 9) (3 * k + 2)) ∨ (v = 0 ∧ ¬ ∃ k : Int, i ≤ k ∧ k < S ∧ M (q + 9) (3 * k) = c ∧ M (q + 9) (3 * k + 1) ≤ h ∧ h ≤ M (q + 9) (3 * k + 2))) := by
      intro hno
      refine xP_mono (told_L hS s1 n g (i + 1) (by omega) (by omega)) ?_
      rintro v (⟨e, k, k0, k1, k2⟩ | ⟨e, k2⟩)
      · exact Or.inl ⟨e, k, by omega, k1, k2⟩
      · refine Or.inr ⟨e, fun ⟨k, k0, k1, k3⟩ => ?_⟩
        by_cases ek : k = i
        · rw [ek] at k3; exact hno k3
        · exact k2 ⟨k, by omega, k1, k3⟩
    unfold fQ_sleepsTold_L2
    rw [hS, if_pos (by omega), xw32_id (x := 3 * (i : Int)) (by omega) (by omega), xw32_id (x := 3 * (i : Int) + 1) (by omega) (by omega), xw32_id (x := 3 * (i : Int) + 2) (by omega) (by omega), xw32_id (x := (i : Int) + 1) (by omega) (by omega), xA_p (by omega)]
    by_cases e1 : M (q + 9) (3 * (i : Int)) = c
    · rw [if_pos e1, xA_p (by omega)]
      by_cases e2 : h < M (q + 9) (3 * (i : Int) + 1)
      · rw [if_pos e2]; exact next (fun x => by omega)
      · rw [if_neg e2, xA_p (by omega)]
        by_cases e3 : M (q + 9) (3 * (i : Int) + 2) < h
        · rw [if_pos e3]; exact next (fun x => by omega)
        · rw [if_neg e3]
          exact xP_some (Or.inl ⟨rfl, i, by omega, by omega, e1, by omega, by omega⟩)
    · rw [if_neg e1]; exact next (fun x => e1 x.1)
theorem told_s (M : xM) (q c h : Int) (s0 : 0 ≤ M (q + 7) 5) (s1 : M (q + 7) 5 ≤ 8) : xP (fQ_sleepsTold q c h M) (fun v => (v = 1 ∧ ∃ k : Int, 0 ≤ k ∧ k < M (q + 7) 5 ∧ M (q + 9) (3 * k) = c ∧ M (q + 9) (3 * k + 1) ≤ h ∧ h ≤ M (q + 9) (3 * k + 2)) ∨ (v = 0 ∧ ¬ ∃ k : Int, 0 ≤ k ∧ k < M (q + 7) 5 ∧ M (q + 9) (3 * k) = c ∧ M (q + 9) (3 * k + 1) ≤ h ∧ h ≤ M (q + 9) (3 * k + 2))) :=
  told_L (c := c) (h := h) rfl s1 (M (q + 7) 5).toNat 20001 0 (by omega) (by omega)
theorem asleep_s {M V : xM} {q c h : Int} (E : xEf M q V) (w : xWF V) (c0 : 0 ≤ c) (c1 : c < V 0 0) (h0 : 0 ≤ h) (h1 : h < V 0 1) : fQ_isAsleep q c h M = some (if xbt (V 5 c) h then 1 else 0) := by
  obtain ⟨e0, e5, e6, es, ec, el, -⟩ := E
  have hN := w.1
  have hH := w.2.1
  have key := es c h c0 c1 h0 h1
  apply xP_e
  unfold fQ_isAsleep
  have yes : xbt (V 5 c) h = true → (1 : Int) = if xbt (V 5 c) h = true then 1 else 0 := fun e => by rw [if_pos e]
  have no : ¬ xbt (V 5 c) h = true → (0 : Int) = if xbt (V 5 c) h = true then 1 else 0 := fun e => by rw [if_neg e]
  refine xP_if (fun a => ?_) (fun a => xP_some (no (fun x => a (key.mp x).1)))
  refine xP_B (told_s M q c h e5.1 e5.2) ?_
  rintro v (⟨rfl, k⟩ | ⟨rfl, k⟩)
  · rw [if_neg (by decide)]
    exact xP_some (yes (key.mpr ⟨a, Or.inl k⟩))
  · rw [if_pos rfl]
    refine xP_if (fun b => xP_some (no (fun x => ?_))) (fun b => ?_)
    · rcases (key.mp x).2 with y | y
      · exact k y
      · exact y.1 b
    · rw [xA_p (by omega), fQ_isBit_s _ M c0 (by omega)]
      by_cases hb : xbt (M (q + 13) h) c = true
      · rw [hb]; exact xP_some (yes (key.mpr ⟨a, Or.inr ⟨b, hb⟩⟩))
      · rw [if_pos (by rw [if_neg hb])]
        refine xP_some (no (fun x => ?_))
        rcases (key.mp x).2 with y | y
        · exact k y
        · exact hb y.2
theorem kind_s {M V : xM} {q c : Int} (E : xEf M q V) (w : xWF V) (c0 : 0 ≤ c) (c1 : c < V 0 0) : fQ_kindOf q c M = some (V 1 c) := by
  have hN := w.1
  obtain ⟨-, -, -, -, ec, -⟩ := E
  have := (ec c c0 c1).1
  unfold fQ_kindOf
  rw [fQ_isBit_s _ M c0 (by omega), xw32_id (by omega) (by omega), xA_p (by omega), this]
  by_cases a : xbt (M q 27) c = true
  · rw [if_pos a, if_pos a, if_neg (by decide)]
  · rw [if_neg a, if_neg a, if_pos rfl]
    by_cases b : M q 25 = 0
    · rw [if_pos b, if_pos b]
    · rw [if_neg b, if_neg b]
theorem quar_s {M V : xM} {q c s : Int} (E : xEf M q V) (w : xWF V) (c0 : 0 ≤ c) (c1 : c < V 0 0) (hs : s = 0 ∨ s = 1) (hn : xnv V c s ≠ -1) : fQ_quarrels q c s M = some (if xbt (V 0 5) (if s = 1 then c else xnv V c s) then 1 else 0) := by
  have hN := w.1
  have hr := xnb_rg (ring := V 0 3) (s := s) c0 c1
  have ec := E.2.2.2.2.1
  have bit : ∀ d : Int, 0 ≤ d → d < V 0 0 → fQ_isBit (xand (M (q + 7) 4) (xxor (M q 26) (-1))) d M = if xbt (V 0 5) d then 1 else 0 := fun d d0 d1 => by
    rw [fQ_isBit_s _ M d0 (by omega), xbt_and, xbt_not _ d0 (by omega), (ec d d0 d1).2.2.2.1]
  unfold fQ_quarrels fQ_quarrels_L16
  rcases hs with rfl | rfl
  · rw [if_neg (show ¬ (0 : Int) = 1 by decide), if_neg (show ¬ (0 : Int) = 1 by decide), besideV E w c0 c1 (Or.inl rfl), xB_s, bit _ (by unfold xnv at hn ⊢; omega) (by unfold xnv; omega)]
  · rw [if_pos rfl, if_pos rfl]
    congr 1
    exact bit c c0 c1
theorem nothis_s {M V : xM} {q c s h : Int} (E : xEf M q V) (w : xWF V) (c0 : 0 ≤ c) (c1 : c < V 0 0) (h0 : 0 ≤ h) (hs : s = 0 ∨ s = 1) : fQ_isNotHis q c s h M = some (if xhis V c s h then 0 else 1) := by
  have hN := w.1
  have hc := w.2.2.2.2.1 c c0 (by omega)
  have ec := (E.2.2.2.2.1 c c0 c1).2.1
  unfold fQ_isNotHis xhis
  rw [kind_s E w c0 c1, xB_s, xrem_n h0, xrem_n h0, xw32_id (x := 6 * c) (by omega) (by omega), xw32_id (x := 6 * c + 1) (by omega) (by omega)]
  by_cases a : V 1 c = 1
  · rw [if_pos a, if_pos a]
    congr 1
    have : h % 2 = 0 ∨ h % 2 = 1 := by omega
    rcases hs with rfl | rfl <;> rcases this with e | e <;> simp [e]
  · rw [if_neg a, if_neg a]
    by_cases b : V 1 c = 2
    · rw [if_pos b, if_pos b, ← ec b, xA_p (by omega), xA_p (by omega)]
      by_cases e : h % V 2 c = 0
      · simp [e]
      · simp [e]
    · rw [if_neg b, if_neg b]; rfl
theorem xsq_rg {M : xM} {q : Int} (b s h : Int) : ∀ k : Nat, (∀ i : Int, 0 ≤ i → i < k → 0 ≤ M (q + 10) (4 * i + 2) ∧ M (q + 10) (4 * i + 2) ≤ 9) → 0 ≤ xsq M q b s h k ∧ xsq M q b s h k ≤ 9 * k
  | 0, _ => by simp [xsq]
  | k + 1, hk => by
    have ih := xsq_rg b s h k (fun i i0 i1 => hk i i0 (by omega))
    have := hk k (by omega) (by omega)
    unfold xsq
    split <;> omega
theorem likes_L {M : xM} {q c s h b S a : Int} (hS : M (q + 7) 6 = S) (s1 : S ≤ 8) (hs : s = 0 ∨ s = 1) (a0 : 0 ≤ a) (a1 : a ≤ 9) (hp : ∀ i : Int, 0 ≤ i → i < S → 0 ≤ M (q + 10) (4 * i + 2) ∧ M (q + 10) (4 * i + 2) ≤ 9) (hm : M q 30 ≠ -1 → 0 ≤ M q 32 ∧ M q 32 ≤ 9) (c0 : 0 ≤ c) : ∀ (n g i : Nat), n < g → (i : Int) + n = S → fQ_likesOf_L52 g q c s h (a + xsq M q b s h i) b (i : Int) M = some (a + xsq M q b s h S.toNat + (if M q 30 = c ∧ M q 31 = s ∧ M q 33 ≤ h then M q 32 else 0))
  | _, 0, _, hg, _ => absurd hg (Nat.not_lt_zero _)
  | 0, g + 1, i, _, hi => by
    have r := xsq_rg (M := M) (q := q) b s h i (fun j j0 j1 => hp j j0 (by omega))
    unfold fQ_likesOf_L52
    rw [hS, if_neg (by omega)]
    have : i = S.toNat := by omega
    subst this
    congr 1
    by_cases e1 : M q 30 = c
    · rw [if_pos e1]
      have := hm (by omega)
      by_cases e2 : M q 31 = s
      · rw [if_pos e2]
        by_cases e3 : h < M q 33
        · rw [if_pos e3, if_neg (by omega)]; omega
        · rw [if_neg e3, if_pos ⟨e1, e2, by omega⟩, xw32_id (by omega) (by omega)]
      · rw [if_neg e2, if_neg (fun x => e2 x.2.1)]; omega
    · rw [if_neg e1, if_neg (fun x => e1 x.1)]; omega
  | n + 1, g + 1, i, hg, hi => by
    have r := xsq_rg (M := M) (q := q) b s h i (fun j j0 j1 => hp j j0 (by omega))
    have hpi := hp i (by omega) (by omega)
    have ih := likes_L (b := b) hS s1 hs a0 a1 hp hm c0 n g (i + 1) (by omega) (by omega) (h := h)
    rw [show ((i + 1 : Nat) : Int) = (i : Int) + 1 from rfl] at ih
    rw [xsq_s] at ih
    rw [fQ_likesOf_L52]
    rw [hS, if_pos (by omega), xw32_id (x := 4 * (i : Int)) (by omega) (by omega), xw32_id (x := 4 * (i : Int) + 1) (by omega) (by omega), xw32_id (x := 4 * (i : Int) + 2) (by omega) (by omega), xw32_id (x := 4 * (i : Int) + 3) (by omega) (by omega), xw32_id (x := (i : Int) + 1) (by omega) (by omega), xw32_id (x := 1 - s) (by omega) (by omega), xA_p (by omega)]
    by_cases e1 : M (q + 10) (4 * (i : Int)) = b
    · rw [if_pos e1, xA_p (by omega)]
      by_cases e2 : M (q + 10) (4 * (i : Int) + 1) = 1 - s
      · rw [if_pos e2, xA_p (by omega)]
        by_cases e3 : h < M (q + 10) (4 * (i : Int) + 3)
        · rw [if_pos e3]
          rw [if_neg (by omega), Int.add_zero] at ih
          exact ih
        · rw [if_neg e3, xA_p (by omega)]
          rw [if_pos ⟨e1, e2, by omega⟩] at ih
          rw [xw32_id (by omega) (by omega), Int.add_assoc]
          exact ih
      · rw [if_neg e2]
        rw [if_neg (fun x => e2 x.2.1), Int.add_zero] at ih
        exact ih
    · rw [if_neg e1]
      rw [if_neg (fun x => e1 x.1), Int.add_zero] at ih
      exact ih
theorem likesOf_s {M V : xM} {q c s h : Int} (E : xEf M q V) (w : xWF V) (c0 : 0 ≤ c) (c1 : c < V 0 0) (hs : s = 0 ∨ s = 1) (h0 : 0 ≤ h) (h1 : h < V 0 1) : fQ_likesOf q c s h M = some (if xnv V c s = -1 then 0 else xlk V (2 * c + s) h) := by
  have hN := w.1
  have bs := besideV E w c0 c1 hs
  obtain ⟨-, -, e6, -, -, el, ep, eb, em⟩ := E
  unfold fQ_likesOf
  rw [bs, xB_s]
  by_cases e : xnv V c s = -1
  · rw [if_pos e, if_pos e]
  · have key := el c s h c0 c1 hs h0 h1 e
    have hb := eb c c0 (by omega)
    rw [if_neg e, if_neg e, xB_s, xw32_id (x := 6 * c) (by omega) (by omega), xw32_id (x := 6 * c + 3) (by omega) (by omega), xw32_id (x := 6 * c + 3 + s) (by omega) (by omega), key]
    have run : ∀ a : Int, 0 ≤ a → a ≤ 9 → fQ_likesOf_L52 20001 q c s h a (xnv V c s) 0 M = some (a + xsq M q (xnv V c s) s h (M (q + 7) 6).toNat + (if M q 30 = c ∧ M q 31 = s ∧ M q 33 ≤ h then M q 32 else 0)) := fun a a0 a1 => by
      have := likes_L (M := M) (q := q) (c := c) (s := s) (h := h) (b := xnv V c s) (a := a) rfl e6.2 hs a0 a1 ep em c0 (M (q + 7) 6).toNat 20001 0 (by omega) (by omega)
      rw [show xsq M q (xnv V c s) s h 0 = 0 from rfl, Int.add_zero] at this
      exact this
    by_cases e24 : M q 24 = 0
    · rw [if_pos e24, if_pos e24, xA_p (by omega)]
      refine run _ ?_ ?_
      · rcases hs with rfl | rfl
        · rw [Int.add_zero]; omega
        · rw [show 6 * c + 3 + 1 = 6 * c + 4 by omega]; omega
      · rcases hs with rfl | rfl
        · rw [Int.add_zero]; omega
        · rw [show 6 * c + 3 + 1 = 6 * c + 4 by omega]; omega
    · rw [if_neg e24, if_neg e24]
      exact run 9 (by decide) (by decide)
/-- all reasons but the last -/
def xgr (V : xM) (c s h : Int) : Int := if xnv V c s = -1 then 1 else if xbt (V 5 c) h = true then 3 else if V 1 c = 3 then 4 else if xbt (V 0 5) (if s = 1 then c else xnv V c s) = true then 5 else if xhis V c s h = false then 6 else 0
theorem grave_s {M V : xM} {q c s h : Int} (E : xEf M q V) (w : xWF V) (c0 : 0 ≤ c) (c1 : c < V 0 0) (hs : s = 0 ∨ s = 1) (h0 : 0 ≤ h) (h1 : h < V 0 1) : fQ_gravely q c s h M = some (xgr V c s h) := by
  have hN := w.1
  unfold fQ_gravely xgr
  rw [besideV E w c0 c1 hs, xB_s]
  by_cases a1 : xnv V c s = -1
  · rw [if_pos a1, if_pos a1]
  rw [if_neg a1, if_neg a1, asleep_s E w c0 c1 h0 h1, xB_s]
  by_cases a2 : xbt (V 5 c) h = true
  · rw [if_pos a2, if_pos a2, if_neg (by decide)]
  rw [if_neg a2, if_neg a2, if_pos rfl, kind_s E w c0 c1, xB_s]
  by_cases a3 : V 1 c = 3
  · rw [if_pos a3, if_pos a3]
  rw [if_neg a3, if_neg a3, quar_s E w c0 c1 hs a1, xB_s]
  by_cases a4 : xbt (V 0 5) (if s = 1 then c else xnv V c s) = true
  · rw [if_pos a4, if_pos a4, if_neg (by decide)]
  rw [if_neg a4, if_neg a4, if_pos rfl, nothis_s E w c0 c1 h0 hs, xB_s]
  cases hh : xhis V c s h <;> rfl
theorem xwo_gr (V : xM) (c s h : Int) : xwo V c s h = if xgr V c s h = 0 then (if xlk V (2 * c + s) h < V 3 c then 7 else 0) else xgr V c s h := by
  unfold xwo xwy xgr xnv
  rw [xbt_0]
  (repeat' split) <;> simp_all
theorem reason_s {M V : xM} {q c s h : Int} (E : xEf M q V) (w : xWF V) (c0 : 0 ≤ c) (c1 : c < V 0 0) (hs : s = 0 ∨ s = 1) (h0 : 0 ≤ h) (h1 : h < V 0 1) : fQ_reasonOf q c s h M = some (xwo V c s h) := by
  have hN := w.1
  have et := (E.2.2.2.2.1 c c0 c1).2.2.1
  unfold fQ_reasonOf
  rw [grave_s E w c0 c1 hs h0 h1, xB_s, xwo_gr, xw32_id (x := 6 * c) (by omega) (by omega), xw32_id (x := 6 * c + 2) (by omega) (by omega), ← et]
  by_cases a : xgr V c s h = 0
  · have hn : xnv V c s ≠ -1 := fun e => by unfold xgr at a; rw [if_pos e] at a; cases a
    rw [if_pos a, if_pos a, likesOf_s E w c0 c1 hs h0 h1, if_neg hn, xB_s, xA_p (by omega)]
  · rw [if_neg a, if_neg a]
theorem loyal_s {M V : xM} {q c : Int} (E : xEf M q V) (w : xWF V) (c0 : 0 ≤ c) (c1 : c < V 0 0) : fQ_isLoyal q c M = some (if xLy V c then 1 else 0) := by
  have hN := w.1
  have e := (E.2.2.2.2.1 c c0 c1).2.2.2.2
  unfold fQ_isLoyal xLy
  rw [xw32_id (x := 6 * c) (by omega) (by omega), xw32_id (x := 6 * c + 5) (by omega) (by omega), xA_p (by omega), fQ_isBit_s _ M c0 (by omega), e]
  by_cases a : M (q + 8) (6 * c + 5) = 1
  · rw [if_pos a]; simp [a]
  · rw [if_neg a]
    cases hb : xbt (M q 28) c <;> simp [a]
end
