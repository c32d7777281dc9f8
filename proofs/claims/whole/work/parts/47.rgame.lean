/-! the reference: who would turn, which doors open, who can be out -/
noncomputable section
theorem npc_z : npc 0 = 0 := by decide
theorem sizeOf_L (M : xM) : ∀ (n g : Nat) (a : Int) (x : Nat), n < g → npc x = n → x < 2147483648 → 0 ≤ a → a + n ≤ 1000 → fQ_sizeOf_L4 g a (x : Int) M = some (a + n)
  | _, 0, _, _, hg, _, _, _, _ => absurd hg (Nat.not_lt_zero _)
  | n, g + 1, a, x, hg, hx, hl, a0, a1 => by
    unfold fQ_sizeOf_L4
    by_cases e : x = 0
    · subst e
      rw [npc_z] at hx
      rw [if_pos (show ((0 : Nat) : Int) = 0 from rfl)]
      congr 1; omega
    · have k := npc_k 32 x (by omega) (by omega)
      have k2 : npc (x &&& (x - 1)) + 1 = npc x := k
      have hb : x &&& (x - 1) ≤ x := Nat.and_le_left
      rw [if_neg (by omega), xw32_id (x := (x : Int) - 1) (by omega) (by omega), show (x : Int) - 1 = ((x - 1 : Nat) : Int) by omega, xand_nat hl (by omega), xw32_id (by omega) (by omega)]
      rw [sizeOf_L M (n - 1) g (a + 1) (x &&& (x - 1)) (by omega) (by omega) (by omega) (by omega) (by omega)]
      congr 1; omega
theorem sizeOf_s {x : Int} (M : xM) (h0 : 0 ≤ x) (h1 : x < 2147483648) : fQ_sizeOf x M = some (xpc x) := by
  obtain ⟨a, rfl⟩ := Int.eq_ofNat_of_zero_le h0
  unfold fQ_sizeOf
  have hl := xct_le (fun i => a.testBit i) 32
  have := sizeOf_L M (npc a) 20001 0 a (by unfold npc; omega) rfl (by omega) (by decide) (by unfold npc; omega)
  rw [this, xpc_nat (by omega), Int.zero_add]
/-- who would turn for whom, by the table; R: who refuses -/
def xWd (M : xM) (q : Int) (V : xM) (R : Int → Bool) : Prop := ∀ h s c : Int, 0 ≤ h → h < V 0 1 → (s = 0 ∨ s = 1) → 0 ≤ c → c < V 0 0 → xbt (M (q + 14) (2 * h + s)) c = (xT V c s h && !R c)
theorem xWd_go {M m V : xM} {q : Int} {R : Int → Bool} (h : xWd M q V R) (e : m (q + 14) = M (q + 14)) : xWd m q V R := by
  intro a b c
  rw [e]
  exact h a b c
theorem would_L24 {V M : xM} {q h s : Int} (E : xEf M q V) (w : xWF V) {K : Int → Int → Int → xM → Option xM} {Q : xM → Prop} (h0 : 0 ≤ h) (h1 : h < V 0 1) (hs : s = 0 ∨ s = 1)
    (hK : ∀ v : Int, (∀ c : Int, 0 ≤ c → c < V 0 0 → xbt v c = (xT V c s h && !xbt (M q 29) c)) → xP (K q h (s + 1) (xwr M (q + 14) (2 * h + s) v)) Q) : ∀ (n g i : Nat) (v : Int), n < g → (i : Int) + n = V 0 0 → x32 v → (∀ c : Int, 0 ≤ c → c < V 0 0 → xbt v c = (decide (c < i) && (xT V c s h && !xbt (M q 29) c))) → xP (fQ_laysWould_L24 K g q h s v (i : Int) M) Q
  | _, 0, _, _, hg, _, _, _ => absurd hg (Nat.not_lt_zero _)
  | 0, g + 1, i, v, _, hi, hx, hv => by
    have hH := w.2.1
    unfold fQ_laysWould_L24
    rw [E.1.1, if_neg (by omega), xw32_id (x := 2 * h) (by omega) (by omega), xw32_id (x := 2 * h + s) (by omega) (by omega), xw32_id (x := s + 1) (by omega) (by omega), xA_p (by omega)]
    refine hK v (fun c c0 c1 => ?_)
    rw [hv c c0 c1, decide_eq_true (by omega), Bool.true_and]
  | n + 1, g + 1, i, v, hg, hi, hx, hv => by
    have hN := w.1
    have ext : ∀ v' : Int, x32 v' → (∀ c : Int, 0 ≤ c → c < V 0 0 → xbt v' c = (xbt v c || (decide (c = i) && (xT V i s h && !xbt (M q 29) i)))) → xP (fQ_laysWould_L24 K g q h s v' ((i : Int) + 1) M) Q := by
      intro v' hx' hv'
      refine would_L24 E w h0 h1 hs hK n g (i + 1) v' (by omega) (by omega) hx' (fun c c0 c1 => ?_)
      rw [hv' c c0 c1, hv c c0 c1]
      by_cases e : c = i
      · subst e; simp; omega
      · have : decide (c < ((i + 1 : Nat) : Int)) = decide (c < (i : Int)) := by apply decide_eq_decide.mpr; omega
        rw [this]; simp [e]
    unfold fQ_laysWould_L24
    rw [E.1.1, if_pos (by omega), fQ_isBit_s _ M (by omega) (by omega), xw32_id (x := (i : Int) + 1) (by omega) (by omega), reason_s E w (by omega) (by omega) hs h0 h1, xB_s, xor_0r hx]
    by_cases a : xbt (M q 29) i = true
    · rw [if_neg (by rw [if_pos a]; decide)]
      exact ext v hx (fun c c0 c1 => by simp [a])
    · rw [if_pos (by rw [if_neg a])]
      by_cases b : xwo V i s h = 0
      · rw [if_pos b]
        refine ext _ (xor_in _ _) (fun c c0 c1 => ?_)
        rw [xbt_or, xbt_shl1 (by omega) (by omega) c0 (by omega)]
        have : xT V i s h = true := decide_eq_true b
        simp [a, this]
      · rw [if_neg b]
        have : xT V i s h = false := decide_eq_false b
        exact ext v hx (fun c c0 c1 => by simp [this])
theorem would_L14 {V M : xM} {q h : Int} (E : xEf M q V) (w : xWF V) {K : Int → Int → xM → Option xM} {Q : xM → Prop} (h0 : 0 ≤ h) (h1 : h < V 0 1)
    (hK : ∀ m : xM, xF (q + 14) (q + 14) M m → (∀ j : Int, j ≠ 2 * h → j ≠ 2 * h + 1 → m (q + 14) j = M (q + 14) j) → (∀ s c : Int, (s = 0 ∨ s = 1) → 0 ≤ c → c < V 0 0 → xbt (m (q + 14) (2 * h + s)) c = (xT V c s h && !xbt (M q 29) c)) → xP (K q (h + 1) m) Q) (g : Nat) : xP (fQ_laysWould_L14 K (g + 1 + 1 + 1) q h 0 M) Q := by
  have hN := w.1
  have hH := w.2.1
  have z : ∀ (s : Int) (m : xM) (c : Int), 0 ≤ c → c < V 0 0 → xbt 0 c = (decide (c < ((0 : Nat) : Int)) && (xT V c s h && !xbt (m q 29) c)) := fun s m c c0 c1 => by rw [xbt_0]; simp; omega
  rw [fQ_laysWould_L14, if_pos (by decide)]
  refine would_L24 E w h0 h1 (Or.inl rfl) (fun v hv => ?_) (V 0 0).toNat 20001 0 0 (by omega) (by omega) (by constructor <;> decide) (z 0 M)
  have f1 : xF (q + 14) (q + 14) M (xwr M (q + 14) (2 * h + 0) v) := xwr_F (xF_rfl _ _ _) (by omega) (by omega)
  have E1 : xEf (xwr M (q + 14) (2 * h + 0) v) q V := xEf_go E (fun j _ _ => by rw [f1 q (by omega)]) (f1 _ (by omega)) (f1 _ (by omega)) (f1 _ (by omega)) (f1 _ (by omega)) (f1 _ (by omega))
  have e29 : (xwr M (q + 14) (2 * h + 0) v) q 29 = M q 29 := by rw [f1 q (by omega)]
  rw [fQ_laysWould_L14, if_pos (by decide)]
  refine would_L24 E1 w h0 h1 (s := 0 + 1) (Or.inr rfl) (fun v2 hv2 => ?_) (V 0 0).toNat 20001 0 0 (by omega) (by omega) (by constructor <;> decide) (z (0 + 1) _)
  rw [fQ_laysWould_L14, if_neg (by decide), xw32_id (by omega) (by omega)]
  refine hK _ (xwr_F f1 (by omega) (by omega)) (fun j j0 j1 => by rw [xwr_n _ (by omega), xwr_n _ (by omega)]) (fun s c hs c0 c1 => ?_)
  rcases hs with rfl | rfl
  · rw [xwr_n _ (by omega), xwr_s]
    exact hv c c0 c1
  · rw [show 2 * h + 1 = 2 * h + (0 + 1) from rfl, xwr_s, hv2 c c0 c1, e29]
    rfl
theorem would_L2 {V M : xM} {q : Int} (E : xEf M q V) (w : xWF V) : ∀ (n g i : Nat) (m : xM), n < g → (i : Int) + n = V 0 1 → xF (q + 14) (q + 14) M m → (∀ h s c : Int, 0 ≤ h → h < i → (s = 0 ∨ s = 1) → 0 ≤ c → c < V 0 0 → xbt (m (q + 14) (2 * h + s)) c = (xT V c s h && !xbt (M q 29) c)) → xP (fQ_laysWould_L2 g q (i : Int) m) (fun m' => xF (q + 14) (q + 14) M m' ∧ xWd m' q V (fun c => xbt (M q 29) c))
  | _, 0, _, _, hg, _, _, _ => absurd hg (Nat.not_lt_zero _)
  | 0, g + 1, i, m, _, hi, hF, hm => by
    unfold fQ_laysWould_L2
    rw [hF (q + 7) (by omega), E.1.2.1, if_neg (by omega)]
    exact xP_some ⟨hF, fun h s c a0 a1 => hm h s c a0 (by omega)⟩
  | n + 1, g + 1, i, m, hg, hi, hF, hm => by
    have hN := w.1
    have hH := w.2.1
    have Em : xEf m q V := xEf_go E (fun j _ _ => by rw [hF q (by omega)]) (hF _ (by omega)) (hF _ (by omega)) (hF _ (by omega)) (hF _ (by omega)) (hF _ (by omega))
    have e29 : m q 29 = M q 29 := by rw [hF q (by omega)]
    unfold fQ_laysWould_L2
    rw [hF (q + 7) (by omega), E.1.2.1, if_pos (by omega)]
    refine would_L14 Em w (by omega) (by omega) (fun m' f ho hb => ?_) 19998
    refine would_L2 E w n g (i + 1) m' (by omega) (by omega) (xF_tr hF f) (fun h s c a0 a1 hs c0 c1 => ?_)
    by_cases e : h = i
    · rw [e, hb s c hs c0 c1, e29]
    · rw [ho _ (by omega) (by omega)]
      exact hm h s c a0 (by omega) hs c0 c1
theorem would_s {V M : xM} {q : Int} (E : xEf M q V) (w : xWF V) : xP (fQ_laysWould q M) (fun m => xF (q + 14) (q + 14) M m ∧ xEf m q V ∧ xWd m q V (fun c => xbt (M q 29) c)) := by
  have hH := w.2.1
  refine xP_mono (would_L2 E w (V 0 1).toNat 20001 0 M (by omega) (by omega) (xF_rfl _ _ _) (fun h s c a0 a1 => absurd a1 (by omega))) ?_
  rintro m ⟨f, h⟩
  exact ⟨f, xEf_go E (fun j _ _ => by rw [f q (by omega)]) (f _ (by omega)) (f _ (by omega)) (f _ (by omega)) (f _ (by omega)) (f _ (by omega)), h⟩
def xtn (V : xM) (R : Int → Bool) (c s h o : Int) : Bool := decide (xnv V c s = -1) || ((xT V (xnv V c s) (1 - s) h && !R (xnv V c s)) && (!xbt o (xnv V c s) || xLy V (xnv V c s)))
theorem turns_s {M V : xM} {q c s h o : Int} {R : Int → Bool} (E : xEf M q V) (D : xWd M q V R) (w : xWF V) (c0 : 0 ≤ c) (c1 : c < V 0 0) (hs : s = 0 ∨ s = 1) (h0 : 0 ≤ h) (h1 : h < V 0 1) : fQ_turns q c s h o M = some (if xtn V R c s h o then 1 else 0) := by
  have hN := w.1
  have hH := w.2.1
  have hr := xnb_rg (ring := V 0 3) (s := s) c0 c1
  unfold fQ_turns xtn
  rw [besideV E w c0 c1 hs, xB_s]
  by_cases a : xnv V c s = -1
  · rw [if_pos a]; simp [a]
  · have hn : 0 ≤ xnv V c s ∧ xnv V c s < V 0 0 := by unfold xnv at a ⊢; omega
    have hD := D h (1 - s) (xnv V c s) h0 h1 (by omega) hn.1 hn.2
    have el := loyal_s E w hn.1 hn.2
    rw [if_neg a, xw32_id (x := 2 * h) (by omega) (by omega), xw32_id (x := 2 * h + 1) (by omega) (by omega), xw32_id (x := 2 * h + 1 - s) (by omega) (by omega), xA_p (by omega), fQ_isBit_s _ M hn.1 (by omega), show 2 * h + 1 - s = 2 * h + (1 - s) by omega, hD, fQ_isBit_s _ M hn.1 (by omega), el]
    simp only [a, decide_false, Bool.false_or]
    cases xT V (xnv V c s) (1 - s) h <;> cases R (xnv V c s) <;> cases xbt o (xnv V c s) <;> cases xLy V (xnv V c s) <;> rfl
def xopR (V : xM) (R : Int → Bool) (c h o : Int) : Bool := !xbt o c && (xtn V R c 0 h o && xtn V R c 1 h o)
theorem opensIf_s {M V : xM} {q c h o : Int} {R : Int → Bool} (E : xEf M q V) (D : xWd M q V R) (w : xWF V) (c0 : 0 ≤ c) (c1 : c < V 0 0) (h0 : 0 ≤ h) (h1 : h < V 0 1) : fQ_opensIf q c h o M = some (if xopR V R c h o then 1 else 0) := by
  have hN := w.1
  unfold fQ_opensIf xopR
  rw [fQ_isBit_s _ M c0 (by omega), turns_s E D w c0 c1 (Or.inl rfl) h0 h1, turns_s E D w c0 c1 (Or.inr rfl) h0 h1, xB_s, xB_s]
  cases xbt o c <;> cases xtn V R c 0 h o <;> cases xtn V R c 1 h o <;> rfl
theorem xop_ref {V : xM} {c h o : Int} (w : xWF V) (c0 : 0 ≤ c) (c1 : c < V 0 0) : xopR V (fun _ => false) c h o = xop V c h o := by
  have hN := w.1
  have r0 := xnb_rg (ring := V 0 3) (s := 0) c0 c1
  have r1 := xnb_rg (ring := V 0 3) (s := 1) c0 c1
  apply Bool.eq_iff_iff.mpr
  rw [xop_iff]
  unfold xopR xtn xOk xBr xN2
  simp only [Bool.and_eq_true, Bool.or_eq_true, Bool.not_eq_true', Bool.not_false, Bool.and_true, decide_eq_true_iff, Bool.or_eq_false_iff, Bool.and_eq_false_iff, decide_eq_false_iff_not, Bool.not_eq_false', show (1 : Int) - 0 = 1 from rfl, show (1 : Int) - 1 = 0 from rfl]
  constructor
  · rintro ⟨a, b, d⟩
    refine ⟨⟨b.imp id (fun x => x.1), d.imp id (fun x => x.1)⟩, fun e e0 e1 he => ⟨fun x => (by rw [x, a] at he; cases he), ?_⟩⟩
    by_cases x0 : e = xnv V c 0
    · right
      rcases b with b | b
      · omega
      · rcases b.2 with y | y
        · rw [x0, y] at he; cases he
        · rw [x0]; exact y
    · by_cases x1 : e = xnv V c 1
      · right
        rcases d with d | d
        · omega
        · rcases d.2 with y | y
          · rw [x1, y] at he; cases he
          · rw [x1]; exact y
      · exact Or.inl ⟨x0, x1⟩
  · rintro ⟨⟨b, d⟩, k⟩
    refine ⟨?_, ?_, ?_⟩
    · cases hx : xbt o c
      · rfl
      · exact absurd rfl (k c c0 (by omega) hx).1
    · by_cases x0 : xnv V c 0 = -1
      · exact Or.inl x0
      · right
        refine ⟨b.resolve_left x0, ?_⟩
        cases hx : xbt o (xnv V c 0)
        · exact Or.inl rfl
        · right
          rcases (k (xnv V c 0) (by unfold xnv at x0 ⊢; omega) (by unfold xnv; omega) hx).2 with y | y
          · exact absurd rfl y.1
          · exact y
    · by_cases x0 : xnv V c 1 = -1
      · exact Or.inl x0
      · right
        refine ⟨d.resolve_left x0, ?_⟩
        cases hx : xbt o (xnv V c 1)
        · exact Or.inl rfl
        · right
          rcases (k (xnv V c 1) (by unfold xnv at x0 ⊢; omega) (by unfold xnv; omega) hx).2 with y | y
          · exact absurd rfl y.2
          · exact y
theorem opens_s {M V : xM} {q c h o : Int} (E : xEf M q V) (D : xWd M q V (fun _ => false)) (w : xWF V) (c0 : 0 ≤ c) (c1 : c < V 0 0) (h0 : 0 ≤ h) (h1 : h < V 0 1) : fQ_opensIf q c h o M = some (if xop V c h o then 1 else 0) := by
  rw [opensIf_s E D w c0 c1 h0 h1, xop_ref w c0 c1]
end
