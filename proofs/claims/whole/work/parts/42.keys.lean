/-! the keys of a prison: in which hours men turn and doors could be tried with luck -/
noncomputable section
def xOk (V : xM) (c h : Int) : Bool := (decide (xnv V c 0 = -1) || xT V (xnv V c 0) 1 h) && (decide (xnv V c 1 = -1) || xT V (xnv V c 1) 0 h)
def xN2 (V : xM) (c d : Int) : Bool := decide (d = xnv V c 0) || decide (d = xnv V c 1)
def xBr (V : xM) (c d : Int) : Bool := decide (d = c) || (xN2 V c d && !xLy V d)
def xKT (m : xM) (k : Int) (V : xM) : Prop := ∀ c s : Int, 0 ≤ c → c < V 0 0 → (s = 0 ∨ s = 1) → x32 (m (k + 1) (2 * c + s)) ∧ ∀ h : Int, 0 ≤ h → h < 32 → xbt (m (k + 1) (2 * c + s)) h = (decide (h < V 0 1) && xT V c s h)
def xKD (m : xM) (k : Int) (V : xM) (c : Int) : Prop := (x32 (m (k + 2) c) ∧ x32 (m (k + 3) c) ∧ x32 (m (k + 4) c)) ∧ (∀ h : Int, 0 ≤ h → h < 32 → xbt (m (k + 2) c) h = (decide (h < V 0 1) && xOk V c h)) ∧ (∀ d : Int, 0 ≤ d → d < 32 → xbt (m (k + 3) c) d = xN2 V c d) ∧ (∀ d : Int, 0 ≤ d → d < 32 → xbt (m (k + 4) c) d = xBr V c d) ∧ (∀ j : Int, 0 ≤ j → j < 64 → (xbl (m (k + 5) c) j = true ↔ ∀ i : Int, 0 ≤ i → i < 6 → xbt (m (k + 4) c) i = true → xbt j i = false))
def xKO (m : xM) (k : Int) (V : xM) : Prop := m k 0 = V 0 0 ∧ m k 1 = V 0 1 ∧ xKT m k V ∧ ∀ c : Int, 0 ≤ c → c < V 0 0 → xKD m k V c
theorem xKT_go {M m V : xM} {k : Int} (h : xKT M k V) (e : m (k + 1) = M (k + 1)) : xKT m k V := by
  intro c s h0 h1 hs
  rw [e]
  exact h c s h0 h1 hs
theorem xKO_go {M m V : xM} {k : Int} (h : xKO M k V) (e : ∀ a : Int, k ≤ a → a ≤ k + 5 → m a = M a) : xKO m k V := by
  obtain ⟨h1, h2, h3, h4⟩ := h
  refine ⟨by rw [e k (by omega) (by omega)]; exact h1, by rw [e k (by omega) (by omega)]; exact h2, xKT_go h3 (e _ (by omega) (by omega)), fun c h0 h1 => ?_⟩
  have := h4 c h0 h1
  unfold xKD at this ⊢
  rw [e (k + 2) (by omega) (by omega), e (k + 3) (by omega) (by omega), e (k + 4) (by omega) (by omega), e (k + 5) (by omega) (by omega)]
  exact this
theorem lackingAll_L (t : Int) (M : xM) : ∀ (n g i : Nat) (a : Int), n < g → i + n = 6 → (∀ j : Int, 0 ≤ j → j < 64 → (xbl a j = true ↔ ∀ d : Int, 0 ≤ d → d < i → xbt t d = true → xbt j d = false)) → xP (fKeys_lackingAll_L6 g t a (i : Int) M) (fun v => ∀ j : Int, 0 ≤ j → j < 64 → (xbl v j = true ↔ ∀ d : Int, 0 ≤ d → d < 6 → xbt t d = true → xbt j d = false))
  | _, 0, _, _, hg, _, _ => absurd hg (Nat.not_lt_zero _)
  | 0, g + 1, i, a, _, hi, h => by
    have : i = 6 := by omega
    subst this
    unfold fKeys_lackingAll_L6
    rw [if_neg (by decide)]
    exact xP_some h
  | n + 1, g + 1, i, a, hg, hi, h => by
    unfold fKeys_lackingAll_L6
    rw [if_pos (by omega), xbit_t t (by omega) (by omega), xw32_id (x := (i : Int) + 1) (by omega) (by omega)]
    have step : ∀ a' : Int, (∀ j : Int, 0 ≤ j → j < 64 → (xbl a' j = true ↔ (xbl a j = true ∧ (xbt t i = true → xbt j i = false)))) → xP (fKeys_lackingAll_L6 g t a' ((i : Int) + 1) M) (fun v => ∀ j : Int, 0 ≤ j → j < 64 → (xbl v j = true ↔ ∀ d : Int, 0 ≤ d → d < 6 → xbt t d = true → xbt j d = false)) := by
      intro a' ha
      refine lackingAll_L t M n g (i + 1) a' (by omega) (by omega) (fun j h0 h1 => ?_)
      rw [ha j h0 h1, h j h0 h1]
      constructor
      · rintro ⟨p, q⟩ d d0 d1
        by_cases e : d = i
        · rw [e]; exact q
        · exact p d d0 (by omega)
      · intro p
        exact ⟨fun d d0 d1 => p d d0 (by omega), p i (by omega) (by omega)⟩
    by_cases hb : xbt t i = true
    · rw [if_pos ((xif10 _).mpr hb), xA_p (by omega)]
      refine step _ (fun j h0 h1 => ?_)
      rw [xbl_and, xbl_lack (by omega) (by omega) h0 h1, hb]
      simp
    · rw [if_neg (fun e => hb ((xif10 _).mp e))]
      exact step _ (fun j h0 h1 => by simp [hb])
theorem lackingAll_s (t : Int) (M : xM) : xP (fKeys_lackingAll t M) (fun v => ∀ j : Int, 0 ≤ j → j < 64 → (xbl v j = true ↔ ∀ d : Int, 0 ≤ d → d < 6 → xbt t d = true → xbt j d = false)) :=
  lackingAll_L t M 6 20001 0 (-1) (by omega) rfl (fun j h0 h1 => by
    rw [xbl_m1 h0 h1]
    exact ⟨fun _ d d0 d1 => absurd d1 (by omega), fun _ => rfl⟩)
theorem door_fin {M V : xM} {k p c o b : Int} (hv : xPv M p V) (hpk : p + 10 < k) (h0 : 0 ≤ c) (h1 : c < 9) (g : Nat) : xP (fKeys_readDoor_L15 (g + 1) k p c o b 2 M) (fun m => ∃ v, m = xwr (xwr (xwr (xwr M (k + 2) c o) (k + 3) c b) (k + 4) c (xor32 (xshl 1 c) (xand b (xxor (V 0 4) (-1))))) (k + 5) c v ∧ ∀ j : Int, 0 ≤ j → j < 64 → (xbl v j = true ↔ ∀ d : Int, 0 ≤ d → d < 6 → xbt (xor32 (xshl 1 c) (xand b (xxor (V 0 4) (-1)))) d = true → xbt j d = false)) := by
  unfold fKeys_readDoor_L15
  rw [if_pos (by decide), xA_p ⟨h0, h1⟩, xA_p ⟨h0, h1⟩, xA_p ⟨h0, h1⟩, xA_p ⟨h0, h1⟩]
  rw [xwr_a (b := p) (a := k + 3) _ (by omega), xwr_a (b := p) (a := k + 2) _ (by omega), xPv_0 hv 4 (by decide) (by decide), xwr_s]
  refine xP_B (lackingAll_s _ _) (fun v hv2 => ?_)
  rw [xA_p ⟨h0, h1⟩]
  exact xP_some ⟨v, rfl, hv2⟩
theorem door_step {M V : xM} {k p c o b s : Int} (hv : xPv M p V) (w : xWF V) (h0 : 0 ≤ c) (h1 : c < V 0 0) (hs : s = 0 ∨ s = 1) (g : Nat) : fKeys_readDoor_L15 (g + 1) k p c o b s M = if xnv V c s = -1 then fKeys_readDoor_L15 g k p c o b (s + 1) M else fKeys_readDoor_L15 g k p c (xand o (M (k + 1) (2 * xnv V c s + (1 - s)))) (xad b (xnv V c s)) (s + 1) M := by
  have hN := w.1
  have hr := xnb_rg (ring := V 0 3) (s := s) h0 h1
  rw [fKeys_readDoor_L15]
  rw [if_neg (by omega), nb_s hv w h0 h1]
  unfold xnv
  by_cases e : xnb (V 0 0) (V 0 3) c s = -1
  · rw [if_pos e, if_pos e, xw32_id (by omega) (by omega)]
  · rw [if_neg e, if_neg e, xw32_id (x := s + 1) (by omega) (by omega), xw32_id (x := 2 * _) (by omega) (by omega), xw32_id (x := 2 * _ + 1) (by omega) (by omega), xw32_id (x := 2 * _ + 1 - s) (by omega) (by omega), xA_p (by omega), show 2 * xnb (V 0 0) (V 0 3) c s + 1 - s = 2 * xnb (V 0 0) (V 0 3) c s + (1 - s) by omega]
    rfl
theorem door_s {M V : xM} {k p c : Int} (hv : xPv M p V) (w : xWF V) (hpk : p + 10 < k) (hT : xKT M k V) (h0 : 0 ≤ c) (h1 : c < V 0 0) (hH : M k 1 = V 0 1) : xP (fKeys_readDoor k p c M) (fun m => xF (k + 2) (k + 5) M m ∧ (∀ d : Int, d ≠ c → xKD M k V d → xKD m k V d) ∧ xKD m k V c) := by
  have hN := w.1
  have hH2 := w.2.1
  have ho : ∀ h : Int, 0 ≤ h → h < 32 → xbt (xw32 (xshl 1 (M k 1) - 1)) h = decide (h < V 0 1) := fun h a b => by
    rw [hH, xmsk (by omega) (by omega), xbt_mk _ (by omega) a b]
    apply decide_eq_decide.mpr
    omega
  have hox : x32 (xw32 (xshl 1 (M k 1) - 1)) := xi_in _
  unfold fKeys_readDoor
  generalize xw32 (xshl 1 (M k 1) - 1) = o at ho hox
  have fin : ∀ (g : Nat) (o' b' : Int), x32 o' → x32 b' → (∀ h : Int, 0 ≤ h → h < 32 → xbt o' h = (decide (h < V 0 1) && xOk V c h)) → (∀ d : Int, 0 ≤ d → d < 32 → xbt b' d = xN2 V c d) → xP (fKeys_readDoor_L15 (g + 1) k p c o' b' 2 M) (fun m => xF (k + 2) (k + 5) M m ∧ (∀ d : Int, d ≠ c → xKD M k V d → xKD m k V d) ∧ xKD m k V c) := by
    intro g o' b' x1 x2 q1 q2
    refine xP_mono (door_fin hv hpk h0 (by omega) g) ?_
    rintro m ⟨v, rfl, hj⟩
    refine ⟨xwr_F (xwr_F (xwr_F (xwr_F (xF_rfl _ _ _) (by omega) (by omega)) (by omega) (by omega)) (by omega) (by omega)) (by omega) (by omega), fun d hd h => ?_, ?_⟩
    · unfold xKD at h ⊢
      simp only [xwr_at]
      rw [if_neg (by omega), if_neg (by omega), if_neg (by omega), if_neg (by omega), if_neg (by omega), if_neg (by omega), if_neg (by omega), if_neg (by omega), if_neg (by omega), if_neg (by omega), if_neg (by omega), if_neg (by omega), if_neg (by omega), if_neg (by omega), if_neg (by omega), if_neg (by omega)]
      exact h
    · have e5 : (xwr (xwr (xwr (xwr M (k + 2) c o') (k + 3) c b') (k + 4) c (xor32 (xshl 1 c) (xand b' (xxor (V 0 4) (-1))))) (k + 5) c v) (k + 5) c = v := xwr_s _ _ _ _
      have e4 : (xwr (xwr (xwr (xwr M (k + 2) c o') (k + 3) c b') (k + 4) c (xor32 (xshl 1 c) (xand b' (xxor (V 0 4) (-1))))) (k + 5) c v) (k + 4) c = xor32 (xshl 1 c) (xand b' (xxor (V 0 4) (-1))) := by rw [xwr_n _ (by omega), xwr_s]
      have e3 : (xwr (xwr (xwr (xwr M (k + 2) c o') (k + 3) c b') (k + 4) c (xor32 (xshl 1 c) (xand b' (xxor (V 0 4) (-1))))) (k + 5) c v) (k + 3) c = b' := by rw [xwr_n _ (by omega), xwr_n _ (by omega), xwr_s]
      have e2 : (xwr (xwr (xwr (xwr M (k + 2) c o') (k + 3) c b') (k + 4) c (xor32 (xshl 1 c) (xand b' (xxor (V 0 4) (-1))))) (k + 5) c v) (k + 2) c = o' := by rw [xwr_n _ (by omega), xwr_n _ (by omega), xwr_n _ (by omega), xwr_s]
      unfold xKD
      rw [e2, e3, e4, e5]
      refine ⟨⟨x1, x2, xor_in _ _⟩, q1, q2, fun d d0 d1 => ?_, hj⟩
      rw [xbt_or, xbt_shl1 h0 (by omega) d0 d1, xbt_and, q2 d d0 d1, xbt_not _ d0 d1]
      rfl
  have sides : ∀ (g : Nat) (o' b' : Int), x32 o' → x32 b' → (∀ h : Int, 0 ≤ h → h < 32 → xbt o' h = (decide (h < V 0 1) && (decide (xnv V c 0 = -1) || xT V (xnv V c 0) 1 h))) → (∀ d : Int, 0 ≤ d → d < 32 → xbt b' d = decide (d = xnv V c 0)) → xP (fKeys_readDoor_L15 (g + 1 + 1) k p c o' b' 1 M) (fun m => xF (k + 2) (k + 5) M m ∧ (∀ d : Int, d ≠ c → xKD M k V d → xKD m k V d) ∧ xKD m k V c) := by
    intro g o' b' x1 x2 q1 q2
    have hr := xnb_rg (ring := V 0 3) (s := 1) h0 h1
    rw [door_step hv w h0 h1 (Or.inr rfl)]
    by_cases e : xnv V c 1 = -1
    · rw [if_pos e]
      refine fin g o' b' x1 x2 (fun h a b => ?_) (fun d a b => ?_)
      · rw [q1 h a b]; unfold xOk; simp [e]
      · rw [q2 d a b]; unfold xN2; rw [e]; simp; omega
    · rw [if_neg e]
      have hn : 0 ≤ xnv V c 1 ∧ xnv V c 1 < V 0 0 := by unfold xnv at e ⊢; omega
      have ht := hT (xnv V c 1) 0 hn.1 hn.2 (Or.inl rfl)
      refine fin g _ _ (xand_in _ _) (xad_in _ _) (fun h a b => ?_) (fun d a b => ?_)
      · rw [xbt_and, q1 h a b, show (1 : Int) - 1 = 0 from rfl, ht.2 h a b]
        unfold xOk
        simp only [e, decide_false, Bool.false_or]
        cases decide (h < V 0 1) <;> simp
      · rw [xbt_ad _ hn.1 (by omega) a b, q2 d a b]; rfl
  have hr := xnb_rg (ring := V 0 3) (s := 0) h0 h1
  rw [door_step hv w h0 h1 (Or.inl rfl) 20000]
  by_cases e : xnv V c 0 = -1
  · rw [if_pos e]
    refine sides 19998 o 0 hox (by constructor <;> decide) (fun h a b => ?_) (fun d a b => ?_)
    · rw [ho h a b]; simp [e]
    · rw [xbt_0, e]; simp; omega
  · rw [if_neg e]
    have hn : 0 ≤ xnv V c 0 ∧ xnv V c 0 < V 0 0 := by unfold xnv at e ⊢; omega
    have ht := hT (xnv V c 0) 1 hn.1 hn.2 (Or.inr rfl)
    refine sides 19998 _ _ (xand_in _ _) (xad_in _ _) (fun h a b => ?_) (fun d a b => ?_)
    · rw [xbt_and, ho h a b, show (1 : Int) - 0 = 1 from rfl, ht.2 h a b]
      simp only [e, decide_false, Bool.false_or]
      cases decide (h < V 0 1) <;> simp
    · rw [xbt_ad _ hn.1 (by omega) a b, xbt_0]; rfl
theorem keys_L86 {M V : xM} {k p : Int} (w : xWF V) (hpk : p + 10 < k) : ∀ (n g i : Nat) (m : xM), n < g → (i : Int) + n = V 0 0 → xPv m p V → m k 0 = V 0 0 → m k 1 = V 0 1 → xKT m k V → (∀ c : Int, 0 ≤ c → c < i → xKD m k V c) → xF k (k + 5) M m → xP (fKeys_read_L86 g k p (i : Int) m) (fun m' => xF k (k + 5) M m' ∧ xKO m' k V)
  | _, 0, _, _, hg, _, _, _, _, _, _, _ => absurd hg (Nat.not_lt_zero _)
  | 0, g + 1, i, m, _, hi, hv, h0, h1, hT, hD, hF => by
    unfold fKeys_read_L86
    rw [h0, if_neg (by omega)]
    exact xP_some ⟨hF, h0, h1, hT, fun c a b => hD c a (by omega)⟩
  | n + 1, g + 1, i, m, hg, hi, hv, h0, h1, hT, hD, hF => by
    have hN := w.1
    unfold fKeys_read_L86
    rw [h0, if_pos (by omega)]
    refine xP_B (door_s hv w hpk hT (by omega) (by omega) h1) ?_
    rintro m' ⟨hF', hk, hc⟩
    rw [xw32_id (x := (i : Int) + 1) (by omega) (by omega)]
    have fr : ∀ a : Int, a < k + 2 → m' a = m a := fun a ha => hF' a (Or.inl ha)
    refine keys_L86 w hpk n g (i + 1) m' (by omega) (by omega) (xPv_go hv (fun a _ _ => fr a (by omega))) (by rw [fr k (by omega)]; exact h0) (by rw [fr k (by omega)]; exact h1) (xKT_go hT (fr _ (by omega))) (fun c a b => ?_) (xF_tr hF (xF_w hF' (by omega) (by omega)))
    by_cases e : c = i
    · rw [e]; exact hc
    · exact hk c e (hD c a (by omega))
theorem keys_L37 {V M : xM} {k p : Int} (w : xWF V) (hpk : p + 10 < k) {K : Int → Int → Int → xM → Option xM} {Q : xM → Prop} {c s : Int} (h0 : 0 ≤ c) (h1 : c < V 0 0) (hs : s = 0 ∨ s = 1)
    (hK : ∀ m : xM, xF (k + 1) (k + 1) M m → (∀ b : Int, b ≠ 2 * c + s → m (k + 1) b = M (k + 1) b) → x32 (m (k + 1) (2 * c + s)) → (∀ h : Int, 0 ≤ h → h < 32 → xbt (m (k + 1) (2 * c + s)) h = (decide (h < V 0 1) && xT V c s h)) → xP (K k p (2 * c + s + 1) m) Q) :
    ∀ (n g i : Nat) (m : xM), n < g → (i : Int) + n = V 0 1 → xPv m p V → m k 1 = V 0 1 → xF (k + 1) (k + 1) M m → (∀ b : Int, b ≠ 2 * c + s → m (k + 1) b = M (k + 1) b) → x32 (m (k + 1) (2 * c + s)) → (∀ h : Int, 0 ≤ h → h < 32 → xbt (m (k + 1) (2 * c + s)) h = (decide (h < i) && xT V c s h)) → xP (fKeys_read_L37 K g k p (2 * c + s) (i : Int) m) Q
  | _, 0, _, _, hg, _, _, _, _, _, _, _ => absurd hg (Nat.not_lt_zero _)
  | 0, g + 1, i, m, _, hi, hv, hH, hF, hb, hx, hq => by
    have hN := w.1
    unfold fKeys_read_L37
    rw [hH, if_neg (by omega), xw32_id (by omega) (by omega)]
    exact hK m hF hb hx (fun h a b => by rw [hq h a b]; congr 1; apply decide_eq_decide.mpr; omega)
  | n + 1, g + 1, i, m, hg, hi, hv, hH, hF, hb, hx, hq => by
    have hN := w.1
    have hH2 := w.2.1
    unfold fKeys_read_L37
    rw [hH, if_pos (by omega), xdiv_n (by omega) (by omega) (by decide), xrem_n (by omega), show (2 * c + s) / 2 = c by omega, show (2 * c + s) % 2 = s by omega, why_s hv w h0 h1 hs (by omega) (by omega), xB_s, xw32_id (x := (i : Int) + 1) (by omega) (by omega)]
    by_cases e : xwy V c s i 0 = 0
    · rw [if_pos e, xA_p (by omega), xA_p (by omega)]
      refine keys_L37 w hpk h0 h1 hs hK n g (i + 1) _ (by omega) (by omega) (xPv_go hv (fun a _ _ => xwr_a _ (by omega))) (by rw [xwr_a _ (by omega)]; exact hH) (xwr_F hF (by omega) (by omega)) (fun b he => by rw [xwr_n _ (by omega)]; exact hb b he) (by rw [xwr_s]; exact xor_in _ _) (fun h a b => ?_)
      rw [xwr_s, xbt_or, xbt_shl1 (by omega) (by omega) a b, hq h a b]
      by_cases e2 : h = i
      · subst e2
        have : xT V c s (i : Int) = true := by unfold xT xwo; exact decide_eq_true e
        simp [this]
        omega
      · have e3 : decide (h < ((i + 1 : Nat) : Int)) = decide (h < (i : Int)) := by apply decide_eq_decide.mpr; omega
        rw [e3]; simp [e2]
    · rw [if_neg e]
      refine keys_L37 w hpk h0 h1 hs hK n g (i + 1) m (by omega) (by omega) hv hH hF hb hx (fun h a b => ?_)
      rw [hq h a b]
      by_cases e2 : h = i
      · subst e2
        have : xT V c s (i : Int) = false := by unfold xT xwo; exact decide_eq_false e
        simp [this]
      · have e3 : decide (h < ((i + 1 : Nat) : Int)) = decide (h < (i : Int)) := by apply decide_eq_decide.mpr; omega
        rw [e3]
theorem keys_L18 {M V : xM} {k p : Int} (w : xWF V) (hpk : p + 10 < k) : ∀ (n g i : Nat) (m : xM), n < g → (i : Int) + n = 2 * V 0 0 → xPv m p V → m k 0 = V 0 0 → m k 1 = V 0 1 → (∀ b : Int, 0 ≤ b → b < i → x32 (m (k + 1) b) ∧ ∀ h : Int, 0 ≤ h → h < 32 → xbt (m (k + 1) b) h = (decide (h < V 0 1) && xT V (b / 2) (b % 2) h)) → xF k (k + 5) M m → xP (fKeys_read_L18 g k p (i : Int) m) (fun m' => xF k (k + 5) M m' ∧ xKO m' k V)
  | _, 0, _, _, hg, _, _, _, _, _, _ => absurd hg (Nat.not_lt_zero _)
  | 0, g + 1, i, m, _, hi, hv, h0, h1, hT, hF => by
    have hN := w.1
    unfold fKeys_read_L18
    rw [h0, xw32_id (by omega) (by omega), if_neg (by omega)]
    refine keys_L86 (M := M) w hpk (V 0 0).toNat 20001 0 m (by omega) (by omega) hv h0 h1 (fun c s a b hs => ?_) (fun c a b => absurd b (by omega)) hF
    have := hT (2 * c + s) (by omega) (by omega)
    rwa [show (2 * c + s) / 2 = c by omega, show (2 * c + s) % 2 = s by omega] at this
  | n + 1, g + 1, i, m, hg, hi, hv, h0, h1, hT, hF => by
    have hN := w.1
    have hH2 := w.2.1
    unfold fKeys_read_L18
    rw [h0, xw32_id (by omega) (by omega), if_pos (by omega), xA_p (by omega)]
    have e : (i : Int) = 2 * ((i : Int) / 2) + (i : Int) % 2 := by omega
    have hs : (i : Int) % 2 = 0 ∨ (i : Int) % 2 = 1 := by omega
    have hm1 : ∀ v : Int, xF (k + 1) (k + 1) m (xwr m (k + 1) (i : Int) v) := fun v => xwr_F (xF_rfl _ _ _) (by omega) (by omega)
    have step := keys_L37 (M := m) (V := V) (k := k) (p := p) w hpk (K := fKeys_read_L18 g) (Q := fun m' => xF k (k + 5) M m' ∧ xKO m' k V) (c := (i : Int) / 2) (s := (i : Int) % 2) (by omega) (by omega) hs (fun m' hF' hb hx hq => ?_) (V 0 1).toNat 20001 0 (xwr m (k + 1) (i : Int) 0) (by omega) (by omega) (xPv_go hv (fun a _ _ => xwr_a _ (by omega))) (by rw [xwr_a _ (by omega)]; exact h1) (hm1 0) (fun b hb => by rw [xwr_n _ (by omega)]) (by rw [← e, xwr_s]; constructor <;> decide) (fun h a b => by rw [← e, xwr_s, xbt_0]; simp; omega)
    · rw [← e] at step
      exact step
    · rw [← e] at hb hx hq ⊢
      have fr : ∀ a : Int, a < k + 1 → m' a = m a := fun a ha => hF' a (Or.inl ha)
      refine keys_L18 w hpk n g (i + 1) m' (by omega) (by omega) (xPv_go hv (fun a _ _ => fr a (by omega))) (by rw [fr k (by omega)]; exact h0) (by rw [fr k (by omega)]; exact h1) (fun b a c => ?_) (xF_tr hF (xF_w hF' (by omega) (by omega)))
      by_cases eb : b = i
      · rw [eb]; exact ⟨hx, hq⟩
      · rw [hb b eb]; exact hT b a (by omega)
theorem keys_s {M V : xM} {k p : Int} (hv : xPv M p V) (w : xWF V) (hpk : p + 10 < k) : xP (fKeys_read k p M) (fun m => xF k (k + 5) M m ∧ xKO m k V) := by
  have hN := w.1
  unfold fKeys_read
  rw [xwr_a (b := p) (a := k) _ (by omega), xPv_0 hv 0 (by decide) (by decide), xPv_0 hv 1 (by decide) (by decide)]
  refine keys_L18 (M := M) w hpk (2 * V 0 0).toNat 20001 0 _ (by omega) (by omega) (xPv_go hv (fun a _ _ => ?_)) ?_ ?_ (fun b a c => absurd c (by omega)) (xwr_F (xwr_F (xF_rfl _ _ _) (by omega) (by omega)) (by omega) (by omega))
  · rw [xwr_a _ (by omega), xwr_a _ (by omega)]
  · rw [xwr_n _ (by omega), xwr_s]
  · rw [xwr_s]
/-- a door opens: its man is in, each neighbour would turn, and is in or loyal -/
def xop (V : xM) (c h s : Int) : Bool := xOk V c h && decide (∀ d : Fin 32, xbt s (d.val : Int) = true → xBr V c (d.val : Int) = false)
theorem xop_iff {V : xM} {c h s : Int} : xop V c h s = true ↔ xOk V c h = true ∧ ∀ d : Int, 0 ≤ d → d < 32 → xbt s d = true → xBr V c d = false := by
  unfold xop
  rw [Bool.and_eq_true, decide_eq_true_iff]
  constructor
  · rintro ⟨a, b⟩
    refine ⟨a, fun d h0 h1 hd => ?_⟩
    have := b ⟨d.toNat, by omega⟩
    simp only [Int.toNat_of_nonneg h0] at this
    exact this hd
  · rintro ⟨a, b⟩
    exact ⟨a, fun d => b _ (by omega) (by have := d.isLt; omega)⟩
theorem opensFor_s {m V : xM} {k c h s : Int} (hk : xKO m k V) (w : xWF V) (h0 : 0 ≤ c) (h1 : c < V 0 0) (hh : 0 ≤ h) (hh2 : h < V 0 1) : fKeys_opensFor k c h s m = some (if xop V c h s then 1 else 0) := by
  have hN := w.1
  have hH := w.2.1
  obtain ⟨-, q1, -, q3, -⟩ := hk.2.2.2 c h0 h1
  unfold fKeys_opensFor
  rw [xA_p (by omega), fD_bit_s _ m hh (by omega), q1 h hh (by omega), xA_p (by omega)]
  have e : decide (h < V 0 1) = true := decide_eq_true hh2
  rw [e, Bool.true_and]
  have key : xand s (m (k + 4) c) = 0 ↔ ∀ d : Int, 0 ≤ d → d < 32 → xbt s d = true → xBr V c d = false := by
    rw [xand_0]
    constructor
    · intro hh d a b hd
      have := hh d a b
      rw [q3 d a b] at this
      cases hx : xBr V c d
      · rfl
      · exact absurd ⟨hd, hx⟩ this
    · rintro hh d a b ⟨x, y⟩
      rw [q3 d a b, hh d a b x] at y
      cases y
  by_cases ho : xOk V c h = true
  · rw [if_pos ((xif10 _).mpr ho)]
    by_cases hs : xand s (m (k + 4) c) = 0
    · rw [if_pos hs, if_pos (xop_iff.mpr ⟨ho, key.mp hs⟩)]
    · rw [if_neg hs, if_neg (fun e => hs (key.mpr (xop_iff.mp e).2))]
  · rw [if_neg (fun e => ho ((xif10 _).mp e)), if_neg (fun e => ho (xop_iff.mp e).1)]
end
