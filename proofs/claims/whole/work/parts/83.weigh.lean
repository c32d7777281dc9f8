/-! weighing a tale: the class's side -/
noncomputable section
def xrs (ok : Nat → Bool) : Nat → Int × Int × Int × Int
  | 0 => (0, -1, 511, 0)
  | i + 1 => if ok i = true then ((xrs ok i).1 + 1, (if (xrs ok i).2.1 = -1 ∨ xpc (i : Int) < xpc (xrs ok i).2.1 then (i : Int) else (xrs ok i).2.1), xand (xrs ok i).2.2.1 (i : Int), xor32 (xrs ok i).2.2.2 (i : Int)) else xrs ok i
def xWs (V : xM) (ok : Nat → Bool) (m : xM) (i : Nat) : Prop := m 265 0 = (xrs ok i).1 ∧ m 265 3 = (xrs ok i).2.2.2 ∧ (0 ≤ (xrs ok i).1 ∧ (xrs ok i).1 ≤ i) ∧ (((xrs ok i).1 = 0 ∧ (xrs ok i).2.1 = -1 ∧ (xrs ok i).2.2.1 = 511 ∧ m 265 1 = 2 ^ (V 0 0).toNat - 1 ∧ m 265 2 = 2 ^ (V 0 0).toNat - 1) ∨ (1 ≤ (xrs ok i).1 ∧ (0 ≤ (xrs ok i).2.1 ∧ (xrs ok i).2.1 < 2 ^ (V 0 0).toNat) ∧ m 265 1 = (xrs ok i).2.1 ∧ m 265 2 = (xrs ok i).2.2.1))
theorem and_all {N : Nat} (hN : N ≤ 9) {i : Int} (i0 : 0 ≤ i) (i1 : i < 2 ^ N) : xand (2 ^ N - 1) i = i ∧ xand 511 i = i := by
  have p := xpw2 N hN
  have h5 : (511 : Int) = 2 ^ 9 - 1 := by decide
  constructor
  · refine xbt_ext (xand_in _ _) (by unfold x32; omega) (fun c c0 c1 => ?_)
    rw [xbt_and, xbt_mk N (by omega) c0 c1]
    by_cases h : c < N
    · rw [decide_eq_true h, Bool.true_and]
    · rw [decide_eq_false h, Bool.false_and, xbt_hi i0 i1 (by omega) c1]
  · refine xbt_ext (xand_in _ _) (by unfold x32; omega) (fun c c0 c1 => ?_)
    rw [xbt_and, h5, xbt_mk 9 (by omega) c0 c1]
    by_cases h : c < ((9 : Nat) : Int)
    · rw [decide_eq_true h, Bool.true_and]
    · rw [decide_eq_false h, Bool.false_and, xbt_hi i0 i1 (by omega) c1]
theorem pc_all {N : Nat} (hN : N ≤ 9) {i : Int} (i0 : 0 ≤ i) (i1 : i < 2 ^ N) (h : ¬ xpc i < xpc (2 ^ N - 1)) : i = 2 ^ N - 1 := by
  have p := xpw2 N hN
  have p1 : (1 : Int) ≤ 2 ^ N := Int.pow_pos (by decide)
  have s := xpc_sub (s := i) (t := 2 ^ N - 1) (by unfold x32; omega) (by unfold x32; omega) (fun d d0 d1 e => by
    rw [xbt_mk N (by omega) d0 d1]
    by_cases z : d < N
    · exact decide_eq_true z
    · rw [xbt_hi i0 i1 (by omega) d1] at e; cases e)
  exact s.2 (by omega)
theorem weighD_L {M V : xM} {s : Int} (W : xWF V) (hk : xKO M (1 + 37 + 1) V) (s0 : 0 ≤ s) (s1 : s < 4) {n : Nat} (e : M 312 s = 3 * (n : Int)) (n20 : n ≤ 20) (hL : M (302 + 2 * s) 2 = M 312 s) (hT : ∀ i : Int, 0 ≤ i → i < M 312 s → M (303 + 2 * s) i = xRt M s i) (tl : xtl (xRt M s) (V 0 1) (V 0 0) n 0 = true) : ∀ (k g i : Nat) (m : xM), k < g → (i : Int) + k = 2 ^ (V 0 0).toNat → (∀ a : Int, a ≠ 265 → m a = M a) → xWs V (fun R => decide (xun V (R : Int) (xRt M s) n 0 0 = -1)) m i → xP (fInquiry_weigh_L32 g (1 + 264) ((1 + 37) + 1) ((1 + 267) + 34 + 2 * s) (2 ^ (V 0 0).toNat - 1) (i : Int) m) (fun m' => (∀ a : Int, a ≠ 265 → m' a = M a) ∧ xWs V (fun R => decide (xun V (R : Int) (xRt M s) n 0 0 = -1)) m' ((2 : Int) ^ (V 0 0).toNat).toNat)
  | _, 0, _, _, hg, _, _, _ => absurd hg (Nat.not_lt_zero _)
  | 0, g + 1, i, m, _, hi, hF, hS => by
    unfold fInquiry_weigh_L32
    rw [if_pos (by omega)]
    exact xP_some ⟨hF, by rw [show ((2 : Int) ^ (V 0 0).toNat).toNat = i by omega]; exact hS⟩
  | k + 1, g + 1, i, m, hg, hi, hF, hS => by
    have hN := W.1
    have pw := pw_9 hN.1 hN.2
    have rt : xRt m s = xRt M s := by unfold xRt; rw [hF 313 (by decide)]
    have ud := untrueD_s (M := m) (s := s) (R := (i : Int)) W (xKO_go hk (fun a a0 a1 => hF a (by omega))) (by rw [hF 312 (by decide)]; exact e) n20 (by rw [hF _ (by omega), hF 312 (by decide)]; exact hL) (fun j j0 j1 => by rw [hF 312 (by decide)] at j1; rw [hF _ (by omega), rt]; exact hT j j0 j1) (by rw [rt]; exact tl)
    rw [rt] at ud
    obtain ⟨h0, h3, ⟨c0, c1⟩, h12⟩ := hS
    have aa := and_all (N := (V 0 0).toNat) (by omega) (i := (i : Int)) (by omega) (by omega)
    have wi : 0 ≤ m (1 + 264) 1 ∧ m (1 + 264) 1 < 2 ^ (V 0 0).toNat := by
      show 0 ≤ m 265 1 ∧ m 265 1 < 2 ^ (V 0 0).toNat
      rcases h12 with ⟨-, -, -, z, -⟩ | ⟨-, r, z, -⟩ <;> rw [z] <;> omega
    unfold fInquiry_weigh_L32
    rw [if_neg (by omega), ud, xB_s, JI_bc ⟨by omega, by omega⟩, JI_bc ⟨wi.1, by omega⟩, xw32_id (x := (i : Int) + 1) (by omega) (by omega)]
    by_cases u : xun V (i : Int) (xRt M s) n 0 0 = -1
    · have st : xrs (fun R => decide (xun V (R : Int) (xRt M s) n 0 0 = -1)) (i + 1) = _ := if_pos (decide_eq_true u)
      have fin : ∀ y : Int, (xpc (i : Int) < xpc (m 265 1) → y = (i : Int)) → (¬ xpc (i : Int) < xpc (m 265 1) → y = m 265 1) → xP (fInquiry_weigh_L87 (fInquiry_weigh_L32 g) (1 + 264) ((1 + 37) + 1) ((1 + 267) + 34 + 2 * s) (2 ^ (V 0 0).toNat - 1) (i : Int) y (1 + 264) m) (fun m' => (∀ a : Int, a ≠ 265 → m' a = M a) ∧ xWs V (fun R => decide (xun V (R : Int) (xRt M s) n 0 0 = -1)) m' ((2 : Int) ^ (V 0 0).toNat).toNat) := by
        intro y y1 y2
        unfold fInquiry_weigh_L87
        rw [xw32_id (x := (i : Int) + 1) (by omega) (by omega)]
        refine weighD_L W hk s0 s1 e n20 hL hT tl k g (i + 1) _ (by omega) (by omega) (fun a ha => ?_) ?_
        · rw [xwr_a _ (show a ≠ 1 + 264 from ha), xwr_a _ (show a ≠ 1 + 264 from ha), xwr_a _ (show a ≠ 1 + 264 from ha), xwr_a _ (show a ≠ 1 + 264 from ha)]
          exact hF a ha
        · unfold xWs
          rw [st]
          have h0' : m (1 + 264) 0 = (xrs (fun R => decide (xun V (R : Int) (xRt M s) n 0 0 = -1)) i).1 := h0
          have h3' : m (1 + 264) 3 = (xrs (fun R => decide (xun V (R : Int) (xRt M s) n 0 0 = -1)) i).2.2.2 := h3
          have b0 : (xwr m (1 + 264) 1 y) (1 + 264) 0 = m (1 + 264) 0 := xwr_n _ (by decide)
          rw [b0, xw32_id (x := m (1 + 264) 0 + 1) (by omega) (by omega)]
          refine ⟨?_, ?_, ⟨by show 0 ≤ _ + 1; omega, by show _ + 1 ≤ _; omega⟩, Or.inr ⟨by show 1 ≤ _ + 1; omega, ?_, ?_, ?_⟩⟩
          · show (xwr (xwr (xwr (xwr m 265 1 y) 265 0 _) 265 2 _) 265 3 _) 265 0 = _
            rw [xwr_n _ (by decide), xwr_n _ (by decide), xwr_s, h0']
          · show (xwr (xwr (xwr (xwr m 265 1 y) 265 0 _) 265 2 _) 265 3 _) 265 3 = _
            rw [xwr_s]
            show xor32 ((xwr (xwr (xwr m 265 1 y) 265 0 _) 265 2 _) 265 3) _ = _
            rw [xwr_n _ (by decide), xwr_n _ (by decide), xwr_n _ (by decide), h3]
          · show 0 ≤ (if _ then _ else _ : Int) ∧ (if _ then _ else _ : Int) < _
            rcases h12 with ⟨-, z, -⟩ | ⟨-, r, -⟩
            · rw [if_pos (Or.inl z)]; omega
            · split <;> omega
          · show (xwr (xwr (xwr (xwr m 265 1 y) 265 0 _) 265 2 _) 265 3 _) 265 1 = _
            rw [xwr_n _ (by decide), xwr_n _ (by decide), xwr_n _ (by decide), xwr_s]
            show y = (if _ then _ else _ : Int)
            rcases h12 with ⟨-, z, -, z1, -⟩ | ⟨-, r, z1, -⟩
            · rw [if_pos (Or.inl z)]
              by_cases l : xpc (i : Int) < xpc (m 265 1)
              · exact y1 l
              · rw [y2 l, z1]
                rw [z1] at l
                exact (pc_all (by omega) (by omega) (by omega) l).symm
            · by_cases l : xpc (i : Int) < xpc (m 265 1)
              · rw [y1 l, if_pos (Or.inr (by rw [← z1]; exact l))]
              · rw [y2 l, if_neg (fun x => by rcases x with x | x; omega; exact l (by rw [z1]; exact x)), z1]
          · show (xwr (xwr (xwr (xwr m 265 1 y) 265 0 _) 265 2 _) 265 3 _) 265 2 = _
            rw [xwr_n _ (by decide), xwr_s]
            show xand ((xwr (xwr m 265 1 y) 265 0 _) 265 2) _ = _
            rw [xwr_n _ (by decide), xwr_n _ (by decide)]
            show _ = xand _ _
            rcases h12 with ⟨-, -, z, -, z2⟩ | ⟨-, -, -, z2⟩
            · rw [z2, z, aa.1, aa.2]
            · rw [z2]
      unfold fInquiry_weigh_L70
      rw [if_pos u]
      by_cases l : xpc (i : Int) < xpc (m (1 + 264) 1)
      · rw [if_pos l, if_neg (show ¬ (1 : Int) = 0 by decide)]
        exact fin _ (fun _ => rfl) (fun z => absurd l z)
      · rw [if_neg l, if_pos (show (0 : Int) = 0 from rfl)]
        exact fin _ (fun z => absurd z l) (fun _ => rfl)
    · have st : xrs (fun R => decide (xun V (R : Int) (xRt M s) n 0 0 = -1)) (i + 1) = xrs (fun R => decide (xun V (R : Int) (xRt M s) n 0 0 = -1)) i := if_neg (fun y => u (of_decide_eq_true y))
      rw [if_neg u]
      refine weighD_L W hk s0 s1 e n20 hL hT tl k g (i + 1) m (by omega) (by omega) hF ?_
      unfold xWs
      rw [st]
      exact ⟨h0, h3, ⟨c0, by omega⟩, h12⟩
end
