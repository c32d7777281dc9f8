/-! both sides at once: what is the same in the class and in the reference -/
noncomputable section
theorem xnb_inv {N R c s : Int} (h2 : 2 ≤ N) (c0 : 0 ≤ c) (c1 : c < N) (hs : s = 0 ∨ s = 1) (hn : xnb N R c s ≠ -1) : xnb N R (xnb N R c s) (1 - s) = c := by
  unfold xnb at *
  rcases hs with rfl | rfl <;> (repeat' split at hn) <;> (repeat' split) <;> omega
theorem xnb_row {N c s : Int} (hn : xnb N 0 c s ≠ -1) : xnb N 1 c s = xnb N 0 c s := by
  unfold xnb at *
  (repeat' split at hn) <;> (repeat' split) <;> omega
theorem soup_eq {N R R' g d c s : Int} (h2 : 2 ≤ N) (hR : R = 0 ∨ R = 1) (hR' : R' = 0 ∨ R' = 1) (g0 : 0 ≤ g) (g1 : g < N) (hd : d = 0 ∨ d = 1) (c0 : 0 ≤ c) (c1 : c < N) (hs : s = 0 ∨ s = 1) (he : xnb N R g d ≠ -1) (hb : xnb N R' c s ≠ -1) : 2 * xnb N R g d + 1 - d = 2 * c + s ↔ (g = xnb N R' c s ∧ d = 1 - s) := by
  have e1 := xnb_inv h2 g0 g1 hd he
  have e2 := xnb_inv h2 c0 c1 hs hb
  constructor
  · intro h
    have h3 : d = 1 - s := by omega
    have h4 : xnb N R g d = c := by omega
    refine ⟨?_, h3⟩
    rw [h4, show 1 - d = s by omega] at e1
    rcases hR with rfl | rfl <;> rcases hR' with rfl | rfl
    · exact e1.symm
    · rw [xnb_row (by omega)]; exact e1.symm
    · rw [xnb_row hb] at e1; exact e1.symm
    · exact e1.symm
  · rintro ⟨h3, h4⟩
    rw [← h3, ← h4] at e2
    have : xnb N R g d = c := by
      rcases hR with rfl | rfl <;> rcases hR' with rfl | rfl
      · exact e2
      · rw [xnb_row he] at e2; exact e2
      · rw [xnb_row (by omega)]; exact e2
      · exact e2
    omega
def xnk (M : xM) (a w c : Int) : Nat → Int
  | 0 => 0
  | k + 1 => xnk M a w c k + (if M a (24 * w + 3 * (k : Int)) = c then 1 else 0)
/-- prison w of the reference has the data V, its ring aside -/
def xQd (M : xM) (q w : Int) (V : xM) : Prop :=
  (M (q + 6) w = V 0 2 ∧ M (q + 7) (7 * w) = V 0 0 ∧ M (q + 7) (7 * w + 1) = V 0 1 ∧ M (q + 7) (7 * w + 4) = V 0 5 ∧ M (q + 7) (7 * w + 5) = V 0 6 ∧ M (q + 7) (7 * w + 6) = V 0 7) ∧
  (∀ c : Int, 0 ≤ c → c < 9 → M (q + 8) (54 * w + 6 * c) = V 1 c ∧ M (q + 8) (54 * w + 6 * c + 1) = V 2 c ∧ M (q + 8) (54 * w + 6 * c + 2) = V 3 c ∧ M (q + 8) (54 * w + 6 * c + 3) = V 6 (2 * c) ∧ M (q + 8) (54 * w + 6 * c + 4) = V 6 (2 * c + 1) ∧ M (q + 8) (54 * w + 6 * c + 5) = if xbt (V 0 4) c = true then 1 else 0) ∧
  (∀ c h : Int, 0 ≤ c → c < 9 → 0 ≤ h → h < 24 → (xbt (V 5 c) h = true ↔ ∃ k : Int, 0 ≤ k ∧ k < V 0 6 ∧ M (q + 9) (24 * w + 3 * k) = c ∧ M (q + 9) (24 * w + 3 * k + 1) ≤ h ∧ h ≤ M (q + 9) (24 * w + 3 * k + 2))) ∧
  (∀ c : Int, 0 ≤ c → c < 9 → V 4 c = xnk M (q + 9) w c (V 0 6).toNat) ∧
  (∀ k : Int, 0 ≤ k → k < V 0 7 → (0 ≤ M (q + 10) (32 * w + 4 * k) ∧ M (q + 10) (32 * w + 4 * k) < V 0 0) ∧ (M (q + 10) (32 * w + 4 * k + 1) = 0 ∨ M (q + 10) (32 * w + 4 * k + 1) = 1) ∧ xnv V (M (q + 10) (32 * w + 4 * k)) (M (q + 10) (32 * w + 4 * k + 1)) ≠ -1 ∧ V 7 k = 2 * xnv V (M (q + 10) (32 * w + 4 * k)) (M (q + 10) (32 * w + 4 * k + 1)) + 1 - M (q + 10) (32 * w + 4 * k + 1) ∧ V 8 k = M (q + 10) (32 * w + 4 * k + 2) ∧ V 9 k = M (q + 10) (32 * w + 4 * k + 3)) ∧
  (∀ h : Int, 0 ≤ h → h < 24 → M (q + 11) (24 * w + h) = V 10 h)
def xQ0 (M : xM) (q w : Int) (V : xM) : Prop := xQd M q w V ∧ M (q + 7) (7 * w + 3) = V 0 3
/-- what is true of every prison that is held -/
def xWE (V : xM) : Prop := xWF V ∧ (V 0 0 = 0 ∨ 2 ≤ V 0 0) ∧ (V 0 3 = 1 → V 0 0 ≠ 2) ∧ (V 0 0 = 0 → V 0 1 = 0) ∧ (2 ≤ V 0 0 → 1 ≤ V 0 1) ∧ (V 0 0 = 0 ↔ V 0 2 = 0) ∧ (0 ≤ V 0 2 ∧ V 0 2 ≤ 1600) ∧ (0 ≤ V 0 6 ∧ V 0 6 ≤ 8) ∧ V 0 7 ≤ 8 ∧ (0 ≤ V 0 5 ∧ V 0 5 < 2 ^ (V 0 0).toNat) ∧ (0 ≤ V 0 4 ∧ V 0 4 < 512) ∧ (∀ c h : Int, 0 ≤ c → c < 9 → 0 ≤ h → h < 32 → xbt (V 5 c) h = true → h < V 0 1) ∧ (∀ h : Int, 0 ≤ h → h < 24 → V 10 h < V 0 0 ∨ V 10 h = -1 ∨ V 10 h = 0)
theorem xsp_sq {M V V0 : xM} {q c s h R' : Int} (Q : xQd M q 0 V0) (h2 : 2 ≤ V0 0 0) (hR : V0 0 3 = 0 ∨ V0 0 3 = 1) (hR' : R' = 0 ∨ R' = 1) (c0 : 0 ≤ c) (c1 : c < V0 0 0) (hs : s = 0 ∨ s = 1) (hb : xnb (V0 0 0) R' c s ≠ -1) (hV : ∀ k : Int, 0 ≤ k → k < V0 0 7 → V 7 k = V0 7 k ∧ V 8 k = V0 8 k ∧ V 9 k = V0 9 k) : ∀ k : Nat, (k : Int) ≤ V0 0 7 → xsp V (2 * c + s) h k = xsq M q (xnb (V0 0 0) R' c s) s h k
  | 0, _ => rfl
  | k + 1, hk => by
    have ih := xsp_sq Q h2 hR hR' c0 c1 hs hb hV k (by omega) (h := h)
    obtain ⟨a, b, d, e, f, g⟩ := Q.2.2.2.2.1 k (by omega) (by omega)
    obtain ⟨v7, v8, v9⟩ := hV k (by omega) (by omega)
    rw [show 32 * (0 : Int) + 4 * (k : Int) = 4 * (k : Int) by omega] at a b d e f g
    have key := soup_eq h2 hR hR' a.1 a.2 b c0 c1 hs d hb
    unfold xnv at e
    unfold xsp xsq
    rw [ih, v7, v8, v9, e, f, g]
    congr 1
    by_cases p : 2 * xnb (V0 0 0) (V0 0 3) (M (q + 10) (4 * (k : Int))) (M (q + 10) (4 * (k : Int) + 1)) + 1 - M (q + 10) (4 * (k : Int) + 1) = 2 * c + s
    · have p2 := key.mp p
      by_cases r : M (q + 10) (4 * (k : Int) + 3) ≤ h
      · rw [if_pos ⟨p, r⟩, if_pos ⟨p2.1, p2.2, r⟩]
      · rw [if_neg (fun x => r x.2), if_neg (fun x => r x.2.2)]
    · rw [if_neg (fun x => p x.1), if_neg (fun x => p (key.mpr ⟨x.1, x.2.1⟩))]
theorem xEf_mk {M V V0 : xM} {q : Int} (Q : xQd M q 0 V0) (W0 : xWE V0) (hp : 2 ≤ V0 0 0) (e3 : M (q + 7) 3 = V 0 3) (hR : V 0 3 = 0 ∨ V 0 3 = 1) (hN : V 0 0 = V0 0 0) (hH : V 0 1 = V0 0 1)
    (hsl : ∀ c h : Int, 0 ≤ c → c < V 0 0 → 0 ≤ h → h < V 0 1 → (xbt (V 5 c) h = true ↔ (M q 23 = 0 ∧ (xbt (V0 5 c) h = true ∨ (M q 35 ≠ 0 ∧ xbt (M (q + 13) h) c = true)))))
    (hk : ∀ c : Int, 0 ≤ c → c < V 0 0 → V 1 c = (if xbt (M q 27) c = true then 3 else if M q 25 = 0 then V0 1 c else 0) ∧ (V 1 c = 2 → V 2 c = V0 2 c) ∧ V 3 c = V0 3 c ∧ xbt (V 0 5) c = (xbt (V0 0 5) c && !xbt (M q 26) c) ∧ xbt (V 0 4) c = (xbt (V0 0 4) c || xbt (M q 28) c))
    (ht : ∀ b : Int, 0 ≤ b → b < 18 → V 6 b = if M q 24 = 0 then V0 6 b else 9)
    (hV : ∀ k : Int, 0 ≤ k → k < V0 0 7 → V 7 k = V0 7 k ∧ V 8 k = V0 8 k ∧ V 9 k = V0 9 k)
    (hm : (M q 30 = -1 ∧ V 0 7 = V0 0 7) ∨ (V 0 7 = V0 0 7 + 1 ∧ V 7 (V0 0 7) = 2 * M q 30 + M q 31 ∧ V 8 (V0 0 7) = M q 32 ∧ V 9 (V0 0 7) = M q 33 ∧ (M q 31 = 0 ∨ M q 31 = 1) ∧ 0 ≤ M q 32 ∧ M q 32 ≤ 9)) : xEf M q V := by
  have F0 := W0.1
  have F6 := W0.2.2.2.2.2.2.2.1
  have F7 := W0.2.2.2.2.2.2.2.2.1
  have F5 := F0.2.2.2.1
  have hN9 := F0.1
  have hH24 := F0.2.1
  have h0 : M (q + 7) 0 = V0 0 0 := Q.1.2.1
  have h1 : M (q + 7) 1 = V0 0 1 := Q.1.2.2.1
  have h4 : M (q + 7) 4 = V0 0 5 := Q.1.2.2.2.1
  have h5 : M (q + 7) 5 = V0 0 6 := Q.1.2.2.2.2.1
  have h6 : M (q + 7) 6 = V0 0 7 := Q.1.2.2.2.2.2
  have qc : ∀ c : Int, 0 ≤ c → c < 9 → M (q + 8) (6 * c) = V0 1 c ∧ M (q + 8) (6 * c + 1) = V0 2 c ∧ M (q + 8) (6 * c + 2) = V0 3 c ∧ M (q + 8) (6 * c + 3) = V0 6 (2 * c) ∧ M (q + 8) (6 * c + 4) = V0 6 (2 * c + 1) ∧ M (q + 8) (6 * c + 5) = if xbt (V0 0 4) c = true then 1 else 0 := fun c c0 c1 => by
    have := Q.2.1 c c0 c1
    rwa [show 54 * (0 : Int) + 6 * c = 6 * c by omega] at this
  have qs : ∀ c h : Int, 0 ≤ c → c < 9 → 0 ≤ h → h < 24 → (xbt (V0 5 c) h = true ↔ ∃ k : Int, 0 ≤ k ∧ k < V0 0 6 ∧ M (q + 9) (3 * k) = c ∧ M (q + 9) (3 * k + 1) ≤ h ∧ h ≤ M (q + 9) (3 * k + 2)) := fun c h a b d e => by
    have := Q.2.2.1 c h a b d e
    simp only [show ∀ k : Int, 24 * (0 : Int) + 3 * k = 3 * k from fun k => by omega] at this
    exact this
  refine ⟨⟨by rw [h0, hN], by rw [h1, hH], e3⟩, by rw [h5]; exact F6, by rw [h6]; omega, fun c h c0 c1 b0 b1 => ?_, fun c c0 c1 => ?_, fun c s h c0 c1 hs b0 b1 hb => ?_, fun k k0 k1 => ?_, fun c c0 c1 => ?_, fun h => ?_⟩
  · rw [hsl c h c0 c1 b0 b1, qs c h c0 (by omega) b0 (by omega), h5]
  · obtain ⟨a, b, d, e, f⟩ := hk c c0 c1
    obtain ⟨x1, x2, x3, -, -, x6⟩ := qc c c0 (by omega)
    refine ⟨by rw [a, x1], fun y => by rw [b y, x2], by rw [d, x3], by rw [e, h4], ?_⟩
    rw [f, x6]
    cases xbt (V0 0 4) c <;> simp
  · have base : V 6 (2 * c + s) = if M q 24 = 0 then M (q + 8) (6 * c + 3 + s) else 9 := by
      rw [ht _ (by omega) (by omega)]
      obtain ⟨-, -, -, x4, x5, -⟩ := qc c c0 (by omega)
      rcases hs with rfl | rfl
      · rw [Int.add_zero, Int.add_zero, x4]
      · rw [show 6 * c + 3 + 1 = 6 * c + 4 by omega, x5]
    have sq := xsp_sq (h := h) (V := V) Q hp F0.2.2.1 hR c0 (by omega) hs (by unfold xnv at hb; rw [hN] at hb; exact hb) hV (V0 0 7).toNat (by omega)
    have hb' : xnv V c s = xnb (V0 0 0) (V 0 3) c s := by unfold xnv; rw [hN]
    unfold xlk
    rw [base, hb', h6]
    rcases hm with ⟨m1, m2⟩ | ⟨m2, m3, m4, m5, m6, -⟩
    · rw [m2, sq, if_neg (show ¬ (M q 30 = c ∧ M q 31 = s ∧ M q 33 ≤ h) from fun x => by omega)]
      omega
    · rw [m2, show (V0 0 7 + 1).toNat = (V0 0 7).toNat + 1 by omega]
      have e : (((V0 0 7).toNat : Nat) : Int) = V0 0 7 := by omega
      rw [xsp, sq, e, m3, m4, m5]
      by_cases p : M q 30 = c ∧ M q 31 = s ∧ M q 33 ≤ h
      · rw [if_pos p, if_pos (show 2 * M q 30 + M q 31 = 2 * c + s ∧ M q 33 ≤ h by omega)]; exact (Int.add_assoc _ _ _).symm
      · rw [if_neg p, if_neg (show ¬ (2 * M q 30 + M q 31 = 2 * c + s ∧ M q 33 ≤ h) by omega), Int.add_zero, Int.add_zero]
  · obtain ⟨-, -, -, -, x, -⟩ := Q.2.2.2.2.1 k k0 (by omega)
    rw [show 32 * (0 : Int) + 4 * k = 4 * k by omega] at x
    have := F0.2.2.2.2.2.2.1 k k0 (by omega)
    omega
  · obtain ⟨-, -, -, x4, x5, -⟩ := qc c c0 c1
    have a := F0.2.2.2.2.2.1 (2 * c) (by omega) (by omega)
    have b := F0.2.2.2.2.2.1 (2 * c + 1) (by omega) (by omega)
    omega
  · rcases hm with ⟨m1, m2⟩ | ⟨m2, m3, m4, m5, m6, m7⟩
    · exact absurd m1 h
    · exact m7
/-- the what-ifs are off -/
def xPl (M : xM) (q : Int) : Prop := M q 23 = 0 ∧ M q 24 = 0 ∧ M q 25 = 0 ∧ M q 26 = 0 ∧ M q 27 = 0 ∧ M q 28 = 0 ∧ M q 29 = 0 ∧ M q 30 = -1 ∧ M q 35 = 0
theorem plainly_s (q : Int) (M : xM) : xPl (fQ_plainly q M) q ∧ (∀ a : Int, a ≠ q → fQ_plainly q M a = M a) ∧ (∀ i : Int, (i < 23 ∨ 35 < i) → fQ_plainly q M q i = M q i) := by
  unfold fQ_plainly xPl
  refine ⟨⟨?_, ?_, ?_, ?_, ?_, ?_, ?_, ?_, ?_⟩, fun a ha => ?_, fun i hi => ?_⟩
  all_goals first
    | (simp [xwr_at]; done)
    | (rw [xwr_a _ ha, xwr_a _ ha, xwr_a _ ha, xwr_a _ ha, xwr_a _ ha, xwr_a _ ha, xwr_a _ ha, xwr_a _ ha, xwr_a _ ha])
    | (simp only [xwr_at]; rw [if_neg (by omega), if_neg (by omega), if_neg (by omega), if_neg (by omega), if_neg (by omega), if_neg (by omega), if_neg (by omega), if_neg (by omega), if_neg (by omega)])
theorem xEf_pl {M V : xM} {q : Int} (Q : xQ0 M q 0 V) (W : xWE V) (hp : 2 ≤ V 0 0) (P : xPl M q) : xEf M q V := by
  obtain ⟨p1, p2, p3, p4, p5, p6, p7, p8, p9⟩ := P
  refine xEf_mk Q.1 W hp Q.2 W.1.2.2.1 rfl rfl (fun c h _ _ _ _ => ?_) (fun c _ _ => ?_) (fun b _ _ => ?_) (fun k _ _ => ⟨rfl, rfl, rfl⟩) (Or.inl ⟨p8, rfl⟩)
  · rw [p1, p9]; simp
  · rw [p3, p4, p5, p6, xbt_0]; simp
  · rw [p2]; simp
/-- cells that matter from call to call -/
def xPer (a : Int) : Prop := ((0 ≤ a ∧ a ≤ 4) ∨ a = 13) ∨ (16 ≤ a ∧ a ≤ 26) ∨ (38 ≤ a ∧ a ≤ 146 ∧ (a % 4 ≠ 2 ∨ a ≤ 44)) ∨ (256 ≤ a ∧ a ≤ 258) ∨ (266 ≤ a ∧ a ≤ 309) ∨ (311 ≤ a ∧ a ≤ 313) ∨ (315 ≤ a ∧ a ≤ 322)
def xKp (M m : xM) : Prop := (∀ a : Int, xPer a → m a = M a) ∧ m 310 6 = M 310 6 ∧ m 310 14 = M 310 14 ∧ m 310 15 = M 310 15
theorem xKp_rfl (M : xM) : xKp M M := ⟨fun _ _ => rfl, rfl, rfl, rfl⟩
theorem xKp_tr {M m k : xM} (h1 : xKp M m) (h2 : xKp m k) : xKp M k := ⟨fun a h => (h2.1 a h).trans (h1.1 a h), h2.2.1.trans h1.2.1, h2.2.2.1.trans h1.2.2.1, h2.2.2.2.trans h1.2.2.2⟩
def xVw (M : xM) (p : Int) : xM := fun a i => M (p + a) i
theorem xPv_V (M : xM) (p : Int) : xPv M p (xVw M p) := fun _ _ _ => rfl
theorem xV_go {M m : xM} {p : Int} (e : ∀ a : Int, p ≤ a → a ≤ p + 10 → m a = M a) (a i : Int) (h0 : 0 ≤ a) (h1 : a ≤ 10) : xVw m p a i = xVw M p a i := by
  unfold xVw
  rw [e _ (by omega) (by omega)]
/-- what comes of the plan -/
def xgn (V : xM) : Nat → Int
  | 0 => 0
  | h + 1 => if V 10 (h : Int) ≠ -1 ∧ xop V (V 10 (h : Int)) (h : Int) (xgn V h) = true then xad (xgn V h) (V 10 (h : Int)) else xgn V h
def xcm (V : xM) (h : Nat) : Int := if V 10 (h : Int) ≠ -1 ∧ xop V (V 10 (h : Int)) (h : Int) (xgn V h) = true then V 10 (h : Int) else -1
def xCs (m : xM) (k : Int) (V : xM) : Prop := ∀ h : Nat, (h : Int) < V 0 1 → m (k + 1) h = xcm V h ∧ m (k + 2) h = xgn V (h + 1)
/-- the two sides agree -/
def Sim (M : xM) : Prop :=
  (M 3 1 = M 310 6 ∧ 0 ≤ M 3 1 ∧ M 3 1 ≤ 1600 ∧ (∀ i : Int, 0 ≤ i → i < 1600 → M 4 i = M 315 i ∧ -128 ≤ M 4 i ∧ M 4 i < 128)) ∧
  (M 2 7 = M 310 14 ∧ M 2 8 = M 310 15 ∧ ∀ i : Int, 0 ≤ i → i < 9 → 0 ≤ M 13 i ∧ M 13 i ≤ 9) ∧
  (xWE (xVw M 16) ∧ xQ0 M 310 0 (xVw M 16)) ∧
  (∀ k : Int, 0 ≤ k → k < 3 → (M 267 k = 0 ∧ M 322 k = 0) ∨ (M 267 k = 1 ∧ M 322 k = 1 ∧ xWE (xVw M (269 + 11 * k)) ∧ xQ0 M 310 (1 + k) (xVw M (269 + 11 * k)))) ∧
  (∀ s : Int, 0 ≤ s → s < 4 → (M (302 + 2 * s) 0 = 0 ∧ M 311 s = -1) ∨ (M (302 + 2 * s) 0 = 1 ∧ M (302 + 2 * s) 1 = M 311 s ∧ (0 ≤ M 311 s ∧ M 311 s ≤ 3) ∧ M (302 + 2 * s) 2 = M 312 s ∧ (0 ≤ M 312 s ∧ M 312 s ≤ 60) ∧ ∀ i : Int, 0 ≤ i → i < M 312 s → M (303 + 2 * s) i = M 313 (60 * s + i))) ∧
  (2 ≤ M 16 0 → xLook M 38 (xVw M 16) ∧ xCs M 256 (xVw M 16))
end
