/-! most others -/
noncomputable section
def xOb (P : Int → Prop) (c b i : Int) : Prop := (∀ s : Int, 0 ≤ s → s < i → P s → xbt s c = true → xpc s - 1 ≤ b) ∧ ((b = -1 ∧ ∀ s : Int, 0 ≤ s → s < i → ¬ (P s ∧ xbt s c = true)) ∨ ∃ s : Int, 0 ≤ s ∧ s < i ∧ (P s ∧ xbt s c = true) ∧ b = xpc s - 1)
theorem othersQ_L {m V : xM} {c : Int} (W : xWF V) (e0 : m (310 + 7) 0 = V 0 0) (e1 : m (310 + 7) 1 = V 0 1) (c0 : 0 ≤ c) (c1 : c < 9) {P : Int → Prop} (R : xRw m 310 (V 0 1) P) : ∀ (k g i : Nat) (b : Int), k < g → (i : Int) + k = 2 ^ (V 0 0).toNat → -1 ≤ b → xOb P c b i → xP (fQ_others_L26 g 310 c b (i : Int) m) (fun x => xOb P c x.1 (2 ^ (V 0 0).toNat) ∧ x.2 = m)
  | _, 0, _, _, hg, _, _, _ => absurd hg (Nat.not_lt_zero _)
  | 0, g + 1, i, b, _, hi, _, hb => by
    have hN := W.1
    unfold fQ_others_L26
    rw [e0, (xshl1_pw hN.1 (by omega)).1, if_neg (by omega)]
    exact xP_some ⟨by rw [show (2 : Int) ^ (V 0 0).toNat = (i : Int) by omega]; exact hb, rfl⟩
  | k + 1, g + 1, i, b, hg, hi, b0, hb => by
    have hN := W.1
    have hH := W.2.1
    have pw := pw_9 hN.1 hN.2
    have R1 := R (i : Int) (by omega) (by omega)
    have rg := xpc_rg (i : Int)
    have skip : ¬ (P (i : Int) ∧ xbt (i : Int) c = true) → xOb P c b ((i + 1 : Nat) : Int) := fun hn => by
      refine ⟨fun s s0 s1 hp hc => ?_, ?_⟩
      · by_cases e : s = (i : Int)
        · subst e; exact absurd ⟨hp, hc⟩ hn
        · exact hb.1 s s0 (by omega) hp hc
      · rcases hb.2 with ⟨x, y⟩ | ⟨s, s0, s1, x⟩
        · refine Or.inl ⟨x, fun s s0 s1 z => ?_⟩
          by_cases e : s = (i : Int)
          · subst e; exact hn z
          · exact y s s0 (by omega) z
        · exact Or.inr ⟨s, s0, by omega, x⟩
    unfold fQ_others_L26
    rw [e0, (xshl1_pw hN.1 (by omega)).1, if_pos (by omega), e1, xw32_id (x := 512 * V 0 1) (by omega) (by omega), xw32_id (x := 512 * V 0 1 + (i : Int)) (by omega) (by omega), xA_p (by omega), xw32_id (x := (i : Int) + 1) (by omega) (by omega), fQ_isBit_s _ m c0 (by omega)]
    by_cases z : m (310 + 17) (512 * V 0 1 + (i : Int)) = 0
    · rw [if_pos z]
      exact othersQ_L W e0 e1 c0 c1 R k g (i + 1) b (by omega) (by omega) b0 (skip (fun x => R1.mpr x.1 z))
    · rw [if_neg z]
      by_cases y : xbt (i : Int) c = true
      · rw [if_neg (by rw [if_pos y]; decide), sizeOf_s m (by omega) (by omega), xB_s, xB_s, xw32_id (x := xpc (i : Int) - 1) (by omega) (by omega)]
        by_cases x : b < xpc (i : Int) - 1
        · rw [if_pos x]
          refine othersQ_L W e0 e1 c0 c1 R k g (i + 1) _ (by omega) (by omega) (by omega) ⟨fun s s0 s1 hp hc => ?_, Or.inr ⟨(i : Int), by omega, by omega, ⟨R1.mp z, y⟩, rfl⟩⟩
          by_cases e : s = (i : Int)
          · subst e; omega
          · have := hb.1 s s0 (by omega) hp hc
            omega
        · rw [if_neg x]
          refine othersQ_L W e0 e1 c0 c1 R k g (i + 1) b (by omega) (by omega) b0 ⟨fun s s0 s1 hp hc => ?_, ?_⟩
          · by_cases e : s = (i : Int)
            · subst e; omega
            · exact hb.1 s s0 (by omega) hp hc
          · rcases hb.2 with ⟨u, v⟩ | ⟨s, s0, s1, u⟩
            · exact Or.inr ⟨(i : Int), by omega, by omega, ⟨R1.mp z, y⟩, by omega⟩
            · exact Or.inr ⟨s, s0, by omega, u⟩
      · rw [if_pos (by rw [if_neg y])]
        exact othersQ_L W e0 e1 c0 c1 R k g (i + 1) b (by omega) (by omega) b0 (skip (fun x => y x.2))
theorem xOb_one {P : Int → Prop} {c a b n : Int} (h : xOb P c a n) (k : xOb P c b n) : a = b := by
  rcases h.2 with ⟨x, y⟩ | ⟨s, s0, s1, x, y⟩
  · rcases k.2 with ⟨u, v⟩ | ⟨t, t0, t1, u, v⟩
    · omega
    · exact absurd u (y t t0 t1)
  · rcases k.2 with ⟨u, v⟩ | ⟨t, t0, t1, u, v⟩
    · exact absurd x (v s s0 s1)
    · have a1 := h.1 t t0 t1 u.1 u.2
      have a2 := k.1 s s0 s1 x.1 x.2
      omega
theorem xsbs_1 {c s : Int} (c0 : 0 ≤ c) (c1 : c < 9) : xsbs (xshl 1 c) s ↔ xbt s c = true := by
  constructor
  · intro h
    exact h c c0 (by omega) (by rw [xbt_shl1 c0 (by omega) c0 (by omega)]; exact decide_eq_true rfl)
  · intro h d d0 d1 e
    rw [xbt_shl1 c0 (by omega) d0 d1] at e
    have := of_decide_eq_true e
    subst this
    exact h
theorem xOb_mx {P : Int → Prop} {c q n : Int} (c0 : 0 ≤ c) (c1 : c < 9) (n1 : n ≤ 512) (hn : ∀ s : Int, P s → s < n) (h : xMx (fun s => P s ∧ xsbs (xshl 1 c) s) q) : xOb P c (if q = -1 then -1 else q - 1) n := by
  have rg := xMx_rg h
  refine ⟨fun s s0 s1 hp hc => ?_, ?_⟩
  · have := h.1 s s0 (by omega) ⟨hp, (xsbs_1 c0 c1).mpr hc⟩
    have := xpc_rg s
    split <;> omega
  · rcases h.2 with ⟨x, y⟩ | ⟨s, s0, s1, x, y⟩
    · exact Or.inl ⟨if_pos x, fun s s0 s1 z => y s s0 (by omega) ⟨z.1, (xsbs_1 c0 c1).mpr z.2⟩⟩
    · have := xpc_rg s
      refine Or.inr ⟨s, s0, hn s x.1, ⟨x.1, (xsbs_1 c0 c1).mp x.2⟩, ?_⟩
      rw [if_neg (by omega), y]
theorem call_27 {M : xM} (S : Sim M) (c : Int) : xC1 (fD_others 1 c M) (fQ_others 310 c M) M := by
  obtain ⟨V, hv, W, Q, K, Q0, L⟩ := opn S
  have hH := W.1.2.1
  have hN := W.1.1
  unfold fD_others fQ_others
  rw [hasCell_s, qCell_s Q0 W, xPv_0 hv 0 (by decide) (by decide)]
  simp only [if10]
  by_cases h1 : 0 ≤ c ∧ c < V 0 0
  · have p2 := W2 W h1.1 h1.2
    have pw := pw_9 hN.1 hN.2
    have pc := xshl1_pw h1.1 (show c ≤ 30 by omega)
    have hlt : xshl 1 c < 512 := by
      have c' : c = 0 ∨ c = 1 ∨ c = 2 ∨ c = 3 ∨ c = 4 ∨ c = 5 ∨ c = 6 ∨ c = 7 ∨ c = 8 := by omega
      rw [pc.1]
      rcases c' with rfl | rfl | rfl | rfl | rfl | rfl | rfl | rfl | rfl <;> decide
    rw [if_neg (not_not_intro h1), if_neg (not_not_intro h1)]
    refine xC1_of (A := fun r => xOb (xcan V (V 0 1).toNat) c r (2 ^ (V 0 0).toNat)) ?_ ?_ (fun r s a b => xOb_one a b)
    · rw [atL W.1 (L p2).1, xB_s]
      refine xP_B (largestWith_s ((L p2).1.2 (V 0 1).toNat (by omega)) (t := xshl 1 c) (by omega) hlt) (fun q hq => ?_)
      have rg := xMx_rg hq
      have := xOb_mx h1.1 (by omega) pw.2 (fun s hs => (xcan_rg W.1 _ _ hs).2) hq
      refine xP_some ?_
      rw [xw32_id (x := q - 1) (by omega) (by omega)]
      exact this
    · refine xP_B (mostPlain_s Q0 W p2) ?_
      rintro ⟨v, m⟩ ⟨-, k1, E, D, P, R⟩
      have R1 := R (V 0 1).toNat (by omega)
      rw [show (((V 0 1).toNat : Nat) : Int) = V 0 1 by omega] at R1
      have := othersQ_L (c := c) W.1 E.1.1 E.1.2.1 h1.1 (by omega) R1 ((2 : Int) ^ (V 0 0).toNat).toNat 20001 0 (-1) (by omega) (by omega) (by decide) ⟨fun s s0 s1 => absurd s1 (by omega), Or.inl ⟨rfl, fun s s0 s1 => absurd s1 (by omega)⟩⟩
      refine xP_mono this ?_
      rintro ⟨r, m'⟩ ⟨a, rfl⟩
      exact ⟨a, xKp_tr K k1⟩
  · rw [if_pos h1, if_pos h1]; exact xC1_eq rfl rfl K
end
