/-! how many sets; most others -/
noncomputable section
theorem xct_add (p : Nat → Bool) (a : Nat) : ∀ b : Nat, xct p (a + b) = xct p a + xct (fun j => p (a + j)) b
  | 0 => rfl
  | b + 1 => by
    rw [← Nat.add_assoc, xct, xct, xct_add p a b, Nat.add_assoc]
theorem pw_9 {n : Int} (h0 : 0 ≤ n) (h : n ≤ 9) : 1 ≤ (2 : Int) ^ n.toNat ∧ (2 : Int) ^ n.toNat ≤ 512 := by
  have c : n.toNat = 0 ∨ n.toNat = 1 ∨ n.toNat = 2 ∨ n.toNat = 3 ∨ n.toNat = 4 ∨ n.toNat = 5 ∨ n.toNat = 6 ∨ n.toNat = 7 ∨ n.toNat = 8 ∨ n.toNat = 9 := by omega
  rcases c with e | e | e | e | e | e | e | e | e | e <;> rw [e] <;> decide
theorem size_L {m : xM} {r : Int} {P : Int → Prop} (hS : xSt m r P) : ∀ (k g i : Nat), k < g → i + k = 8 → fSets_size_L4 g r ((xct (fun s => xdc (P (s : Int))) (64 * i) : Nat) : Int) (i : Int) m = some ((xct (fun s => xdc (P (s : Int))) 512 : Nat) : Int)
  | _, 0, _, hg, _ => absurd hg (Nat.not_lt_zero _)
  | 0, g + 1, i, _, hi => by
    unfold fSets_size_L4
    rw [if_neg (by omega), show i = 8 by omega]
  | k + 1, g + 1, i, hg, hi => by
    have b1 := xct_le (fun s => xdc (P (s : Int))) (64 * i)
    have b2 := xct_le (fun j => xbl (m (r + 1) (i : Int)) (j : Int)) 64
    have e : xct (fun j => xbl (m (r + 1) (i : Int)) (j : Int)) 64 = xct (fun j => xdc (P ((64 * i + j : Nat) : Int))) 64 := xct_cong (fun j hj => by
      have := hS ((64 * i + j : Nat) : Int) (by omega) (by omega)
      rw [show ((64 * i + j : Nat) : Int) / 64 = (i : Int) by omega, show ((64 * i + j : Nat) : Int) % 64 = (j : Int) by omega] at this
      by_cases h : P ((64 * i + j : Nat) : Int)
      · rw [this.mpr h, xdc_t.mpr h]
      · rw [xdc_f.mpr h]
        cases hx : xbl (m (r + 1) (i : Int)) (j : Int)
        · rfl
        · exact absurd (this.mp hx) h)
    unfold fSets_size_L4
    rw [if_pos (by omega), xA_p (by omega), JL_bc, xw32_id (x := (i : Int) + 1) (by omega) (by omega), xw32_id (by omega) (by omega), e, ← Int.natCast_add, ← xct_add, show 64 * i + 64 = 64 * (i + 1) by omega]
    exact size_L hS k g (i + 1) (by omega) (by omega)
theorem size_s {m : xM} {r : Int} {P : Int → Prop} (hS : xSt m r P) : fSets_size r m = some ((xct (fun s => xdc (P (s : Int))) 512 : Nat) : Int) := size_L hS 8 20001 0 (by decide) rfl
theorem sets_top {p : Nat → Bool} {n k : Nat} (h : n ≤ k) (hp : ∀ i, n ≤ i → i < k → p i = false) : xct p k = xct p n := by
  rw [← xct_cut p n k h]
  refine xct_cong (fun i hi => ?_)
  by_cases x : i < n
  · simp [x]
  · rw [hp i (by omega) hi]; simp
theorem setsQ_L {m V : xM} {h : Int} (W : xWF V) (e0 : m (310 + 7) 0 = V 0 0) (h0 : 0 ≤ h) (h1 : h < 24) {P : Int → Prop} (R : xRw m 310 (h + 1) P) : ∀ (k g i : Nat), k < g → (i : Int) + k = 2 ^ (V 0 0).toNat → fQ_sets1_L26 g 310 h ((xct (fun s => xdc (P (s : Int))) i : Nat) : Int) (i : Int) m = some (((xct (fun s => xdc (P (s : Int))) (2 ^ (V 0 0).toNat : Int).toNat : Nat) : Int), m)
  | _, 0, _, hg, _ => absurd hg (Nat.not_lt_zero _)
  | 0, g + 1, i, _, hi => by
    have hN := W.1
    unfold fQ_sets1_L26
    rw [e0, (xshl1_pw hN.1 (by omega)).1, if_neg (by omega), show ((2 : Int) ^ (V 0 0).toNat).toNat = i by omega]
  | k + 1, g + 1, i, hg, hi => by
    have hN := W.1
    have pw := pw_9 hN.1 hN.2
    have b1 := xct_le (fun s => xdc (P (s : Int))) i
    have R1 := R (i : Int) (by omega) (by omega)
    have st : xct (fun s => xdc (P (s : Int))) (i + 1) = xct (fun s => xdc (P (s : Int))) i + (if xdc (P (i : Int)) = true then 1 else 0) := rfl
    unfold fQ_sets1_L26
    rw [e0, (xshl1_pw hN.1 (by omega)).1, if_pos (by omega), xw32_id (x := h + 1) (by omega) (by omega), xw32_id (x := 512 * (h + 1)) (by omega) (by omega), xw32_id (x := 512 * (h + 1) + (i : Int)) (by omega) (by omega), xA_p (by omega), xw32_id (x := (i : Int) + 1) (by omega) (by omega), xw32_id (x := ((xct (fun s => xdc (P (s : Int))) i : Nat) : Int) + 0) (by omega) (by omega), xw32_id (x := ((xct (fun s => xdc (P (s : Int))) i : Nat) : Int) + 1) (by omega) (by omega)]
    have IH := setsQ_L W e0 h0 h1 R k g (i + 1) (by omega) (by omega)
    by_cases c : m (310 + 17) (512 * (h + 1) + (i : Int)) = 0
    · rw [if_pos c]
      rw [st, if_neg (by rw [xdc_f.mpr (fun y => R1.mpr y c)]; decide)] at IH
      exact IH
    · rw [if_neg c]
      rw [st, if_pos (xdc_t.mpr (R1.mp c))] at IH
      exact IH
theorem call_24 {M : xM} (S : Sim M) (h : Int) : xC1 (fD_sets 1 h M) (fQ_sets1 310 h M) M := by
  obtain ⟨V, hv, W, Q, K, Q0, L⟩ := opn S
  have hH := W.1.2.1
  have hN := W.1.1
  unfold fD_sets fQ_sets1
  rw [hasHour_s, qHour_s Q0 W, xPv_0 hv 1 (by decide) (by decide)]
  simp only [if10]
  by_cases h1 : 0 ≤ h ∧ h < V 0 1
  · have p2 := W2h W h1.1 h1.2
    have pw := pw_9 hN.1 hN.2
    obtain ⟨k, rfl⟩ := Int.eq_ofNat_of_zero_le h1.1
    rw [if_neg (not_not_intro h1), if_neg (not_not_intro h1), xw32_id (by omega) (by omega), xA_p (by omega), rr_at]
    refine xC1_of (A := fun r => r = ((xct (fun s => xdc (xcan V (k + 1) (s : Int))) 512 : Nat) : Int)) ?_ ?_ (fun r s a b => a.trans b.symm)
    · have := size_s ((L p2).1.2 (k + 1) (by omega))
      exact xP_B (xP_of this rfl) (fun v hv => xP_some hv.symm)
    · refine xP_B (mostPlain_s Q0 W p2) ?_
      rintro ⟨v, m⟩ ⟨-, k1, E, D, P, R⟩
      have e := setsQ_L (h := (k : Int)) W.1 E.1.1 (by omega) (by omega) (R (k + 1) (by omega)) ((2 : Int) ^ (V 0 0).toNat).toNat 20001 0 (by omega) (by omega)
      refine xP_of e ⟨?_, xKp_tr K k1⟩
      show ((xct _ _ : Nat) : Int) = ((xct _ 512 : Nat) : Int)
      rw [sets_top (n := ((2 : Int) ^ (V 0 0).toNat).toNat) (k := 512) (by omega) (fun i i0 i1 => xdc_f.mpr (fun y => by have := (xcan_rg W.1 _ _ y).2; omega))]
  · rw [if_pos h1, if_pos h1]; exact xC1_eq rfl rfl K
end
