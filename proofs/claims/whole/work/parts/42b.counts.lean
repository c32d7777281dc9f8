/-! the JDK's bitCount is the number of bits -/
noncomputable section
def dg (B : Nat) : List Nat → Nat
  | [] => 0
  | d :: l => d + B * dg B l
theorem dg_ex (B : Nat) (hB : 0 < B) : ∀ (k n : Nat), n < B ^ k → ∃ l : List Nat, l.length = k ∧ (∀ d, d ∈ l → d < B) ∧ dg B l = n
  | 0, n, h => ⟨[], rfl, fun _ hd => (List.not_mem_nil hd).elim, by rw [Nat.pow_zero] at h; unfold dg; omega⟩
  | k + 1, n, h => by
    obtain ⟨l, h1, h2, h3⟩ := dg_ex B hB k (n / B) (Nat.div_lt_of_lt_mul (by rwa [Nat.pow_succ, Nat.mul_comm] at h))
    refine ⟨n % B :: l, by simp [h1], fun d hd => ?_, ?_⟩
    · rcases List.mem_cons.mp hd with rfl | hd
      · exact Nat.mod_lt _ hB
      · exact h2 d hd
    · unfold dg
      rw [h3, Nat.mod_add_div]
theorem fld (w j m M a b : Nat) (hj : j ≤ w) (ha : a < 2 ^ w) (hm : m < 2 ^ (w - j)) : ((a + 2 ^ w * b) / 2 ^ j) &&& (m + 2 ^ w * M) = ((a / 2 ^ j) &&& m) + 2 ^ w * ((b / 2 ^ j) &&& M) := by
  have pw : (2 : Nat) ^ w = 2 ^ (w - j) * 2 ^ j := by rw [← Nat.pow_add]; congr 1; omega
  have pj : 0 < 2 ^ j := Nat.two_pow_pos j
  have pwj : 0 < 2 ^ (w - j) := Nat.two_pow_pos _
  have pwp : 0 < 2 ^ w := Nat.two_pow_pos w
  have hmw : m < 2 ^ w := Nat.lt_of_lt_of_le hm (Nat.pow_le_pow_right (by decide) (by omega))
  have e1 : (a + 2 ^ w * b) / 2 ^ j = a / 2 ^ j + 2 ^ (w - j) * b := by
    rw [show 2 ^ w * b = 2 ^ j * (2 ^ (w - j) * b) by rw [pw, Nat.mul_comm (2 ^ (w - j)), Nat.mul_assoc], Nat.add_mul_div_left _ _ pj]
  have ha2 : a / 2 ^ j < 2 ^ (w - j) := Nat.div_lt_of_lt_mul (by rw [Nat.mul_comm, ← pw]; exact ha)
  have lo : (((a + 2 ^ w * b) / 2 ^ j) &&& (m + 2 ^ w * M)) % 2 ^ w = (a / 2 ^ j) &&& m := by
    rw [Nat.and_mod_two_pow, Nat.add_mul_mod_self_left, Nat.mod_eq_of_lt hmw]
    have h3 : ((a + 2 ^ w * b) / 2 ^ j) % 2 ^ w &&& m < 2 ^ (w - j) := Nat.lt_of_le_of_lt Nat.and_le_right hm
    have h4 : (a / 2 ^ j) &&& m < 2 ^ (w - j) := Nat.lt_of_le_of_lt Nat.and_le_right hm
    rw [← Nat.mod_eq_of_lt h3, ← Nat.mod_eq_of_lt h4, Nat.and_mod_two_pow, Nat.and_mod_two_pow (a := a / 2 ^ j)]
    congr 1
    rw [e1, Nat.mod_mod_of_dvd _ (by rw [pw]; exact Nat.dvd_mul_right _ _), Nat.add_mul_mod_self_left]
  have hi : (((a + 2 ^ w * b) / 2 ^ j) &&& (m + 2 ^ w * M)) / 2 ^ w = (b / 2 ^ j) &&& M := by
    rw [Nat.and_div_two_pow]
    congr 1
    · rw [Nat.div_div_eq_div_mul, Nat.mul_comm, ← Nat.div_div_eq_div_mul, Nat.add_mul_div_left _ _ pwp, Nat.div_eq_of_lt ha, Nat.zero_add]
    · rw [Nat.add_mul_div_left _ _ pwp, Nat.div_eq_of_lt hmw, Nat.zero_add]
  have := Nat.mod_add_div (((a + 2 ^ w * b) / 2 ^ j) &&& (m + 2 ^ w * M)) (2 ^ w)
  rw [lo, hi] at this
  exact this.symm
theorem dg_fld (w j m : Nat) (hj : j ≤ w) (hm : m < 2 ^ (w - j)) : ∀ l : List Nat, (∀ d, d ∈ l → d < 2 ^ w) → (dg (2 ^ w) l / 2 ^ j) &&& dg (2 ^ w) (l.map (fun _ => m)) = dg (2 ^ w) (l.map (fun d => (d / 2 ^ j) &&& m))
  | [], _ => by simp [dg]
  | a :: l, h => by
    have ih := dg_fld w j m hj hm l (fun d hd => h d (List.mem_cons_of_mem _ hd))
    simp only [List.map_cons]
    unfold dg
    rw [fld w j m _ a _ hj (h a List.mem_cons_self) hm, ih]
theorem and1_4 : ∀ d, d < 4 → d / 2 ^ 1 &&& 1 = d / 2 := by decide
theorem and3_16 : ∀ d, d < 16 → (d / 2 ^ 0 &&& 3 = d % 4) ∧ (d / 2 ^ 2 &&& 3 = d / 4) := by decide
theorem and15_256 : ∀ d, d < 256 → (d / 2 ^ 0 &&& 15 = d % 16) := by decide +kernel
theorem npc_4 (n k d : Nat) (h : d < 4) : xct (fun i => (d + 4 * n).testBit i) (k + 2) = d - d / 2 + xct (fun i => n.testBit i) k := by
  have h1 : xct (fun i => (d + 4 * n).testBit i) (k + 2) = (d + 4 * n) % 2 + ((d + 4 * n) / 2 % 2 + xct (fun i => ((d + 4 * n) / 2 / 2).testBit i) k) := by
    rw [npc_s (k + 1), npc_s k]
  rw [h1, show (d + 4 * n) / 2 / 2 = n by omega]
  omega
theorem map_cong {f g : Nat → Nat} : ∀ l : List Nat, (∀ d, d ∈ l → f d = g d) → l.map f = l.map g
  | [], _ => rfl
  | a :: l, h => by simp only [List.map_cons]; rw [h a List.mem_cons_self, map_cong l (fun d hd => h d (List.mem_cons_of_mem _ hd))]
theorem dg_npc : ∀ (l : List Nat), (∀ d, d ∈ l → d < 4) → xct (fun i => (dg 4 l).testBit i) (2 * l.length) = (l.map (fun d => d - d / 2)).sum
  | [], _ => rfl
  | a :: l, h => by
    have ih := dg_npc l (fun d hd => h d (List.mem_cons_of_mem _ hd))
    simp only [List.length_cons, List.map_cons, List.sum_cons]
    unfold dg
    rw [show 2 * (l.length + 1) = 2 * l.length + 2 by omega, npc_4 _ _ _ (h a List.mem_cons_self), ih]
theorem len16 (l : List Nat) (h : l.length = 16) : ∃ a b c d e f g i j k m n o p q r, l = [a, b, c, d, e, f, g, i, j, k, m, n, o, p, q, r] := by
  match l, h with
  | [a, b, c, d, e, f, g, i, j, k, m, n, o, p, q, r], _ => exact ⟨a, b, c, d, e, f, g, i, j, k, m, n, o, p, q, r, rfl⟩
theorem bc32 {n A B C D E : Nat} (hn : n < 4294967296) (hA : A = n - (n / 2 ^ 1 &&& 1431655765)) (hB : B = (A / 2 ^ 0 &&& 858993459) + (A / 2 ^ 2 &&& 858993459)) (hC : C = ((B + B / 16) / 2 ^ 0 &&& 252645135)) (hD : D = C + C / 256) (hE : E = D + D / 65536) : E % 64 = npc n ∧ A ≤ n ∧ B < 1717986919 ∧ C < 252645136 ∧ D < 300000000 ∧ E < 400000000 := by
  obtain ⟨l, h1, h2, h3⟩ := dg_ex 4 (by decide) 16 n (by omega)
  have hp := dg_npc l h2
  have f1 := dg_fld 2 1 1 (by decide) (by decide) l h2
  rw [map_cong l (fun d hd => and1_4 d (h2 d hd))] at f1
  rw [h1] at hp
  have hp2 : npc n = (l.map (fun d => d - d / 2)).sum := by rw [← hp, ← h3]; rfl
  obtain ⟨a0, a1, a2, a3, a4, a5, a6, a7, a8, a9, b0, b1, b2, b3, b4, b5, rfl⟩ := len16 l h1
  simp only [List.map_cons, List.map_nil, dg, List.sum_cons, List.sum_nil, List.mem_cons, List.not_mem_nil, or_false, forall_eq_or_imp, forall_eq] at f1 hp2 h2 h3
  simp only [Nat.reducePow, Nat.reduceMul, Nat.reduceAdd, Nat.mul_zero, Nat.add_zero] at f1 h3
  rw [h3] at f1
  obtain ⟨x0, x1, x2, x3, x4, x5, x6, x7, x8, x9, y0, y1, y2, y3, y4, y5⟩ := h2
  sorry
end
