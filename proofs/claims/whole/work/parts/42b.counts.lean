/-! the JDK's bitCount is the number of bits -/
noncomputable section
def xct (p : Nat → Bool) : Nat → Nat
  | 0 => 0
  | n + 1 => xct p n + (if p n = true then 1 else 0)
/-- how many bits -/
def xpc (x : Int) : Int := (xct (fun i => xbt x (i : Int)) 32 : Nat)
theorem xct_le (p : Nat → Bool) : ∀ n, xct p n ≤ n
  | 0 => Nat.le_refl _
  | n + 1 => by have := xct_le p n; unfold xct; split <;> omega
theorem xpc_rg (x : Int) : 0 ≤ xpc x ∧ xpc x ≤ 32 := by have := xct_le (fun i => xbt x (i : Int)) 32; unfold xpc; omega
theorem xct_cong {p q : Nat → Bool} : ∀ {n : Nat}, (∀ k, k < n → p k = q k) → xct p n = xct q n
  | 0, _ => rfl
  | n + 1, h => by unfold xct; rw [xct_cong (fun k hk => h k (by omega)), h n (by omega)]
def npc (x : Nat) : Nat := xct (fun i => x.testBit i) 32
theorem xpc_nat {x : Nat} (h : x < 4294967296) : xpc (x : Int) = (npc x : Nat) := by
  unfold xpc npc
  rw [xct_cong (fun k hk => xbt_nat x k hk h)]
theorem npc_split : ∀ s, s < 512 → npc s = npc (s / 64) + npc (s % 64) := by decide +kernel
theorem npc_ad : ∀ s, s < 512 → ∀ c, c < 9 → s.testBit c = false → npc (s ||| 2 ^ c) = npc s + 1 := by decide +kernel
theorem xpc_split {s : Int} (h0 : 0 ≤ s) (h1 : s < 512) : xpc s = xpc (s / 64) + xpc (s % 64) := by
  obtain ⟨a, rfl⟩ := Int.eq_ofNat_of_zero_le h0
  have e1 : ((a : Int) / 64) = ((a / 64 : Nat) : Int) := rfl
  have e2 : ((a : Int) % 64) = ((a % 64 : Nat) : Int) := rfl
  rw [e1, e2, xpc_nat (by omega), xpc_nat (by omega), xpc_nat (by omega), npc_split a (by omega)]
  rfl
theorem xpc_ad {s c : Int} (h0 : 0 ≤ s) (h1 : s < 512) (h2 : 0 ≤ c) (h3 : c < 9) (hb : xbt s c = false) : xpc (xad s c) = xpc s + 1 := by
  obtain ⟨a, rfl⟩ := Int.eq_ofNat_of_zero_le h0
  obtain ⟨k, rfl⟩ := Int.eq_ofNat_of_zero_le h2
  have hb2 : a.testBit k = false := by rw [← xbt_nat a k (by omega) (by omega)]; exact hb
  have hlt : a ||| 2 ^ k < 2 ^ 9 := Nat.or_lt_two_pow (by omega) (Nat.pow_lt_pow_right (by decide) (by omega))
  rw [xad_nat (by omega) (by omega), xpc_nat (by omega), xpc_nat (by omega), npc_ad a (by omega) k (by omega) hb2]
  rfl
theorem xpc_0 : xpc 0 = 0 := xpc_nat (x := 0) (by decide)
theorem npc_s (n x : Nat) : xct (fun i => x.testBit i) (n + 1) = x % 2 + xct (fun i => (x / 2).testBit i) n := by
  induction n with
  | zero =>
    unfold xct xct
    simp only [Nat.testBit_zero]
    have : x % 2 = 0 ∨ x % 2 = 1 := by omega
    rcases this with e | e <;> simp [e]
  | succ n ih =>
    rw [xct, ih]
    conv => rhs; rw [xct]
    rw [Nat.testBit_succ]
    omega
theorem npc_k : ∀ (n x : Nat), 0 < x → x < 2 ^ n → xct (fun i => (x &&& (x - 1)).testBit i) n + 1 = xct (fun i => x.testBit i) n
  | 0, x, h, h2 => by omega
  | n + 1, x, h, h2 => by
    have hm : (x &&& (x - 1)) % 2 = 0 := by
      have := Nat.and_mod_two_pow (a := x) (b := x - 1) (n := 1)
      rw [Nat.pow_one] at this
      rw [this]
      have e : x % 2 = 0 ∨ x % 2 = 1 := by omega
      rcases e with e | e
      · rw [e]; simp
      · rw [show (x - 1) % 2 = 0 by omega]; simp
    have hd : (x &&& (x - 1)) / 2 = x / 2 &&& (x - 1) / 2 := by
      have := Nat.and_div_two_pow (a := x) (b := x - 1) (n := 1)
      rwa [Nat.pow_one] at this
    rw [npc_s, npc_s, hm, hd]
    by_cases e : x % 2 = 1
    · rw [show (x - 1) / 2 = x / 2 by omega, Nat.and_self]; omega
    · have ih := npc_k n (x / 2) (by omega) (by rw [Nat.pow_succ] at h2; omega)
      rw [show (x - 1) / 2 = x / 2 - 1 by omega]; omega
def dg (B : Nat) : List Nat → Nat
  | [] => 0
  | d :: l => d + B * dg B l
theorem dg_ex (B : Nat) (hB : 0 < B) : ∀ (k n : Nat), n < B ^ k → ∃ l : List Nat, l.length = k ∧ (∀ d, d ∈ l → d < B) ∧ dg B l = n
  | 0, n, h => ⟨[], rfl, fun _ hd => (List.not_mem_nil hd).elim, by rw [Nat.pow_zero] at h; unfold dg; omega⟩
  | k + 1, n, h => by
    obtain ⟨l, h1, h2, h3⟩ := dg_ex B hB k (n / B) (Nat.div_lt_of_lt_mul (by rwa [Nat.pow_succ, Nat.mul_comm] at h))
    refine ⟨n % B :: l, by simp [h1], fun d hd => ?_, ?_⟩
    · rcases List.mem_cons.mp hd with rfl | hd
      · exact Nat.mod_lt _ hB
      · exact h2 d hd
    · unfold dg
      rw [h3, Nat.mod_add_div]
theorem fld (w j m M a b : Nat) (hj : j ≤ w) (ha : a < 2 ^ w) (hm : m < 2 ^ (w - j)) : ((a + 2 ^ w * b) / 2 ^ j) &&& (m + 2 ^ w * M) = ((a / 2 ^ j) &&& m) + 2 ^ w * ((b / 2 ^ j) &&& M) := by
  have pw : (2 : Nat) ^ w = 2 ^ (w - j) * 2 ^ j := by rw [← Nat.pow_add]; congr 1; omega
  have pj : 0 < 2 ^ j := Nat.two_pow_pos j
  have pwj : 0 < 2 ^ (w - j) := Nat.two_pow_pos _
  have pwp : 0 < 2 ^ w := Nat.two_pow_pos w
  have hmw : m < 2 ^ w := Nat.lt_of_lt_of_le hm (Nat.pow_le_pow_right (by decide) (by omega))
  have e1 : (a + 2 ^ w * b) / 2 ^ j = a / 2 ^ j + 2 ^ (w - j) * b := by
    rw [show 2 ^ w * b = 2 ^ j * (2 ^ (w - j) * b) by rw [pw, Nat.mul_comm (2 ^ (w - j)), Nat.mul_assoc], Nat.add_mul_div_left _ _ pj]
  have ha2 : a / 2 ^ j < 2 ^ (w - j) := Nat.div_lt_of_lt_mul (by rw [Nat.mul_comm, ← pw]; exact ha)
  have lo : (((a + 2 ^ w * b) / 2 ^ j) &&& (m + 2 ^ w * M)) % 2 ^ w = (a / 2 ^ j) &&& m := by
    rw [Nat.and_mod_two_pow, Nat.add_mul_mod_self_left, Nat.mod_eq_of_lt hmw]
    have h3 : ((a + 2 ^ w * b) / 2 ^ j) % 2 ^ w &&& m < 2 ^ (w - j) := Nat.lt_of_le_of_lt Nat.and_le_right hm
    have h4 : (a / 2 ^ j) &&& m < 2 ^ (w - j) := Nat.lt_of_le_of_lt Nat.and_le_right hm
    rw [← Nat.mod_eq_of_lt h3, ← Nat.mod_eq_of_lt h4, Nat.and_mod_two_pow, Nat.and_mod_two_pow (a := a / 2 ^ j)]
    congr 1
    rw [e1, Nat.mod_mod_of_dvd _ (by rw [pw]; exact Nat.dvd_mul_right _ _), Nat.add_mul_mod_self_left]
  have hi : (((a + 2 ^ w * b) / 2 ^ j) &&& (m + 2 ^ w * M)) / 2 ^ w = (b / 2 ^ j) &&& M := by
    rw [Nat.and_div_two_pow]
    congr 1
    · rw [Nat.div_div_eq_div_mul, Nat.mul_comm (2 ^ j), ← Nat.div_div_eq_div_mul, Nat.add_mul_div_left _ _ pwp, Nat.div_eq_of_lt ha, Nat.zero_add]
    · rw [Nat.add_mul_div_left _ _ pwp, Nat.div_eq_of_lt hmw, Nat.zero_add]
  have := Nat.mod_add_div (((a + 2 ^ w * b) / 2 ^ j) &&& (m + 2 ^ w * M)) (2 ^ w)
  rw [lo, hi] at this
  exact this.symm
theorem dg_fld (w j m : Nat) (hj : j ≤ w) (hm : m < 2 ^ (w - j)) : ∀ l : List Nat, (∀ d, d ∈ l → d < 2 ^ w) → (dg (2 ^ w) l / 2 ^ j) &&& dg (2 ^ w) (l.map (fun _ => m)) = dg (2 ^ w) (l.map (fun d => (d / 2 ^ j) &&& m))
  | [], _ => by simp [dg]
  | a :: l, h => by
    have ih := dg_fld w j m hj hm l (fun d hd => h d (List.mem_cons_of_mem _ hd))
    simp only [List.map_cons]
    unfold dg
    rw [fld w j m _ a _ hj (h a List.mem_cons_self) hm, ih]
theorem and1_4 : ∀ d, d < 4 → d / 2 ^ 1 &&& 1 = d / 2 := by decide
theorem and3_16 : ∀ d, d < 16 → (d / 2 ^ 0 &&& 3 = d % 4) ∧ (d / 2 ^ 2 &&& 3 = d / 4) := by decide
theorem and15_256 : ∀ d, d < 256 → (d / 2 ^ 0 &&& 15 = d % 16) := by decide +kernel
theorem npc_4 (n k d : Nat) (h : d < 4) : xct (fun i => (d + 4 * n).testBit i) (k + 2) = d - d / 2 + xct (fun i => n.testBit i) k := by
  have h1 : xct (fun i => (d + 4 * n).testBit i) (k + 2) = (d + 4 * n) % 2 + ((d + 4 * n) / 2 % 2 + xct (fun i => ((d + 4 * n) / 2 / 2).testBit i) k) := by
    rw [npc_s (k + 1), npc_s k]
  rw [h1, show (d + 4 * n) / 2 / 2 = n by omega]
  omega
theorem map_cong {f g : Nat → Nat} : ∀ l : List Nat, (∀ d, d ∈ l → f d = g d) → l.map f = l.map g
  | [], _ => rfl
  | a :: l, h => by simp only [List.map_cons]; rw [h a List.mem_cons_self, map_cong l (fun d hd => h d (List.mem_cons_of_mem _ hd))]
theorem dg_npc : ∀ (l : List Nat), (∀ d, d ∈ l → d < 4) → xct (fun i => (dg 4 l).testBit i) (2 * l.length) = (l.map (fun d => d - d / 2)).sum
  | [], _ => rfl
  | a :: l, h => by
    have ih := dg_npc l (fun d hd => h d (List.mem_cons_of_mem _ hd))
    simp only [List.length_cons, List.map_cons, List.sum_cons]
    unfold dg
    rw [show 2 * (l.length + 1) = 2 * l.length + 2 by omega, npc_4 _ _ _ (h a List.mem_cons_self), ih]
theorem dg_sub (B : Nat) (f : Nat → Nat) (hf : ∀ d, f d ≤ d) : ∀ l : List Nat, dg B (l.map f) ≤ dg B l ∧ dg B l - dg B (l.map f) = dg B (l.map (fun d => d - f d))
  | [] => ⟨Nat.le_refl _, rfl⟩
  | a :: l => by
    obtain ⟨h1, h2⟩ := dg_sub B f hf l
    have h3 := hf a
    have h4 := Nat.mul_le_mul_left B h1
    simp only [List.map_cons]
    unfold dg
    rw [← h2, Nat.mul_sub]
    omega
/-- step one: how many bits in each pair -/
theorem bc_1 (k n : Nat) (h : n < 4 ^ k) : ∃ P : List Nat, P.length = k ∧ (∀ d, d ∈ P → d ≤ 2) ∧ (n / 2 ^ 1 &&& dg 4 ((List.replicate k 0).map (fun _ => 1))) ≤ n ∧ n - (n / 2 ^ 1 &&& dg 4 ((List.replicate k 0).map (fun _ => 1))) = dg 4 P ∧ xct (fun i => n.testBit i) (2 * k) = P.sum := by
  obtain ⟨l, h1, h2, h3⟩ := dg_ex 4 (by decide) k n h
  have hp := dg_npc l h2
  have f1 := dg_fld 2 1 1 (by decide) (by decide) l h2
  rw [map_cong l (fun d hd => and1_4 d (h2 d hd))] at f1
  have em : (List.replicate k 0).map (fun _ => 1) = l.map (fun _ => 1) := by
    rw [List.map_const', List.map_const', List.length_replicate, h1]
  rw [em]
  have g := dg_sub 4 (fun d => d / 2) (fun d => Nat.div_le_self d 2) l
  rw [show (2 : Nat) ^ 2 = 4 from rfl, h3] at f1
  rw [h3, ← f1] at g
  rw [h1, h3] at hp
  refine ⟨l.map (fun d => d - d / 2), by rw [List.length_map, h1], fun d hd => ?_, g.1, g.2, hp⟩
  obtain ⟨e, he, rfl⟩ := List.mem_map.mp hd
  have := h2 e he
  omega
def pr : List Nat → List Nat
  | a :: b :: l => (a + b) :: pr l
  | _ => []
theorem pr_s (m : Nat) : ∀ (k : Nat) (l : List Nat), l.length = 2 * k → (∀ d, d ∈ l → d ≤ m) → (pr l).length = k ∧ (∀ d, d ∈ pr l → d ≤ 2 * m) ∧ (pr l).sum = l.sum
  | 0, [], _, _ => ⟨rfl, fun _ h => (List.not_mem_nil h).elim, rfl⟩
  | 0, _ :: _, h, _ => by simp at h
  | _ + 1, [], h, _ => by simp at h
  | _ + 1, [_], h, _ => by simp at h; omega
  | k + 1, a :: b :: l, h, hm => by
    obtain ⟨h1, h2, h3⟩ := pr_s m k l (by simp at h; omega) (fun d hd => hm d (List.mem_cons_of_mem _ (List.mem_cons_of_mem _ hd)))
    have ha := hm a List.mem_cons_self
    have hb := hm b (List.mem_cons_of_mem _ List.mem_cons_self)
    refine ⟨by simp [pr, h1], fun d hd => ?_, ?_⟩
    · unfold pr at hd
      rcases List.mem_cons.mp hd with rfl | hd
      · omega
      · exact h2 d hd
    · simp only [pr, List.sum_cons, h3]; omega
theorem dg_bd (B m : Nat) (hB : 2 ≤ B) : ∀ (l : List Nat), (∀ d, d ∈ l → d ≤ m) → (B - 1) * dg B l + m ≤ m * B ^ l.length
  | [], _ => by simp [dg]
  | a :: l, h => by
    have ih := dg_bd B m hB l (fun d hd => h d (List.mem_cons_of_mem _ hd))
    have ha := h a List.mem_cons_self
    have e1 : (B - 1) * (a + B * dg B l) = (B - 1) * a + B * ((B - 1) * dg B l) := by rw [Nat.mul_add, Nat.mul_left_comm]
    have e2 : (B - 1) * a ≤ (B - 1) * m := Nat.mul_le_mul_left _ ha
    have e3 := Nat.mul_le_mul_left B ih
    have e4 : (B - 1) * m + m = B * m := by
      rw [← Nat.succ_mul]; congr 1; omega
    rw [Nat.mul_add] at e3
    simp only [List.length_cons]
    unfold dg
    rw [e1, Nat.pow_succ]
    have e5 : m * (B ^ l.length * B) = B * (m * B ^ l.length) := by rw [Nat.mul_comm (B ^ l.length), Nat.mul_left_comm]
    rw [e5]
    omega
theorem bc_2 : ∀ (k : Nat) (P : List Nat), P.length = 2 * k → (∀ d, d ∈ P → d ≤ 2) → (dg 4 P / 2 ^ 0 &&& dg 16 (List.replicate k 3)) + (dg 4 P / 2 ^ 2 &&& dg 16 (List.replicate k 3)) = dg 16 (pr P)
  | 0, [], _, _ => by simp [dg, pr]
  | 0, _ :: _, h, _ => by simp at h
  | _ + 1, [], h, _ => by simp at h
  | _ + 1, [_], h, _ => by simp at h; omega
  | k + 1, a :: b :: l, h, hm => by
    have ih := bc_2 k l (by simp at h; omega) (fun d hd => hm d (List.mem_cons_of_mem _ (List.mem_cons_of_mem _ hd)))
    have ha := hm a List.mem_cons_self
    have hb := hm b (List.mem_cons_of_mem _ List.mem_cons_self)
    have e : dg 4 (a :: b :: l) = (a + 4 * b) + 2 ^ 4 * dg 4 l := by simp only [dg]; omega
    have e2 : dg 16 (List.replicate (k + 1) 3) = 3 + 2 ^ 4 * dg 16 (List.replicate k 3) := rfl
    have x := and3_16 (a + 4 * b) (by omega)
    rw [e, e2, fld 4 0 3 _ _ _ (by decide) (by omega) (by decide), fld 4 2 3 _ _ _ (by decide) (by omega) (by decide), x.1, x.2]
    simp only [pr, dg]
    rw [← ih]
    omega
theorem bc_3 : ∀ (k : Nat) (N : List Nat), N.length = 2 * k → (∀ d, d ∈ N → d ≤ 4) → ((dg 16 N + dg 16 N / 16) / 2 ^ 0 &&& dg 256 (List.replicate k 15)) = dg 256 (pr N) ∧ dg 16 N % 16 ≤ 4
  | 0, [], _, _ => by simp [dg, pr]
  | 0, _ :: _, h, _ => by simp at h
  | _ + 1, [], h, _ => by simp at h
  | _ + 1, [_], h, _ => by simp at h; omega
  | k + 1, a :: b :: l, h, hm => by
    obtain ⟨ih, il⟩ := bc_3 k l (by simp at h; omega) (fun d hd => hm d (List.mem_cons_of_mem _ (List.mem_cons_of_mem _ hd)))
    have ha := hm a List.mem_cons_self
    have hb := hm b (List.mem_cons_of_mem _ List.mem_cons_self)
    have e : dg 16 (a :: b :: l) + dg 16 (a :: b :: l) / 16 = (a + b + 16 * b + 16 * (dg 16 l % 16)) + 2 ^ 8 * (dg 16 l + dg 16 l / 16) := by simp only [dg]; omega
    have e2 : dg 256 (List.replicate (k + 1) 15) = 15 + 2 ^ 8 * dg 256 (List.replicate k 15) := rfl
    have x := and15_256 (a + b + 16 * b + 16 * (dg 16 l % 16)) (by omega)
    refine ⟨?_, by simp only [dg]; omega⟩
    rw [e, e2, fld 8 0 15 _ _ _ (by decide) (by omega) (by decide), x]
    have ih' := ih
    rw [Nat.pow_zero, Nat.div_one] at ih' ⊢
    rw [ih']
    simp only [pr, dg]
    omega
theorem bc_all (k n t A B C : Nat) (hn : n < 4 ^ (2 * (2 * k))) (ht : t = n / 2 ^ 1 &&& dg 4 (List.replicate (2 * (2 * k)) 1)) (hA : A = n - t) (hB : B = (A / 2 ^ 0 &&& dg 16 (List.replicate (2 * k) 3)) + (A / 2 ^ 2 &&& dg 16 (List.replicate (2 * k) 3))) (hC : C = ((B + B / 16) / 2 ^ 0 &&& dg 256 (List.replicate k 15))) : t ≤ n ∧ 15 * B + 4 ≤ 4 * 16 ^ (2 * k) ∧ ∃ c : List Nat, c.length = k ∧ (∀ d, d ∈ c → d ≤ 8) ∧ C = dg 256 c ∧ c.sum = xct (fun i => n.testBit i) (2 * (2 * (2 * k))) := by
  obtain ⟨P, h1, h2, h3, h4, h5⟩ := bc_1 (2 * (2 * k)) n hn
  rw [List.map_const', List.length_replicate, ← ht] at h3 h4
  rw [← hA] at h4
  have b2 := bc_2 (2 * k) P h1 h2
  rw [← h4, ← hB] at b2
  obtain ⟨p1, p2, p3⟩ := pr_s 2 (2 * k) P h1 h2
  have b3 := (bc_3 k (pr P) p1 p2).1
  rw [← b2, ← hC] at b3
  obtain ⟨q1, q2, q3⟩ := pr_s 4 k (pr P) p1 p2
  have bd := dg_bd 16 4 (by decide) (pr P) p2
  rw [← b2, p1] at bd
  exact ⟨h3, bd, pr (pr P), q1, q2, b3, by rw [q3, p3, h5]⟩
theorem bc32 {n t A B C D E : Nat} (hn : n < 4294967296) (ht : t = n / 2 ^ 1 &&& 1431655765) (hA : A = n - t) (hB : B = (A / 2 ^ 0 &&& 858993459) + (A / 2 ^ 2 &&& 858993459)) (hC : C = ((B + B / 16) / 2 ^ 0 &&& 252645135)) (hD : D = C + C / 256) (hE : E = D + D / 65536) : E % 64 = xct (fun i => n.testBit i) 32 ∧ t ≤ n ∧ B + B / 16 < 2147483648 ∧ C < 200000000 ∧ D < 300000000 ∧ E < 400000000 := by
  obtain ⟨h1, h2, c, h3, h4, h5, h6⟩ := bc_all 4 n t A B C hn ht hA hB hC
  rw [show 2 * (2 * (2 * 4)) = 32 from rfl] at h6
  rw [← h6]
  match c, h3 with
  | [c0, c1, c2, c3], _ =>
    simp only [List.mem_cons, List.not_mem_nil, or_false, forall_eq_or_imp, forall_eq] at h4
    simp only [dg, List.sum_cons, List.sum_nil] at h5 ⊢
    clear hA hB hC ht h6
    have hD2 : D = (c0 + c1) + 256 * (c1 + c2) + 65536 * (c2 + c3) + 16777216 * c3 := by omega
    have hC2 : C < 200000000 := by omega
    clear hD h5
    have hE2 : E = (c0 + c1 + c2 + c3) + 256 * (c1 + c2 + c3) + 65536 * (c2 + c3) + 16777216 * c3 := by omega
    have hDl : D < 300000000 := by omega
    clear hE hD2
    exact ⟨by omega, h1, by omega, hC2, hDl, by omega⟩
theorem bc64 {n t A B C D E G : Nat} (hn : n < 18446744073709551616) (ht : t = n / 2 ^ 1 &&& 6148914691236517205) (hA : A = n - t) (hB : B = (A / 2 ^ 0 &&& 3689348814741910323) + (A / 2 ^ 2 &&& 3689348814741910323)) (hC : C = ((B + B / 16) / 2 ^ 0 &&& 1085102592571150095)) (hD : D = C + C / 256) (hE : E = D + D / 65536) (hG : G = E + E / 4294967296) : G % 128 = xct (fun i => n.testBit i) 64 ∧ t ≤ n ∧ B + B / 16 < 9223372036854775808 ∧ C < 2000000000000000000 ∧ D < 3000000000000000000 ∧ E < 4000000000000000000 ∧ G < 5000000000000000000 := by
  obtain ⟨h1, h2, c, h3, h4, h5, h6⟩ := bc_all 8 n t A B C hn ht hA hB hC
  rw [show 2 * (2 * (2 * 8)) = 64 from rfl] at h6
  rw [← h6]
  match c, h3 with
  | [c0, c1, c2, c3, c4, c5, c6, c7], _ =>
    simp only [List.mem_cons, List.not_mem_nil, or_false, forall_eq_or_imp, forall_eq] at h4
    obtain ⟨x0, x1, x2, x3, x4, x5, x6, x7⟩ := h4
    simp only [dg, List.sum_cons, List.sum_nil] at h5 ⊢
    clear hA hB hC ht h6
    have hD2 : D = (c0 + c1) + 256 * (c1 + c2) + 65536 * (c2 + c3) + 16777216 * (c3 + c4) + 4294967296 * (c4 + c5) + 1099511627776 * (c5 + c6) + 281474976710656 * (c6 + c7) + 72057594037927936 * c7 := by omega
    have hC2 : C < 2000000000000000000 := by omega
    clear hD h5
    have hE2 : E = (c0 + c1 + c2 + c3) + 256 * (c1 + c2 + c3 + c4) + 65536 * (c2 + c3 + c4 + c5) + 16777216 * (c3 + c4 + c5 + c6) + 4294967296 * (c4 + c5 + c6 + c7) + 1099511627776 * (c5 + c6 + c7) + 281474976710656 * (c6 + c7) + 72057594037927936 * c7 := by omega
    have hDl : D < 3000000000000000000 := by omega
    clear hE hD2
    have hG2 : G = (c0 + c1 + c2 + c3 + c4 + c5 + c6 + c7) + 256 * (c1 + c2 + c3 + c4 + c5 + c6 + c7) + 65536 * (c2 + c3 + c4 + c5 + c6 + c7) + 16777216 * (c3 + c4 + c5 + c6 + c7) + 4294967296 * (c4 + c5 + c6 + c7) + 1099511627776 * (c5 + c6 + c7) + 281474976710656 * (c6 + c7) + 72057594037927936 * c7 - c7 * 0 := by omega
    have hEl : E < 4000000000000000000 := by omega
    clear hG hE2
    exact ⟨by omega, h1, by omega, hC2, hDl, hEl, by omega⟩
theorem xushr_nat {n k : Nat} (hn : n < 2147483648) (hk : k < 32) : xushr (n : Int) (k : Int) = ((n / 2 ^ k : Nat) : Int) := by
  rw [xushr_eq, Int.emod_eq_of_lt (a := (n : Int)) (by omega) (by omega), Int.emod_eq_of_lt (a := (k : Int)) (by omega) (by omega), Int.toNat_natCast]
  have b : (2 : Int) ^ k = ((2 ^ k : Nat) : Int) := by rw [Int.natCast_pow]; rfl
  have hl : n / 2 ^ k ≤ n := Nat.div_le_self _ _
  rw [b, ← Int.natCast_ediv]
  generalize n / 2 ^ k = y at hl ⊢
  exact xw32_id (by omega) (by omega)
theorem JI_bc {x : Int} (hx : 0 ≤ x ∧ x < 2147483648) (M : xM) : fJI_bitCount x M = xpc x := by
  obtain ⟨n, rfl⟩ := Int.eq_ofNat_of_zero_le hx.1
  have hn : n < 2147483648 := by omega
  obtain ⟨k1, k2, k3, k4, k5, k6⟩ := bc32 (n := n) (by omega) rfl rfl rfl rfl rfl rfl
  rw [xpc_nat (by omega)]
  unfold npc
  rw [← k1]
  clear k1
  unfold fJI_bitCount
  have c1 : (1431655765 : Int) = ((1431655765 : Nat) : Int) := rfl
  have c2 : (858993459 : Int) = ((858993459 : Nat) : Int) := rfl
  have c3 : (252645135 : Int) = ((252645135 : Nat) : Int) := rfl
  have u : ∀ m : Nat, m < 2147483648 → xushr (m : Int) 1 = ((m / 2 ^ 1 : Nat) : Int) ∧ xushr (m : Int) 2 = ((m / 2 ^ 2 : Nat) : Int) ∧ xushr (m : Int) 4 = ((m / 16 : Nat) : Int) ∧ xushr (m : Int) 8 = ((m / 256 : Nat) : Int) ∧ xushr (m : Int) 16 = ((m / 65536 : Nat) : Int) := fun m hm => ⟨xushr_nat (k := 1) hm (by decide), xushr_nat (k := 2) hm (by decide), xushr_nat (k := 4) hm (by decide), xushr_nat (k := 8) hm (by decide), xushr_nat (k := 16) hm (by decide)⟩
  have ad : ∀ a b : Nat, a + b < 2147483648 → xw32 ((a : Int) + (b : Int)) = ((a + b : Nat) : Int) := fun a b h => by rw [xw32_id (by omega) (by omega)]; rfl
  rw [c1, c2, c3, (u n hn).1, xand_nat (Nat.lt_of_le_of_lt (Nat.div_le_self _ _) hn) (by decide)]
  generalize ht : (n / 2 ^ 1 &&& 1431655765) = t at k2 k3 k4 k5 k6 ⊢
  have hA : xw32 ((n : Int) - (t : Int)) = ((n - t : Nat) : Int) := by rw [xw32_id (by omega) (by omega)]; omega
  rw [hA]
  generalize hAA : n - t = A at k3 k4 k5 k6 ⊢
  have a31 : A < 2147483648 := by omega
  have aq : A / 2 ^ 2 < 2147483648 := Nat.lt_of_le_of_lt (Nat.div_le_self _ _) a31
  have m1 : A &&& 858993459 ≤ 858993459 := Nat.and_le_right
  have m2 : A / 2 ^ 2 &&& 858993459 ≤ 858993459 := Nat.and_le_right
  simp only [Nat.pow_zero, Nat.div_one] at k3 k4 k5 k6 ⊢
  rw [(u A a31).2.1, xand_nat a31 (by decide), xand_nat aq (by decide), ad _ _ (by omega)]
  generalize hBB : (A &&& 858993459) + (A / 2 ^ 2 &&& 858993459) = B at k3 k4 k5 k6 ⊢
  have b31 : B < 2147483648 := by omega
  rw [(u B b31).2.2.1, ad _ _ k3, xand_nat k3 (by decide)]
  generalize hCC : (B + B / 16 &&& 252645135) = C at k4 k5 k6 ⊢
  have c31 : C < 2147483648 := by omega
  rw [(u C c31).2.2.2.1, ad _ _ (by omega)]
  generalize hDD : C + C / 256 = D at k5 k6 ⊢
  have d31 : D < 2147483648 := by omega
  rw [(u D d31).2.2.2.2, ad _ _ (by omega), xand_63]
  rfl
end
