/-! tokens of the tape, on both sides -/
noncomputable section
def ySp (P : Int → Prop) (f : Int → Int) (L n e : Int) : Prop := n ≤ e ∧ e ≤ L ∧ (∀ i : Int, n ≤ i → i < e → P (f i)) ∧ (e < L → ¬ P (f e))
theorem ySp_1 {P : Int → Prop} {f : Int → Int} {L n e e' : Int} (h : ySp P f L n e) (h' : ySp P f L n e') : e = e' := by
  have a := h.2.1
  have b := h'.2.1
  rcases Int.lt_trichotomy e e' with x | x | x
  · exact absurd (h'.2.2.1 e h.1 x) (h.2.2.2 (by omega))
  · exact x
  · exact absurd (h.2.2.1 e' h'.1 x) (h'.2.2.2 (by omega))
theorem ySp_s {P : Int → Prop} {f : Int → Int} {L n e : Int} (h : ySp P f L (n + 1) e) (p : P (f n)) : ySp P f L n e := by
  refine ⟨by have := h.1; omega, h.2.1, fun i i0 i1 => ?_, h.2.2.2⟩
  by_cases x : i = n
  · rw [x]; exact p
  · exact h.2.2.1 i (by omega) i1
theorem ySp_e {P : Int → Prop} {f : Int → Int} {L n : Int} (h : n ≤ L) (p : n < L → ¬ P (f n)) : ySp P f L n n := ⟨Int.le_refl _, h, fun i i0 i1 => absurd i1 (by omega), p⟩
def yBl (b : Int) : Prop := b = 32 ∨ b = 10
def yLt (b : Int) : Prop := 97 ≤ b ∧ b ≤ 122
def yDg (b : Int) : Prop := 48 ≤ b ∧ b ≤ 57
def ykd (b : Int) : Int := if 97 ≤ b ∧ b ≤ 122 then 1 else if 48 ≤ b ∧ b ≤ 57 then 2 else if b = 59 then 3 else 4
theorem ykd_1 (b : Int) : ykd b = 1 ↔ yLt b := by unfold ykd yLt; (repeat' split) <;> omega
theorem ykd_2 (b : Int) : ykd b = 2 ↔ yDg b := by unfold ykd yDg; (repeat' split) <;> omega
theorem ykd_rg (b : Int) : 1 ≤ ykd b ∧ ykd b ≤ 4 := by unfold ykd; (repeat' split) <;> omega
def yTk (f : Int → Int) (L n a e k : Int) : Prop := ySp yBl f L n a ∧ ((a = L ∧ e = a ∧ k = 0) ∨ (a < L ∧ k = ykd (f a) ∧ ((k = 1 ∧ ySp yLt f L a e) ∨ (k = 2 ∧ ySp yDg f L a e) ∨ (3 ≤ k ∧ e = a + 1))))
theorem yTk_1 {f : Int → Int} {L n a e k a' e' k' : Int} (h : yTk f L n a e k) (h' : yTk f L n a' e' k') : a = a' ∧ e = e' ∧ k = k' := by
  obtain ⟨p, q⟩ := h
  obtain ⟨p', q'⟩ := h'
  have ea := ySp_1 p p'
  subst ea
  refine ⟨rfl, ?_⟩
  rcases q with ⟨x, y, z⟩ | ⟨x, y, z⟩
  · rcases q' with ⟨x', y', z'⟩ | ⟨x', y', z'⟩
    · omega
    · omega
  · rcases q' with ⟨x', y', z'⟩ | ⟨x', y', z'⟩
    · omega
    · have ek : k = k' := by omega
      subst ek
      refine ⟨?_, rfl⟩
      rcases z with ⟨u, v⟩ | ⟨u, v⟩ | ⟨u, v⟩ <;> rcases z' with ⟨u', v'⟩ | ⟨u', v'⟩ | ⟨u', v'⟩ <;> first | exact ySp_1 v v' | omega
theorem yTk_rg {f : Int → Int} {L n a e k : Int} (h : yTk f L n a e k) : n ≤ a ∧ a ≤ e ∧ e ≤ L ∧ (k ≠ 0 → a < e) ∧ 0 ≤ k ∧ k ≤ 4 := by
  obtain ⟨p, q⟩ := h
  have p1 := p.1
  have p2 := p.2.1
  rcases q with ⟨x, y, z⟩ | ⟨x, y, z⟩
  · omega
  · have r := ykd_rg (f a)
    rcases z with ⟨u, v⟩ | ⟨u, v⟩ | ⟨u, v⟩
    · have v1 := v.1
      have v2 := v.2.1
      by_cases w : e = a
      · subst w
        exact absurd ((ykd_1 _).mp (by omega)) (v.2.2.2 x)
      · omega
    · have v1 := v.1
      have v2 := v.2.1
      by_cases w : e = a
      · subst w
        exact absurd ((ykd_2 _).mp (by omega)) (v.2.2.2 x)
      · omega
    · omega
/-! numbers and words -/
def yvl (f : Int → Int) (a : Int) : Nat → Int
  | 0 => 0
  | n + 1 => if 100000 < yvl f a n then 1000000 else 10 * yvl f a n + f (a + n) - 48
def ycv (r : Int) : Int := if r < 1000 then r else 1000
theorem yvl_rg {f : Int → Int} {a : Int} : ∀ n : Nat, (∀ i : Int, a ≤ i → i < a + n → yDg (f i)) → 0 ≤ yvl f a n ∧ yvl f a n ≤ 1000009
  | 0, _ => by unfold yvl; decide
  | n + 1, h => by
    have ih := yvl_rg n (fun i i0 i1 => h i i0 (by omega))
    have d := h (a + n) (by omega) (by omega)
    unfold yDg at d
    unfold yvl
    split <;> omega
def yrl (f : Int → Int) (a : Int) : Nat → List Int
  | 0 => []
  | n + 1 => f (a + n) :: yrl f a n
def yD : List Int → Int
  | [] => 0
  | c :: l => 27 * yD l + (c - 96)
def ywd (f : Int → Int) (a : Int) (n : Nat) : Int := if n ≤ 12 then yD (yrl f a n) else -1
theorem yrl_len (f : Int → Int) (a : Int) : ∀ n : Nat, (yrl f a n).length = n
  | 0 => rfl
  | n + 1 => by unfold yrl; rw [List.length_cons, yrl_len f a n]
theorem yrl_mem {f : Int → Int} {a : Int} {c : Int} : ∀ n : Nat, c ∈ yrl f a n → ∃ i : Int, a ≤ i ∧ i < a + n ∧ c = f i
  | 0, h => by unfold yrl at h; cases h
  | n + 1, h => by
    unfold yrl at h
    rcases List.mem_cons.mp h with x | x
    · exact ⟨a + n, by omega, by omega, x⟩
    · obtain ⟨i, i0, i1, i2⟩ := yrl_mem n x
      exact ⟨i, i0, by omega, i2⟩
theorem yD_rg : ∀ l : List Int, (∀ c : Int, c ∈ l → yLt c) → 0 ≤ yD l ∧ yD l < 27 ^ l.length
  | [], _ => by unfold yD; exact ⟨by decide, by decide⟩
  | c :: l, h => by
    have ih := yD_rg l (fun x hx => h x (List.mem_cons_of_mem _ hx))
    have d := h c List.mem_cons_self
    unfold yLt at d
    unfold yD
    rw [List.length_cons, Int.pow_succ]
    omega
theorem yD_inj : ∀ l l' : List Int, (∀ c : Int, c ∈ l → yLt c) → (∀ c : Int, c ∈ l' → yLt c) → yD l = yD l' → l = l'
  | [], [], _, _, _ => rfl
  | [], c :: l, _, h, e => by
    have ih := yD_rg l (fun x hx => h x (List.mem_cons_of_mem _ hx))
    have d := h c List.mem_cons_self
    unfold yLt at d
    unfold yD at e
    omega
  | c :: l, [], h, _, e => by
    have ih := yD_rg l (fun x hx => h x (List.mem_cons_of_mem _ hx))
    have d := h c List.mem_cons_self
    unfold yLt at d
    rw [yD, yD] at e
    omega
  | c :: l, c' :: l', h, h', e => by
    have d := h c List.mem_cons_self
    have d' := h' c' List.mem_cons_self
    unfold yLt at d d'
    rw [yD, yD] at e
    have e1 : c = c' := by omega
    have e2 := yD_inj l l' (fun x hx => h x (List.mem_cons_of_mem _ hx)) (fun x hx => h' x (List.mem_cons_of_mem _ hx)) (by omega)
    rw [e1, e2]
theorem ygetD_l : ∀ (l r : List Int) (i : Nat), i < l.length → (l ++ r).getD i 0 = l.getD i 0
  | [], _, _, h => absurd h (Nat.not_lt_zero _)
  | _ :: _, _, 0, _ => rfl
  | _ :: l, r, i + 1, h => ygetD_l l r i (by rw [List.length_cons] at h; omega)
theorem ygetD_r : ∀ (l : List Int) (c : Int), (l ++ [c]).getD l.length 0 = c
  | [], _ => rfl
  | _ :: l, c => ygetD_r l c
theorem yrl_iff {f : Int → Int} {a : Int} : ∀ r : List Int, yrl f a r.length = r ↔ ∀ i : Nat, i < r.length → f (a + i) = r.reverse.getD i 0
  | [] => ⟨fun _ i h => absurd h (Nat.not_lt_zero _), fun _ => rfl⟩
  | c :: r => by
    have ih := yrl_iff (f := f) (a := a) r
    have lr : r.reverse.length = r.length := List.length_reverse
    rw [List.length_cons, yrl, List.reverse_cons]
    constructor
    · intro e i hi
      have e1 := (List.cons.inj e).1
      have e2 := ih.mp (List.cons.inj e).2
      by_cases x : i < r.length
      · rw [ygetD_l _ _ i (by omega)]; exact e2 i x
      · have xi : i = r.length := by omega
        rw [xi, ← lr, ygetD_r, lr]; exact e1
    · intro h
      have h1 := h r.length (by omega)
      rw [← lr, ygetD_r, lr] at h1
      rw [h1, ih.mpr (fun i hi => by rw [← ygetD_l _ [c] i (by omega)]; exact h i (by omega))]
/-! the class: a token more -/
theorem sortOf_s (b : Int) (M : xM) : fReader_sortOf b M = ykd b := by unfold fReader_sortOf ykd; (repeat' split) <;> omega
theorem advW_L {f : Int → Int} {L : Int} (hL : L ≤ 1600) : ∀ (n g : Nat) (i : Int) (m : xM), n < g → i + n = L → 0 ≤ i → 1 ≤ n → yLt (f i) → m 2 3 = i → m 2 4 = 1 → m 3 1 = L → m 4 = f → xP (fReader_advance_L143 g 2 1 m) (fun m' => ∃ e, ySp yLt f L i e ∧ m' 2 3 = e ∧ (∀ a : Int, a ≠ 2 → m' a = m a) ∧ (∀ j : Int, j ≠ 3 → m' 2 j = m 2 j))
  | _, 0, _, _, hg, _, _, _, _, _, _, _, _ => absurd hg (Nat.not_lt_zero _)
  | 0, g + 1, i, m, _, _, _, h1, _, _, _, _, _ => absurd h1 (by omega)
  | n + 1, g + 1, i, m, hg, hi, i0, _, hl, h3, h4, hT, hf => by
    rw [fReader_advance_L143, h4, if_neg (show ¬ (1 : Int) = 2 by decide), if_neg (show ¬ (1 : Int) = 0 by decide), h3, xw32_id (x := i + 1) (by omega) (by omega)]
    have q3 : (xwr m 2 3 (i + 1)) 2 3 = i + 1 := xwr_s _ _ _ _
    have q4 : (xwr m 2 3 (i + 1)) 2 4 = 1 := by rw [xwr_n _ (by decide)]; exact h4
    have qT : (xwr m 2 3 (i + 1)) (2 + 1) 1 = L := by rw [xwr_n _ (by decide)]; exact hT
    have qf : (xwr m 2 3 (i + 1)) (2 + 1 + 1) = f := by rw [xwr_a _ (by decide)]; exact hf
    have qa : ∀ a : Int, a ≠ 2 → (xwr m 2 3 (i + 1)) a = m a := fun a ha => xwr_a _ ha
    have qj : ∀ j : Int, j ≠ 3 → (xwr m 2 3 (i + 1)) 2 j = m 2 j := fun j hj => xwr_n _ (fun x => hj x.2)
    generalize xwr m 2 3 (i + 1) = m1 at *
    have stop : ∀ x : i + 1 < L → ¬ yLt (f (i + 1)), xP (some m1) (fun m' => ∃ e, ySp yLt f L i e ∧ m' 2 3 = e ∧ (∀ a : Int, a ≠ 2 → m' a = m a) ∧ (∀ j : Int, j ≠ 3 → m' 2 j = m 2 j)) := fun x => xP_some ⟨i + 1, ySp_s (ySp_e (by omega) x) hl, q3, qa, qj⟩
    rw [q3, qT]
    by_cases x : i + 1 < L
    · rw [if_pos x, xA_p (by omega), qf, sortOf_s, q4]
      by_cases y : ykd (f (i + 1)) = 1
      · rw [if_pos y]
        refine xP_mono (advW_L (f := f) hL n g (i + 1) m1 (by omega) (by omega) (by omega) (by omega) ((ykd_1 _).mp y) q3 q4 qT qf) ?_
        rintro m' ⟨e, e1, e2, e3, e4⟩
        exact ⟨e, ySp_s e1 hl, e2, fun a ha => (e3 a ha).trans (qa a ha), fun j hj => (e4 j hj).trans (qj j hj)⟩
      · rw [if_neg y]
        exact stop (fun _ z => y ((ykd_1 _).mpr z))
    · rw [if_neg x]
      exact stop (fun z => absurd z x)
theorem advN_L {f : Int → Int} {L a0 : Int} (hL : L ≤ 1600) : ∀ (n g k : Nat) (i : Int) (m : xM), n < g → i + n = L → 0 ≤ i → 1 ≤ n → i = a0 + k → (∀ j : Int, a0 ≤ j → j < i → yDg (f j)) → yDg (f i) → m 2 3 = i → m 2 4 = 2 → m 2 5 = ycv (yvl f a0 k) → m 3 1 = L → m 4 = f → xP (fReader_advance_L143 g 2 1 m) (fun m' => ∃ e, ySp yDg f L i e ∧ m' 2 3 = e ∧ m' 2 5 = ycv (yvl f a0 (e - a0).toNat) ∧ (∀ a : Int, a ≠ 2 → m' a = m a) ∧ (∀ j : Int, j ≠ 3 → j ≠ 5 → m' 2 j = m 2 j))
  | _, 0, _, _, _, hg, _, _, _, _, _, _, _, _, _, _, _ => absurd hg (Nat.not_lt_zero _)
  | 0, g + 1, _, i, m, _, _, _, h1, _, _, _, _, _, _, _, _ => absurd h1 (by omega)
  | n + 1, g + 1, k, i, m, hg, hi, i0, _, hk, hd, hl, h3, h4, h5, hT, hf => by
    have r := yvl_rg (f := f) (a := a0) k (fun j j0 j1 => hd j j0 (by omega))
    have dl := hl
    unfold yDg at dl
    have rc : 0 ≤ ycv (yvl f a0 k) ∧ ycv (yvl f a0 k) ≤ 1000 := by unfold ycv; split <;> omega
    have e5 : fJM_min 1000 (10 * ycv (yvl f a0 k) + f i - 48) m = ycv (yvl f a0 (k + 1)) := by
      rw [yvl, ← hk]
      unfold fJM_min ycv
      (repeat' split) <;> omega
    rw [fReader_advance_L143, h4, if_pos (show (2 : Int) = 2 from rfl), xA_p (by omega), fReader_advance_L184, if_neg (show ¬ (1 : Int) = 0 by decide), h3, h5, show m (2 + 1 + 1) = f from hf, xw32_id (x := 10 * ycv (yvl f a0 k)) (by omega) (by omega), xw32_id (x := 10 * ycv (yvl f a0 k) + f i) (by omega) (by omega), xw32_id (x := 10 * ycv (yvl f a0 k) + f i - 48) (by omega) (by omega), e5]
    rw [show (xwr m 2 5 (ycv (yvl f a0 (k + 1)))) 2 3 = i by rw [xwr_n _ (by decide)]; exact h3, xw32_id (x := i + 1) (by omega) (by omega)]
    have q3 : (xwr (xwr m 2 5 (ycv (yvl f a0 (k + 1)))) 2 3 (i + 1)) 2 3 = i + 1 := xwr_s _ _ _ _
    have q4 : (xwr (xwr m 2 5 (ycv (yvl f a0 (k + 1)))) 2 3 (i + 1)) 2 4 = 2 := by rw [xwr_n _ (by decide), xwr_n _ (by decide)]; exact h4
    have q5 : (xwr (xwr m 2 5 (ycv (yvl f a0 (k + 1)))) 2 3 (i + 1)) 2 5 = ycv (yvl f a0 (k + 1)) := by rw [xwr_n _ (by decide), xwr_s]
    have qT : (xwr (xwr m 2 5 (ycv (yvl f a0 (k + 1)))) 2 3 (i + 1)) (2 + 1) 1 = L := by rw [xwr_n _ (by decide), xwr_n _ (by decide)]; exact hT
    have qf : (xwr (xwr m 2 5 (ycv (yvl f a0 (k + 1)))) 2 3 (i + 1)) (2 + 1 + 1) = f := by rw [xwr_a _ (by decide), xwr_a _ (by decide)]; exact hf
    have qa : ∀ a : Int, a ≠ 2 → (xwr (xwr m 2 5 (ycv (yvl f a0 (k + 1)))) 2 3 (i + 1)) a = m a := fun a ha => by rw [xwr_a _ ha, xwr_a _ ha]
    have qj : ∀ j : Int, j ≠ 3 → j ≠ 5 → (xwr (xwr m 2 5 (ycv (yvl f a0 (k + 1)))) 2 3 (i + 1)) 2 j = m 2 j := fun j hj hj5 => by rw [xwr_n _ (fun x => hj x.2), xwr_n _ (fun x => hj5 x.2)]
    generalize xwr (xwr m 2 5 (ycv (yvl f a0 (k + 1)))) 2 3 (i + 1) = m1 at *
    have stop : ∀ x : i + 1 < L → ¬ yDg (f (i + 1)), xP (some m1) (fun m' => ∃ e, ySp yDg f L i e ∧ m' 2 3 = e ∧ m' 2 5 = ycv (yvl f a0 (e - a0).toNat) ∧ (∀ a : Int, a ≠ 2 → m' a = m a) ∧ (∀ j : Int, j ≠ 3 → j ≠ 5 → m' 2 j = m 2 j)) := fun x => xP_some ⟨i + 1, ySp_s (ySp_e (by omega) x) hl, q3, by rw [q5, show (i + 1 - a0).toNat = k + 1 by omega], qa, qj⟩
    rw [q3, qT]
    by_cases x : i + 1 < L
    · rw [if_pos x, xA_p (by omega), qf, sortOf_s, q4]
      by_cases y : ykd (f (i + 1)) = 2
      · rw [if_pos y]
        refine xP_mono (advN_L (f := f) hL n g (k + 1) (i + 1) m1 (by omega) (by omega) (by omega) (by omega) (by omega) (fun j j0 j1 => ?_) ((ykd_2 _).mp y) q3 q4 q5 qT qf) ?_
        · by_cases z : j = i
          · rw [z]; exact hl
          · exact hd j j0 (by omega)
        · rintro m' ⟨e, e1, e2, e5', e3, e4⟩
          exact ⟨e, ySp_s e1 hl, e2, e5', fun a ha => (e3 a ha).trans (qa a ha), fun j hj hj5 => (e4 j hj hj5).trans (qj j hj hj5)⟩
      · rw [if_neg y]
        exact stop (fun _ z => y ((ykd_2 _).mpr z))
    · rw [if_neg x]
      exact stop (fun z => absurd z x)
/-- what the class's reader comes to -/
def yAc (f : Int → Int) (L n : Int) (m m' : xM) : Prop := ∃ a e k : Int, yTk f L n a e k ∧ (m' 2 2 = a ∧ m' 2 3 = e ∧ m' 2 4 = k) ∧ (k = 2 → m' 2 5 = ycv (yvl f a (e - a).toNat)) ∧ (∀ x : Int, x ≠ 2 → m' x = m x) ∧ (∀ j : Int, (j < 2 ∨ 5 < j) → m' 2 j = m 2 j)
theorem advT {f : Int → Int} {L n i : Int} {m m2 : xM} (hL : L ≤ 1600) (hs : ySp yBl f L n i) (i0 : 0 ≤ i) (h2 : m2 2 2 = i) (h3 : m2 2 3 = i) (h5 : m2 2 5 = 0) (hT : m2 3 1 = L) (hf : m2 4 = f) (ha : ∀ x : Int, x ≠ 2 → m2 x = m x) (hj : ∀ j : Int, (j < 2 ∨ 5 < j) → m2 2 j = m 2 j) : xP (if (m2 2 2) < (m2 (2 + 1) 1) then (xA (0 ≤ (m2 2 2) ∧ (m2 2 2) < 1600) (fReader_advance_L143 20001 2 (if ((xwr m2 2 4 (fReader_sortOf (m2 ((2 + 1) + 1) (m2 2 2)) m2)) 2 4) = 1 then 1 else (if ((xwr m2 2 4 (fReader_sortOf (m2 ((2 + 1) + 1) (m2 2 2)) m2)) 2 4) = 2 then 1 else 0 : Int) : Int) (xwr m2 2 4 (fReader_sortOf (m2 ((2 + 1) + 1) (m2 2 2)) m2)))) else (some (xwr m2 2 4 0))) (yAc f L n m) := by
  have il := hs.2.1
  rw [h2, show m2 (2 + 1) 1 = L from hT, show m2 (2 + 1 + 1) = f from hf, sortOf_s, xwr_s]
  by_cases x : i < L
  · rw [if_pos x, xA_p (by omega)]
    have q3 : (xwr m2 2 4 (ykd (f i))) 2 3 = i := by rw [xwr_n _ (by decide)]; exact h3
    have q2 : (xwr m2 2 4 (ykd (f i))) 2 2 = i := by rw [xwr_n _ (by decide)]; exact h2
    have q5 : (xwr m2 2 4 (ykd (f i))) 2 5 = 0 := by rw [xwr_n _ (by decide)]; exact h5
    have q4 : (xwr m2 2 4 (ykd (f i))) 2 4 = ykd (f i) := xwr_s _ _ _ _
    have qT : (xwr m2 2 4 (ykd (f i))) 3 1 = L := by rw [xwr_n _ (by decide)]; exact hT
    have qf : (xwr m2 2 4 (ykd (f i))) 4 = f := by rw [xwr_a _ (by decide)]; exact hf
    have qa : ∀ a : Int, a ≠ 2 → (xwr m2 2 4 (ykd (f i))) a = m a := fun a h => by rw [xwr_a _ h]; exact ha a h
    have qj : ∀ j : Int, (j < 2 ∨ 5 < j) → (xwr m2 2 4 (ykd (f i))) 2 j = m 2 j := fun j h => by rw [xwr_n _ (by omega)]; exact hj j h
    generalize xwr m2 2 4 (ykd (f i)) = m3 at *
    by_cases k1 : ykd (f i) = 1
    · rw [if_pos k1]
      refine xP_mono (advW_L (f := f) (L := L) hL (L - i).toNat 20001 i m3 (by omega) (by omega) i0 (by omega) ((ykd_1 _).mp k1) q3 (by rw [q4]; exact k1) qT qf) ?_
      rintro m' ⟨e, e1, e2, e3, e4⟩
      exact ⟨i, e, 1, ⟨hs, Or.inr ⟨x, k1.symm, Or.inl ⟨rfl, e1⟩⟩⟩, ⟨by rw [e4 2 (by decide)]; exact q2, e2, by rw [e4 4 (by decide), q4]; exact k1⟩, fun z => absurd z (by decide), fun a h => (e3 a h).trans (qa a h), fun j h => (e4 j (by omega)).trans (qj j h)⟩
    · rw [if_neg k1]
      by_cases k2 : ykd (f i) = 2
      · rw [if_pos k2]
        refine xP_mono (advN_L (f := f) (L := L) (a0 := i) hL (L - i).toNat 20001 0 i m3 (by omega) (by omega) i0 (by omega) (by omega) (fun j j0 j1 => absurd j1 (by omega)) ((ykd_2 _).mp k2) q3 (by rw [q4]; exact k2) (by rw [q5]; rfl) qT qf) ?_
        rintro m' ⟨e, e1, e2, e5, e3, e4⟩
        exact ⟨i, e, 2, ⟨hs, Or.inr ⟨x, k2.symm, Or.inr (Or.inl ⟨rfl, e1⟩)⟩⟩, ⟨by rw [e4 2 (by decide) (by decide)]; exact q2, e2, by rw [e4 4 (by decide) (by decide), q4]; exact k2⟩, fun _ => e5, fun a h => (e3 a h).trans (qa a h), fun j h => (e4 j (by omega) (by omega)).trans (qj j h)⟩
      · have kr := ykd_rg (f i)
        rw [if_neg k2, fReader_advance_L143, q4, if_neg k2, if_pos (show (0 : Int) = 0 from rfl), q3, xw32_id (by omega) (by omega)]
        refine xP_some ⟨i, i + 1, ykd (f i), ⟨hs, Or.inr ⟨x, rfl, Or.inr (Or.inr ⟨by omega, rfl⟩)⟩⟩, ⟨by rw [xwr_n _ (by decide)]; exact q2, xwr_s _ _ _ _, by rw [xwr_n _ (by decide)]; exact q4⟩, fun z => absurd z k2, fun a h => ?_, fun j h => ?_⟩
        · rw [xwr_a _ h]; exact qa a h
        · rw [xwr_n _ (by omega)]; exact qj j h
  · rw [if_neg x]
    have e : i = L := by omega
    refine xP_some ⟨i, i, 0, ⟨hs, Or.inl ⟨e, rfl, rfl⟩⟩, ⟨by rw [xwr_n _ (by decide)]; exact h2, by rw [xwr_n _ (by decide)]; exact h3, xwr_s _ _ _ _⟩, fun z => absurd z (by decide), fun a h => ?_, fun j h => ?_⟩
    · rw [xwr_a _ h]; exact ha a h
    · rw [xwr_n _ (by omega)]; exact hj j h
theorem adv_L {f : Int → Int} {L : Int} (hL : L ≤ 1600) : ∀ (n g : Nat) (i : Int) (m : xM), n < g → i + n = L → 0 ≤ i → m 2 3 = i → m 3 1 = L → m 4 = f → xP (fReader_advance_L8 g 2 m) (yAc f L i m)
  | _, 0, _, _, hg, _, _, _, _, _ => absurd hg (Nat.not_lt_zero _)
  | n, g + 1, i, m, hg, hi, i0, h3, hT, hf => by
    rw [fReader_advance_L8, h3, show m (2 + 1) 1 = L from hT, show m (2 + 1 + 1) = f from hf]
    have tail : (i < L → ¬ yBl (f i)) → xP _ (yAc f L i m) := fun hb => advT (m := m) (m2 := xwr (xwr m 2 2 i) 2 5 0) hL (ySp_e (by omega) hb) i0 (by rw [xwr_n _ (by decide), xwr_s]) (by rw [xwr_n _ (by decide), xwr_n _ (by decide)]; exact h3) (xwr_s _ _ _ _) (by rw [xwr_n _ (by decide), xwr_n _ (by decide)]; exact hT) (by rw [xwr_a _ (by decide), xwr_a _ (by decide)]; exact hf) (fun x hx => by rw [xwr_a _ hx, xwr_a _ hx]) (fun j hj => by rw [xwr_n _ (by omega), xwr_n _ (by omega)])
    by_cases x : i < L
    · obtain ⟨n', rfl⟩ : ∃ n', n = n' + 1 := ⟨n - 1, by omega⟩
      have next : yBl (f i) → xP (fReader_advance_L8 g 2 (xwr m 2 3 (xw32 (i + 1)))) (yAc f L i m) := fun hb => by
        rw [xw32_id (by omega) (by omega)]
        refine xP_mono (adv_L (f := f) hL n' g (i + 1) _ (by omega) (by omega) (by omega) (xwr_s _ _ _ _) (by rw [xwr_n _ (by decide)]; exact hT) (by rw [xwr_a _ (by decide)]; exact hf)) ?_
        rintro m' ⟨a, e, k, p1, p2, p3, p4, p5⟩
        exact ⟨a, e, k, ⟨ySp_s p1.1 hb, p1.2⟩, p2, p3, fun y hy => by rw [p4 y hy, xwr_a _ hy], fun j hj => by rw [p5 j hj, xwr_n _ (by omega)]⟩
      rw [if_pos x, xA_p (by omega), xA_p (by omega)]
      by_cases b1 : f i = 32
      · rw [if_pos b1]; exact next (Or.inl b1)
      · rw [if_neg b1]
        by_cases b2 : f i = 10
        · rw [if_pos b2]; exact next (Or.inr b2)
        · rw [if_neg b2]
          exact tail (fun _ z => z.elim b1 b2)
    · rw [if_neg x]
      exact tail (fun z => absurd z x)
theorem adv_c {f : Int → Int} {L n : Int} {m : xM} (hL : L ≤ 1600) (h7 : m 2 7 = 0) (n0 : 0 ≤ n) (n1 : n ≤ L) (h3 : m 2 3 = n) (hT : m 3 1 = L) (hf : m 4 = f) : xP (fReader_advance 2 m) (yAc f L n m) := by
  unfold fReader_advance
  rw [if_pos h7]
  exact adv_L hL (L - n).toNat 20001 n m (by omega) (by omega) n0 h3 hT hf
/-! the reference: a token more -/
theorem isByte_s {f : Int → Int} {L i lo hi : Int} {m : xM} (hL : L ≤ 1600) (i0 : 0 ≤ i) (hT : m 310 6 = L) (hf : ∀ j : Int, 0 ≤ j → j < 1600 → m 315 j = f j) : fQ_isByte 310 i lo hi m = some (if i < L ∧ lo ≤ f i ∧ f i ≤ hi then 1 else 0) := by
  unfold fQ_isByte
  rw [hT]
  by_cases x : i < L
  · rw [if_pos x, xA_p (by omega), xA_p (by omega), show m (310 + 5) i = f i from hf i i0 (by omega)]
    (repeat' split) <;> first | rfl | (exfalso; omega) | (congr 1; omega)
  · rw [if_neg x, if_neg (fun z => x z.1)]
theorem y27 : ∀ n : Nat, n ≤ 11 → (27 : Int) ^ n ≤ 5559060566555523 := by decide
theorem nextW_L {f : Int → Int} {L a0 : Int} (hL : L ≤ 1600) (a00 : 0 ≤ a0) : ∀ (n g k : Nat) (i : Int) (m : xM), n < g → i + n = L → i = a0 + k → (∀ j : Int, a0 ≤ j → j < i → yLt (f j)) → m 310 7 = i → m 310 11 = ywd f a0 k → m 310 6 = L → (∀ j : Int, 0 ≤ j → j < 1600 → m 315 j = f j) → xP (fQ_next_L102 g 310 (k : Int) m) (fun m' => ∃ e, ySp yLt f L i e ∧ m' 310 7 = e ∧ m' 310 11 = ywd f a0 (e - a0).toNat ∧ (∀ a : Int, a ≠ 310 → m' a = m a) ∧ (∀ j : Int, j ≠ 7 → j ≠ 11 → m' 310 j = m 310 j))
  | _, 0, _, _, _, hg, _, _, _, _, _, _, _ => absurd hg (Nat.not_lt_zero _)
  | n, g + 1, k, i, m, hg, hi, hk, hd, h7, h11, hT, hf => by
    rw [fQ_next_L102, h7, isByte_s hL (by omega) hT hf, xB_s]
    by_cases x : i < L ∧ 97 ≤ f i ∧ f i ≤ 122
    · obtain ⟨n', rfl⟩ : ∃ n', n = n' + 1 := ⟨n - 1, by omega⟩
      have lt : yLt (f i) := x.2
      have go : ∀ v : Int, v = ywd f a0 (k + 1) → ∀ m1 : xM, m1 310 7 = i + 1 → m1 310 11 = v → (∀ a : Int, a ≠ 310 → m1 a = m a) → (∀ j : Int, j ≠ 7 → j ≠ 11 → m1 310 j = m 310 j) → xP (fQ_next_L102 g 310 ((k : Int) + 1) m1) (fun m' => ∃ e, ySp yLt f L i e ∧ m' 310 7 = e ∧ m' 310 11 = ywd f a0 (e - a0).toNat ∧ (∀ a : Int, a ≠ 310 → m' a = m a) ∧ (∀ j : Int, j ≠ 7 → j ≠ 11 → m' 310 j = m 310 j)) := fun v hv m1 z7 z11 za zj => by
        refine xP_mono (nextW_L (f := f) hL a00 n' g (k + 1) (i + 1) m1 (by omega) (by omega) (by omega) (fun j j0 j1 => ?_) z7 (by rw [z11, hv]) (by rw [zj 6 (by decide) (by decide)]; exact hT) (fun j j0 j1 => by rw [za 315 (by decide)]; exact hf j j0 j1)) ?_
        · by_cases z : j = i
          · rw [z]; exact lt
          · exact hd j j0 (by omega)
        · rintro m' ⟨e, e1, e2, e3, e4, e5⟩
          exact ⟨e, ySp_s e1 lt, e2, e3, fun a ha => (e4 a ha).trans (za a ha), fun j hj hj2 => (e5 j hj hj2).trans (zj j hj hj2)⟩
      rw [if_neg (by rw [if_pos x]; decide)]
      by_cases y : 11 < (k : Int)
      · rw [if_pos y]
        unfold fQ_next_L153
        rw [if_pos y, xw32_id (x := (k : Int) + 1) (by omega) (by omega), xwr_n _ (by decide), xwr_n _ (by decide), h7, xw32_id (x := i + 1) (by omega) (by omega)]
        exact go (-1) (by unfold ywd; rw [if_neg (by omega)]) _ (xwr_s _ _ _ _) (by rw [xwr_n _ (by decide), xwr_s]) (fun a ha => by rw [xwr_a _ ha, xwr_a _ ha, xwr_a _ ha]) (fun j hj hj2 => by rw [xwr_n _ (by omega), xwr_n _ (by omega), xwr_n _ (by omega)])
      · have mem : ∀ c : Int, c ∈ yrl f a0 k → yLt c := fun c hc => by
          obtain ⟨j, j0, j1, rfl⟩ := yrl_mem k hc
          exact hd j j0 (by omega)
        have rg := yD_rg _ mem
        rw [yrl_len] at rg
        have p27 := y27 k (by omega)
        have hw : ywd f a0 k = yD (yrl f a0 k) := by unfold ywd; rw [if_pos (by omega)]
        rw [if_neg y, xA_p (by omega), h11, hw, show m (310 + 5) i = f i from hf i (by omega) (by omega), xw64_id (x := 27 * yD (yrl f a0 k)) (by omega) (by omega), xw64_id (x := 27 * yD (yrl f a0 k) + f i) (by omega) (by omega), xw64_id (x := 27 * yD (yrl f a0 k) + f i - 96) (by omega) (by omega)]
        unfold fQ_next_L153
        rw [if_neg y, xw32_id (x := (k : Int) + 1) (by omega) (by omega), xwr_n _ (by decide), h7, xw32_id (x := i + 1) (by omega) (by omega)]
        refine go (27 * yD (yrl f a0 k) + f i - 96) ?_ _ (xwr_s _ _ _ _) (by rw [xwr_n _ (by decide), xwr_s]) (fun a ha => by rw [xwr_a _ ha, xwr_a _ ha]) (fun j hj hj2 => by rw [xwr_n _ (by omega), xwr_n _ (by omega)])
        unfold ywd
        rw [if_pos (by omega), yrl, yD, ← hk]
        omega
    · rw [if_pos (by rw [if_neg x])]
      refine xP_some ⟨i, ySp_e (by omega) (fun h z => x ⟨h, z⟩), h7, by rw [h11, show (i - a0).toNat = k by omega], fun _ _ => rfl, fun _ _ _ => rfl⟩
theorem nextN_L {f : Int → Int} {L a0 : Int} (hL : L ≤ 1600) (a00 : 0 ≤ a0) : ∀ (n g k : Nat) (i : Int) (m : xM), n < g → i + n = L → i = a0 + k → (∀ j : Int, a0 ≤ j → j < i → yDg (f j)) → m 310 7 = i → m 310 10 = yvl f a0 k → m 310 6 = L → (∀ j : Int, 0 ≤ j → j < 1600 → m 315 j = f j) → xP (fQ_next_L208 g 310 m) (fun m' => ∃ e, ySp yDg f L i e ∧ m' 310 7 = e ∧ m' 310 10 = yvl f a0 (e - a0).toNat ∧ (∀ a : Int, a ≠ 310 → m' a = m a) ∧ (∀ j : Int, j ≠ 7 → j ≠ 10 → m' 310 j = m 310 j))
  | _, 0, _, _, _, hg, _, _, _, _, _, _, _ => absurd hg (Nat.not_lt_zero _)
  | n, g + 1, k, i, m, hg, hi, hk, hd, h7, h10, hT, hf => by
    rw [fQ_next_L208, h7, isByte_s hL (by omega) hT hf, xB_s]
    by_cases x : i < L ∧ 48 ≤ f i ∧ f i ≤ 57
    · obtain ⟨n', rfl⟩ : ∃ n', n = n' + 1 := ⟨n - 1, by omega⟩
      have lt : yDg (f i) := x.2
      have r := yvl_rg (f := f) (a := a0) k (fun j j0 j1 => hd j j0 (by omega))
      have go : ∀ v : Int, v = yvl f a0 (k + 1) → ∀ m1 : xM, m1 310 7 = i + 1 → m1 310 10 = v → (∀ a : Int, a ≠ 310 → m1 a = m a) → (∀ j : Int, j ≠ 7 → j ≠ 10 → m1 310 j = m 310 j) → xP (fQ_next_L208 g 310 m1) (fun m' => ∃ e, ySp yDg f L i e ∧ m' 310 7 = e ∧ m' 310 10 = yvl f a0 (e - a0).toNat ∧ (∀ a : Int, a ≠ 310 → m' a = m a) ∧ (∀ j : Int, j ≠ 7 → j ≠ 10 → m' 310 j = m 310 j)) := fun v hv m1 z7 z10 za zj => by
        refine xP_mono (nextN_L (f := f) hL a00 n' g (k + 1) (i + 1) m1 (by omega) (by omega) (by omega) (fun j j0 j1 => ?_) z7 (by rw [z10, hv]) (by rw [zj 6 (by decide) (by decide)]; exact hT) (fun j j0 j1 => by rw [za 315 (by decide)]; exact hf j j0 j1)) ?_
        · by_cases z : j = i
          · rw [z]; exact lt
          · exact hd j j0 (by omega)
        · rintro m' ⟨e, e1, e2, e3, e4, e5⟩
          exact ⟨e, ySp_s e1 lt, e2, e3, fun a ha => (e4 a ha).trans (za a ha), fun j hj hj2 => (e5 j hj hj2).trans (zj j hj hj2)⟩
      rw [if_neg (by rw [if_pos x]; decide), h10]
      by_cases y : 100000 < yvl f a0 k
      · rw [if_pos y, xwr_n _ (by decide), h7, xw32_id (x := i + 1) (by omega) (by omega)]
        exact go 1000000 (by rw [yvl, if_pos y]) _ (xwr_s _ _ _ _) (by rw [xwr_n _ (by decide), xwr_s]) (fun a ha => by rw [xwr_a _ ha, xwr_a _ ha]) (fun j hj hj2 => by rw [xwr_n _ (by omega), xwr_n _ (by omega)])
      · rw [if_neg y, xA_p (by omega), show m (310 + 5) i = f i from hf i (by omega) (by omega), xw32_id (x := 10 * yvl f a0 k) (by omega) (by omega), xw32_id (x := 10 * yvl f a0 k + f i) (by omega) (by omega), xw32_id (x := 10 * yvl f a0 k + f i - 48) (by omega) (by omega), xwr_n _ (by decide), h7, xw32_id (x := i + 1) (by omega) (by omega)]
        exact go (10 * yvl f a0 k + f i - 48) (by rw [yvl, if_neg y, ← hk]) _ (xwr_s _ _ _ _) (by rw [xwr_n _ (by decide), xwr_s]) (fun a ha => by rw [xwr_a _ ha, xwr_a _ ha]) (fun j hj hj2 => by rw [xwr_n _ (by omega), xwr_n _ (by omega)])
    · rw [if_pos (by rw [if_neg x])]
      refine xP_some ⟨i, ySp_e (by omega) (fun h z => x ⟨h, z⟩), h7, by rw [h10, show (i - a0).toNat = k by omega], fun _ _ => rfl, fun _ _ _ => rfl⟩
def yAq (f : Int → Int) (L n : Int) (m m' : xM) : Prop := ∃ a e k : Int, yTk f L n a e k ∧ (m' 310 9 = a ∧ m' 310 7 = e ∧ m' 310 8 = k) ∧ (k = 2 → m' 310 10 = yvl f a (e - a).toNat) ∧ (k = 1 → m' 310 11 = ywd f a (e - a).toNat) ∧ (∀ x : Int, x ≠ 310 → m' x = m x) ∧ (∀ j : Int, (j < 7 ∨ 11 < j) → m' 310 j = m 310 j)
theorem next_L {f : Int → Int} {L : Int} (hL : L ≤ 1600) : ∀ (n g : Nat) (i : Int) (m : xM), n < g → i + n = L → 0 ≤ i → m 310 7 = i → m 310 6 = L → (∀ j : Int, 0 ≤ j → j < 1600 → m 315 j = f j) → xP (fQ_next_L0 g 310 m) (yAq f L i m)
  | _, 0, _, _, hg, _, _, _, _, _ => absurd hg (Nat.not_lt_zero _)
  | n, g + 1, i, m, hg, hi, i0, h7, hT, hf => by
    rw [fQ_next_L0, h7, isByte_s hL i0 hT hf, xB_s, isByte_s hL i0 hT hf, xB_s]
    have next : i < L → yBl (f i) → xP (fQ_next_L0 g 310 (xwr m 310 7 (xw32 (i + 1)))) (yAq f L i m) := fun x hb => by
      obtain ⟨n', rfl⟩ : ∃ n', n = n' + 1 := ⟨n - 1, by omega⟩
      rw [xw32_id (by omega) (by omega)]
      refine xP_mono (next_L (f := f) hL n' g (i + 1) _ (by omega) (by omega) (by omega) (xwr_s _ _ _ _) (by rw [xwr_n _ (by decide)]; exact hT) (fun j j0 j1 => by rw [xwr_n _ (by omega)]; exact hf j j0 j1)) ?_
      rintro m' ⟨a, e, k, p1, p2, p3, p4, p5, p6⟩
      exact ⟨a, e, k, ⟨ySp_s p1.1 hb, p1.2⟩, p2, p3, p4, fun y hy => by rw [p5 y hy, xwr_a _ hy], fun j hj => by rw [p6 j hj, xwr_n _ (by omega)]⟩
    by_cases b1 : i < L ∧ 32 ≤ f i ∧ f i ≤ 32
    · rw [if_neg (show ¬ (if i < L ∧ 32 ≤ f i ∧ f i ≤ 32 then (1 : Int) else 0) = 0 by rw [if_pos b1]; decide)]
      exact next b1.1 (Or.inl (by omega))
    · rw [if_pos (show (if i < L ∧ 32 ≤ f i ∧ f i ≤ 32 then (1 : Int) else 0) = 0 by rw [if_neg b1])]
      by_cases b2 : i < L ∧ 10 ≤ f i ∧ f i ≤ 10
      · rw [if_neg (show ¬ (if i < L ∧ 10 ≤ f i ∧ f i ≤ 10 then (1 : Int) else 0) = 0 by rw [if_pos b2]; decide)]
        exact next b2.1 (Or.inr (by omega))
      · rw [if_pos (show (if i < L ∧ 10 ≤ f i ∧ f i ≤ 10 then (1 : Int) else 0) = 0 by rw [if_neg b2])]
        have hs : ySp yBl f L i i := ySp_e (by omega) (fun h z => by
          unfold yBl at z
          rcases z with z | z
          · exact b1 ⟨h, by omega, by omega⟩
          · exact b2 ⟨h, by omega, by omega⟩)
        have q7 : (xwr (xwr (xwr m 310 9 i) 310 10 0) 310 11 0) 310 7 = i := by rw [xwr_n _ (by decide), xwr_n _ (by decide), xwr_n _ (by decide)]; exact h7
        have q9 : (xwr (xwr (xwr m 310 9 i) 310 10 0) 310 11 0) 310 9 = i := by rw [xwr_n _ (by decide), xwr_n _ (by decide), xwr_s]
        have q10 : (xwr (xwr (xwr m 310 9 i) 310 10 0) 310 11 0) 310 10 = 0 := by rw [xwr_n _ (by decide), xwr_s]
        have q11 : (xwr (xwr (xwr m 310 9 i) 310 10 0) 310 11 0) 310 11 = 0 := xwr_s _ _ _ _
        have qT : (xwr (xwr (xwr m 310 9 i) 310 10 0) 310 11 0) 310 6 = L := by rw [xwr_n _ (by decide), xwr_n _ (by decide), xwr_n _ (by decide)]; exact hT
        have qa : ∀ x : Int, x ≠ 310 → (xwr (xwr (xwr m 310 9 i) 310 10 0) 310 11 0) x = m x := fun x hx => by rw [xwr_a _ hx, xwr_a _ hx, xwr_a _ hx]
        have qj : ∀ j : Int, (j < 7 ∨ 11 < j) → (xwr (xwr (xwr m 310 9 i) 310 10 0) 310 11 0) 310 j = m 310 j := fun j hj => by rw [xwr_n _ (by omega), xwr_n _ (by omega), xwr_n _ (by omega)]
        generalize xwr (xwr (xwr m 310 9 i) 310 10 0) 310 11 0 = m3 at *
        have qf : ∀ j : Int, 0 ≤ j → j < 1600 → m3 315 j = f j := fun j j0 j1 => by rw [qa 315 (by decide)]; exact hf j j0 j1
        rw [q7, qT, isByte_s hL i0 qT qf, xB_s, isByte_s hL i0 qT qf, xB_s]
        by_cases x : i = L
        · rw [if_pos x]
          refine xP_some ⟨i, i, 0, ⟨hs, Or.inl ⟨x, rfl, rfl⟩⟩, ⟨by rw [xwr_n _ (by decide)]; exact q9, by rw [xwr_n _ (by decide)]; exact q7, xwr_s _ _ _ _⟩, fun z => absurd z (by decide), fun z => absurd z (by decide), fun a h => by rw [xwr_a _ h]; exact qa a h, fun j h => by rw [xwr_n _ (by omega)]; exact qj j h⟩
        · have il : i < L := by omega
          rw [if_neg x]
          have frame : ∀ (v : Int), (∀ a : Int, a ≠ 310 → (xwr m3 310 8 v) a = m a) ∧ (∀ j : Int, (j < 7 ∨ 11 < j) → (xwr m3 310 8 v) 310 j = m 310 j) ∧ (xwr m3 310 8 v) 310 7 = i ∧ (xwr m3 310 8 v) 310 6 = L ∧ (xwr m3 310 8 v) 310 9 = i ∧ (xwr m3 310 8 v) 310 8 = v := fun v => ⟨fun a h => by rw [xwr_a _ h]; exact qa a h, fun j h => by rw [xwr_n _ (by omega)]; exact qj j h, by rw [xwr_n _ (by decide)]; exact q7, by rw [xwr_n _ (by decide)]; exact qT, by rw [xwr_n _ (by decide)]; exact q9, xwr_s _ _ _ _⟩
          by_cases k1 : i < L ∧ 97 ≤ f i ∧ f i ≤ 122
          · rw [if_neg (show ¬ (if i < L ∧ 97 ≤ f i ∧ f i ≤ 122 then (1 : Int) else 0) = 0 by rw [if_pos k1]; decide)]
            obtain ⟨g1, g2, g3, g4, g5, g6⟩ := frame 1
            refine xP_mono (nextW_L (f := f) (L := L) (a0 := i) hL i0 (L - i).toNat 20001 0 i (xwr m3 310 8 1) (by omega) (by omega) (by omega) (fun j j0 j1 => absurd j1 (by omega)) g3 (by rw [xwr_n _ (by decide), q11]; rfl) g4 (fun j j0 j1 => by rw [xwr_n _ (by omega)]; exact qf j j0 j1)) ?_
            rintro m' ⟨e, e1, e2, e3, e4, e5⟩
            exact ⟨i, e, 1, ⟨hs, Or.inr ⟨il, ((ykd_1 _).mpr k1.2).symm, Or.inl ⟨rfl, e1⟩⟩⟩, ⟨by rw [e5 9 (by decide) (by decide)]; exact g5, e2, by rw [e5 8 (by decide) (by decide)]; exact g6⟩, fun z => absurd z (by decide), fun _ => e3, fun a h => (e4 a h).trans (g1 a h), fun j h => (e5 j (by omega) (by omega)).trans (g2 j h)⟩
          · rw [if_pos (show (if i < L ∧ 97 ≤ f i ∧ f i ≤ 122 then (1 : Int) else 0) = 0 by rw [if_neg k1])]
            by_cases k2 : i < L ∧ 48 ≤ f i ∧ f i ≤ 57
            · rw [if_neg (show ¬ (if i < L ∧ 48 ≤ f i ∧ f i ≤ 57 then (1 : Int) else 0) = 0 by rw [if_pos k2]; decide)]
              obtain ⟨g1, g2, g3, g4, g5, g6⟩ := frame 2
              refine xP_mono (nextN_L (f := f) (L := L) (a0 := i) hL i0 (L - i).toNat 20001 0 i (xwr m3 310 8 2) (by omega) (by omega) (by omega) (fun j j0 j1 => absurd j1 (by omega)) g3 (by rw [xwr_n _ (by decide), q10]; rfl) g4 (fun j j0 j1 => by rw [xwr_n _ (by omega)]; exact qf j j0 j1)) ?_
              rintro m' ⟨e, e1, e2, e3, e4, e5⟩
              exact ⟨i, e, 2, ⟨hs, Or.inr ⟨il, ((ykd_2 _).mpr k2.2).symm, Or.inr (Or.inl ⟨rfl, e1⟩)⟩⟩, ⟨by rw [e5 9 (by decide) (by decide)]; exact g5, e2, by rw [e5 8 (by decide) (by decide)]; exact g6⟩, fun _ => e3, fun z => absurd z (by decide), fun a h => (e4 a h).trans (g1 a h), fun j h => (e5 j (by omega) (by omega)).trans (g2 j h)⟩
            · rw [if_pos (show (if i < L ∧ 48 ≤ f i ∧ f i ≤ 57 then (1 : Int) else 0) = 0 by rw [if_neg k2]), xA_p (by omega), show m3 (310 + 5) i = f i from qf i i0 (by omega)]
              have ek : ykd (f i) = if f i = 59 then 3 else 4 := by
                unfold ykd
                rw [if_neg (fun z => k1 ⟨il, z⟩), if_neg (fun z => k2 ⟨il, z⟩)]
              rw [← ek]
              have kr := ykd_rg (f i)
              have n1 : ykd (f i) ≠ 1 := fun z => k1 ⟨il, (ykd_1 _).mp z⟩
              have n2 : ykd (f i) ≠ 2 := fun z => k2 ⟨il, (ykd_2 _).mp z⟩
              obtain ⟨g1, g2, g3, g4, g5, g6⟩ := frame (ykd (f i))
              rw [g3, xw32_id (x := i + 1) (by omega) (by omega)]
              exact xP_some ⟨i, i + 1, ykd (f i), ⟨hs, Or.inr ⟨il, rfl, Or.inr (Or.inr ⟨by omega, rfl⟩)⟩⟩, ⟨by rw [xwr_n _ (by decide)]; exact g5, xwr_s _ _ _ _, by rw [xwr_n _ (by decide)]; exact g6⟩, fun z => absurd z n2, fun z => absurd z n1, fun a h => by rw [xwr_a _ h]; exact g1 a h, fun j h => by rw [xwr_n _ (by omega)]; exact g2 j h⟩
theorem next_q {f : Int → Int} {L n : Int} {m : xM} (hL : L ≤ 1600) (n0 : 0 ≤ n) (n1 : n ≤ L) (h7 : m 310 7 = n) (hT : m 310 6 = L) (hf : ∀ j : Int, 0 ≤ j → j < 1600 → m 315 j = f j) : xP (fQ_next 310 m) (yAq f L n m) :=
  next_L hL (L - n).toNat 20001 n m (by omega) (by omega) n0 h7 hT hf
end
