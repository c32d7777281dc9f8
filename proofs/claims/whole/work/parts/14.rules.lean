noncomputable section
/-! the words in which the methods' functions are written; locals that are no more wanted may be forgotten -/
def xA {α : Type} (c : Prop) [Decidable c] (a : Option α) : Option α := if c then a else none
def xB {α β : Type} (q : Option α) (k : α → Option β) : Option β := match q with
  | some v => k v
  | none => none
theorem xA_t {α : Type} {c : Prop} [Decidable c] {a : Option α} {r : α} (h : xA c a = some r) : c ∧ a = some r := by
  unfold xA at h
  split at h
  · next hc => exact ⟨hc, h⟩
  · cases h
theorem xB_t {α β : Type} {q : Option α} {k : α → Option β} {r : β} (h : xB q k = some r) : ∃ v, q = some v ∧ k v = some r := by
  cases q with
  | none => cases h
  | some v => exact ⟨v, rfl, h⟩
theorem xif_t {α : Sort _} {c : Prop} [Decidable c] {a b r : α} (hc : c) (h : (if c then a else b) = r) : a = r := by rw [if_pos hc] at h; exact h
theorem xif_f {α : Sort _} {c : Prop} [Decidable c] {a b r : α} (hc : ¬ c) (h : (if c then a else b) = r) : b = r := by rw [if_neg hc] at h; exact h
def xle (a b : xL) : Prop := a.length = b.length ∧ ∀ (i : Nat) (v : xV), xget a i = some v → xget b i = some v
theorem xset_len : ∀ (l : xL) (i : Nat) (v : Option xV), (xset l i v).length = l.length
  | [], _, _ => rfl
  | _ :: _, 0, _ => rfl
  | _ :: l, i + 1, v => by simp [xset, xset_len l i v]
theorem xget_set : ∀ (l : xL) (i j : Nat) (v : Option xV), xget (xset l i v) j = if j = i then (if i < l.length then v else none) else xget l j
  | [], i, j, v => by simp [xset, xget]
  | a :: l, 0, 0, v => by simp [xset, xget]
  | a :: l, 0, j + 1, v => by simp [xset, xget]
  | a :: l, i + 1, 0, v => by simp [xset, xget]
  | a :: l, i + 1, j + 1, v => by simp [xset, xget, xget_set l i j v]
theorem xle_set {a b : xL} (h : xle a b) (i : Nat) (v : Option xV) : xle (xset a i v) (xset b i v) := by
  refine ⟨by rw [xset_len, xset_len]; exact h.1, fun j w hj => ?_⟩
  rw [xget_set] at hj ⊢
  split
  · next e =>
    rw [if_pos e, h.1] at hj
    exact hj
  · next e =>
    rw [if_neg e] at hj
    exact h.2 j w hj
theorem xle_off {a b : xL} (h : xle a b) {j : Nat} (hj : xget a j = none) : xle a (xset b j none) := by
  refine ⟨by rw [xset_len]; exact h.1, fun i w hi => ?_⟩
  rw [xget_set]
  split
  · next e => rw [e, hj] at hi; cases hi
  · exact h.2 i w hi
theorem xclr_long {l : xL} {j : Nat} {x : Int} (h : xget l j = some (1, x)) : xclr l (j + 1) = xset l j none := by
  show (match xget l j with | some (1, _) => xset l j none | _ => l) = _
  rw [h]
  rfl
theorem xclr_or (l : xL) (i : Nat) : xclr l i = l ∨ ∃ j x, i = j + 1 ∧ xget l j = some (1, x) := by
  cases i with
  | zero => exact Or.inl rfl
  | succ j =>
    cases hg : xget l j with
    | none =>
      left
      show (match xget l j with | some (1, _) => xset l j none | _ => l) = _
      rw [hg]
    | some v =>
      obtain ⟨t, x⟩ := v
      match t, hg with
      | 0, hg =>
        left
        show (match xget l j with | some (1, _) => xset l j none | _ => l) = _
        rw [hg]
        rfl
      | 1, hg => exact Or.inr ⟨j, x, rfl, hg⟩
      | t + 2, hg =>
        left
        show (match xget l j with | some (1, _) => xset l j none | _ => l) = _
        rw [hg]
        rfl
theorem xle_clr {a b : xL} (h : xle a b) (i : Nat) : xle (xclr a i) (xclr b i) := by
  rcases xclr_or a i with ha | ⟨j, x, rfl, hx⟩
  · rw [ha]
    rcases xclr_or b i with hb | ⟨j, x, rfl, hx⟩
    · rw [hb]; exact h
    · rw [xclr_long hx]
      cases hg : xget a j with
      | none => exact xle_off h hg
      | some v =>
        have e := h.2 j v hg
        rw [hx] at e
        cases e
        rw [xclr_long hg] at ha
        rw [← ha]
        exact xle_set h j none
  · rw [xclr_long hx, xclr_long (h.2 j _ hx)]
    exact xle_set h j none
theorem xle_sto {a b : xL} (h : xle a b) (i : Nat) (v : xV) : xle (xsto a i v) (xsto b i v) := by
  obtain ⟨t, x⟩ := v
  match t with
  | 0 => exact xle_set (xle_clr h i) i _
  | 1 => exact xle_set (xle_set (xle_clr h i) i _) (i + 1) none
  | t + 2 => exact xle_set (xle_clr h i) i _
def xsub (ls : xL) (o : xO) : xO := match o with
  | none => none
  | some (c, .inl (m, pc, _, st, M)) => some (c, .inl (m, pc, ls, st, M))
  | some (c, .inr (.inl q)) => some (c, .inr (.inl q))
  | some (c, .inr (.inr (y, k))) => some (c, .inr (.inr (y, fun q => ((k q).1, (k q).2.1, ls, (k q).2.2.2.1, (k q).2.2.2.2))))
theorem xsub_c (ls : xL) (q : Bool) (x : xO) : xsub ls (bif q then x else none) = bif q then xsub ls x else none := by cases q <;> rfl
theorem xsub_d {q : Bool} {x y : xO} (h : x = y) : (bif q then x else none) = (bif q then y else none) := by rw [h]
set_option maxHeartbeats 4000000 in
theorem xins_sub (maxL : Nat → Nat) (m : Nat) (e : xE) (ls : xL) (st : List xV) (M : xM) (h : ¬ (e.1 = 0 ∨ e.1 = 1 ∨ e.1 = 9)) : xins maxL m e ls st M = xsub ls (xins maxL m e [] st M) := by
  obtain ⟨op, a, b, l, n⟩ := e
  unfold xins
  dsimp only at h ⊢
  split
  · exact absurd rfl (fun e => h (Or.inl e))
  · exact absurd rfl (fun e => h (Or.inr (Or.inl e)))
  all_goals first
    | exact absurd rfl (fun e => h (Or.inr (Or.inr e)))
    | (repeat' (first | rfl | split | (rw [xsub_c]; refine xsub_d ?_)))
section xMask
variable (maxL : Nat → Nat) (fetch : Nat → Nat → Option xE)
theorem xEvF_le_ls : ∀ (f : Nat) (m pc : Nat) (a b : xL) (st : List xV) (M : xM) (r : xR), xle a b → xEvF maxL fetch f (m, pc, a, st, M) r → xEvF maxL fetch f (m, pc, b, st, M) r
  | 0, _, _, _, _, _, _, _, _, h => h
  | f + 1, m, pc, a, b, st, M, r, hab, h => by
    unfold xEvF at h ⊢
    unfold xstp at h ⊢
    dsimp only at h ⊢
    cases hf : fetch m pc with
    | none => rw [hf] at h; exact h
    | some e =>
      rw [hf] at h
      dsimp only at h ⊢
      by_cases he : e.1 = 0 ∨ e.1 = 1 ∨ e.1 = 9
      · obtain ⟨op, ea, eb, el, en⟩ := e
        rcases he with he | he | he
        · dsimp only at he
          subst he
          unfold xins at h ⊢
          dsimp only at h ⊢
          cases hg : xget a ea with
          | none => rw [hg] at h; exact h.elim
          | some v =>
            rw [hg] at h
            rw [hab.2 ea v hg]
            dsimp only at h ⊢
            cases ht : xtag eb v with
            | true =>
              rw [ht] at h
              exact ⟨h.1, xEvF_le_ls f _ _ _ _ _ _ _ hab h.2⟩
            | false => rw [ht] at h; exact h.elim
        · dsimp only at he
          subst he
          unfold xins at h ⊢
          dsimp only at h ⊢
          cases st with
          | nil => exact h.elim
          | cons v st =>
            dsimp only at h ⊢
            cases ht : xtag eb v with
            | true =>
              rw [ht] at h
              exact ⟨h.1, xEvF_le_ls f _ _ _ _ _ _ _ (xle_sto hab ea v) h.2⟩
            | false => rw [ht] at h; exact h.elim
        · dsimp only at he
          subst he
          unfold xins at h ⊢
          dsimp only at h ⊢
          cases hg : xget a ea with
          | none => rw [hg] at h; exact h.elim
          | some v =>
            rw [hg] at h
            rw [hab.2 ea v hg]
            obtain ⟨t, x⟩ := v
            match t, h with
            | 0, h => exact ⟨h.1, xEvF_le_ls f _ _ _ _ _ _ _ (xle_set hab ea _) h.2⟩
            | t + 1, h => exact h.elim
      · rw [xins_sub maxL m e a st M he] at h
        rw [xins_sub maxL m e b st M he]
        cases ho : xins maxL m e [] st M with
        | none => rw [ho] at h; exact h
        | some o =>
          rw [ho] at h
          match o, h with
          | (c, .inl (m', pc', _, st', M')), h => exact ⟨h.1, xEvF_le_ls f _ _ _ _ _ _ _ hab h.2⟩
          | (c, .inr (.inl q)), h => exact h
          | (c, .inr (.inr (y, k))), h =>
            obtain ⟨hc, q, h1, h2⟩ := h
            exact ⟨hc, q, h1, xEvF_le_ls f _ _ _ _ _ _ _ hab h2⟩
def xmask : List Bool → xL → xL
  | [], l => l
  | _ :: _, [] => []
  | b :: bs, v :: l => (bif b then v else none) :: xmask bs l
theorem xmask_le : ∀ (bs : List Bool) (l : xL), xle (xmask bs l) l
  | [], l => ⟨rfl, fun _ _ h => h⟩
  | _ :: _, [] => ⟨rfl, fun _ _ h => h⟩
  | b :: bs, v :: l => by
    obtain ⟨h1, h2⟩ := xmask_le bs l
    refine ⟨by simp [xmask, h1], fun i w hi => ?_⟩
    cases i with
    | zero =>
      cases b with
      | true => exact hi
      | false => cases hi
    | succ i => exact h2 i w hi
theorem xEvG_mask (bs : List Bool) {m pc : Nat} {ls : xL} {st : List xV} {M : xM} {r : xR} (h : xEvG maxL fetch (m, pc, xmask bs ls, st, M) r) : xEvG maxL fetch (m, pc, ls, st, M) r := by
  obtain ⟨f, hf⟩ := h
  exact ⟨f, xEvF_le_ls maxL fetch f _ _ _ _ _ _ _ (xmask_le bs ls) hf⟩
end xMask
end
