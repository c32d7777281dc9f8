/-! ===== SOUNDNESS, 8: what a step of the machine tells, instruction by instruction ===== -/
noncomputable section
section xInv
variable {maxL : Nat → Nat} {fetch : Nat → Nat → Option xE} {f m a n : Nat} {b : Int} {l : List Nat} {ls : xL} {st : List xV} {M : xM} {r : xR}
def xSR (maxL : Nat → Nat) (fetch : Nat → Nat → Option xE) (f : Nat) (o : xO) (r : xR) : Prop := match o with
  | none => False
  | some (c, .inl y) => xcond c ∧ xEvF maxL fetch f y r
  | some (c, .inr (.inl q)) => xcond c ∧ q = r
  | some (c, .inr (.inr (y, k))) => xcond c ∧ ∃ q, xEvF maxL fetch f y q ∧ xEvF maxL fetch f (k q) r
theorem xSR_of {x : xC} (h : xEvF maxL fetch (f + 1) x r) : ∃ e, fetch x.1 x.2.1 = some e ∧ xSR maxL fetch f (xins maxL x.1 e x.2.2.1 x.2.2.2.1 x.2.2.2.2) r := by
  unfold xEvF at h
  unfold xstp at h
  cases hf : fetch x.1 x.2.1 with
  | none => rw [hf] at h; exact h.elim
  | some e => rw [hf] at h; exact ⟨e, rfl, h⟩
theorem iv0 (h : xSR maxL fetch f (xins maxL m (0, a, b, l, n) ls st M) r) : ∃ v, xget ls a = some v ∧ xtag b v = true ∧ xEvF maxL fetch f (m, n, ls, v :: st, M) r := by
  change xSR maxL fetch f (match (generalizing := false) xget ls a with
      | some v => bif xtag b v then xgo none (m, n, ls, v :: st, M) else none
      | none => none) r at h
  cases hg : xget ls a with
  | none => rw [hg] at h; exact h.elim
  | some v =>
    rw [hg] at h
    dsimp only at h
    cases ht : xtag b v with
    | true => rw [ht] at h; exact ⟨v, rfl, ht, h.2⟩
    | false => rw [ht] at h; exact h.elim
theorem iv1 (h : xSR maxL fetch f (xins maxL m (1, a, b, l, n) ls st M) r) : ∃ v st', st = v :: st' ∧ xtag b v = true ∧ xEvF maxL fetch f (m, n, xsto ls a v, st', M) r := by
  change xSR maxL fetch f (match (generalizing := false) st with
      | v :: st => bif xtag b v then xgo none (m, n, xsto ls a v, st, M) else none
      | _ => none) r at h
  split at h
  · next v st' =>
    cases ht : xtag b v with
    | true => rw [ht] at h; exact ⟨v, st', rfl, ht, h.2⟩
    | false => rw [ht] at h; exact h.elim
  · exact h.elim
theorem iv2 (h : xSR maxL fetch f (xins maxL m (2, a, b, l, n) ls st M) r) : xEvF maxL fetch f (m, n, ls, (0, b) :: st, M) r := h.2
theorem iv3 (h : xSR maxL fetch f (xins maxL m (3, a, b, l, n) ls st M) r) : xEvF maxL fetch f (m, n, ls, (1, b) :: st, M) r := h.2
theorem iv4 (h : xSR maxL fetch f (xins maxL m (4, a, b, l, n) ls st M) r) : ∃ x y st', st = (0, y) :: (0, x) :: st' ∧ xcond (xib a x y).1 ∧ xEvF maxL fetch f (m, n, ls, (0, (xib a x y).2) :: st', M) r := by
  change xSR maxL fetch f (match (generalizing := false) st with
      | (0, y) :: (0, x) :: st => xgo (xib a x y).1 (m, n, ls, (0, (xib a x y).2) :: st, M)
      | _ => none) r at h
  split at h
  · next y x st' => exact ⟨x, y, st', rfl, h.1, h.2⟩
  · exact h.elim
theorem iv5 (h : xSR maxL fetch f (xins maxL m (5, a, b, l, n) ls st M) r) : ∃ x y st', st = (1, y) :: (1, x) :: st' ∧ xcond (xlb a x y).1 ∧ xEvF maxL fetch f (m, n, ls, (1, (xlb a x y).2) :: st', M) r := by
  change xSR maxL fetch f (match (generalizing := false) st with
      | (1, y) :: (1, x) :: st => xgo (xlb a x y).1 (m, n, ls, (1, (xlb a x y).2) :: st, M)
      | _ => none) r at h
  split at h
  · next y x st' => exact ⟨x, y, st', rfl, h.1, h.2⟩
  · exact h.elim
theorem iv6a (h : xSR maxL fetch f (xins maxL m (6, 6, b, l, n) ls st M) r) : ∃ x y st', st = (0, y) :: (1, x) :: st' ∧ xEvF maxL fetch f (m, n, ls, (1, xshlL x y) :: st', M) r := by
  change xSR maxL fetch f (match (generalizing := false) st with
      | (0, y) :: (1, x) :: st => match (generalizing := false) 6 with
        | 6 => xgo none (m, n, ls, (1, xshlL x y) :: st, M)
        | _ => xgo none (m, n, ls, (1, xushrL x y) :: st, M)
      | _ => none) r at h
  split at h
  · next y x st' => exact ⟨x, y, st', rfl, h.2⟩
  · exact h.elim
theorem iv6b (h : xSR maxL fetch f (xins maxL m (6, 10, b, l, n) ls st M) r) : ∃ x y st', st = (0, y) :: (1, x) :: st' ∧ xEvF maxL fetch f (m, n, ls, (1, xushrL x y) :: st', M) r := by
  change xSR maxL fetch f (match (generalizing := false) st with
      | (0, y) :: (1, x) :: st => match (generalizing := false) 10 with
        | 6 => xgo none (m, n, ls, (1, xshlL x y) :: st, M)
        | _ => xgo none (m, n, ls, (1, xushrL x y) :: st, M)
      | _ => none) r at h
  split at h
  · next y x st' => exact ⟨x, y, st', rfl, h.2⟩
  · exact h.elim
theorem iv7 (h : xSR maxL fetch f (xins maxL m (7, a, b, l, n) ls st M) r) : ∃ x y st', st = (1, y) :: (1, x) :: st' ∧ xEvF maxL fetch f (m, n, ls, (0, xcmpL x y) :: st', M) r := by
  change xSR maxL fetch f (match (generalizing := false) st with
      | (1, y) :: (1, x) :: st => xgo none (m, n, ls, (0, xcmpL x y) :: st, M)
      | _ => none) r at h
  split at h
  · next y x st' => exact ⟨x, y, st', rfl, h.2⟩
  · exact h.elim
theorem iv8 (h : xSR maxL fetch f (xins maxL m (8, a, b, l, n) ls st M) r) : ∃ x st', st = ((xcv a x).1, x) :: st' ∧ xEvF maxL fetch f (m, n, ls, ((xcv a x).2.1, (xcv a x).2.2) :: st', M) r := by
  change xSR maxL fetch f (match (generalizing := false) st with
      | (t, x) :: st => match (generalizing := false) xcv a x with
        | (t0, t1, z) => bif Nat.beq t t0 then xgo none (m, n, ls, (t1, z) :: st, M) else none
      | _ => none) r at h
  split at h
  · next t x st' =>
    change xSR maxL fetch f (bif Nat.beq t (xcv a x).1 then xgo none (m, n, ls, ((xcv a x).2.1, (xcv a x).2.2) :: st', M) else none) r at h
    cases hb : Nat.beq t (xcv a x).1 with
    | true =>
      rw [hb] at h
      refine ⟨x, st', ?_, h.2⟩
      rw [Nat.eq_of_beq_eq_true hb]
    | false => rw [hb] at h; exact h.elim
  · exact h.elim
theorem iv9 (h : xSR maxL fetch f (xins maxL m (9, a, b, l, n) ls st M) r) : ∃ x, xget ls a = some (0, x) ∧ xEvF maxL fetch f (m, n, xset ls a (some (0, xw32 (x + b))), st, M) r := by
  change xSR maxL fetch f (match (generalizing := false) xget ls a with
      | some (0, x) => xgo none (m, n, xset ls a (some (0, xw32 (x + b))), st, M)
      | _ => none) r at h
  split at h
  · next x hx => exact ⟨x, hx, h.2⟩
  · exact h.elim
theorem iv10 (h : xSR maxL fetch f (xins maxL m (10, a, b, l, n) ls st M) r) : ∃ v st', st = v :: st' ∧ v.1 ≠ 1 ∧ xEvF maxL fetch f (m, n, ls, v :: v :: st', M) r := by
  change xSR maxL fetch f (match (generalizing := false) st with
      | (0, x) :: st => xgo none (m, n, ls, (0, x) :: (0, x) :: st, M)
      | (k + 2, x) :: st => xgo none (m, n, ls, (k + 2, x) :: (k + 2, x) :: st, M)
      | _ => none) r at h
  split at h
  · next x st' => exact ⟨(0, x), st', rfl, by show (0 : Nat) ≠ 1; decide, h.2⟩
  · next k x st' => exact ⟨(k + 2, x), st', rfl, by show k + 2 ≠ 1; omega, h.2⟩
  · exact h.elim
theorem iv11 (h : xSR maxL fetch f (xins maxL m (11, a, b, l, n) ls st M) r) : ∃ x k y st', st = (0, x) :: (k + 2, y) :: st' ∧ xEvF maxL fetch f (m, n, ls, (0, x) :: (k + 2, y) :: (0, x) :: (k + 2, y) :: st', M) r := by
  change xSR maxL fetch f (match (generalizing := false) st with
      | (0, x) :: (k + 2, y) :: st => xgo none (m, n, ls, (0, x) :: (k + 2, y) :: (0, x) :: (k + 2, y) :: st, M)
      | _ => none) r at h
  split at h
  · next x k y st' => exact ⟨x, k, y, st', rfl, h.2⟩
  · exact h.elim
theorem iv12 (h : xSR maxL fetch f (xins maxL m (12, a, b, l, n) ls st M) r) : ∃ x st', st = (0, x) :: st' ∧ xEvF maxL fetch f (m, n, ls, st', M) r := by
  change xSR maxL fetch f (match (generalizing := false) st with
      | (0, _) :: st => xgo none (m, n, ls, st, M)
      | _ => none) r at h
  split at h
  · next x st' => exact ⟨x, st', rfl, h.2⟩
  · exact h.elim
theorem iv13 (h : xSR maxL fetch f (xins maxL m (13, a, b, l, n) ls st M) r) : ∃ x st', st = (0, x) :: st' ∧ xEvF maxL fetch f (m, xbr b x 0 a n, ls, st', M) r := by
  change xSR maxL fetch f (match (generalizing := false) st with
      | (0, x) :: st => xgo none (m, xbr b x 0 a n, ls, st, M)
      | _ => none) r at h
  split at h
  · next x st' => exact ⟨x, st', rfl, h.2⟩
  · exact h.elim
theorem iv14 (h : xSR maxL fetch f (xins maxL m (14, a, b, l, n) ls st M) r) : ∃ x y st', st = (0, y) :: (0, x) :: st' ∧ xEvF maxL fetch f (m, xbr b x y a n, ls, st', M) r := by
  change xSR maxL fetch f (match (generalizing := false) st with
      | (0, y) :: (0, x) :: st => xgo none (m, xbr b x y a n, ls, st, M)
      | _ => none) r at h
  split at h
  · next y x st' => exact ⟨x, y, st', rfl, h.2⟩
  · exact h.elim
theorem iv15 (h : xSR maxL fetch f (xins maxL m (15, a, b, l, n) ls st M) r) : xEvF maxL fetch f (m, a, ls, st, M) r := h.2
theorem iv16 (h : xSR maxL fetch f (xins maxL m (16, a, b, l, n) ls st M) r) : ∃ x st', st = (0, x) :: st' ∧ xEvF maxL fetch f (m, if x < b then a else xtab (x - b) a l, ls, st', M) r := by
  change xSR maxL fetch f (match (generalizing := false) st with
      | (0, x) :: st => xgo none (m, if x < b then a else xtab (x - b) a l, ls, st, M)
      | _ => none) r at h
  split at h
  · next x st' => exact ⟨x, st', rfl, h.2⟩
  · exact h.elim
theorem iv17 (h : xSR maxL fetch f (xins maxL m (17, a, b, l, n) ls st M) r) : ∃ x st', st = (0, x) :: st' ∧ xEvF maxL fetch f (m, xlook x a l, ls, st', M) r := by
  change xSR maxL fetch f (match (generalizing := false) st with
      | (0, x) :: st => xgo none (m, xlook x a l, ls, st, M)
      | _ => none) r at h
  split at h
  · next x st' => exact ⟨x, st', rfl, h.2⟩
  · exact h.elim
theorem iv18a {c : Nat} (h : xSR maxL fetch f (xins maxL m (18, a, 0, [c], n) ls st M) r) : ∃ o st', st = (c + 2, o) :: st' ∧ xEvF maxL fetch f (m, n, ls, (0, M o (a : Int)) :: st', M) r := by
  change xSR maxL fetch f (match (generalizing := false) st, [c] with
      | (k + 2, o) :: st, [c] => bif Nat.beq k c then (match (generalizing := false) (0 : Int) with
        | 0 => xgo none (m, n, ls, (0, M o a) :: st, M)
        | _ => xgo none (m, n, ls, (1, M o a) :: st, M)) else none
      | _, _ => none) r at h
  split at h
  · next k o st' c' heq =>
    cases heq
    cases hb : Nat.beq k c with
    | true =>
      rw [hb] at h
      cases Nat.eq_of_beq_eq_true hb
      exact ⟨o, st', rfl, h.2⟩
    | false => rw [hb] at h; exact h.elim
  · exact h.elim
theorem iv18b {c : Nat} (h : xSR maxL fetch f (xins maxL m (18, a, 1, [c], n) ls st M) r) : ∃ o st', st = (c + 2, o) :: st' ∧ xEvF maxL fetch f (m, n, ls, (1, M o (a : Int)) :: st', M) r := by
  change xSR maxL fetch f (match (generalizing := false) st, [c] with
      | (k + 2, o) :: st, [c] => bif Nat.beq k c then (match (generalizing := false) (1 : Int) with
        | 0 => xgo none (m, n, ls, (0, M o a) :: st, M)
        | _ => xgo none (m, n, ls, (1, M o a) :: st, M)) else none
      | _, _ => none) r at h
  split at h
  · next k o st' c' heq =>
    cases heq
    cases hb : Nat.beq k c with
    | true =>
      rw [hb] at h
      cases Nat.eq_of_beq_eq_true hb
      exact ⟨o, st', rfl, h.2⟩
    | false => rw [hb] at h; exact h.elim
  · exact h.elim
theorem iv19 {c q : Nat} (h : xSR maxL fetch f (xins maxL m (19, a, b, [c, q], n) ls st M) r) : ∃ o st', st = (c + 2, o) :: st' ∧ xEvF maxL fetch f (m, n, ls, (q + 2, o + b) :: st', M) r := by
  change xSR maxL fetch f (match (generalizing := false) st, [c, q] with
      | (k + 2, o) :: st, [c, d] => bif Nat.beq k c then xgo none (m, n, ls, (d + 2, o + b) :: st, M) else none
      | _, _ => none) r at h
  split at h
  · next k o st' c' q' heq =>
    cases heq
    cases hb : Nat.beq k c with
    | true =>
      rw [hb] at h
      cases Nat.eq_of_beq_eq_true hb
      exact ⟨o, st', rfl, h.2⟩
    | false => rw [hb] at h; exact h.elim
  · exact h.elim
theorem iv20a {c : Nat} (h : xSR maxL fetch f (xins maxL m (20, a, 0, [c], n) ls st M) r) : ∃ x o st', st = (0, x) :: (c + 2, o) :: st' ∧ xEvF maxL fetch f (m, n, ls, st', xwr M o (a : Int) x) r := by
  change xSR maxL fetch f (match (generalizing := false) st, [c] with
      | (t, x) :: (k + 2, o) :: st, [c] => bif Nat.beq k c then (match (generalizing := false) (0 : Int), t with
        | 0, 0 => xgo none (m, n, ls, st, xwr M o a x)
        | 1, 1 => xgo none (m, n, ls, st, xwr M o a x)
        | 2, 0 => xgo (some (x = 0 ∨ x = 1)) (m, n, ls, st, xwr M o a x)
        | _, _ => none) else none
      | _, _ => none) r at h
  split at h
  · next t x k o st' c' heq =>
    cases heq
    cases hb : Nat.beq k c with
    | true =>
      rw [hb] at h
      cases Nat.eq_of_beq_eq_true hb
      match t, h with
      | 0, h => exact ⟨x, o, st', rfl, h.2⟩
      | t + 1, h => exact h.elim
    | false => rw [hb] at h; exact h.elim
  · exact h.elim
theorem iv20b {c : Nat} (h : xSR maxL fetch f (xins maxL m (20, a, 1, [c], n) ls st M) r) : ∃ x o st', st = (1, x) :: (c + 2, o) :: st' ∧ xEvF maxL fetch f (m, n, ls, st', xwr M o (a : Int) x) r := by
  change xSR maxL fetch f (match (generalizing := false) st, [c] with
      | (t, x) :: (k + 2, o) :: st, [c] => bif Nat.beq k c then (match (generalizing := false) (1 : Int), t with
        | 0, 0 => xgo none (m, n, ls, st, xwr M o a x)
        | 1, 1 => xgo none (m, n, ls, st, xwr M o a x)
        | 2, 0 => xgo (some (x = 0 ∨ x = 1)) (m, n, ls, st, xwr M o a x)
        | _, _ => none) else none
      | _, _ => none) r at h
  split at h
  · next t x k o st' c' heq =>
    cases heq
    cases hb : Nat.beq k c with
    | true =>
      rw [hb] at h
      cases Nat.eq_of_beq_eq_true hb
      match t, h with
      | 0, h => exact h.elim
      | 1, h => exact ⟨x, o, st', rfl, h.2⟩
      | t + 2, h => exact h.elim
    | false => rw [hb] at h; exact h.elim
  · exact h.elim
theorem iv20c {c : Nat} (h : xSR maxL fetch f (xins maxL m (20, a, 2, [c], n) ls st M) r) : ∃ x o st', st = (0, x) :: (c + 2, o) :: st' ∧ (x = 0 ∨ x = 1) ∧ xEvF maxL fetch f (m, n, ls, st', xwr M o (a : Int) x) r := by
  change xSR maxL fetch f (match (generalizing := false) st, [c] with
      | (t, x) :: (k + 2, o) :: st, [c] => bif Nat.beq k c then (match (generalizing := false) (2 : Int), t with
        | 0, 0 => xgo none (m, n, ls, st, xwr M o a x)
        | 1, 1 => xgo none (m, n, ls, st, xwr M o a x)
        | 2, 0 => xgo (some (x = 0 ∨ x = 1)) (m, n, ls, st, xwr M o a x)
        | _, _ => none) else none
      | _, _ => none) r at h
  split at h
  · next t x k o st' c' heq =>
    cases heq
    cases hb : Nat.beq k c with
    | true =>
      rw [hb] at h
      cases Nat.eq_of_beq_eq_true hb
      match t, h with
      | 0, h => exact ⟨x, o, st', rfl, h.1, h.2⟩
      | t + 1, h => exact h.elim
    | false => rw [hb] at h; exact h.elim
  · exact h.elim
theorem iv21 (h : xSR maxL fetch f (xins maxL m (21, a, b, l, n) ls st M) r) : ∃ i k o st', st = (0, i) :: (k + 2, o) :: st' ∧ ((a = 3 ∧ k = 50 ∧ (0 ≤ i ∧ i < 6) ∧ xEvF maxL fetch f (m, n, ls, (1, xlack i) :: st', M) r) ∨ (a = 0 ∧ k = 51 ∧ (0 ≤ i ∧ i < M 0 4000) ∧ xEvF maxL fetch f (m, n, ls, (0, M 0 i) :: st', M) r) ∨ ∃ t len, xak k = some (t, len) ∧ (0 ≤ i ∧ i < len) ∧ ((((a = 0 ∧ t = 0) ∨ (a = 1 ∧ t = 1) ∨ (a = 1 ∧ t = 2)) ∧ xEvF maxL fetch f (m, n, ls, (0, M o i) :: st', M) r) ∨ (a = 3 ∧ t = 3 ∧ xEvF maxL fetch f (m, n, ls, (1, M o i) :: st', M) r))) := by
  change xSR maxL fetch f (match (generalizing := false) st with
      | (0, i) :: (k + 2, o) :: st => match (generalizing := false) a, k with
        | 3, 50 => xgo (some (0 ≤ i ∧ i < 6)) (m, n, ls, (1, xlack i) :: st, M)
        | 0, 51 => xgo (some (0 ≤ i ∧ i < M 0 4000)) (m, n, ls, (0, M 0 i) :: st, M)
        | a, k => match (generalizing := false) xak k with
          | some (t, len) => match (generalizing := false) a, t with
            | 0, 0 => xgo (some (0 ≤ i ∧ i < len)) (m, n, ls, (0, M o i) :: st, M)
            | 1, 1 => xgo (some (0 ≤ i ∧ i < len)) (m, n, ls, (0, M o i) :: st, M)
            | 1, 2 => xgo (some (0 ≤ i ∧ i < len)) (m, n, ls, (0, M o i) :: st, M)
            | 3, 3 => xgo (some (0 ≤ i ∧ i < len)) (m, n, ls, (1, M o i) :: st, M)
            | _, _ => none
          | none => none
      | _ => none) r at h
  split at h
  · next i k o st' =>
    refine ⟨i, k, o, st', rfl, ?_⟩
    split at h
    · exact Or.inl ⟨rfl, rfl, h.1, h.2⟩
    · exact Or.inr (Or.inl ⟨rfl, rfl, h.1, h.2⟩)
    · split at h
      · next t len hak =>
        refine Or.inr (Or.inr ⟨t, len, hak, ?_⟩)
        split at h
        · exact ⟨h.1, Or.inl ⟨Or.inl ⟨rfl, rfl⟩, h.2⟩⟩
        · exact ⟨h.1, Or.inl ⟨Or.inr (Or.inl ⟨rfl, rfl⟩), h.2⟩⟩
        · exact ⟨h.1, Or.inl ⟨Or.inr (Or.inr ⟨rfl, rfl⟩), h.2⟩⟩
        · exact ⟨h.1, Or.inr ⟨rfl, rfl, h.2⟩⟩
        · exact h.elim
      · exact h.elim
  · exact h.elim
theorem iv22 (h : xSR maxL fetch f (xins maxL m (22, a, b, l, n) ls st M) r) : ∃ t x i k o st' u len, st = (t, x) :: (0, i) :: (k + 2, o) :: st' ∧ xak k = some (u, len) ∧ (0 ≤ i ∧ i < len) ∧ ((a = 0 ∧ t = 0 ∧ u = 0 ∧ xEvF maxL fetch f (m, n, ls, st', xwr M o i x) r) ∨ (a = 1 ∧ t = 0 ∧ u = 1 ∧ xEvF maxL fetch f (m, n, ls, st', xwr M o i (xw8 x)) r) ∨ (a = 1 ∧ t = 0 ∧ u = 2 ∧ xEvF maxL fetch f (m, n, ls, st', xwr M o i (xbit x)) r) ∨ (a = 3 ∧ t = 1 ∧ u = 3 ∧ xEvF maxL fetch f (m, n, ls, st', xwr M o i x) r)) := by
  change xSR maxL fetch f (match (generalizing := false) st with
      | (t, x) :: (0, i) :: (k + 2, o) :: st => match (generalizing := false) xak k with
        | some (u, len) => match (generalizing := false) a, t, u with
          | 0, 0, 0 => xgo (some (0 ≤ i ∧ i < len)) (m, n, ls, st, xwr M o i x)
          | 1, 0, 1 => xgo (some (0 ≤ i ∧ i < len)) (m, n, ls, st, xwr M o i (xw8 x))
          | 1, 0, 2 => xgo (some (0 ≤ i ∧ i < len)) (m, n, ls, st, xwr M o i (xbit x))
          | 3, 1, 3 => xgo (some (0 ≤ i ∧ i < len)) (m, n, ls, st, xwr M o i x)
          | _, _, _ => none
        | none => none
      | _ => none) r at h
  split at h
  · next t x i k o st' =>
    split at h
    · next u len hak =>
      refine ⟨t, x, i, k, o, st', u, len, rfl, hak, ?_⟩
      split at h
      · exact ⟨h.1, Or.inl ⟨rfl, rfl, rfl, h.2⟩⟩
      · exact ⟨h.1, Or.inr (Or.inl ⟨rfl, rfl, rfl, h.2⟩)⟩
      · exact ⟨h.1, Or.inr (Or.inr (Or.inl ⟨rfl, rfl, rfl, h.2⟩))⟩
      · exact ⟨h.1, Or.inr (Or.inr (Or.inr ⟨rfl, rfl, rfl, h.2⟩))⟩
      · exact h.elim
    · exact h.elim
  · exact h.elim
theorem iv23 (h : xSR maxL fetch f (xins maxL m (23, a, b, l, n) ls st M) r) : ∃ i k o st' q len off str, st = (0, i) :: (k + 2, o) :: st' ∧ xrk k = some (q, len, off, str) ∧ (0 ≤ i ∧ i < len) ∧ xEvF maxL fetch f (m, n, ls, (q + 2, o + off + str * i) :: st', M) r := by
  change xSR maxL fetch f (match (generalizing := false) st with
      | (0, i) :: (k + 2, o) :: st => match (generalizing := false) xrk k with
        | some (d, len, off, str) => xgo (some (0 ≤ i ∧ i < len)) (m, n, ls, (d + 2, o + off + str * i) :: st, M)
        | none => none
      | _ => none) r at h
  split at h
  · next i k o st' =>
    split at h
    · next q len off str hrk => exact ⟨i, k, o, st', q, len, off, str, rfl, hrk, h.1, h.2⟩
    · exact h.elim
  · exact h.elim
theorem iv24 (h : xSR maxL fetch f (xins maxL m (24, a, b, l, n) ls st M) r) : ∃ k o st', st = (k + 2, o) :: st' ∧ ((k = 50 ∧ xEvF maxL fetch f (m, n, ls, (0, 6) :: st', M) r) ∨ (k = 51 ∧ xEvF maxL fetch f (m, n, ls, (0, M 0 4000) :: st', M) r) ∨ ∃ t len, xak k = some (t, len) ∧ xEvF maxL fetch f (m, n, ls, (0, len) :: st', M) r) := by
  change xSR maxL fetch f (match (generalizing := false) st with
      | (k + 2, _) :: st => match (generalizing := false) k with
        | 50 => xgo none (m, n, ls, (0, 6) :: st, M)
        | 51 => xgo none (m, n, ls, (0, M 0 4000) :: st, M)
        | k => match (generalizing := false) xak k with
          | some (_, len) => xgo none (m, n, ls, (0, len) :: st, M)
          | none => none
      | _ => none) r at h
  split at h
  · next k o st' =>
    refine ⟨k, o, st', rfl, ?_⟩
    split at h
    · exact Or.inl ⟨rfl, h.2⟩
    · exact Or.inr (Or.inl ⟨rfl, h.2⟩)
    · split at h
      · next t len hak => exact Or.inr (Or.inr ⟨t, len, hak, h.2⟩)
      · exact h.elim
  · exact h.elim
theorem iv25 (h : xSR maxL fetch f (xins maxL m (25, a, b, l, n) ls st M) r) : ∃ as st' q, xpop b.toNat [] st = some (as, st') ∧ xrcv l as = true ∧ xcat st' ≤ 8 ∧ (xargs as).length ≤ maxL a ∧ xEvF maxL fetch f (a, 0, xpad (maxL a) (xargs as), [], M) q ∧ xEvF maxL fetch f (m, n, ls, q.1.toList ++ st', q.2) r := by
  change xSR maxL fetch f (match (generalizing := false) xpop b.toNat [] st with
      | some (as, st) => bif xrcv l as && (Nat.ble (xcat st) 8 && Nat.ble (xargs as).length (maxL a)) then some (none, .inr (.inr ((a, 0, xpad (maxL a) (xargs as), [], M), fun r => (m, n, ls, r.1.toList ++ st, r.2)))) else none
      | none => none) r at h
  split at h
  · next as st' hp =>
    cases h1 : xrcv l as with
    | false => rw [h1] at h; exact h.elim
    | true =>
      cases h2 : Nat.ble (xcat st') 8 with
      | false => rw [h1, h2] at h; exact h.elim
      | true =>
        cases h3 : Nat.ble (xargs as).length (maxL a) with
        | false => rw [h1, h2, h3] at h; exact h.elim
        | true =>
          rw [h1, h2, h3] at h
          obtain ⟨-, q, h4, h5⟩ := h
          exact ⟨as, st', q, hp, h1, Nat.le_of_ble_eq_true h2, Nat.le_of_ble_eq_true h3, h4, h5⟩
  · exact h.elim
theorem iv26z (h : xSR maxL fetch f (xins maxL m (26, a, 3, l, n) ls st M) r) : ∃ x, st = [(0, x)] ∧ (x = 0 ∨ x = 1) ∧ r = (some (0, x), M) := by
  change xSR maxL fetch f (match (generalizing := false) st with
      | [(0, x)] => some (some (x = 0 ∨ x = 1), .inr (.inl (some (0, x), M)))
      | _ => none) r at h
  split at h
  · next x => exact ⟨x, rfl, h.1, h.2.symm⟩
  · exact h.elim
theorem iv26i (h : xSR maxL fetch f (xins maxL m (26, a, 0, l, n) ls st M) r) : ∃ x, st = [(0, x)] ∧ r = (some (0, x), M) := by
  change xSR maxL fetch f (match (generalizing := false) st with
      | [v] => bif xtag 0 v then some (none, .inr (.inl (some v, M))) else none
      | _ => none) r at h
  split at h
  · next v =>
    cases ht : xtag 0 v with
    | true =>
      rw [ht] at h
      obtain ⟨t, x⟩ := v
      cases Nat.eq_of_beq_eq_true (show Nat.beq t 0 = true from ht)
      exact ⟨x, rfl, h.2.symm⟩
    | false => rw [ht] at h; exact h.elim
  · exact h.elim
theorem iv26l (h : xSR maxL fetch f (xins maxL m (26, a, 1, l, n) ls st M) r) : ∃ x, st = [(1, x)] ∧ r = (some (1, x), M) := by
  change xSR maxL fetch f (match (generalizing := false) st with
      | [v] => bif xtag 1 v then some (none, .inr (.inl (some v, M))) else none
      | _ => none) r at h
  split at h
  · next v =>
    cases ht : xtag 1 v with
    | true =>
      rw [ht] at h
      obtain ⟨t, x⟩ := v
      cases Nat.eq_of_beq_eq_true (show Nat.beq t 1 = true from ht)
      exact ⟨x, rfl, h.2.symm⟩
    | false => rw [ht] at h; exact h.elim
  · exact h.elim
theorem iv26r (h : xSR maxL fetch f (xins maxL m (26, a, 2, l, n) ls st M) r) : ∃ k x, st = [(k + 2, x)] ∧ r = (some (k + 2, x), M) := by
  change xSR maxL fetch f (match (generalizing := false) st with
      | [v] => bif xtag 2 v then some (none, .inr (.inl (some v, M))) else none
      | _ => none) r at h
  split at h
  · next v =>
    cases ht : xtag 2 v with
    | true =>
      rw [ht] at h
      obtain ⟨t, x⟩ := v
      have := Nat.le_of_ble_eq_true (show Nat.ble 2 t = true from ht)
      obtain ⟨k, rfl⟩ := Nat.le.dest this
      rw [Nat.add_comm 2 k] at h ⊢
      exact ⟨k, x, rfl, h.2.symm⟩
    | false => rw [ht] at h; exact h.elim
  · exact h.elim
theorem iv27 (h : xSR maxL fetch f (xins maxL m (27, a, b, l, n) ls st M) r) : st = [] ∧ r = (none, M) := by
  change xSR maxL fetch f (match (generalizing := false) st with
      | [] => some (none, .inr (.inl (none, M)))
      | _ => none) r at h
  split at h
  · exact ⟨rfl, h.2.symm⟩
  · exact h.elim
theorem iv28 (h : xSR maxL fetch f (xins maxL m (28, a, b, l, n) ls st M) r) : xcat st ≤ 8 ∧ xSR maxL fetch f (match (generalizing := false) a with
      | 0 => match (generalizing := false) st with
        | (54, s) :: st => xgo none (m, n, ls, (0, ((xstr s.toNat).length : Int)) :: st, M)
        | _ => none
      | 1 => match (generalizing := false) st with
        | (0, i) :: (54, s) :: st => xgo (some (0 ≤ i ∧ i < ((xstr s.toNat).length : Int))) (m, n, ls, (0, (xstr s.toNat).getD i.toNat 0) :: st, M)
        | _ => none
      | _ => match (generalizing := false) st with
        | (0, c) :: (0, j) :: (kb + 2, ob) :: (0, i) :: (ka + 2, oa) :: st => match (generalizing := false) xak ka, xak kb with
          | some (ta, la), some (tb, lb) => match (generalizing := false) ta, tb with
            | 0, 0 => xgo (some (0 ≤ c ∧ 0 ≤ i ∧ 0 ≤ j ∧ i + c ≤ la ∧ j + c ≤ lb)) (m, n, ls, st, xcpy M oa i ob j c)
            | 3, 3 => xgo (some (0 ≤ c ∧ 0 ≤ i ∧ 0 ≤ j ∧ i + c ≤ la ∧ j + c ≤ lb)) (m, n, ls, st, xcpy M oa i ob j c)
            | _, _ => none
          | _, _ => none
        | _ => none) r := by
  change xSR maxL fetch f (bif Nat.ble (xcat st) 8 then (match (generalizing := false) a with
      | 0 => match (generalizing := false) st with
        | (54, s) :: st => xgo none (m, n, ls, (0, ((xstr s.toNat).length : Int)) :: st, M)
        | _ => none
      | 1 => match (generalizing := false) st with
        | (0, i) :: (54, s) :: st => xgo (some (0 ≤ i ∧ i < ((xstr s.toNat).length : Int))) (m, n, ls, (0, (xstr s.toNat).getD i.toNat 0) :: st, M)
        | _ => none
      | _ => match (generalizing := false) st with
        | (0, c) :: (0, j) :: (kb + 2, ob) :: (0, i) :: (ka + 2, oa) :: st => match (generalizing := false) xak ka, xak kb with
          | some (ta, la), some (tb, lb) => match (generalizing := false) ta, tb with
            | 0, 0 => xgo (some (0 ≤ c ∧ 0 ≤ i ∧ 0 ≤ j ∧ i + c ≤ la ∧ j + c ≤ lb)) (m, n, ls, st, xcpy M oa i ob j c)
            | 3, 3 => xgo (some (0 ≤ c ∧ 0 ≤ i ∧ 0 ≤ j ∧ i + c ≤ la ∧ j + c ≤ lb)) (m, n, ls, st, xcpy M oa i ob j c)
            | _, _ => none
          | _, _ => none
        | _ => none) else none) r at h
  cases hc : Nat.ble (xcat st) 8 with
  | false => rw [hc] at h; exact h.elim
  | true => rw [hc] at h; exact ⟨Nat.le_of_ble_eq_true hc, h⟩
theorem iv28a (h : xSR maxL fetch f (xins maxL m (28, 0, b, l, n) ls st M) r) : ∃ s st', st = (54, s) :: st' ∧ xcat st' ≤ 8 ∧ xEvF maxL fetch f (m, n, ls, (0, ((xstr s.toNat).length : Int)) :: st', M) r := by
  have h9 := iv28 h
  clear h
  obtain ⟨hc, h⟩ := h9
  change xSR maxL fetch f (match (generalizing := false) st with
        | (54, s) :: st => xgo none (m, n, ls, (0, ((xstr s.toNat).length : Int)) :: st, M)
        | _ => none) r at h
  split at h
  · next s st' => exact ⟨s, st', rfl, by simp only [xcat] at hc; omega, h.2⟩
  · exact h.elim
theorem iv28b (h : xSR maxL fetch f (xins maxL m (28, 1, b, l, n) ls st M) r) : ∃ i s st', st = (0, i) :: (54, s) :: st' ∧ xcat st' ≤ 8 ∧ (0 ≤ i ∧ i < ((xstr s.toNat).length : Int)) ∧ xEvF maxL fetch f (m, n, ls, (0, (xstr s.toNat).getD i.toNat 0) :: st', M) r := by
  have h9 := iv28 h
  clear h
  obtain ⟨hc, h⟩ := h9
  change xSR maxL fetch f (match (generalizing := false) st with
        | (0, i) :: (54, s) :: st => xgo (some (0 ≤ i ∧ i < ((xstr s.toNat).length : Int))) (m, n, ls, (0, (xstr s.toNat).getD i.toNat 0) :: st, M)
        | _ => none) r at h
  split at h
  · next i s st' => exact ⟨i, s, st', rfl, by simp only [xcat] at hc; omega, h.1, h.2⟩
  · exact h.elim
theorem iv28c (h : xSR maxL fetch f (xins maxL m (28, 2, b, l, n) ls st M) r) : ∃ c j kb ob i ka oa st' t la lb, st = (0, c) :: (0, j) :: (kb + 2, ob) :: (0, i) :: (ka + 2, oa) :: st' ∧ xcat st' ≤ 8 ∧ (t = 0 ∨ t = 3) ∧ xak ka = some (t, la) ∧ xak kb = some (t, lb) ∧ (0 ≤ c ∧ 0 ≤ i ∧ 0 ≤ j ∧ i + c ≤ la ∧ j + c ≤ lb) ∧ xEvF maxL fetch f (m, n, ls, st', xcpy M oa i ob j c) r := by
  have h9 := iv28 h
  clear h
  obtain ⟨hc, h⟩ := h9
  change xSR maxL fetch f (match (generalizing := false) st with
        | (0, c) :: (0, j) :: (kb + 2, ob) :: (0, i) :: (ka + 2, oa) :: st => match xak ka, xak kb with
          | some (ta, la), some (tb, lb) => match ta, tb with
            | 0, 0 => xgo (some (0 ≤ c ∧ 0 ≤ i ∧ 0 ≤ j ∧ i + c ≤ la ∧ j + c ≤ lb)) (m, n, ls, st, xcpy M oa i ob j c)
            | 3, 3 => xgo (some (0 ≤ c ∧ 0 ≤ i ∧ 0 ≤ j ∧ i + c ≤ la ∧ j + c ≤ lb)) (m, n, ls, st, xcpy M oa i ob j c)
            | _, _ => none
          | _, _ => none
        | _ => none) r at h
  split at h
  · next c j kb ob i ka oa st' =>
    have hc' : xcat st' ≤ 8 := by
      simp only [xcat] at hc
      omega
    split at h
    · next ta la tb lb h1 h2 =>
      split at h
      · exact ⟨c, j, kb, ob, i, ka, oa, st', 0, la, lb, rfl, hc', Or.inl rfl, h1, h2, h.1, h.2⟩
      · exact ⟨c, j, kb, ob, i, ka, oa, st', 3, la, lb, rfl, hc', Or.inr rfl, h1, h2, h.1, h.2⟩
      · exact h.elim
    · exact h.elim
  · exact h.elim
theorem iv29 (h : xSR maxL fetch f (xins maxL m (29, a, b, l, n) ls st M) r) : xEvF maxL fetch f (m, n, ls, (52, -1) :: st, M) r := h.2
theorem iv30 (h : xSR maxL fetch f (xins maxL m (30, a, b, l, n) ls st M) r) : xEvF maxL fetch f (m, n, ls, (54, (a : Int)) :: st, M) r := h.2
end xInv
end
