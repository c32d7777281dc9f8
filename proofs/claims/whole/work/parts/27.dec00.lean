/-! ===== SOUNDNESS, 7: the code tables are the bytes (printed by wip/tools/mk26.py) ===== -/
noncomputable section
theorem xblt_f {K pc : Nat} (h : K ≤ pc) : Nat.blt pc K = false := by
  cases h2 : Nat.blt pc K with
  | false => rfl
  | true =>
    have := Nat.ble_eq.mp (show Nat.ble (pc + 1) K = true from h2)
    omega
theorem xbeq_f {K pc : Nat} (h : pc ≠ K) : Nat.beq pc K = false := by
  cases h2 : Nat.beq pc K with
  | false => rfl
  | true => exact absurd (Nat.eq_of_beq_eq_true h2) h
/-- the entry at a place is what the bytes say -/
def xdk (m : Nat) (t : Nat → Option xE) (pc : Nat) : Bool := match t pc with
  | none => true
  | some e => match decode (xmb m) pc with
    | .ok (i, n) => decide (xabs m pc i n = some e)
    | _ => false
def xDe (m : Nat) : Prop := ∀ (pc : Nat) (e : xE), xfetch m pc = some e → ∃ i n, decode (xmb m) pc = .ok (i, n) ∧ xabs m pc i n = some e
theorem xDe_of {m B : Nat} (t : Nat → Option xE) (ht : xfetch m = t) (hB : ∀ pc, B ≤ pc → t pc = none) (h : (List.range B).all (xdk m t) = true) : xDe m := by
  intro pc e he
  rw [ht] at he
  have hlt : pc < B := by
    rcases Nat.lt_or_ge pc B with q | q
    · exact q
    · rw [hB pc q] at he; cases he
  have h1 := List.all_eq_true.mp h pc (List.mem_range.mpr hlt)
  unfold xdk at h1
  rw [he] at h1
  dsimp only at h1
  split at h1
  · next i n hd => exact ⟨i, n, hd, of_decide_eq_true h1⟩
  · cases h1
theorem xob_0 (pc : Nat) (h : 63 ≤ pc) : xc_0 pc = none := by
  unfold xc_0
  rw [xblt_f (show 31 ≤ pc by omega), cond_false, xblt_f (show 45 ≤ pc by omega), cond_false, xblt_f (show 54 ≤ pc by omega), cond_false, xblt_f (show 59 ≤ pc by omega), cond_false, xblt_f (show 62 ≤ pc by omega), cond_false, xbeq_f (show pc ≠ 62 by omega), cond_false]
set_option maxRecDepth 100000 in
theorem xde_0 : xDe 0 := xDe_of (B := 63) xc_0 rfl xob_0 (by decide +kernel)
theorem xob_1 (pc : Nat) (h : 33 ≤ pc) : xc_1 pc = none := by
  unfold xc_1
  rw [xblt_f (show 18 ≤ pc by omega), cond_false, xblt_f (show 24 ≤ pc by omega), cond_false, xblt_f (show 28 ≤ pc by omega), cond_false, xblt_f (show 31 ≤ pc by omega), cond_false, xblt_f (show 32 ≤ pc by omega), cond_false, xbeq_f (show pc ≠ 32 by omega), cond_false]
set_option maxRecDepth 100000 in
theorem xde_1 : xDe 1 := xDe_of (B := 33) xc_1 rfl xob_1 (by decide +kernel)
theorem xob_2 (pc : Nat) (h : 52 ≤ pc) : xc_2 pc = none := by
  unfold xc_2
  rw [xblt_f (show 25 ≤ pc by omega), cond_false, xblt_f (show 37 ≤ pc by omega), cond_false, xblt_f (show 44 ≤ pc by omega), cond_false, xblt_f (show 48 ≤ pc by omega), cond_false, xblt_f (show 51 ≤ pc by omega), cond_false, xbeq_f (show pc ≠ 51 by omega), cond_false]
set_option maxRecDepth 100000 in
theorem xde_2 : xDe 2 := xDe_of (B := 52) xc_2 rfl xob_2 (by decide +kernel)
theorem xob_3 (pc : Nat) (h : 46 ≤ pc) : xc_3 pc = none := by
  unfold xc_3
  rw [xblt_f (show 36 ≤ pc by omega), cond_false, xblt_f (show 43 ≤ pc by omega), cond_false, xblt_f (show 44 ≤ pc by omega), cond_false, xblt_f (show 45 ≤ pc by omega), cond_false, xbeq_f (show pc ≠ 45 by omega), cond_false]
set_option maxRecDepth 100000 in
theorem xde_3 : xDe 3 := xDe_of (B := 46) xc_3 rfl xob_3 (by decide +kernel)
theorem xob_4 (pc : Nat) (h : 139 ≤ pc) : xc_4 pc = none := by
  unfold xc_4
  rw [xblt_f (show 93 ≤ pc by omega), cond_false, xblt_f (show 112 ≤ pc by omega), cond_false, xblt_f (show 126 ≤ pc by omega), cond_false, xblt_f (show 134 ≤ pc by omega), cond_false, xblt_f (show 136 ≤ pc by omega), cond_false, xblt_f (show 138 ≤ pc by omega), cond_false, xbeq_f (show pc ≠ 138 by omega), cond_false]
set_option maxRecDepth 100000 in
theorem xde_4 : xDe 4 := xDe_of (B := 139) xc_4 rfl xob_4 (by decide +kernel)
theorem xob_5 (pc : Nat) (h : 31 ≤ pc) : xc_5 pc = none := by
  unfold xc_5
  rw [xblt_f (show 18 ≤ pc by omega), cond_false, xblt_f (show 25 ≤ pc by omega), cond_false, xblt_f (show 27 ≤ pc by omega), cond_false, xblt_f (show 30 ≤ pc by omega), cond_false, xbeq_f (show pc ≠ 30 by omega), cond_false]
set_option maxRecDepth 100000 in
theorem xde_5 : xDe 5 := xDe_of (B := 31) xc_5 rfl xob_5 (by decide +kernel)
theorem xob_6 (pc : Nat) (h : 63 ≤ pc) : xc_6 pc = none := by
  unfold xc_6
  rw [xblt_f (show 36 ≤ pc by omega), cond_false, xblt_f (show 50 ≤ pc by omega), cond_false, xblt_f (show 56 ≤ pc by omega), cond_false, xblt_f (show 58 ≤ pc by omega), cond_false, xblt_f (show 59 ≤ pc by omega), cond_false, xblt_f (show 62 ≤ pc by omega), cond_false, xbeq_f (show pc ≠ 62 by omega), cond_false]
set_option maxRecDepth 100000 in
theorem xde_6 : xDe 6 := xDe_of (B := 63) xc_6 rfl xob_6 (by decide +kernel)
theorem xob_7 (pc : Nat) (h : 44 ≤ pc) : xc_7 pc = none := by
  unfold xc_7
  rw [xblt_f (show 23 ≤ pc by omega), cond_false, xblt_f (show 36 ≤ pc by omega), cond_false, xblt_f (show 39 ≤ pc by omega), cond_false, xblt_f (show 40 ≤ pc by omega), cond_false, xblt_f (show 43 ≤ pc by omega), cond_false, xbeq_f (show pc ≠ 43 by omega), cond_false]
set_option maxRecDepth 100000 in
theorem xde_7 : xDe 7 := xDe_of (B := 44) xc_7 rfl xob_7 (by decide +kernel)
theorem xob_8 (pc : Nat) (h : 38 ≤ pc) : xc_8 pc = none := by
  unfold xc_8
  rw [xblt_f (show 21 ≤ pc by omega), cond_false, xblt_f (show 32 ≤ pc by omega), cond_false, xblt_f (show 35 ≤ pc by omega), cond_false, xblt_f (show 36 ≤ pc by omega), cond_false, xblt_f (show 37 ≤ pc by omega), cond_false, xbeq_f (show pc ≠ 37 by omega), cond_false]
set_option maxRecDepth 100000 in
theorem xde_8 : xDe 8 := xDe_of (B := 38) xc_8 rfl xob_8 (by decide +kernel)
theorem xob_9 (pc : Nat) (h : 29 ≤ pc) : xc_9 pc = none := by
  unfold xc_9
  rw [xblt_f (show 15 ≤ pc by omega), cond_false, xblt_f (show 22 ≤ pc by omega), cond_false, xblt_f (show 26 ≤ pc by omega), cond_false, xblt_f (show 28 ≤ pc by omega), cond_false, xbeq_f (show pc ≠ 28 by omega), cond_false]
set_option maxRecDepth 100000 in
theorem xde_9 : xDe 9 := xDe_of (B := 29) xc_9 rfl xob_9 (by decide +kernel)
theorem xob_10 (pc : Nat) (h : 110 ≤ pc) : xc_10 pc = none := by
  unfold xc_10
  rw [xblt_f (show 57 ≤ pc by omega), cond_false, xblt_f (show 82 ≤ pc by omega), cond_false, xblt_f (show 92 ≤ pc by omega), cond_false, xblt_f (show 102 ≤ pc by omega), cond_false, xblt_f (show 107 ≤ pc by omega), cond_false, xblt_f (show 109 ≤ pc by omega), cond_false, xbeq_f (show pc ≠ 109 by omega), cond_false]
set_option maxRecDepth 100000 in
theorem xde_10 : xDe 10 := xDe_of (B := 110) xc_10 rfl xob_10 (by decide +kernel)
theorem xob_11 (pc : Nat) (h : 59 ≤ pc) : xc_11 pc = none := by
  unfold xc_11
  rw [xblt_f (show 30 ≤ pc by omega), cond_false, xblt_f (show 43 ≤ pc by omega), cond_false, xblt_f (show 53 ≤ pc by omega), cond_false, xblt_f (show 55 ≤ pc by omega), cond_false, xblt_f (show 58 ≤ pc by omega), cond_false, xbeq_f (show pc ≠ 58 by omega), cond_false]
set_option maxRecDepth 100000 in
theorem xde_11 : xDe 11 := xDe_of (B := 59) xc_11 rfl xob_11 (by decide +kernel)
end
