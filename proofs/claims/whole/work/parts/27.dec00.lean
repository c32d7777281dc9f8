/-! ===== SOUNDNESS, 7: the code tables are the bytes (printed by wip/tools/mk26.py) ===== -/
noncomputable section
theorem xblt_f {K pc : Nat} (h : K ≤ pc) : Nat.blt pc K = false := by
  cases h2 : Nat.blt pc K with
  | false => rfl
  | true =>
    have := Nat.ble_eq.mp (show Nat.ble (pc + 1) K = true from h2)
    omega
theorem xbeq_f {K pc : Nat} (h : pc ≠ K) : Nat.beq pc K = false := by
  cases h2 : Nat.beq pc K with
  | false => rfl
  | true => exact absurd (Nat.eq_of_beq_eq_true h2) h
/-- the entry at a place is what the bytes say -/
def xdk (m : Nat) (t : Nat → Option xE) (pc : Nat) : Bool := match t pc with
  | none => true
  | some e => match decode (xmb m) pc with
    | .ok (i, n) => decide (xabs m pc i n = some e)
    | _ => false
def xDe (m : Nat) : Prop := ∀ (pc : Nat) (e : xE), xfetch m pc = some e → ∃ i n, decode (xmb m) pc = .ok (i, n) ∧ xabs m pc i n = some e
theorem xDe_of {m B : Nat} (t : Nat → Option xE) (ht : xfetch m = t) (hB : ∀ pc, B ≤ pc → t pc = none) (h : (List.range B).all (xdk m t) = true) : xDe m := by
  intro pc e he
  rw [ht] at he
  have hlt : pc < B := by
    rcases Nat.lt_or_ge pc B with q | q
    · exact q
    · rw [hB pc q] at he; cases he
  have h1 := List.all_eq_true.mp h pc (List.mem_range.mpr hlt)
  unfold xdk at h1
  rw [he] at h1
  dsimp only at h1
  split at h1
  · next i n hd => exact ⟨i, n, hd, of_decide_eq_true h1⟩
  · cases h1
theorem xob_0 (pc : Nat) (h : 63 ≤ pc) : xc_0 pc = none := by
  unfold xc_0
  rw [xblt_f (show 31 ≤ pc by omega), cond_false, xblt_f (show 45 ≤ pc by omega), cond_false, xblt_f (show 54 ≤ pc by omega), cond_false, xblt_f (show 59 ≤ pc by omega), cond_false, xblt_f (show 62 ≤ pc by omega), cond_false, xbeq_f (show pc ≠ 62 by omega), cond_false]
set_option maxRecDepth 100000 in
theorem xde_0 : xDe 0 := xDe_of (B := 63) xc_0 rfl xob_0 (by decide +kernel)
theorem xob_1 (pc : Nat) (h : 33 ≤ pc) : xc_1 pc = none := by
  unfold xc_1
  rw [xblt_f (show 18 ≤ pc by omega), cond_false, xblt_f (show 24 ≤ pc by omega), cond_false, xblt_f (show 28 ≤ pc by omega), cond_false, xblt_f (show 31 ≤ pc by omega), cond_false, xblt_f (show 32 ≤ pc by omega), cond_false, xbeq_f (show pc ≠ 32 by omega), cond_false]
set_option maxRecDepth 100000 in
theorem xde_1 : xDe 1 := xDe_of (B := 33) xc_1 rfl xob_1 (by decide +kernel)
theorem xob_2 (pc : Nat) (h : 52 ≤ pc) : xc_2 pc = none := by
  unfold xc_2
  rw [xblt_f (show 25 ≤ pc by omega), cond_false, xblt_f (show 37 ≤ pc by omega), cond_false, xblt_f (show 44 ≤ pc by omega), cond_false, xblt_f (show 48 ≤ pc by omega), cond_false, xblt_f (show 51 ≤ pc by omega), cond_false, xbeq_f (show pc ≠ 51 by omega), cond_false]
set_option maxRecDepth 100000 in
theorem xde_2 : xDe 2 := xDe_of (B := 52) xc_2 rfl xob_2 (by decide +kernel)
theorem xob_3 (pc : Nat) (h : 46 ≤ pc) : xc_3 pc = none := by
  unfold xc_3
  rw [xblt_f (show 36 ≤ pc by omega), cond_false, xblt_f (show 43 ≤ pc by omega), cond_false, xblt_f (show 44 ≤ pc by omega), cond_false, xblt_f (show 45 ≤ pc by omega), cond_false, xbeq_f (show pc ≠ 45 by omega), cond_false]
set_option maxRecDepth 100000 in
theorem xde_3 : xDe 3 := xDe_of (B := 46) xc_3 rfl xob_3 (by decide +kernel)
theorem xob_4 (pc : Nat) (h : 139 ≤ pc) : xc_4 pc = none := by
  unfold xc_4
  rw [xblt_f (show 93 ≤ pc by omega), cond_false, xblt_f (show 112 ≤ pc by omega), cond_false, xblt_f (show 126 ≤ pc by omega), cond_false, xblt_f (show 134 ≤ pc by omega), cond_false, xblt_f (show 136 ≤ pc by omega), cond_false, xblt_f (show 138 ≤ pc by omega), cond_false, xbeq_f (show pc ≠ 138 by omega), cond_false]
set_option maxRecDepth 100000 in
theorem xde_4 : xDe 4 := xDe_of (B := 139) xc_4 rfl xob_4 (by decide +kernel)
theorem xob_5 (pc : Nat) (h : 31 ≤ pc) : xc_5 pc = none := by
  unfold xc_5
  rw [xblt_f (show 18 ≤ pc by omega), cond_false, xblt_f (show 25 ≤ pc by omega), cond_false, xblt_f (show 27 ≤ pc by omega), cond_false, xblt_f (show 30 ≤ pc by omega), cond_false, xbeq_f (show pc ≠ 30 by omega), cond_false]
set_option maxRecDepth 100000 in
theorem xde_5 : xDe 5 := xDe_of (B := 31) xc_5 rfl xob_5 (by decide +kernel)
theorem xob_6 (pc : Nat) (h : 63 ≤ pc) : xc_6 pc = none := by
  unfold xc_6
  rw [xblt_f (show 36 ≤ pc by omega), cond_false, xblt_f (show 50 ≤ pc by omega), cond_false, xblt_f (show 56 ≤ pc by omega), cond_false, xblt_f (show 58 ≤ pc by omega), cond_false, xblt_f (show 59 ≤ pc by omega), cond_false, xblt_f (show 62 ≤ pc by omega), cond_false, xbeq_f (show pc ≠ 62 by omega), cond_false]
set_option maxRecDepth 100000 in
theorem xde_6 : xDe 6 := xDe_of (B := 63) xc_6 rfl xob_6 (by decide +kernel)
theorem xob_7 (pc : Nat) (h : 44 ≤ pc) : xc_7 pc = none := by
  unfold xc_7
  rw [xblt_f (show 23 ≤ pc by omega), cond_false, xblt_f (show 36 ≤ pc by omega), cond_false, xblt_f (show 39 ≤ pc by omega), cond_false, xblt_f (show 40 ≤ pc by omega), cond_false, xblt_f (show 43 ≤ pc by omega), cond_false, xbeq_f (show pc ≠ 43 by omega), cond_false]
set_option maxRecDepth 100000 in
theorem xde_7 : xDe 7 := xDe_of (B := 44) xc_7 rfl xob_7 (by decide +kernel)
theorem xob_8 (pc : Nat) (h : 38 ≤ pc) : xc_8 pc = none := by
  unfold xc_8
  rw [xblt_f (show 21 ≤ pc by omega), cond_false, xblt_f (show 32 ≤ pc by omega), cond_false, xblt_f (show 35 ≤ pc by omega), cond_false, xblt_f (show 36 ≤ pc by omega), cond_false, xblt_f (show 37 ≤ pc by omega), cond_false, xbeq_f (show pc ≠ 37 by omega), cond_false]
set_option maxRecDepth 100000 in
theorem xde_8 : xDe 8 := xDe_of (B := 38) xc_8 rfl xob_8 (by decide +kernel)
theorem xob_9 (pc : Nat) (h : 29 ≤ pc) : xc_9 pc = none := by
  unfold xc_9
  rw [xblt_f (show 15 ≤ pc by omega), cond_false, xblt_f (show 22 ≤ pc by omega), cond_false, xblt_f (show 26 ≤ pc by omega), cond_false, xblt_f (show 28 ≤ pc by omega), cond_false, xbeq_f (show pc ≠ 28 by omega), cond_false]
set_option maxRecDepth 100000 in
theorem xde_9 : xDe 9 := xDe_of (B := 29) xc_9 rfl xob_9 (by decide +kernel)
theorem xob_10 (pc : Nat) (h : 110 ≤ pc) : xc_10 pc = none := by
  unfold xc_10
  rw [xblt_f (show 57 ≤ pc by omega), cond_false, xblt_f (show 82 ≤ pc by omega), cond_false, xblt_f (show 92 ≤ pc by omega), cond_false, xblt_f (show 102 ≤ pc by omega), cond_false, xblt_f (show 107 ≤ pc by omega), cond_false, xblt_f (show 109 ≤ pc by omega), cond_false, xbeq_f (show pc ≠ 109 by omega), cond_false]
set_option maxRecDepth 100000 in
theorem xde_10 : xDe 10 := xDe_of (B := 110) xc_10 rfl xob_10 (by decide +kernel)
theorem xob_11 (pc : Nat) (h : 59 ≤ pc) : xc_11 pc = none := by
  unfold xc_11
  rw [xblt_f (show 30 ≤ pc by omega), cond_false, xblt_f (show 43 ≤ pc by omega), cond_false, xblt_f (show 53 ≤ pc by omega), cond_false, xblt_f (show 55 ≤ pc by omega), cond_false, xblt_f (show 58 ≤ pc by omega), cond_false, xbeq_f (show pc ≠ 58 by omega), cond_false]
set_option maxRecDepth 100000 in
theorem xde_11 : xDe 11 := xDe_of (B := 59) xc_11 rfl xob_11 (by decide +kernel)
theorem xob_12 (pc : Nat) (h : 70 ≤ pc) : xc_12 pc = none := by
  unfold xc_12
  rw [xblt_f (show 37 ≤ pc by omega), cond_false, xblt_f (show 50 ≤ pc by omega), cond_false, xblt_f (show 59 ≤ pc by omega), cond_false, xblt_f (show 65 ≤ pc by omega), cond_false, xblt_f (show 68 ≤ pc by omega), cond_false, xblt_f (show 69 ≤ pc by omega), cond_false, xbeq_f (show pc ≠ 69 by omega), cond_false]
set_option maxRecDepth 100000 in
theorem xde_12 : xDe 12 := xDe_of (B := 70) xc_12 rfl xob_12 (by decide +kernel)
theorem xob_13 (pc : Nat) (h : 26 ≤ pc) : xc_13 pc = none := by
  unfold xc_13
  rw [xblt_f (show 12 ≤ pc by omega), cond_false, xblt_f (show 19 ≤ pc by omega), cond_false, xblt_f (show 23 ≤ pc by omega), cond_false, xblt_f (show 25 ≤ pc by omega), cond_false, xbeq_f (show pc ≠ 25 by omega), cond_false]
set_option maxRecDepth 100000 in
theorem xde_13 : xDe 13 := xDe_of (B := 26) xc_13 rfl xob_13 (by decide +kernel)
theorem xob_14 (pc : Nat) (h : 89 ≤ pc) : xc_14 pc = none := by
  unfold xc_14
  rw [xblt_f (show 46 ≤ pc by omega), cond_false, xblt_f (show 67 ≤ pc by omega), cond_false, xblt_f (show 76 ≤ pc by omega), cond_false, xblt_f (show 83 ≤ pc by omega), cond_false, xblt_f (show 87 ≤ pc by omega), cond_false, xblt_f (show 88 ≤ pc by omega), cond_false, xbeq_f (show pc ≠ 88 by omega), cond_false]
set_option maxRecDepth 100000 in
theorem xde_14 : xDe 14 := xDe_of (B := 89) xc_14 rfl xob_14 (by decide +kernel)
theorem xob_15 (pc : Nat) (h : 71 ≤ pc) : xc_15 pc = none := by
  unfold xc_15
  rw [xblt_f (show 36 ≤ pc by omega), cond_false, xblt_f (show 56 ≤ pc by omega), cond_false, xblt_f (show 63 ≤ pc by omega), cond_false, xblt_f (show 65 ≤ pc by omega), cond_false, xblt_f (show 67 ≤ pc by omega), cond_false, xblt_f (show 70 ≤ pc by omega), cond_false, xbeq_f (show pc ≠ 70 by omega), cond_false]
set_option maxRecDepth 100000 in
theorem xde_15 : xDe 15 := xDe_of (B := 71) xc_15 rfl xob_15 (by decide +kernel)
theorem xob_16 (pc : Nat) (h : 26 ≤ pc) : xc_16 pc = none := by
  unfold xc_16
  rw [xblt_f (show 12 ≤ pc by omega), cond_false, xblt_f (show 19 ≤ pc by omega), cond_false, xblt_f (show 23 ≤ pc by omega), cond_false, xblt_f (show 25 ≤ pc by omega), cond_false, xbeq_f (show pc ≠ 25 by omega), cond_false]
set_option maxRecDepth 100000 in
theorem xde_16 : xDe 16 := xDe_of (B := 26) xc_16 rfl xob_16 (by decide +kernel)
theorem xob_17 (pc : Nat) (h : 50 ≤ pc) : xc_17 pc = none := by
  unfold xc_17
  rw [xblt_f (show 24 ≤ pc by omega), cond_false, xblt_f (show 37 ≤ pc by omega), cond_false, xblt_f (show 42 ≤ pc by omega), cond_false, xblt_f (show 48 ≤ pc by omega), cond_false, xblt_f (show 49 ≤ pc by omega), cond_false, xbeq_f (show pc ≠ 49 by omega), cond_false]
set_option maxRecDepth 100000 in
theorem xde_17 : xDe 17 := xDe_of (B := 50) xc_17 rfl xob_17 (by decide +kernel)
theorem xob_18 (pc : Nat) (h : 78 ≤ pc) : xc_18 pc = none := by
  unfold xc_18
  rw [xblt_f (show 37 ≤ pc by omega), cond_false, xblt_f (show 58 ≤ pc by omega), cond_false, xblt_f (show 67 ≤ pc by omega), cond_false, xblt_f (show 73 ≤ pc by omega), cond_false, xblt_f (show 76 ≤ pc by omega), cond_false, xblt_f (show 77 ≤ pc by omega), cond_false, xbeq_f (show pc ≠ 77 by omega), cond_false]
set_option maxRecDepth 100000 in
theorem xde_18 : xDe 18 := xDe_of (B := 78) xc_18 rfl xob_18 (by decide +kernel)
theorem xob_19 (pc : Nat) (h : 50 ≤ pc) : xc_19 pc = none := by
  unfold xc_19
  rw [xblt_f (show 28 ≤ pc by omega), cond_false, xblt_f (show 37 ≤ pc by omega), cond_false, xblt_f (show 44 ≤ pc by omega), cond_false, xblt_f (show 46 ≤ pc by omega), cond_false, xblt_f (show 49 ≤ pc by omega), cond_false, xbeq_f (show pc ≠ 49 by omega), cond_false]
set_option maxRecDepth 100000 in
theorem xde_19 : xDe 19 := xDe_of (B := 50) xc_19 rfl xob_19 (by decide +kernel)
theorem xob_20 (pc : Nat) (h : 65 ≤ pc) : xc_20 pc = none := by
  unfold xc_20
  rw [xblt_f (show 32 ≤ pc by omega), cond_false, xblt_f (show 48 ≤ pc by omega), cond_false, xblt_f (show 54 ≤ pc by omega), cond_false, xblt_f (show 60 ≤ pc by omega), cond_false, xblt_f (show 63 ≤ pc by omega), cond_false, xblt_f (show 64 ≤ pc by omega), cond_false, xbeq_f (show pc ≠ 64 by omega), cond_false]
set_option maxRecDepth 100000 in
theorem xde_20 : xDe 20 := xDe_of (B := 65) xc_20 rfl xob_20 (by decide +kernel)
theorem xob_21 (pc : Nat) (h : 32 ≤ pc) : xc_21 pc = none := by
  unfold xc_21
  rw [xblt_f (show 18 ≤ pc by omega), cond_false, xblt_f (show 22 ≤ pc by omega), cond_false, xblt_f (show 26 ≤ pc by omega), cond_false, xblt_f (show 29 ≤ pc by omega), cond_false, xblt_f (show 31 ≤ pc by omega), cond_false, xbeq_f (show pc ≠ 31 by omega), cond_false]
set_option maxRecDepth 100000 in
theorem xde_21 : xDe 21 := xDe_of (B := 32) xc_21 rfl xob_21 (by decide +kernel)
theorem xob_22 (pc : Nat) (h : 25 ≤ pc) : xc_22 pc = none := by
  unfold xc_22
  rw [xblt_f (show 12 ≤ pc by omega), cond_false, xblt_f (show 19 ≤ pc by omega), cond_false, xblt_f (show 22 ≤ pc by omega), cond_false, xblt_f (show 24 ≤ pc by omega), cond_false, xbeq_f (show pc ≠ 24 by omega), cond_false]
set_option maxRecDepth 100000 in
theorem xde_22 : xDe 22 := xDe_of (B := 25) xc_22 rfl xob_22 (by decide +kernel)
theorem xob_23 (pc : Nat) (h : 66 ≤ pc) : xc_23 pc = none := by
  unfold xc_23
  rw [xblt_f (show 34 ≤ pc by omega), cond_false, xblt_f (show 49 ≤ pc by omega), cond_false, xblt_f (show 57 ≤ pc by omega), cond_false, xblt_f (show 61 ≤ pc by omega), cond_false, xblt_f (show 64 ≤ pc by omega), cond_false, xblt_f (show 65 ≤ pc by omega), cond_false, xbeq_f (show pc ≠ 65 by omega), cond_false]
set_option maxRecDepth 100000 in
theorem xde_23 : xDe 23 := xDe_of (B := 66) xc_23 rfl xob_23 (by decide +kernel)
theorem xob_24 (pc : Nat) (h : 31 ≤ pc) : xc_24 pc = none := by
  unfold xc_24
  rw [xblt_f (show 18 ≤ pc by omega), cond_false, xblt_f (show 22 ≤ pc by omega), cond_false, xblt_f (show 28 ≤ pc by omega), cond_false, xblt_f (show 30 ≤ pc by omega), cond_false, xbeq_f (show pc ≠ 30 by omega), cond_false]
set_option maxRecDepth 100000 in
theorem xde_24 : xDe 24 := xDe_of (B := 31) xc_24 rfl xob_24 (by decide +kernel)
theorem xob_25 (pc : Nat) (h : 72 ≤ pc) : xc_25 pc = none := by
  unfold xc_25
  rw [xblt_f (show 34 ≤ pc by omega), cond_false, xblt_f (show 54 ≤ pc by omega), cond_false, xblt_f (show 63 ≤ pc by omega), cond_false, xblt_f (show 67 ≤ pc by omega), cond_false, xblt_f (show 70 ≤ pc by omega), cond_false, xblt_f (show 71 ≤ pc by omega), cond_false, xbeq_f (show pc ≠ 71 by omega), cond_false]
set_option maxRecDepth 100000 in
theorem xde_25 : xDe 25 := xDe_of (B := 72) xc_25 rfl xob_25 (by decide +kernel)
theorem xob_26 (pc : Nat) (h : 59 ≤ pc) : xc_26 pc = none := by
  unfold xc_26
  rw [xblt_f (show 32 ≤ pc by omega), cond_false, xblt_f (show 46 ≤ pc by omega), cond_false, xblt_f (show 50 ≤ pc by omega), cond_false, xblt_f (show 54 ≤ pc by omega), cond_false, xblt_f (show 57 ≤ pc by omega), cond_false, xblt_f (show 58 ≤ pc by omega), cond_false, xbeq_f (show pc ≠ 58 by omega), cond_false]
set_option maxRecDepth 100000 in
theorem xde_26 : xDe 26 := xDe_of (B := 59) xc_26 rfl xob_26 (by decide +kernel)
theorem xob_27 (pc : Nat) (h : 41 ≤ pc) : xc_27 pc = none := by
  unfold xc_27
  rw [xblt_f (show 23 ≤ pc by omega), cond_false, xblt_f (show 33 ≤ pc by omega), cond_false, xblt_f (show 38 ≤ pc by omega), cond_false, xblt_f (show 39 ≤ pc by omega), cond_false, xblt_f (show 40 ≤ pc by omega), cond_false, xbeq_f (show pc ≠ 40 by omega), cond_false]
set_option maxRecDepth 100000 in
theorem xde_27 : xDe 27 := xDe_of (B := 41) xc_27 rfl xob_27 (by decide +kernel)
theorem xob_28 (pc : Nat) (h : 58 ≤ pc) : xc_28 pc = none := by
  unfold xc_28
  rw [xblt_f (show 28 ≤ pc by omega), cond_false, xblt_f (show 44 ≤ pc by omega), cond_false, xblt_f (show 50 ≤ pc by omega), cond_false, xblt_f (show 56 ≤ pc by omega), cond_false, xblt_f (show 57 ≤ pc by omega), cond_false, xbeq_f (show pc ≠ 57 by omega), cond_false]
set_option maxRecDepth 100000 in
theorem xde_28 : xDe 28 := xDe_of (B := 58) xc_28 rfl xob_28 (by decide +kernel)
theorem xob_29 (pc : Nat) (h : 57 ≤ pc) : xc_29 pc = none := by
  unfold xc_29
  rw [xblt_f (show 28 ≤ pc by omega), cond_false, xblt_f (show 43 ≤ pc by omega), cond_false, xblt_f (show 49 ≤ pc by omega), cond_false, xblt_f (show 55 ≤ pc by omega), cond_false, xblt_f (show 56 ≤ pc by omega), cond_false, xbeq_f (show pc ≠ 56 by omega), cond_false]
set_option maxRecDepth 100000 in
theorem xde_29 : xDe 29 := xDe_of (B := 57) xc_29 rfl xob_29 (by decide +kernel)
theorem xob_30 (pc : Nat) (h : 69 ≤ pc) : xc_30 pc = none := by
  unfold xc_30
  rw [xblt_f (show 37 ≤ pc by omega), cond_false, xblt_f (show 52 ≤ pc by omega), cond_false, xblt_f (show 60 ≤ pc by omega), cond_false, xblt_f (show 64 ≤ pc by omega), cond_false, xblt_f (show 67 ≤ pc by omega), cond_false, xblt_f (show 68 ≤ pc by omega), cond_false, xbeq_f (show pc ≠ 68 by omega), cond_false]
set_option maxRecDepth 100000 in
theorem xde_30 : xDe 30 := xDe_of (B := 69) xc_30 rfl xob_30 (by decide +kernel)
theorem xob_31 (pc : Nat) (h : 36 ≤ pc) : xc_31 pc = none := by
  unfold xc_31
  rw [xblt_f (show 19 ≤ pc by omega), cond_false, xblt_f (show 29 ≤ pc by omega), cond_false, xblt_f (show 31 ≤ pc by omega), cond_false, xblt_f (show 32 ≤ pc by omega), cond_false, xblt_f (show 35 ≤ pc by omega), cond_false, xbeq_f (show pc ≠ 35 by omega), cond_false]
set_option maxRecDepth 100000 in
theorem xde_31 : xDe 31 := xDe_of (B := 36) xc_31 rfl xob_31 (by decide +kernel)
theorem xob_32 (pc : Nat) (h : 77 ≤ pc) : xc_32 pc = none := by
  unfold xc_32
  rw [xblt_f (show 38 ≤ pc by omega), cond_false, xblt_f (show 57 ≤ pc by omega), cond_false, xblt_f (show 66 ≤ pc by omega), cond_false, xblt_f (show 72 ≤ pc by omega), cond_false, xblt_f (show 75 ≤ pc by omega), cond_false, xblt_f (show 76 ≤ pc by omega), cond_false, xbeq_f (show pc ≠ 76 by omega), cond_false]
set_option maxRecDepth 100000 in
theorem xde_32 : xDe 32 := xDe_of (B := 77) xc_32 rfl xob_32 (by decide +kernel)
theorem xob_33 (pc : Nat) (h : 8 ≤ pc) : xc_33 pc = none := by
  unfold xc_33
  rw [xblt_f (show 3 ≤ pc by omega), cond_false, xblt_f (show 4 ≤ pc by omega), cond_false, xblt_f (show 7 ≤ pc by omega), cond_false, xbeq_f (show pc ≠ 7 by omega), cond_false]
set_option maxRecDepth 100000 in
theorem xde_33 : xDe 33 := xDe_of (B := 8) xc_33 rfl xob_33 (by decide +kernel)
theorem xob_34 (pc : Nat) (h : 8 ≤ pc) : xc_34 pc = none := by
  unfold xc_34
  rw [xblt_f (show 3 ≤ pc by omega), cond_false, xblt_f (show 4 ≤ pc by omega), cond_false, xblt_f (show 7 ≤ pc by omega), cond_false, xbeq_f (show pc ≠ 7 by omega), cond_false]
set_option maxRecDepth 100000 in
theorem xde_34 : xDe 34 := xDe_of (B := 8) xc_34 rfl xob_34 (by decide +kernel)
theorem xob_35 (pc : Nat) (h : 69 ≤ pc) : xc_35 pc = none := by
  unfold xc_35
  rw [xblt_f (show 37 ≤ pc by omega), cond_false, xblt_f (show 52 ≤ pc by omega), cond_false, xblt_f (show 60 ≤ pc by omega), cond_false, xblt_f (show 64 ≤ pc by omega), cond_false, xblt_f (show 65 ≤ pc by omega), cond_false, xblt_f (show 68 ≤ pc by omega), cond_false, xbeq_f (show pc ≠ 68 by omega), cond_false]
set_option maxRecDepth 100000 in
theorem xde_35 : xDe 35 := xDe_of (B := 69) xc_35 rfl xob_35 (by decide +kernel)
theorem xob_36 (pc : Nat) (h : 84 ≤ pc) : xc_36 pc = none := by
  unfold xc_36
  rw [xblt_f (show 44 ≤ pc by omega), cond_false, xblt_f (show 63 ≤ pc by omega), cond_false, xblt_f (show 72 ≤ pc by omega), cond_false, xblt_f (show 79 ≤ pc by omega), cond_false, xblt_f (show 82 ≤ pc by omega), cond_false, xblt_f (show 83 ≤ pc by omega), cond_false, xbeq_f (show pc ≠ 83 by omega), cond_false]
set_option maxRecDepth 100000 in
theorem xde_36 : xDe 36 := xDe_of (B := 84) xc_36 rfl xob_36 (by decide +kernel)
theorem xob_37 (pc : Nat) (h : 98 ≤ pc) : xc_37 pc = none := by
  unfold xc_37
  rw [xblt_f (show 46 ≤ pc by omega), cond_false, xblt_f (show 70 ≤ pc by omega), cond_false, xblt_f (show 82 ≤ pc by omega), cond_false, xblt_f (show 89 ≤ pc by omega), cond_false, xblt_f (show 95 ≤ pc by omega), cond_false, xblt_f (show 97 ≤ pc by omega), cond_false, xbeq_f (show pc ≠ 97 by omega), cond_false]
set_option maxRecDepth 100000 in
theorem xde_37 : xDe 37 := xDe_of (B := 98) xc_37 rfl xob_37 (by decide +kernel)
theorem xob_38 (pc : Nat) (h : 66 ≤ pc) : xc_38 pc = none := by
  unfold xc_38
  rw [xblt_f (show 33 ≤ pc by omega), cond_false, xblt_f (show 49 ≤ pc by omega), cond_false, xblt_f (show 57 ≤ pc by omega), cond_false, xblt_f (show 61 ≤ pc by omega), cond_false, xblt_f (show 64 ≤ pc by omega), cond_false, xblt_f (show 65 ≤ pc by omega), cond_false, xbeq_f (show pc ≠ 65 by omega), cond_false]
set_option maxRecDepth 100000 in
theorem xde_38 : xDe 38 := xDe_of (B := 66) xc_38 rfl xob_38 (by decide +kernel)
theorem xob_39 (pc : Nat) (h : 41 ≤ pc) : xc_39 pc = none := by
  unfold xc_39
  rw [xblt_f (show 18 ≤ pc by omega), cond_false, xblt_f (show 29 ≤ pc by omega), cond_false, xblt_f (show 36 ≤ pc by omega), cond_false, xblt_f (show 37 ≤ pc by omega), cond_false, xblt_f (show 40 ≤ pc by omega), cond_false, xbeq_f (show pc ≠ 40 by omega), cond_false]
set_option maxRecDepth 100000 in
theorem xde_39 : xDe 39 := xDe_of (B := 41) xc_39 rfl xob_39 (by decide +kernel)
theorem xob_40 (pc : Nat) (h : 23 ≤ pc) : xc_40 pc = none := by
  unfold xc_40
  rw [xblt_f (show 11 ≤ pc by omega), cond_false, xblt_f (show 18 ≤ pc by omega), cond_false, xblt_f (show 19 ≤ pc by omega), cond_false, xblt_f (show 22 ≤ pc by omega), cond_false, xbeq_f (show pc ≠ 22 by omega), cond_false]
set_option maxRecDepth 100000 in
theorem xde_40 : xDe 40 := xDe_of (B := 23) xc_40 rfl xob_40 (by decide +kernel)
theorem xob_41 (pc : Nat) (h : 12 ≤ pc) : xc_41 pc = none := by
  unfold xc_41
  rw [xblt_f (show 7 ≤ pc by omega), cond_false, xblt_f (show 8 ≤ pc by omega), cond_false, xblt_f (show 11 ≤ pc by omega), cond_false, xbeq_f (show pc ≠ 11 by omega), cond_false]
set_option maxRecDepth 100000 in
theorem xde_41 : xDe 41 := xDe_of (B := 12) xc_41 rfl xob_41 (by decide +kernel)
theorem xob_42 (pc : Nat) (h : 22 ≤ pc) : xc_42 pc = none := by
  unfold xc_42
  rw [xblt_f (show 11 ≤ pc by omega), cond_false, xblt_f (show 16 ≤ pc by omega), cond_false, xblt_f (show 19 ≤ pc by omega), cond_false, xblt_f (show 21 ≤ pc by omega), cond_false, xbeq_f (show pc ≠ 21 by omega), cond_false]
set_option maxRecDepth 100000 in
theorem xde_42 : xDe 42 := xDe_of (B := 22) xc_42 rfl xob_42 (by decide +kernel)
theorem xob_43 (pc : Nat) (h : 31 ≤ pc) : xc_43 pc = none := by
  unfold xc_43
  rw [xblt_f (show 18 ≤ pc by omega), cond_false, xblt_f (show 22 ≤ pc by omega), cond_false, xblt_f (show 26 ≤ pc by omega), cond_false, xblt_f (show 29 ≤ pc by omega), cond_false, xblt_f (show 30 ≤ pc by omega), cond_false, xbeq_f (show pc ≠ 30 by omega), cond_false]
set_option maxRecDepth 100000 in
theorem xde_43 : xDe 43 := xDe_of (B := 31) xc_43 rfl xob_43 (by decide +kernel)
theorem xob_44 (pc : Nat) (h : 56 ≤ pc) : xc_44 pc = none := by
  unfold xc_44
  rw [xblt_f (show 27 ≤ pc by omega), cond_false, xblt_f (show 43 ≤ pc by omega), cond_false, xblt_f (show 48 ≤ pc by omega), cond_false, xblt_f (show 54 ≤ pc by omega), cond_false, xblt_f (show 55 ≤ pc by omega), cond_false, xbeq_f (show pc ≠ 55 by omega), cond_false]
set_option maxRecDepth 100000 in
theorem xde_44 : xDe 44 := xDe_of (B := 56) xc_44 rfl xob_44 (by decide +kernel)
theorem xob_45 (pc : Nat) (h : 50 ≤ pc) : xc_45 pc = none := by
  unfold xc_45
  rw [xblt_f (show 26 ≤ pc by omega), cond_false, xblt_f (show 37 ≤ pc by omega), cond_false, xblt_f (show 44 ≤ pc by omega), cond_false, xblt_f (show 48 ≤ pc by omega), cond_false, xblt_f (show 49 ≤ pc by omega), cond_false, xbeq_f (show pc ≠ 49 by omega), cond_false]
set_option maxRecDepth 100000 in
theorem xde_45 : xDe 45 := xDe_of (B := 50) xc_45 rfl xob_45 (by decide +kernel)
theorem xob_46 (pc : Nat) (h : 66 ≤ pc) : xc_46 pc = none := by
  unfold xc_46
  rw [xblt_f (show 38 ≤ pc by omega), cond_false, xblt_f (show 54 ≤ pc by omega), cond_false, xblt_f (show 58 ≤ pc by omega), cond_false, xblt_f (show 60 ≤ pc by omega), cond_false, xblt_f (show 62 ≤ pc by omega), cond_false, xblt_f (show 65 ≤ pc by omega), cond_false, xbeq_f (show pc ≠ 65 by omega), cond_false]
set_option maxRecDepth 100000 in
theorem xde_46 : xDe 46 := xDe_of (B := 66) xc_46 rfl xob_46 (by decide +kernel)
theorem xob_47 (pc : Nat) (h : 31 ≤ pc) : xc_47 pc = none := by
  unfold xc_47
  rw [xblt_f (show 16 ≤ pc by omega), cond_false, xblt_f (show 22 ≤ pc by omega), cond_false, xblt_f (show 26 ≤ pc by omega), cond_false, xblt_f (show 29 ≤ pc by omega), cond_false, xblt_f (show 30 ≤ pc by omega), cond_false, xbeq_f (show pc ≠ 30 by omega), cond_false]
set_option maxRecDepth 100000 in
theorem xde_47 : xDe 47 := xDe_of (B := 31) xc_47 rfl xob_47 (by decide +kernel)
theorem xob_48 (pc : Nat) (h : 108 ≤ pc) : xc_48 pc = none := by
  unfold xc_48
  rw [xblt_f (show 53 ≤ pc by omega), cond_false, xblt_f (show 82 ≤ pc by omega), cond_false, xblt_f (show 95 ≤ pc by omega), cond_false, xblt_f (show 100 ≤ pc by omega), cond_false, xblt_f (show 106 ≤ pc by omega), cond_false, xblt_f (show 107 ≤ pc by omega), cond_false, xbeq_f (show pc ≠ 107 by omega), cond_false]
set_option maxRecDepth 100000 in
theorem xde_48 : xDe 48 := xDe_of (B := 108) xc_48 rfl xob_48 (by decide +kernel)
theorem xob_49 (pc : Nat) (h : 178 ≤ pc) : xc_49 pc = none := by
  unfold xc_49
  rw [xblt_f (show 99 ≤ pc by omega), cond_false, xblt_f (show 140 ≤ pc by omega), cond_false, xblt_f (show 161 ≤ pc by omega), cond_false, xblt_f (show 169 ≤ pc by omega), cond_false, xblt_f (show 173 ≤ pc by omega), cond_false, xblt_f (show 176 ≤ pc by omega), cond_false, xblt_f (show 177 ≤ pc by omega), cond_false, xbeq_f (show pc ≠ 177 by omega), cond_false]
set_option maxRecDepth 100000 in
theorem xde_49 : xDe 49 := xDe_of (B := 178) xc_49 rfl xob_49 (by decide +kernel)
theorem xob_50 (pc : Nat) (h : 22 ≤ pc) : xc_50 pc = none := by
  unfold xc_50
  rw [xblt_f (show 11 ≤ pc by omega), cond_false, xblt_f (show 16 ≤ pc by omega), cond_false, xblt_f (show 19 ≤ pc by omega), cond_false, xblt_f (show 21 ≤ pc by omega), cond_false, xbeq_f (show pc ≠ 21 by omega), cond_false]
set_option maxRecDepth 100000 in
theorem xde_50 : xDe 50 := xDe_of (B := 22) xc_50 rfl xob_50 (by decide +kernel)
theorem xob_51 (pc : Nat) (h : 58 ≤ pc) : xc_51 pc = none := by
  unfold xc_51
  rw [xblt_f (show 30 ≤ pc by omega), cond_false, xblt_f (show 45 ≤ pc by omega), cond_false, xblt_f (show 50 ≤ pc by omega), cond_false, xblt_f (show 56 ≤ pc by omega), cond_false, xblt_f (show 57 ≤ pc by omega), cond_false, xbeq_f (show pc ≠ 57 by omega), cond_false]
set_option maxRecDepth 100000 in
theorem xde_51 : xDe 51 := xDe_of (B := 58) xc_51 rfl xob_51 (by decide +kernel)
theorem xob_52 (pc : Nat) (h : 60 ≤ pc) : xc_52 pc = none := by
  unfold xc_52
  rw [xblt_f (show 28 ≤ pc by omega), cond_false, xblt_f (show 42 ≤ pc by omega), cond_false, xblt_f (show 52 ≤ pc by omega), cond_false, xblt_f (show 58 ≤ pc by omega), cond_false, xblt_f (show 59 ≤ pc by omega), cond_false, xbeq_f (show pc ≠ 59 by omega), cond_false]
set_option maxRecDepth 100000 in
theorem xde_52 : xDe 52 := xDe_of (B := 60) xc_52 rfl xob_52 (by decide +kernel)
end
