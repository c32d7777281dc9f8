/-! ===== THE BEGINNING, 8: what the constructors leave is the machine's first memory ===== -/
noncomputable section
/-- the first memory, script aside -/
def m0 (a i : Int) : Int := if a = 2 ∧ i = 8 then -1 else if a = 310 ∧ i = 15 then -1 else if a = 311 ∧ 0 ≤ i ∧ i < 4 then -1 else 0
def xM0 (L : Nat) (xs : Nat → Int32) : xM := fun a i => if a = 0 then (if i = 4000 then (L : Int) else if 0 ≤ i ∧ i < (L : Int) then (xs i.toNat).toInt else 0) else m0 a i
def bspec (a : Int) : Bool := decide (a ≠ 2 ∧ a ≠ 310 ∧ a ≠ 311)
/-- a cell of the builder is the machine's cell -/
def bchk (j : Nat) (e : bE) : Bool := match xak (xkd ((j : Int) + 1)) with
  | some (t, n) => decide (t < 4) && (decide (e.1 = if t = 3 then 2 else 1) && (decide (e.2.1 = t) && (decide (e.2.2.1 = n.toNat) && ((e.2.2.2.isEmpty && bspec ((j : Int) + 1)) || (decide (t ≠ 3) && (decide (e.2.2.1 ≤ 4) && (List.range e.2.2.1).all (fun i => decide ((bget e.2.2.2 i (0, 0)).2 = m0 ((j : Int) + 1) (i : Int)))))))))
  | none => match xrk (xkd ((j : Int) + 1)) with
    | some (_, n, off, str) => decide (e.1 = 3) && (decide (e.2.1 = xrc (xkd ((j : Int) + 1))) && (decide (e.2.2.1 = n.toNat) && (List.range n.toNat).all (fun i => decide (bget e.2.2.2 i (2, 0) = (3, (j : Int) + off + str * (i : Int)) ∧ 0 ≤ (j : Int) + off + str * (i : Int) ∧ (j : Int) + off + str * (i : Int) < 329))))
    | none => decide (e.1 = 0) && (decide (e.2.1 = xkd ((j : Int) + 1)) && (List.range (xcN (xkd ((j : Int) + 1)))).all (fun k => match xft (xkd ((j : Int) + 1)) k with
      | (0, _) => decide (bget e.2.2.2 k (bdef (xkd ((j : Int) + 1)) k) = (0, m0 ((j : Int) + 1) (k : Int)))
      | (1, _) => decide (bget e.2.2.2 k (bdef (xkd ((j : Int) + 1)) k) = (1, m0 ((j : Int) + 1) (k : Int)))
      | (2, _) => decide (bget e.2.2.2 k (bdef (xkd ((j : Int) + 1)) k) = (0, m0 ((j : Int) + 1) (k : Int)))
      | (_, off) => decide (bget e.2.2.2 k (bdef (xkd ((j : Int) + 1)) k) = (3, (j : Int) + off) ∧ 0 ≤ (j : Int) + off ∧ (j : Int) + off < 329)))
def bfin3 : Bool := (List.range 329).all (fun j => match bL2[j]? with
  | some e => bchk j e
  | none => false)
theorem bf3 : bfin3 = true := by decide +kernel
theorem bfin : ∃ L1 L2 : List bE, bRun 1000 0 0 0 none [] [(0, 0, 0, [])] (bmc 0) (bms 0) = some L1 ∧ L1.length = 309 ∧ L1.all (bokE 309) = true ∧ bRun 1000 11 309 0 none [] (L1 ++ [(0, 11, 0, [])]) (bmc 11) (bms 11) = some L2 ∧ L2.length = 329 ∧ ∀ j, j < 329 → ∃ e, L2[j]? = some e ∧ bchk j e = true := by
  refine ⟨bL1, bL2, bf1_run, bL1_len, bL1_ok, bf2_run, bL2_len, fun j hj => ?_⟩
  have h6 := List.all_eq_true.mp bf3 j (List.mem_range.mpr hj)
  split at h6
  · next e he => exact ⟨e, he, h6⟩
  · cases h6
theorem arrV_cg {c : ClassId} {N : Nat} {f g : Nat → Value} (h : ∀ i, i < N → f i = g i) : arrV c N f = arrV c N g := by
  unfold arrV
  rw [show (fun j : Fin N => f j.val) = (fun j : Fin N => g j.val) from funext fun j => h j.val j.isLt]
theorem bspec_m {a : Int} (h : bspec a = true) (i : Int) : m0 a i = 0 := by
  have h := of_decide_eq_true h
  unfold m0
  rw [if_neg (by omega), if_neg (by omega), if_neg (by omega)]
theorem bchk_ok {D : va_G} {cA : Nat → ClassId} {q : Nat → Nat} {H : Heap} {j : Nat} {e : bE} (h : bchk j e = true) (hat : va_at D xcl (q j, bcell cA q e) H) {d : xAd} (hd : ∀ i : Nat, i < 329 → d.1 ((i : Int) + 1) = q i) (hj : j < 329) {M : xM} (hM : ∀ a i : Int, a ≠ 0 → M a i = m0 a i) : va_at D xcl (d.1 ((j : Int) + 1), xent cA d M ((j : Int) + 1)) H := by
  rw [hd j hj]
  have hdr : ∀ y : Int, 0 ≤ y → y < 329 → d.1 (y + 1) = q y.toNat := fun y h0 h1 => by
    rw [← hd y.toNat (by omega), show ((y.toNat : Nat) : Int) = y by omega]
  have hM : ∀ i : Int, M ((j : Int) + 1) i = m0 ((j : Int) + 1) i := fun i => hM _ _ (by omega)
  obtain ⟨so, c, n, u⟩ := e
  unfold xent xentK
  unfold bchk at h
  generalize xkd ((j : Int) + 1) = K at h ⊢
  cases hak : xak K with
  | some p =>
    obtain ⟨t, N⟩ := p
    rw [hak] at h
    dsimp only at h
    rw [Bool.and_eq_true, Bool.and_eq_true, Bool.and_eq_true, Bool.and_eq_true] at h
    obtain ⟨ht, h1, h2, h3, h4⟩ := h
    cases of_decide_eq_true h2
    cases of_decide_eq_true h3
    have ht := of_decide_eq_true ht
    have h1 := of_decide_eq_true h1
    rw [Bool.or_eq_true, Bool.and_eq_true, Bool.and_eq_true, Bool.and_eq_true] at h4
    by_cases hc3 : c = 3
    · subst hc3
      rw [if_pos rfl] at h1
      subst h1
      rcases h4 with ⟨h5, h6⟩ | ⟨h5, -⟩
      · cases List.isEmpty_iff.mp h5
        show H[q j]? = some (vp_cell (cA 3) (N.toNat, .inr (.inl (fun i => Int64.ofInt (M ((j : Int) + 1) (i : Int))))))
        have hat : H[q j]? = some (vp_cell (cA 3) (N.toNat, .inr (.inl (fun i => Int64.ofInt (bget [] i (1, 0)).2)))) := hat
        rw [hat, vp_cell_l, vp_cell_l]
        exact congrArg some (arrV_cg fun i _ => by rw [hM, bspec_m h6]; rfl)
      · exact absurd rfl (of_decide_eq_true h5)
    · rw [if_neg hc3] at h1
      subst h1
      have hat : H[q j]? = some (vp_cell (cA c) (N.toNat, .inl (fun i => Int32.ofInt (bget u i (0, 0)).2))) := hat
      have key : H[q j]? = some (vp_cell (cA c) (N.toNat, .inl (fun i => Int32.ofInt (M ((j : Int) + 1) (i : Int))))) := by
        rw [hat, vp_cell_i, vp_cell_i]
        rcases h4 with ⟨h5, h6⟩ | ⟨-, h5, h6⟩
        · cases List.isEmpty_iff.mp h5
          exact congrArg some (arrV_cg fun i _ => by rw [hM, bspec_m h6]; rfl)
        · exact congrArg some (arrV_cg fun i hi => by rw [hM, of_decide_eq_true (List.all_eq_true.mp h6 i (List.mem_range.mpr hi))])
      match c, hc3, key with
      | 0, _, key => exact key
      | 1, _, key => exact key
      | 2, _, key => exact key
      | 3, h3, _ => exact absurd rfl h3
      | c + 4, _, _ => omega
  | none =>
    rw [hak] at h
    dsimp only at h ⊢
    cases hrk : xrk K with
    | some p =>
      obtain ⟨kd, N, off, str⟩ := p
      rw [hrk] at h
      dsimp only at h ⊢
      rw [Bool.and_eq_true, Bool.and_eq_true, Bool.and_eq_true] at h
      obtain ⟨h1, h2, h3, h4⟩ := h
      cases of_decide_eq_true h1
      cases of_decide_eq_true h2
      cases of_decide_eq_true h3
      show H[q j]? = some (vp_cell (cA (xrc K)) (N.toNat, .inr (.inr (.inr (.inr (fun i => some (d.1 ((j : Int) + 1 + off + str * (i : Int)))))))))
      have hat : H[q j]? = some (vp_cell (cA (xrc K)) (N.toNat, .inr (.inr (.inr (.inr (fun i => bref q (bget u i (2, 0)))))))) := hat
      rw [hat, vp_cell_q, vp_cell_q]
      exact congrArg some (arrV_cg fun i hi => by
        obtain ⟨g1, g2, g3⟩ := of_decide_eq_true (List.all_eq_true.mp h4 i (List.mem_range.mpr hi))
        rw [g1, show (j : Int) + 1 + off + str * (i : Int) = ((j : Int) + off + str * (i : Int)) + 1 by omega, hdr _ g2 g3]
        rfl)
    | none =>
      rw [hrk] at h
      dsimp only at h ⊢
      rw [Bool.and_eq_true, Bool.and_eq_true] at h
      obtain ⟨h1, h2, h3⟩ := h
      cases of_decide_eq_true h1
      cases of_decide_eq_true h2
      have e : (List.range (xcN c)).map (xfv d M ((j : Int) + 1) c) = (List.range (xcN c)).map (fun k => bval q (bget u k (bdef c k))) := by
        apply List.map_congr_left
        intro k hk
        have g := List.all_eq_true.mp h3 k hk
        unfold xfv
        split at g
        · next z hz =>
          rw [hz, of_decide_eq_true g]
          show Value.int (Int32.ofInt (M ((j : Int) + 1) (k : Int))) = _
          rw [hM]
          rfl
        · next z hz =>
          rw [hz, of_decide_eq_true g]
          show Value.long (Int64.ofInt (M ((j : Int) + 1) (k : Int))) = _
          rw [hM]
          rfl
        · next z hz =>
          rw [hz, of_decide_eq_true g]
          show Value.int (Int32.ofInt (M ((j : Int) + 1) (k : Int))) = _
          rw [hM]
          rfl
        · next t off n0 n1 n2 hz =>
          obtain ⟨g1, g2, g3⟩ := of_decide_eq_true g
          rw [hz, g1]
          match t, n0, n1, n2 with
          | 0, n0, _, _ => exact (n0 rfl).elim
          | 1, _, n1, _ => exact (n1 rfl).elim
          | 2, _, _, n2 => exact (n2 rfl).elim
          | t + 3, _, _, _ =>
            show Value.ref (d.1 ((j : Int) + 1 + off)) = Value.ref (q ((j : Int) + off).toNat)
            rw [show (j : Int) + 1 + off = ((j : Int) + off) + 1 by omega, hdr _ g2 g3]
      show va_at D xcl (q j, .inr (c, (List.range (xcN c)).map (xfv d M ((j : Int) + 1) c))) H
      rw [e]
      exact hat
/-- the memory is the world -/
theorem bwd {D : va_G} {cA : Nat → ClassId} {q : Nat → Nat} {H : Heap} {L2 : List bE} (hc : ∀ j, j < 329 → ∃ e, L2[j]? = some e ∧ bchk j e = true) (hP : va_P D xcl (bW cA q 0 L2) H) {d : xAd} (hd : ∀ i : Nat, i < 329 → d.1 ((i : Int) + 1) = q i) {M : xM} (hM : ∀ a i : Int, a ≠ 0 → M a i = m0 a i) : va_P D xcl (xwd cA d M) H := by
  intro k x hx
  unfold xwd at hx
  rw [List.getElem?_map] at hx
  by_cases hk : k < 329
  · rw [List.getElem?_range hk] at hx
    cases hx
    obtain ⟨e, he, hb⟩ := hc k hk
    exact bchk_ok hb (hP k _ (bW_get0 he)) hd hk hM
  · rw [List.getElem?_eq_none (by simpa using hk)] at hx
    cases hx
theorem m0_in (a i : Int) : x32 (m0 a i) := by
  unfold m0
  (repeat' split) <;> exact ⟨by decide, by decide⟩
theorem xM0_rg {L : Nat} {xs : Nat → Int32} (hL : L ≤ 3072) : xrg (xM0 L xs) := by
  have h : ∀ a i : Int, x32 (xM0 L xs a i) := by
    intro a i
    unfold xM0
    split
    · split
      · exact ⟨by omega, by omega⟩
      · split
        · exact ⟨Int32.le_toInt _, Int32.toInt_lt _⟩
        · exact ⟨by decide, by decide⟩
    · exact m0_in a i
  exact fun a i => ⟨fun _ => x32_64 (h a i), fun _ => h a i⟩
theorem xM0_sc {L : Nat} {xs : Nat → Int32} (hL : L ≤ 3072) : xsc L xs (xM0 L xs) := by
  refine ⟨?_, fun j hj => ?_⟩
  · unfold xM0
    rw [if_pos rfl, if_pos rfl]
  · unfold xM0
    rw [if_pos rfl, if_neg (by omega), if_pos (by omega)]
    rfl
end
