/-! every call of the law is answered alike -/
noncomputable section
theorem tie1 {d : Option Int} {q : Option (Int × xM)} {M : xM} (S : Sim M) (h : xC1 d q M) : ∃ m2 : xM, (∃ r : Int, d = some r ∧ q = some (r, m2) ∧ m2 0 = M 0) ∧ Sim m2 := by
  obtain ⟨r, m, a, b, k⟩ := h
  exact ⟨m, ⟨r, a, b, k.1 0 (by unfold xPer; omega)⟩, Sim_kp S k⟩
theorem tie2 {d : Option (Int × xM)} {q : xM → Option (Int × xM)} {M : xM} (S : Sim M) (h : xC2 d q M) : ∃ m2 : xM, (∃ r : Int, ∃ m1 : xM, d = some (r, m1) ∧ m1 0 = M 0 ∧ q m1 = some (r, m2) ∧ m2 0 = M 0) ∧ Sim m2 := by
  obtain ⟨r, m1, m2, a, k, b, l⟩ := h
  have e1 := k.1 0 (by unfold xPer; omega)
  exact ⟨m2, ⟨r, m1, a, e1, b, (l.1 0 (by unfold xPer; omega)).trans e1⟩, Sim_kp (Sim_kp S k) l⟩
theorem tie3 {d : Option (Int × xM)} {q : xM → Option (Int × xM)} {M : xM} (h : xC3 d q M) : ∃ m2 : xM, (∃ r : Int, ∃ m1 : xM, d = some (r, m1) ∧ m1 0 = M 0 ∧ q m1 = some (r, m2) ∧ m2 0 = M 0) ∧ Sim m2 := by
  obtain ⟨r, m1, m2, a, k, b, l, s⟩ := h
  exact ⟨m2, ⟨r, m1, a, k, b, l⟩, s⟩
theorem tie_0 {M : xM} (S : Sim M) (a : Int → Int) (ha : ∀ j : Int, 0 ≤ j → j ≤ 5 → x32 (a j)) : ∃ m2 : xM, xlawC_0 a M m2 ∧ Sim m2 := tie3 (call_0 S (a 1) (a 2) (a 3) (a 4) (a 5))
theorem tie_1 {M : xM} (S : Sim M) (a : Int → Int) (ha : ∀ j : Int, 0 ≤ j → j ≤ 5 → x32 (a j)) : ∃ m2 : xM, xlawC_1 a M m2 ∧ Sim m2 := by
  obtain ⟨m2, ⟨r, m1, h1, h2, h3, h4⟩, s⟩ := tie3 (call_1 S (a 1))
  exact ⟨m2, ⟨r, m1, Option.some.inj h1, h2, Option.some.inj h3, h4⟩, s⟩
theorem tie_2 {M : xM} (S : Sim M) (a : Int → Int) (ha : ∀ j : Int, 0 ≤ j → j ≤ 5 → x32 (a j)) : ∃ m2 : xM, xlawC_2 a M m2 ∧ Sim m2 := tie3 (call_2 S )
theorem tie_3 {M : xM} (S : Sim M) (a : Int → Int) (ha : ∀ j : Int, 0 ≤ j → j ≤ 5 → x32 (a j)) : ∃ m2 : xM, xlawC_3 a M m2 ∧ Sim m2 := by
  obtain ⟨m2, ⟨r, h1, h2, h3⟩, s⟩ := tie1 S (call_3 S (a 1))
  exact ⟨m2, ⟨r, Option.some.inj h1, Option.some.inj h2, h3⟩, s⟩
theorem tie_4 {M : xM} (S : Sim M) (a : Int → Int) (ha : ∀ j : Int, 0 ≤ j → j ≤ 5 → x32 (a j)) : ∃ m2 : xM, xlawC_4 a M m2 ∧ Sim m2 := tie1 S (call_4 S (a 1) (a 2))
theorem tie_5 {M : xM} (S : Sim M) (a : Int → Int) (ha : ∀ j : Int, 0 ≤ j → j ≤ 5 → x32 (a j)) : ∃ m2 : xM, xlawC_5 a M m2 ∧ Sim m2 := by
  obtain ⟨m2, ⟨r, h1, h2, h3⟩, s⟩ := tie1 S (call_5 S (a 1) (a 2))
  exact ⟨m2, ⟨r, Option.some.inj h1, h2, h3⟩, s⟩
theorem tie_6 {M : xM} (S : Sim M) (a : Int → Int) (ha : ∀ j : Int, 0 ≤ j → j ≤ 5 → x32 (a j)) : ∃ m2 : xM, xlawC_6 a M m2 ∧ Sim m2 := tie1 S (call_6 S (a 1) (a 2) (a 3))
theorem tie_7 {M : xM} (S : Sim M) (a : Int → Int) (ha : ∀ j : Int, 0 ≤ j → j ≤ 5 → x32 (a j)) : ∃ m2 : xM, xlawC_7 a M m2 ∧ Sim m2 := tie1 S (call_7 S (a 1) (a 2) (a 3))
theorem tie_8 {M : xM} (S : Sim M) (a : Int → Int) (ha : ∀ j : Int, 0 ≤ j → j ≤ 5 → x32 (a j)) : ∃ m2 : xM, xlawC_8 a M m2 ∧ Sim m2 := tie1 S (call_8 S (a 1) (a 2))
theorem tie_9 {M : xM} (S : Sim M) (a : Int → Int) (ha : ∀ j : Int, 0 ≤ j → j ≤ 5 → x32 (a j)) : ∃ m2 : xM, xlawC_9 a M m2 ∧ Sim m2 := tie1 S (call_9 S (a 1))
theorem tie_10 {M : xM} (S : Sim M) (a : Int → Int) (ha : ∀ j : Int, 0 ≤ j → j ≤ 5 → x32 (a j)) : ∃ m2 : xM, xlawC_10 a M m2 ∧ Sim m2 := tie1 S (call_10 S (a 1) (a 2))
theorem tie_11 {M : xM} (S : Sim M) (a : Int → Int) (ha : ∀ j : Int, 0 ≤ j → j ≤ 5 → x32 (a j)) : ∃ m2 : xM, xlawC_11 a M m2 ∧ Sim m2 := tie1 S (call_11 S (a 1) (a 2))
theorem tie_12 {M : xM} (S : Sim M) (a : Int → Int) (ha : ∀ j : Int, 0 ≤ j → j ≤ 5 → x32 (a j)) : ∃ m2 : xM, xlawC_12 a M m2 ∧ Sim m2 := tie3 (call_12 S (a 1) (a 2))
theorem tie_13 {M : xM} (S : Sim M) (a : Int → Int) (ha : ∀ j : Int, 0 ≤ j → j ≤ 5 → x32 (a j)) : ∃ m2 : xM, xlawC_13 a M m2 ∧ Sim m2 := tie1 S (call_13 S (a 1))
theorem tie_14 {M : xM} (S : Sim M) (a : Int → Int) (ha : ∀ j : Int, 0 ≤ j → j ≤ 5 → x32 (a j)) : ∃ m2 : xM, xlawC_14 a M m2 ∧ Sim m2 := tie1 S (call_14 S (a 1))
theorem tie_15 {M : xM} (S : Sim M) (a : Int → Int) (ha : ∀ j : Int, 0 ≤ j → j ≤ 5 → x32 (a j)) : ∃ m2 : xM, xlawC_15 a M m2 ∧ Sim m2 := tie1 S (call_15 S (a 1) (a 2))
theorem tie_16 {M : xM} (S : Sim M) (a : Int → Int) (ha : ∀ j : Int, 0 ≤ j → j ≤ 5 → x32 (a j)) : ∃ m2 : xM, xlawC_16 a M m2 ∧ Sim m2 := tie1 S (call_16 S (a 1))
theorem tie_17 {M : xM} (S : Sim M) (a : Int → Int) (ha : ∀ j : Int, 0 ≤ j → j ≤ 5 → x32 (a j)) : ∃ m2 : xM, xlawC_17 a M m2 ∧ Sim m2 := tie1 S (call_17 S (a 1))
theorem tie_18 {M : xM} (S : Sim M) (a : Int → Int) (ha : ∀ j : Int, 0 ≤ j → j ≤ 5 → x32 (a j)) : ∃ m2 : xM, xlawC_18 a M m2 ∧ Sim m2 := tie1 S (call_18 S (a 1))
theorem tie_19 {M : xM} (S : Sim M) (a : Int → Int) (ha : ∀ j : Int, 0 ≤ j → j ≤ 5 → x32 (a j)) : ∃ m2 : xM, xlawC_19 a M m2 ∧ Sim m2 := tie1 S (call_19 S (a 1) (a 2))
theorem tie_20 {M : xM} (S : Sim M) (a : Int → Int) (ha : ∀ j : Int, 0 ≤ j → j ≤ 5 → x32 (a j)) : ∃ m2 : xM, xlawC_20 a M m2 ∧ Sim m2 := tie1 S (call_20 S )
theorem tie_21 {M : xM} (S : Sim M) (a : Int → Int) (ha : ∀ j : Int, 0 ≤ j → j ≤ 5 → x32 (a j)) : ∃ m2 : xM, xlawC_21 a M m2 ∧ Sim m2 := tie1 S (call_21 S (a 1))
theorem tie_22 {M : xM} (S : Sim M) (a : Int → Int) (ha : ∀ j : Int, 0 ≤ j → j ≤ 5 → x32 (a j)) : ∃ m2 : xM, xlawC_22 a M m2 ∧ Sim m2 := tie2 S (call_22 S (a 1))
theorem tie_23 {M : xM} (S : Sim M) (a : Int → Int) (ha : ∀ j : Int, 0 ≤ j → j ≤ 5 → x32 (a j)) : ∃ m2 : xM, xlawC_23 a M m2 ∧ Sim m2 := tie1 S (call_23 S (a 1))
theorem tie_24 {M : xM} (S : Sim M) (a : Int → Int) (ha : ∀ j : Int, 0 ≤ j → j ≤ 5 → x32 (a j)) : ∃ m2 : xM, xlawC_24 a M m2 ∧ Sim m2 := tie1 S (call_24 S (a 1))
theorem tie_25 {M : xM} (S : Sim M) (a : Int → Int) (ha : ∀ j : Int, 0 ≤ j → j ≤ 5 → x32 (a j)) : ∃ m2 : xM, xlawC_25 a M m2 ∧ Sim m2 := tie1 S (call_25 S (a 1))
theorem tie_26 {M : xM} (S : Sim M) (a : Int → Int) (ha : ∀ j : Int, 0 ≤ j → j ≤ 5 → x32 (a j)) : ∃ m2 : xM, xlawC_26 a M m2 ∧ Sim m2 := tie1 S (call_26 S )
theorem tie_27 {M : xM} (S : Sim M) (a : Int → Int) (ha : ∀ j : Int, 0 ≤ j → j ≤ 5 → x32 (a j)) : ∃ m2 : xM, xlawC_27 a M m2 ∧ Sim m2 := tie1 S (call_27 S (a 1))
theorem tie_28 {M : xM} (S : Sim M) (a : Int → Int) (ha : ∀ j : Int, 0 ≤ j → j ≤ 5 → x32 (a j)) : ∃ m2 : xM, xlawC_28 a M m2 ∧ Sim m2 := tie1 S (call_28 S (a 1))
theorem tie_29 {M : xM} (S : Sim M) (a : Int → Int) (ha : ∀ j : Int, 0 ≤ j → j ≤ 5 → x32 (a j)) : ∃ m2 : xM, xlawC_29 a M m2 ∧ Sim m2 := tie1 S (call_29 S (a 1))
theorem tie_30 {M : xM} (S : Sim M) (a : Int → Int) (ha : ∀ j : Int, 0 ≤ j → j ≤ 5 → x32 (a j)) : ∃ m2 : xM, xlawC_30 a M m2 ∧ Sim m2 := tie2 S (call_30 S )
theorem tie_31 {M : xM} (S : Sim M) (a : Int → Int) (ha : ∀ j : Int, 0 ≤ j → j ≤ 5 → x32 (a j)) : ∃ m2 : xM, xlawC_31 a M m2 ∧ Sim m2 := tie1 S (call_31 S (a 1) (a 2))
theorem tie_32 {M : xM} (S : Sim M) (a : Int → Int) (ha : ∀ j : Int, 0 ≤ j → j ≤ 5 → x32 (a j)) : ∃ m2 : xM, xlawC_32 a M m2 ∧ Sim m2 := tie1 S (call_32 S (a 1))
theorem tie_33 {M : xM} (S : Sim M) (a : Int → Int) (ha : ∀ j : Int, 0 ≤ j → j ≤ 5 → x32 (a j)) : ∃ m2 : xM, xlawC_33 a M m2 ∧ Sim m2 := tie2 S (call_33 S (a 1) (a 2))
theorem tie_34 {M : xM} (S : Sim M) (a : Int → Int) (ha : ∀ j : Int, 0 ≤ j → j ≤ 5 → x32 (a j)) : ∃ m2 : xM, xlawC_34 a M m2 ∧ Sim m2 := tie2 S (call_34 S (a 1) (a 2))
theorem tie_35 {M : xM} (S : Sim M) (a : Int → Int) (ha : ∀ j : Int, 0 ≤ j → j ≤ 5 → x32 (a j)) : ∃ m2 : xM, xlawC_35 a M m2 ∧ Sim m2 := tie2 S (call_35 S (a 1) (a 2))
theorem tie_36 {M : xM} (S : Sim M) (a : Int → Int) (ha : ∀ j : Int, 0 ≤ j → j ≤ 5 → x32 (a j)) : ∃ m2 : xM, xlawC_36 a M m2 ∧ Sim m2 := tie2 S (call_36 S (a 1))
theorem tie_37 {M : xM} (S : Sim M) (a : Int → Int) (ha : ∀ j : Int, 0 ≤ j → j ≤ 5 → x32 (a j)) : ∃ m2 : xM, xlawC_37 a M m2 ∧ Sim m2 := tie2 S (call_37 S )
theorem tie_38 {M : xM} (S : Sim M) (a : Int → Int) (ha : ∀ j : Int, 0 ≤ j → j ≤ 5 → x32 (a j)) : ∃ m2 : xM, xlawC_38 a M m2 ∧ Sim m2 := tie2 S (call_38 S (a 1))
theorem tie_39 {M : xM} (S : Sim M) (a : Int → Int) (ha : ∀ j : Int, 0 ≤ j → j ≤ 5 → x32 (a j)) : ∃ m2 : xM, xlawC_39 a M m2 ∧ Sim m2 := tie2 S (call_39 S (a 1) (a 2) (a 3) (a 4))
theorem tie_40 {M : xM} (S : Sim M) (a : Int → Int) (ha : ∀ j : Int, 0 ≤ j → j ≤ 5 → x32 (a j)) : ∃ m2 : xM, xlawC_40 a M m2 ∧ Sim m2 := tie2 S (call_40 S (a 1))
theorem tie_41 {M : xM} (S : Sim M) (a : Int → Int) (ha : ∀ j : Int, 0 ≤ j → j ≤ 5 → x32 (a j)) : ∃ m2 : xM, xlawC_41 a M m2 ∧ Sim m2 := tie2 S (call_41 S (a 1))
theorem tie_42 {M : xM} (S : Sim M) (a : Int → Int) (ha : ∀ j : Int, 0 ≤ j → j ≤ 5 → x32 (a j)) : ∃ m2 : xM, xlawC_42 a M m2 ∧ Sim m2 := tie1 S (call_42 S (a 1))
theorem tie_43 {M : xM} (S : Sim M) (a : Int → Int) (ha : ∀ j : Int, 0 ≤ j → j ≤ 5 → x32 (a j)) : ∃ m2 : xM, xlawC_43 a M m2 ∧ Sim m2 := tie1 S (call_43 S )
theorem tie_44 {M : xM} (S : Sim M) (a : Int → Int) (ha : ∀ j : Int, 0 ≤ j → j ≤ 5 → x32 (a j)) : ∃ m2 : xM, xlawC_44 a M m2 ∧ Sim m2 := tie1 S (call_44 S (a 1))
theorem tie_45 {M : xM} (S : Sim M) (a : Int → Int) (ha : ∀ j : Int, 0 ≤ j → j ≤ 5 → x32 (a j)) : ∃ m2 : xM, xlawC_45 a M m2 ∧ Sim m2 := tie1 S (call_45 S (a 1))
theorem tie_46 {M : xM} (S : Sim M) (a : Int → Int) (ha : ∀ j : Int, 0 ≤ j → j ≤ 5 → x32 (a j)) : ∃ m2 : xM, xlawC_46 a M m2 ∧ Sim m2 := tie2 S (call_46 S (a 1))
theorem tie_47 {M : xM} (S : Sim M) (a : Int → Int) (ha : ∀ j : Int, 0 ≤ j → j ≤ 5 → x32 (a j)) : ∃ m2 : xM, xlawC_47 a M m2 ∧ Sim m2 := tie2 S (call_47 S (a 1))
theorem tie_48 {M : xM} (S : Sim M) (a : Int → Int) (ha : ∀ j : Int, 0 ≤ j → j ≤ 5 → x32 (a j)) : ∃ m2 : xM, xlawC_48 a M m2 ∧ Sim m2 := tie2 S (call_48 S (a 1) (a 2))
theorem tie_49 {M : xM} (S : Sim M) (a : Int → Int) (ha : ∀ j : Int, 0 ≤ j → j ≤ 5 → x32 (a j)) : ∃ m2 : xM, xlawC_49 a M m2 ∧ Sim m2 := tie1 S (call_49 S (a 1))
theorem tie_50 {M : xM} (S : Sim M) (a : Int → Int) (ha : ∀ j : Int, 0 ≤ j → j ≤ 5 → x32 (a j)) : ∃ m2 : xM, xlawC_50 a M m2 ∧ Sim m2 := tie1 S (call_50 S (a 1))
theorem tie_51 {M : xM} (S : Sim M) (a : Int → Int) (ha : ∀ j : Int, 0 ≤ j → j ≤ 5 → x32 (a j)) : ∃ m2 : xM, xlawC_51 a M m2 ∧ Sim m2 := tie1 S (call_51 S (a 1))
theorem tie_52 {M : xM} (S : Sim M) (a : Int → Int) (ha : ∀ j : Int, 0 ≤ j → j ≤ 5 → x32 (a j)) : ∃ m2 : xM, xlawC_52 a M m2 ∧ Sim m2 := tie3 (call_52 S (a 1) (a 2))
theorem tie_53 {M : xM} (S : Sim M) (a : Int → Int) (ha : ∀ j : Int, 0 ≤ j → j ≤ 5 → x32 (a j)) : ∃ m2 : xM, xlawC_53 a M m2 ∧ Sim m2 := tie3 (call_53 S (a 1) (a 2))
theorem tie_54 {M : xM} (S : Sim M) (a : Int → Int) (ha : ∀ j : Int, 0 ≤ j → j ≤ 5 → x32 (a j)) : ∃ m2 : xM, xlawC_54 a M m2 ∧ Sim m2 := tie3 (call_54 S (a 1) (a 2))
theorem tie_55 {M : xM} (S : Sim M) (a : Int → Int) (ha : ∀ j : Int, 0 ≤ j → j ≤ 5 → x32 (a j)) : ∃ m2 : xM, xlawC_55 a M m2 ∧ Sim m2 := tie1 S (call_55 S (a 1) (a 2))
theorem tie_56 {M : xM} (S : Sim M) (a : Int → Int) (ha : ∀ j : Int, 0 ≤ j → j ≤ 5 → x32 (a j)) : ∃ m2 : xM, xlawC_56 a M m2 ∧ Sim m2 := tie1 S (call_56 S (a 1))
theorem tie_57 {M : xM} (S : Sim M) (a : Int → Int) (ha : ∀ j : Int, 0 ≤ j → j ≤ 5 → x32 (a j)) : ∃ m2 : xM, xlawC_57 a M m2 ∧ Sim m2 := tie1 S (call_57 S (a 1))
theorem tie_58 {M : xM} (S : Sim M) (a : Int → Int) (ha : ∀ j : Int, 0 ≤ j → j ≤ 5 → x32 (a j)) : ∃ m2 : xM, xlawC_58 a M m2 ∧ Sim m2 := tie2 S (call_58 S (a 1) (a 2) (a 3))
theorem tie_59 {M : xM} (S : Sim M) (a : Int → Int) (ha : ∀ j : Int, 0 ≤ j → j ≤ 5 → x32 (a j)) : ∃ m2 : xM, xlawC_59 a M m2 ∧ Sim m2 := tie2 S (call_59 S (a 1) (a 2) (a 3) (a 4))
theorem tie_60 {M : xM} (S : Sim M) (a : Int → Int) (ha : ∀ j : Int, 0 ≤ j → j ≤ 5 → x32 (a j)) : ∃ m2 : xM, xlawC_60 a M m2 ∧ Sim m2 := tie1 S (call_60 S (a 1))
theorem tie_61 {M : xM} (S : Sim M) (a : Int → Int) (ha : ∀ j : Int, 0 ≤ j → j ≤ 5 → x32 (a j)) : ∃ m2 : xM, xlawC_61 a M m2 ∧ Sim m2 := tie3 (call_61 S (a 1))
theorem tie_62 {M : xM} (S : Sim M) (a : Int → Int) (ha : ∀ j : Int, 0 ≤ j → j ≤ 5 → x32 (a j)) : ∃ m2 : xM, xlawC_62 a M m2 ∧ Sim m2 := tie3 (call_62 S (a 1))
theorem tie_63 {M : xM} (S : Sim M) (a : Int → Int) (ha : ∀ j : Int, 0 ≤ j → j ≤ 5 → x32 (a j)) : ∃ m2 : xM, xlawC_63 a M m2 ∧ Sim m2 := tie3 (call_63 S (a 1) (a 2) (a 3))
theorem tie_64 {M : xM} (S : Sim M) (a : Int → Int) (ha : ∀ j : Int, 0 ≤ j → j ≤ 5 → x32 (a j)) : ∃ m2 : xM, xlawC_64 a M m2 ∧ Sim m2 := tie3 (call_64 S (a 1) (a 2) (xorL (xshlL (a 3) 32) (xandL (a 4) 4294967295)))
theorem tie_65 {M : xM} (S : Sim M) (a : Int → Int) (ha : ∀ j : Int, 0 ≤ j → j ≤ 5 → x32 (a j)) : ∃ m2 : xM, xlawC_65 a M m2 ∧ Sim m2 := tie3 (call_65 S (a 1) (a 2) (a 3) (a 4) (a 5) (ha 2 (by decide) (by decide)) (ha 4 (by decide) (by decide)) (ha 5 (by decide) (by decide)))
theorem tie_all (a : Int → Int) (ha : ∀ j : Int, 0 ≤ j → j ≤ 5 → x32 (a j)) {M : xM} (S : Sim M) : ∀ k : Nat, ∃ m2 : xM, xlawC k a M m2 ∧ Sim m2
  | 0 => tie_0 S a ha
  | 1 => tie_1 S a ha
  | 2 => tie_2 S a ha
  | 3 => tie_3 S a ha
  | 4 => tie_4 S a ha
  | 5 => tie_5 S a ha
  | 6 => tie_6 S a ha
  | 7 => tie_7 S a ha
  | 8 => tie_8 S a ha
  | 9 => tie_9 S a ha
  | 10 => tie_10 S a ha
  | 11 => tie_11 S a ha
  | 12 => tie_12 S a ha
  | 13 => tie_13 S a ha
  | 14 => tie_14 S a ha
  | 15 => tie_15 S a ha
  | 16 => tie_16 S a ha
  | 17 => tie_17 S a ha
  | 18 => tie_18 S a ha
  | 19 => tie_19 S a ha
  | 20 => tie_20 S a ha
  | 21 => tie_21 S a ha
  | 22 => tie_22 S a ha
  | 23 => tie_23 S a ha
  | 24 => tie_24 S a ha
  | 25 => tie_25 S a ha
  | 26 => tie_26 S a ha
  | 27 => tie_27 S a ha
  | 28 => tie_28 S a ha
  | 29 => tie_29 S a ha
  | 30 => tie_30 S a ha
  | 31 => tie_31 S a ha
  | 32 => tie_32 S a ha
  | 33 => tie_33 S a ha
  | 34 => tie_34 S a ha
  | 35 => tie_35 S a ha
  | 36 => tie_36 S a ha
  | 37 => tie_37 S a ha
  | 38 => tie_38 S a ha
  | 39 => tie_39 S a ha
  | 40 => tie_40 S a ha
  | 41 => tie_41 S a ha
  | 42 => tie_42 S a ha
  | 43 => tie_43 S a ha
  | 44 => tie_44 S a ha
  | 45 => tie_45 S a ha
  | 46 => tie_46 S a ha
  | 47 => tie_47 S a ha
  | 48 => tie_48 S a ha
  | 49 => tie_49 S a ha
  | 50 => tie_50 S a ha
  | 51 => tie_51 S a ha
  | 52 => tie_52 S a ha
  | 53 => tie_53 S a ha
  | 54 => tie_54 S a ha
  | 55 => tie_55 S a ha
  | 56 => tie_56 S a ha
  | 57 => tie_57 S a ha
  | 58 => tie_58 S a ha
  | 59 => tie_59 S a ha
  | 60 => tie_60 S a ha
  | 61 => tie_61 S a ha
  | 62 => tie_62 S a ha
  | 63 => tie_63 S a ha
  | 64 => tie_64 S a ha
  | 65 => tie_65 S a ha
  | k + 66 => ⟨M, rfl, S⟩
/-- from its loop on the law comes to true -/
theorem law_true (w : Int → Int) (L : Int) (h0 : 0 ≤ L) (hL : L ≤ 3072) (hlen : w 4000 = L) (hw : ∀ j : Int, 0 ≤ j → j < L → x32 (w j)) {M : xM} (S : Sim M) (hM : M 0 = w) : ∃ M' : xM, xEv (296, 18, [some (53, 0), some (2, 1), some (13, 310), some (0, 0)], [], M) (some (0, 1), M') :=
  xlaw_loop Sim w L h0 hL hlen hw (fun k a _ ha s => tie_all a ha s k) L.toNat 0 M (by decide) (by omega) (by omega) S hM
end
