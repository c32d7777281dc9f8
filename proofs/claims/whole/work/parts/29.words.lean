/-! ===== SOUNDNESS, 9: the words of the tables that the machine stands on (printed by wip/tools/mk29.py) ===== -/
noncomputable section
def xws : List Cond := lw_tbl.filter goodWord
theorem xin {w : Cond} {p : Nat} (h : lw_tbl[p]? = some w) (hg : goodWord w = true) : w ∈ xws := List.mem_filter.mpr ⟨List.mem_of_getElem? h, hg⟩
def xTt (c : Nat) : u_T := match xcl[c]? with
  | some q => q.2.1
  | none => fun _ => ("", "", "", false)
theorem xlt12 {P : Nat → Prop} (h0 : P 0) (h1 : P 1) (h2 : P 2) (h3 : P 3) (h4 : P 4) (h5 : P 5) (h6 : P 6) (h7 : P 7) (h8 : P 8) (h9 : P 9) (h10 : P 10) (h11 : P 11) : ∀ c, c < 12 → P c
  | 0, _ => h0
  | 1, _ => h1
  | 2, _ => h2
  | 3, _ => h3
  | 4, _ => h4
  | 5, _ => h5
  | 6, _ => h6
  | 7, _ => h7
  | 8, _ => h8
  | 9, _ => h9
  | 10, _ => h10
  | 11, _ => h11
  | c + 12, h => absurd h (by omega)
theorem xcl_at : ∀ c, c < 12 → xcl[c]? = some (xCn c, xTt c, xcN c) := xlt12 rfl rfl rfl rfl rfl rfl rfl rfl rfl rfl rfl rfl
def xtyf (c : Nat) : Nat → FieldType := match c with
  | 0 => xTy0
  | 1 => xTy1
  | 2 => xTy2
  | 3 => xTy3
  | 4 => xTy4
  | 5 => xTy5
  | 6 => xTy6
  | 7 => xTy7
  | 8 => xTy8
  | 9 => xTy9
  | 10 => xTy10
  | _ => xTy11
theorem xtyf_ok : ∀ c, c < 12 → ∀ k, k < xcN c → parseFieldDescriptor (xTt c k).2.2.1 = some (xtyf c k) := xlt12 xty0 xty1 xty2 xty3 xty4 xty5 xty6 xty7 xty8 xty9 xty10 xty11
theorem xnmf_ok : ∀ c, c < 12 → ∀ a, a < xcN c → ∀ b, b < xcN c → a ≠ b → (xTt c a).2.1 ≠ (xTt c b).2.1 := xlt12 xnm0 xnm1 xnm2 xnm3 xnm4 xnm5 xnm6 xnm7 xnm8 xnm9 xnm10 xnm11
def xUL : List (List Nat) := [[449, 451, 453, 455, 457, 459, 461, 463, 465, 467, 469, 471], [381, 383], [368, 370], [400, 402, 404, 406], [318, 320, 322, 324, 326, 328, 330], [351, 353, 355], [214, 216, 218, 220, 222, 224, 226, 228, 230, 232, 234, 236, 238, 240, 242, 244, 246, 248], [265, 267, 269, 271, 273, 275, 277, 279, 281], [342], [427, 429, 431, 433], [149, 151], [1276, 1278, 1280, 1282, 1284, 1286, 1288, 1290, 1292, 1294, 1296, 1298, 1300, 1302, 1304, 1306, 1308, 1310, 1312, 1314, 1316, 1318, 1320, 1322, 1324, 1326, 1328, 1330, 1332, 1334, 1336, 1338, 1340, 1342, 1344, 1346, 1348, 1350, 1352, 1354, 1356, 1358, 1360, 1362, 1364, 1366, 1368]]
theorem xUL_ok : (List.range 12).all (fun c => (List.range (xcN c)).all (fun k => decide (lw_tbl[(xUL.getD c []).getD k 0]? = some (u_lay (xCn c) (xTt c) k)) && goodWord (u_lay (xCn c) (xTt c) k))) = true := by decide +kernel
theorem xlay {c : Nat} (hc : c < 12) : ∀ w ∈ u_ws (xCn c) (xTt c) (xcN c), w ∈ xws := by
  intro w hw
  unfold u_ws at hw
  obtain ⟨k, hk, rfl⟩ := List.mem_map.mp hw
  have h1 := List.all_eq_true.mp (List.all_eq_true.mp xUL_ok c (List.mem_range.mpr hc)) k hk
  rw [Bool.and_eq_true] at h1
  exact xin (of_decide_eq_true h1.1) h1.2
def xFLc (q : Nat × Nat × Nat × Nat × Nat) : Bool := decide (q.2.2.1 < 12) && (decide (q.2.2.2.1 < xcN q.2.2.1) && (decide ((xTt q.2.2.1 q.2.2.2.1).1 = xCn q.2.2.1) && decide (lw_tbl[q.2.2.2.2]? = some (.fieldLink (xCn q.1) q.2.1 (xCn q.2.2.1) (xTt q.2.2.1 q.2.2.2.1).2.1 (xTt q.2.2.1 q.2.2.2.1).2.2.1))))
theorem xFL_all : xFL.all xFLc = true := by decide +kernel
theorem xFL_ok {q : Nat × Nat × Nat × Nat × Nat} (h : q ∈ xFL) : q.2.2.1 < 12 ∧ q.2.2.2.1 < xcN q.2.2.1 ∧ (xTt q.2.2.1 q.2.2.2.1).1 = xCn q.2.2.1 ∧ Cond.fieldLink (xCn q.1) q.2.1 (xCn q.2.2.1) (xTt q.2.2.1 q.2.2.2.1).2.1 (xTt q.2.2.1 q.2.2.2.1).2.2.1 ∈ xws := by
  have h1 := List.all_eq_true.mp xFL_all q h
  unfold xFLc at h1
  simp only [Bool.and_eq_true, decide_eq_true_eq] at h1
  exact ⟨h1.1, h1.2.1, h1.2.2.1, xin h1.2.2.2 rfl⟩
/-- references of the layout stay in the layout -/
theorem xgR_all : (List.range 330).all (fun o => decide (o = 0) || (List.range (xcN (xkn.getD o 999))).all (fun k => match xft (xkn.getD o 999) k with
  | (3, off) => decide (1 ≤ (o : Int) + off ∧ (o : Int) + off ≤ 329 ∧ xkn.getD ((o : Int) + off).toNat 999 = xfk (xkn.getD o 999) k ∧ xfk (xkn.getD o 999) k ≠ 50 ∧ xfk (xkn.getD o 999) k ≠ 51 ∧ xfk (xkn.getD o 999) k ≠ 52)
  | _ => true)) = true := by decide +kernel
theorem xgR {c k : Nat} {off : Int} (hc : c < 12) (hk : k < xcN c) (hf : xft c k = (3, off)) {o : Int} (h : xval c o) : xval (xfk c k) (o + off) ∧ xfk c k ≠ 50 ∧ xfk c k ≠ 51 ∧ xfk c k ≠ 52 := by
  obtain ⟨h1, h2, h3⟩ := xval_cell h (by omega) (by omega) (by omega)
  have h4 := List.all_eq_true.mp xgR_all o.toNat (List.mem_range.mpr (by omega))
  rw [Bool.or_eq_true] at h4
  rcases h4 with h4 | h4
  · have := of_decide_eq_true h4
    omega
  · have h3' : xkn.getD o.toNat 999 = c := h3
    rw [h3'] at h4
    have h5 := List.all_eq_true.mp h4 k (List.mem_range.mpr hk)
    rw [hf] at h5
    have h6 := of_decide_eq_true h5
    rw [show ((o.toNat : Nat) : Int) = o by omega] at h6
    obtain ⟨g1, g2, g3, g4, g5, g6⟩ := h6
    refine ⟨?_, g4, g5, g6⟩
    unfold xval
    rw [if_neg g4, if_neg g5, if_neg g6]
    exact ⟨g1, g2, g3⟩
theorem xgA_all : (List.range 330).all (fun o => decide (o = 0) || (match xrk (xkn.getD o 999) with
  | some (q, n, off, str) => (List.range n.toNat).all (fun i => decide (1 ≤ (o : Int) + off + str * (i : Int) ∧ (o : Int) + off + str * (i : Int) ≤ 329 ∧ xkn.getD ((o : Int) + off + str * (i : Int)).toNat 999 = q))
  | none => true)) = true := by decide +kernel
theorem xgA {k q : Nat} {n off str i : Int} (hk0 : k ≠ 50 ∧ k ≠ 51 ∧ k ≠ 52) (hq : q ≠ 50 ∧ q ≠ 51 ∧ q ≠ 52) (hr : xrk k = some (q, n, off, str)) (hi : 0 ≤ i ∧ i < n) {o : Int} (h : xval k o) : xval q (o + off + str * i) := by
  obtain ⟨h1, h2, h3⟩ := xval_cell h hk0.1 hk0.2.1 hk0.2.2
  have h4 := List.all_eq_true.mp xgA_all o.toNat (List.mem_range.mpr (by omega))
  rw [Bool.or_eq_true] at h4
  rcases h4 with h4 | h4
  · have := of_decide_eq_true h4
    omega
  · have h3' : xkn.getD o.toNat 999 = k := h3
    rw [h3', hr] at h4
    have h5 := List.all_eq_true.mp h4 i.toNat (List.mem_range.mpr (by omega))
    have h6 := of_decide_eq_true h5
    rw [show ((o.toNat : Nat) : Int) = o by omega, show ((i.toNat : Nat) : Int) = i by omega] at h6
    unfold xval
    rw [if_neg hq.1, if_neg hq.2.1, if_neg hq.2.2]
    exact h6
theorem xrk_or {k q : Nat} {n off str : Int} (h : xrk k = some (q, n, off, str)) : ((k = 60 ∨ k = 61) ∨ k = 62 ∨ k = 63) ∧ (q ≠ 50 ∧ q ≠ 51 ∧ q ≠ 52) := by
  unfold xrk at h
  split at h
  · cases h; exact ⟨Or.inl (Or.inl rfl), by decide⟩
  · cases h; exact ⟨Or.inl (Or.inr rfl), by decide⟩
  · cases h; exact ⟨Or.inr (Or.inl rfl), by decide⟩
  · cases h; exact ⟨Or.inr (Or.inr rfl), by decide⟩
  · cases h
theorem xak_or {k t : Nat} {n : Int} (h : xak k = some (t, n)) : (k ≠ 50 ∧ k ≠ 51 ∧ k ≠ 52) ∧ t < 4 ∧ 0 ≤ n ∧ n ≤ 100000 := by
  unfold xak at h
  split at h <;> first | (cases h; done) | (cases h; exact ⟨by decide, by decide, by decide, by decide⟩)
/-- a method's own words -/
def xMc (m : Nat) : Bool := decide (m = 296) || ((decide (lw_tbl[(xmp m).2.1]? = some (if xms m then .static (xmy m) else .instanceMethod (xmy m))) && (decide (xms m = true ∨ lw_tbl[(xmp m).2.2.1]? = some (.selects (xmy m).cls (xmy m) (xmy m))) && (decide (lw_tbl[(xmp m).2.2.2]? = some (.initialized (xmy m).cls)) && (decide ((xmy m).cls = xCn (xmo m)) && (decide ((xmy m).cls ≠ "java/lang/invoke/MethodHandle" ∧ (xmy m).cls ≠ "java/lang/invoke/VarHandle" ∧ (parseMethodDescriptor (xmy m).desc).map (fun d => d.parameters.length) = some (if xms m then xmn m else xmn m - 1)) && ((plainName (xmy m).cls || decide (m = 299 ∨ m = 300)) && decide (xms m = true ∨ (1 ≤ xmn m ∧ xmo m < 12)))))))))
def xMk (m : Nat) : Prop := m = 296 ∨ lw_tbl[(xmp m).1]? = some (.code (xmy m) (xmb m) (xml m) (xmr m))
set_option maxRecDepth 20000 in
theorem xmk_0 : xMk 0 := Or.inr rfl
set_option maxRecDepth 20000 in
theorem xmk_1 : xMk 1 := Or.inr rfl
set_option maxRecDepth 20000 in
theorem xmk_2 : xMk 2 := Or.inr rfl
set_option maxRecDepth 20000 in
theorem xmk_3 : xMk 3 := Or.inr rfl
set_option maxRecDepth 20000 in
theorem xmk_4 : xMk 4 := Or.inr rfl
set_option maxRecDepth 20000 in
theorem xmk_5 : xMk 5 := Or.inr rfl
set_option maxRecDepth 20000 in
theorem xmk_6 : xMk 6 := Or.inr rfl
set_option maxRecDepth 20000 in
theorem xmk_7 : xMk 7 := Or.inr rfl
set_option maxRecDepth 20000 in
theorem xmk_8 : xMk 8 := Or.inr rfl
set_option maxRecDepth 20000 in
theorem xmk_9 : xMk 9 := Or.inr rfl
set_option maxRecDepth 20000 in
theorem xmk_10 : xMk 10 := Or.inr rfl
set_option maxRecDepth 20000 in
theorem xmk_11 : xMk 11 := Or.inr rfl
set_option maxRecDepth 20000 in
theorem xmk_12 : xMk 12 := Or.inr rfl
set_option maxRecDepth 20000 in
theorem xmk_13 : xMk 13 := Or.inr rfl
set_option maxRecDepth 20000 in
theorem xmk_14 : xMk 14 := Or.inr rfl
set_option maxRecDepth 20000 in
theorem xmk_15 : xMk 15 := Or.inr rfl
set_option maxRecDepth 20000 in
theorem xmk_16 : xMk 16 := Or.inr rfl
set_option maxRecDepth 20000 in
theorem xmk_17 : xMk 17 := Or.inr rfl
set_option maxRecDepth 20000 in
theorem xmk_18 : xMk 18 := Or.inr rfl
set_option maxRecDepth 20000 in
theorem xmk_19 : xMk 19 := Or.inr rfl
set_option maxRecDepth 20000 in
theorem xmk_20 : xMk 20 := Or.inr rfl
set_option maxRecDepth 20000 in
theorem xmk_21 : xMk 21 := Or.inr rfl
set_option maxRecDepth 20000 in
theorem xmk_22 : xMk 22 := Or.inr rfl
set_option maxRecDepth 20000 in
theorem xmk_23 : xMk 23 := Or.inr rfl
set_option maxRecDepth 20000 in
theorem xmk_24 : xMk 24 := Or.inr rfl
set_option maxRecDepth 20000 in
theorem xmk_25 : xMk 25 := Or.inr rfl
set_option maxRecDepth 20000 in
theorem xmk_26 : xMk 26 := Or.inr rfl
set_option maxRecDepth 20000 in
theorem xmk_27 : xMk 27 := Or.inr rfl
set_option maxRecDepth 20000 in
theorem xmk_28 : xMk 28 := Or.inr rfl
set_option maxRecDepth 20000 in
theorem xmk_29 : xMk 29 := Or.inr rfl
set_option maxRecDepth 20000 in
theorem xmk_30 : xMk 30 := Or.inr rfl
set_option maxRecDepth 20000 in
theorem xmk_31 : xMk 31 := Or.inr rfl
set_option maxRecDepth 20000 in
theorem xmk_32 : xMk 32 := Or.inr rfl
set_option maxRecDepth 20000 in
theorem xmk_33 : xMk 33 := Or.inr rfl
set_option maxRecDepth 20000 in
theorem xmk_34 : xMk 34 := Or.inr rfl
set_option maxRecDepth 20000 in
theorem xmk_35 : xMk 35 := Or.inr rfl
set_option maxRecDepth 20000 in
theorem xmk_36 : xMk 36 := Or.inr rfl
set_option maxRecDepth 20000 in
theorem xmk_37 : xMk 37 := Or.inr rfl
set_option maxRecDepth 20000 in
theorem xmk_38 : xMk 38 := Or.inr rfl
set_option maxRecDepth 20000 in
theorem xmk_39 : xMk 39 := Or.inr rfl
set_option maxRecDepth 20000 in
theorem xmk_40 : xMk 40 := Or.inr rfl
set_option maxRecDepth 20000 in
theorem xmk_41 : xMk 41 := Or.inr rfl
set_option maxRecDepth 20000 in
theorem xmk_42 : xMk 42 := Or.inr rfl
set_option maxRecDepth 20000 in
theorem xmk_43 : xMk 43 := Or.inr rfl
set_option maxRecDepth 20000 in
theorem xmk_44 : xMk 44 := Or.inr rfl
set_option maxRecDepth 20000 in
theorem xmk_45 : xMk 45 := Or.inr rfl
set_option maxRecDepth 20000 in
theorem xmk_46 : xMk 46 := Or.inr rfl
set_option maxRecDepth 20000 in
theorem xmk_47 : xMk 47 := Or.inr rfl
set_option maxRecDepth 20000 in
theorem xmk_48 : xMk 48 := Or.inr rfl
set_option maxRecDepth 20000 in
theorem xmk_49 : xMk 49 := Or.inr rfl
set_option maxRecDepth 20000 in
theorem xmk_50 : xMk 50 := Or.inr rfl
set_option maxRecDepth 20000 in
theorem xmk_51 : xMk 51 := Or.inr rfl
set_option maxRecDepth 20000 in
theorem xmk_52 : xMk 52 := Or.inr rfl
set_option maxRecDepth 20000 in
theorem xmk_53 : xMk 53 := Or.inr rfl
set_option maxRecDepth 20000 in
theorem xmk_54 : xMk 54 := Or.inr rfl
set_option maxRecDepth 20000 in
theorem xmk_55 : xMk 55 := Or.inr rfl
set_option maxRecDepth 20000 in
theorem xmk_56 : xMk 56 := Or.inr rfl
set_option maxRecDepth 20000 in
theorem xmk_57 : xMk 57 := Or.inr rfl
set_option maxRecDepth 20000 in
theorem xmk_58 : xMk 58 := Or.inr rfl
set_option maxRecDepth 20000 in
theorem xmk_59 : xMk 59 := Or.inr rfl
set_option maxRecDepth 20000 in
theorem xmk_60 : xMk 60 := Or.inr rfl
set_option maxRecDepth 20000 in
theorem xmk_61 : xMk 61 := Or.inr rfl
set_option maxRecDepth 20000 in
theorem xmk_62 : xMk 62 := Or.inr rfl
set_option maxRecDepth 20000 in
theorem xmk_63 : xMk 63 := Or.inr rfl
set_option maxRecDepth 20000 in
theorem xmk_64 : xMk 64 := Or.inr rfl
set_option maxRecDepth 20000 in
theorem xmk_65 : xMk 65 := Or.inr rfl
set_option maxRecDepth 20000 in
theorem xmk_66 : xMk 66 := Or.inr rfl
set_option maxRecDepth 20000 in
theorem xmk_67 : xMk 67 := Or.inr rfl
set_option maxRecDepth 20000 in
theorem xmk_68 : xMk 68 := Or.inr rfl
set_option maxRecDepth 20000 in
theorem xmk_69 : xMk 69 := Or.inr rfl
set_option maxRecDepth 20000 in
theorem xmk_70 : xMk 70 := Or.inr rfl
set_option maxRecDepth 20000 in
theorem xmk_71 : xMk 71 := Or.inr rfl
set_option maxRecDepth 20000 in
theorem xmk_72 : xMk 72 := Or.inr rfl
set_option maxRecDepth 20000 in
theorem xmk_73 : xMk 73 := Or.inr rfl
set_option maxRecDepth 20000 in
theorem xmk_74 : xMk 74 := Or.inr rfl
set_option maxRecDepth 20000 in
theorem xmk_75 : xMk 75 := Or.inr rfl
set_option maxRecDepth 20000 in
theorem xmk_76 : xMk 76 := Or.inr rfl
set_option maxRecDepth 20000 in
theorem xmk_77 : xMk 77 := Or.inr rfl
set_option maxRecDepth 20000 in
theorem xmk_78 : xMk 78 := Or.inr rfl
set_option maxRecDepth 20000 in
theorem xmk_79 : xMk 79 := Or.inr rfl
set_option maxRecDepth 20000 in
theorem xmk_80 : xMk 80 := Or.inr rfl
set_option maxRecDepth 20000 in
theorem xmk_81 : xMk 81 := Or.inr rfl
set_option maxRecDepth 20000 in
theorem xmk_82 : xMk 82 := Or.inr rfl
set_option maxRecDepth 20000 in
theorem xmk_83 : xMk 83 := Or.inr rfl
set_option maxRecDepth 20000 in
theorem xmk_84 : xMk 84 := Or.inr rfl
set_option maxRecDepth 20000 in
theorem xmk_85 : xMk 85 := Or.inr rfl
set_option maxRecDepth 20000 in
theorem xmk_86 : xMk 86 := Or.inr rfl
set_option maxRecDepth 20000 in
theorem xmk_87 : xMk 87 := Or.inr rfl
set_option maxRecDepth 20000 in
theorem xmk_88 : xMk 88 := Or.inr rfl
set_option maxRecDepth 20000 in
theorem xmk_89 : xMk 89 := Or.inr rfl
set_option maxRecDepth 20000 in
theorem xmk_90 : xMk 90 := Or.inr rfl
set_option maxRecDepth 20000 in
theorem xmk_91 : xMk 91 := Or.inr rfl
set_option maxRecDepth 20000 in
theorem xmk_92 : xMk 92 := Or.inr rfl
set_option maxRecDepth 20000 in
theorem xmk_93 : xMk 93 := Or.inr rfl
set_option maxRecDepth 20000 in
theorem xmk_94 : xMk 94 := Or.inr rfl
set_option maxRecDepth 20000 in
theorem xmk_95 : xMk 95 := Or.inr rfl
set_option maxRecDepth 20000 in
theorem xmk_96 : xMk 96 := Or.inr rfl
set_option maxRecDepth 20000 in
theorem xmk_97 : xMk 97 := Or.inr rfl
set_option maxRecDepth 20000 in
theorem xmk_98 : xMk 98 := Or.inr rfl
set_option maxRecDepth 20000 in
theorem xmk_99 : xMk 99 := Or.inr rfl
set_option maxRecDepth 20000 in
theorem xmk_100 : xMk 100 := Or.inr rfl
set_option maxRecDepth 20000 in
theorem xmk_101 : xMk 101 := Or.inr rfl
set_option maxRecDepth 20000 in
theorem xmk_102 : xMk 102 := Or.inr rfl
set_option maxRecDepth 20000 in
theorem xmk_103 : xMk 103 := Or.inr rfl
set_option maxRecDepth 20000 in
theorem xmk_104 : xMk 104 := Or.inr rfl
set_option maxRecDepth 20000 in
theorem xmk_105 : xMk 105 := Or.inr rfl
set_option maxRecDepth 20000 in
theorem xmk_106 : xMk 106 := Or.inr rfl
set_option maxRecDepth 20000 in
theorem xmk_107 : xMk 107 := Or.inr rfl
set_option maxRecDepth 20000 in
theorem xmk_108 : xMk 108 := Or.inr rfl
set_option maxRecDepth 20000 in
theorem xmk_109 : xMk 109 := Or.inr rfl
set_option maxRecDepth 20000 in
theorem xmk_110 : xMk 110 := Or.inr rfl
set_option maxRecDepth 20000 in
theorem xmk_111 : xMk 111 := Or.inr rfl
set_option maxRecDepth 20000 in
theorem xmk_112 : xMk 112 := Or.inr rfl
set_option maxRecDepth 20000 in
theorem xmk_113 : xMk 113 := Or.inr rfl
set_option maxRecDepth 20000 in
theorem xmk_114 : xMk 114 := Or.inr rfl
set_option maxRecDepth 20000 in
theorem xmk_115 : xMk 115 := Or.inr rfl
set_option maxRecDepth 20000 in
theorem xmk_116 : xMk 116 := Or.inr rfl
set_option maxRecDepth 20000 in
theorem xmk_117 : xMk 117 := Or.inr rfl
set_option maxRecDepth 20000 in
theorem xmk_118 : xMk 118 := Or.inr rfl
set_option maxRecDepth 20000 in
theorem xmk_119 : xMk 119 := Or.inr rfl
set_option maxRecDepth 20000 in
theorem xmk_120 : xMk 120 := Or.inr rfl
set_option maxRecDepth 20000 in
theorem xmk_121 : xMk 121 := Or.inr rfl
set_option maxRecDepth 20000 in
theorem xmk_122 : xMk 122 := Or.inr rfl
set_option maxRecDepth 20000 in
theorem xmk_123 : xMk 123 := Or.inr rfl
set_option maxRecDepth 20000 in
theorem xmk_124 : xMk 124 := Or.inr rfl
set_option maxRecDepth 20000 in
theorem xmk_125 : xMk 125 := Or.inr rfl
set_option maxRecDepth 20000 in
theorem xmk_126 : xMk 126 := Or.inr rfl
set_option maxRecDepth 20000 in
theorem xmk_127 : xMk 127 := Or.inr rfl
set_option maxRecDepth 20000 in
theorem xmk_128 : xMk 128 := Or.inr rfl
set_option maxRecDepth 20000 in
theorem xmk_129 : xMk 129 := Or.inr rfl
set_option maxRecDepth 20000 in
theorem xmk_130 : xMk 130 := Or.inr rfl
set_option maxRecDepth 20000 in
theorem xmk_131 : xMk 131 := Or.inr rfl
set_option maxRecDepth 20000 in
theorem xmk_132 : xMk 132 := Or.inr rfl
set_option maxRecDepth 20000 in
theorem xmk_133 : xMk 133 := Or.inr rfl
set_option maxRecDepth 20000 in
theorem xmk_134 : xMk 134 := Or.inr rfl
set_option maxRecDepth 20000 in
theorem xmk_135 : xMk 135 := Or.inr rfl
set_option maxRecDepth 20000 in
theorem xmk_136 : xMk 136 := Or.inr rfl
set_option maxRecDepth 20000 in
theorem xmk_137 : xMk 137 := Or.inr rfl
set_option maxRecDepth 20000 in
theorem xmk_138 : xMk 138 := Or.inr rfl
set_option maxRecDepth 20000 in
theorem xmk_139 : xMk 139 := Or.inr rfl
set_option maxRecDepth 20000 in
theorem xmk_140 : xMk 140 := Or.inr rfl
set_option maxRecDepth 20000 in
theorem xmk_141 : xMk 141 := Or.inr rfl
set_option maxRecDepth 20000 in
theorem xmk_142 : xMk 142 := Or.inr rfl
set_option maxRecDepth 20000 in
theorem xmk_143 : xMk 143 := Or.inr rfl
set_option maxRecDepth 20000 in
theorem xmk_144 : xMk 144 := Or.inr rfl
set_option maxRecDepth 20000 in
theorem xmk_145 : xMk 145 := Or.inr rfl
set_option maxRecDepth 20000 in
theorem xmk_146 : xMk 146 := Or.inr rfl
set_option maxRecDepth 20000 in
theorem xmk_147 : xMk 147 := Or.inr rfl
set_option maxRecDepth 20000 in
theorem xmk_148 : xMk 148 := Or.inr rfl
set_option maxRecDepth 20000 in
theorem xmk_149 : xMk 149 := Or.inr rfl
set_option maxRecDepth 20000 in
theorem xmk_150 : xMk 150 := Or.inr rfl
set_option maxRecDepth 20000 in
theorem xmk_151 : xMk 151 := Or.inr rfl
set_option maxRecDepth 20000 in
theorem xmk_152 : xMk 152 := Or.inr rfl
set_option maxRecDepth 20000 in
theorem xmk_153 : xMk 153 := Or.inr rfl
set_option maxRecDepth 20000 in
theorem xmk_154 : xMk 154 := Or.inr rfl
set_option maxRecDepth 20000 in
theorem xmk_155 : xMk 155 := Or.inr rfl
set_option maxRecDepth 20000 in
theorem xmk_156 : xMk 156 := Or.inr rfl
set_option maxRecDepth 20000 in
theorem xmk_157 : xMk 157 := Or.inr rfl
set_option maxRecDepth 20000 in
theorem xmk_158 : xMk 158 := Or.inr rfl
set_option maxRecDepth 20000 in
theorem xmk_159 : xMk 159 := Or.inr rfl
set_option maxRecDepth 20000 in
theorem xmk_160 : xMk 160 := Or.inr rfl
set_option maxRecDepth 20000 in
theorem xmk_161 : xMk 161 := Or.inr rfl
set_option maxRecDepth 20000 in
theorem xmk_162 : xMk 162 := Or.inr rfl
set_option maxRecDepth 20000 in
theorem xmk_163 : xMk 163 := Or.inr rfl
set_option maxRecDepth 20000 in
theorem xmk_164 : xMk 164 := Or.inr rfl
set_option maxRecDepth 20000 in
theorem xmk_165 : xMk 165 := Or.inr rfl
set_option maxRecDepth 20000 in
theorem xmk_166 : xMk 166 := Or.inr rfl
set_option maxRecDepth 20000 in
theorem xmk_167 : xMk 167 := Or.inr rfl
set_option maxRecDepth 20000 in
theorem xmk_168 : xMk 168 := Or.inr rfl
set_option maxRecDepth 20000 in
theorem xmk_169 : xMk 169 := Or.inr rfl
set_option maxRecDepth 20000 in
theorem xmk_170 : xMk 170 := Or.inr rfl
set_option maxRecDepth 20000 in
theorem xmk_171 : xMk 171 := Or.inr rfl
set_option maxRecDepth 20000 in
theorem xmk_172 : xMk 172 := Or.inr rfl
set_option maxRecDepth 20000 in
theorem xmk_173 : xMk 173 := Or.inr rfl
set_option maxRecDepth 20000 in
theorem xmk_174 : xMk 174 := Or.inr rfl
set_option maxRecDepth 20000 in
theorem xmk_175 : xMk 175 := Or.inr rfl
set_option maxRecDepth 20000 in
theorem xmk_176 : xMk 176 := Or.inr rfl
set_option maxRecDepth 20000 in
theorem xmk_177 : xMk 177 := Or.inr rfl
set_option maxRecDepth 20000 in
theorem xmk_178 : xMk 178 := Or.inr rfl
set_option maxRecDepth 20000 in
theorem xmk_179 : xMk 179 := Or.inr rfl
set_option maxRecDepth 20000 in
theorem xmk_180 : xMk 180 := Or.inr rfl
set_option maxRecDepth 20000 in
theorem xmk_181 : xMk 181 := Or.inr rfl
set_option maxRecDepth 20000 in
theorem xmk_182 : xMk 182 := Or.inr rfl
set_option maxRecDepth 20000 in
theorem xmk_183 : xMk 183 := Or.inr rfl
set_option maxRecDepth 20000 in
theorem xmk_184 : xMk 184 := Or.inr rfl
set_option maxRecDepth 20000 in
theorem xmk_185 : xMk 185 := Or.inr rfl
set_option maxRecDepth 20000 in
theorem xmk_186 : xMk 186 := Or.inr rfl
set_option maxRecDepth 20000 in
theorem xmk_187 : xMk 187 := Or.inr rfl
set_option maxRecDepth 20000 in
theorem xmk_188 : xMk 188 := Or.inr rfl
set_option maxRecDepth 20000 in
theorem xmk_189 : xMk 189 := Or.inr rfl
set_option maxRecDepth 20000 in
theorem xmk_190 : xMk 190 := Or.inr rfl
set_option maxRecDepth 20000 in
theorem xmk_191 : xMk 191 := Or.inr rfl
set_option maxRecDepth 20000 in
theorem xmk_192 : xMk 192 := Or.inr rfl
set_option maxRecDepth 20000 in
theorem xmk_193 : xMk 193 := Or.inr rfl
set_option maxRecDepth 20000 in
theorem xmk_194 : xMk 194 := Or.inr rfl
set_option maxRecDepth 20000 in
theorem xmk_195 : xMk 195 := Or.inr rfl
set_option maxRecDepth 20000 in
theorem xmk_196 : xMk 196 := Or.inr rfl
set_option maxRecDepth 20000 in
theorem xmk_197 : xMk 197 := Or.inr rfl
set_option maxRecDepth 20000 in
theorem xmk_198 : xMk 198 := Or.inr rfl
set_option maxRecDepth 20000 in
theorem xmk_199 : xMk 199 := Or.inr rfl
set_option maxRecDepth 20000 in
theorem xmk_200 : xMk 200 := Or.inr rfl
set_option maxRecDepth 20000 in
theorem xmk_201 : xMk 201 := Or.inr rfl
set_option maxRecDepth 20000 in
theorem xmk_202 : xMk 202 := Or.inr rfl
set_option maxRecDepth 20000 in
theorem xmk_203 : xMk 203 := Or.inr rfl
set_option maxRecDepth 20000 in
theorem xmk_204 : xMk 204 := Or.inr rfl
set_option maxRecDepth 20000 in
theorem xmk_205 : xMk 205 := Or.inr rfl
set_option maxRecDepth 20000 in
theorem xmk_206 : xMk 206 := Or.inr rfl
set_option maxRecDepth 20000 in
theorem xmk_207 : xMk 207 := Or.inr rfl
set_option maxRecDepth 20000 in
theorem xmk_208 : xMk 208 := Or.inr rfl
set_option maxRecDepth 20000 in
theorem xmk_209 : xMk 209 := Or.inr rfl
set_option maxRecDepth 20000 in
theorem xmk_210 : xMk 210 := Or.inr rfl
set_option maxRecDepth 20000 in
theorem xmk_211 : xMk 211 := Or.inr rfl
set_option maxRecDepth 20000 in
theorem xmk_212 : xMk 212 := Or.inr rfl
set_option maxRecDepth 20000 in
theorem xmk_213 : xMk 213 := Or.inr rfl
set_option maxRecDepth 20000 in
theorem xmk_214 : xMk 214 := Or.inr rfl
set_option maxRecDepth 20000 in
theorem xmk_215 : xMk 215 := Or.inr rfl
set_option maxRecDepth 20000 in
theorem xmk_216 : xMk 216 := Or.inr rfl
set_option maxRecDepth 20000 in
theorem xmk_217 : xMk 217 := Or.inr rfl
set_option maxRecDepth 20000 in
theorem xmk_218 : xMk 218 := Or.inr rfl
set_option maxRecDepth 20000 in
theorem xmk_219 : xMk 219 := Or.inr rfl
set_option maxRecDepth 20000 in
theorem xmk_220 : xMk 220 := Or.inr rfl
set_option maxRecDepth 20000 in
theorem xmk_221 : xMk 221 := Or.inr rfl
set_option maxRecDepth 20000 in
theorem xmk_222 : xMk 222 := Or.inr rfl
set_option maxRecDepth 20000 in
theorem xmk_223 : xMk 223 := Or.inr rfl
set_option maxRecDepth 20000 in
theorem xmk_224 : xMk 224 := Or.inr rfl
set_option maxRecDepth 20000 in
theorem xmk_225 : xMk 225 := Or.inr rfl
set_option maxRecDepth 20000 in
theorem xmk_226 : xMk 226 := Or.inr rfl
set_option maxRecDepth 20000 in
theorem xmk_227 : xMk 227 := Or.inr rfl
set_option maxRecDepth 20000 in
theorem xmk_228 : xMk 228 := Or.inr rfl
set_option maxRecDepth 20000 in
theorem xmk_229 : xMk 229 := Or.inr rfl
set_option maxRecDepth 20000 in
theorem xmk_230 : xMk 230 := Or.inr rfl
set_option maxRecDepth 20000 in
theorem xmk_231 : xMk 231 := Or.inr rfl
set_option maxRecDepth 20000 in
theorem xmk_232 : xMk 232 := Or.inr rfl
set_option maxRecDepth 20000 in
theorem xmk_233 : xMk 233 := Or.inr rfl
set_option maxRecDepth 20000 in
theorem xmk_234 : xMk 234 := Or.inr rfl
set_option maxRecDepth 20000 in
theorem xmk_235 : xMk 235 := Or.inr rfl
set_option maxRecDepth 20000 in
theorem xmk_236 : xMk 236 := Or.inr rfl
set_option maxRecDepth 20000 in
theorem xmk_237 : xMk 237 := Or.inr rfl
set_option maxRecDepth 20000 in
theorem xmk_238 : xMk 238 := Or.inr rfl
set_option maxRecDepth 20000 in
theorem xmk_239 : xMk 239 := Or.inr rfl
set_option maxRecDepth 20000 in
theorem xmk_240 : xMk 240 := Or.inr rfl
set_option maxRecDepth 20000 in
theorem xmk_241 : xMk 241 := Or.inr rfl
set_option maxRecDepth 20000 in
theorem xmk_242 : xMk 242 := Or.inr rfl
set_option maxRecDepth 20000 in
theorem xmk_243 : xMk 243 := Or.inr rfl
set_option maxRecDepth 20000 in
theorem xmk_244 : xMk 244 := Or.inr rfl
set_option maxRecDepth 20000 in
theorem xmk_245 : xMk 245 := Or.inr rfl
set_option maxRecDepth 20000 in
theorem xmk_246 : xMk 246 := Or.inr rfl
set_option maxRecDepth 20000 in
theorem xmk_247 : xMk 247 := Or.inr rfl
set_option maxRecDepth 20000 in
theorem xmk_248 : xMk 248 := Or.inr rfl
set_option maxRecDepth 20000 in
theorem xmk_249 : xMk 249 := Or.inr rfl
set_option maxRecDepth 20000 in
theorem xmk_250 : xMk 250 := Or.inr rfl
set_option maxRecDepth 20000 in
theorem xmk_251 : xMk 251 := Or.inr rfl
set_option maxRecDepth 20000 in
theorem xmk_252 : xMk 252 := Or.inr rfl
set_option maxRecDepth 20000 in
theorem xmk_253 : xMk 253 := Or.inr rfl
set_option maxRecDepth 20000 in
theorem xmk_254 : xMk 254 := Or.inr rfl
set_option maxRecDepth 20000 in
theorem xmk_255 : xMk 255 := Or.inr rfl
set_option maxRecDepth 20000 in
theorem xmk_256 : xMk 256 := Or.inr rfl
set_option maxRecDepth 20000 in
theorem xmk_257 : xMk 257 := Or.inr rfl
set_option maxRecDepth 20000 in
theorem xmk_258 : xMk 258 := Or.inr rfl
set_option maxRecDepth 20000 in
theorem xmk_259 : xMk 259 := Or.inr rfl
set_option maxRecDepth 20000 in
theorem xmk_260 : xMk 260 := Or.inr rfl
set_option maxRecDepth 20000 in
theorem xmk_261 : xMk 261 := Or.inr rfl
set_option maxRecDepth 20000 in
theorem xmk_262 : xMk 262 := Or.inr rfl
set_option maxRecDepth 20000 in
theorem xmk_263 : xMk 263 := Or.inr rfl
set_option maxRecDepth 20000 in
theorem xmk_264 : xMk 264 := Or.inr rfl
set_option maxRecDepth 20000 in
theorem xmk_265 : xMk 265 := Or.inr rfl
set_option maxRecDepth 20000 in
theorem xmk_266 : xMk 266 := Or.inr rfl
set_option maxRecDepth 20000 in
theorem xmk_267 : xMk 267 := Or.inr rfl
set_option maxRecDepth 20000 in
theorem xmk_268 : xMk 268 := Or.inr rfl
set_option maxRecDepth 20000 in
theorem xmk_269 : xMk 269 := Or.inr rfl
set_option maxRecDepth 20000 in
theorem xmk_270 : xMk 270 := Or.inr rfl
set_option maxRecDepth 20000 in
theorem xmk_271 : xMk 271 := Or.inr rfl
set_option maxRecDepth 20000 in
theorem xmk_272 : xMk 272 := Or.inr rfl
set_option maxRecDepth 20000 in
theorem xmk_273 : xMk 273 := Or.inr rfl
set_option maxRecDepth 20000 in
theorem xmk_274 : xMk 274 := Or.inr rfl
set_option maxRecDepth 20000 in
theorem xmk_275 : xMk 275 := Or.inr rfl
set_option maxRecDepth 20000 in
theorem xmk_276 : xMk 276 := Or.inr rfl
set_option maxRecDepth 20000 in
theorem xmk_277 : xMk 277 := Or.inr rfl
set_option maxRecDepth 20000 in
theorem xmk_278 : xMk 278 := Or.inr rfl
set_option maxRecDepth 20000 in
theorem xmk_279 : xMk 279 := Or.inr rfl
set_option maxRecDepth 20000 in
theorem xmk_280 : xMk 280 := Or.inr rfl
set_option maxRecDepth 20000 in
theorem xmk_281 : xMk 281 := Or.inr rfl
set_option maxRecDepth 20000 in
theorem xmk_282 : xMk 282 := Or.inr rfl
set_option maxRecDepth 20000 in
theorem xmk_283 : xMk 283 := Or.inr rfl
set_option maxRecDepth 20000 in
theorem xmk_284 : xMk 284 := Or.inr rfl
set_option maxRecDepth 20000 in
theorem xmk_285 : xMk 285 := Or.inr rfl
set_option maxRecDepth 20000 in
theorem xmk_286 : xMk 286 := Or.inr rfl
set_option maxRecDepth 20000 in
theorem xmk_287 : xMk 287 := Or.inr rfl
set_option maxRecDepth 20000 in
theorem xmk_288 : xMk 288 := Or.inr rfl
set_option maxRecDepth 20000 in
theorem xmk_289 : xMk 289 := Or.inr rfl
set_option maxRecDepth 20000 in
theorem xmk_290 : xMk 290 := Or.inr rfl
set_option maxRecDepth 20000 in
theorem xmk_291 : xMk 291 := Or.inr rfl
set_option maxRecDepth 20000 in
theorem xmk_292 : xMk 292 := Or.inr rfl
set_option maxRecDepth 20000 in
theorem xmk_293 : xMk 293 := Or.inr rfl
set_option maxRecDepth 20000 in
theorem xmk_294 : xMk 294 := Or.inr rfl
set_option maxRecDepth 20000 in
theorem xmk_295 : xMk 295 := Or.inr rfl
set_option maxRecDepth 20000 in
theorem xmk_296 : xMk 296 := Or.inl rfl
set_option maxRecDepth 20000 in
theorem xmk_297 : xMk 297 := Or.inr rfl
set_option maxRecDepth 20000 in
theorem xmk_298 : xMk 298 := Or.inr rfl
set_option maxRecDepth 20000 in
theorem xmk_299 : xMk 299 := Or.inr rfl
set_option maxRecDepth 20000 in
theorem xmk_300 : xMk 300 := Or.inr rfl
set_option maxRecDepth 20000 in
theorem xmk_301 : xMk 301 := Or.inr rfl
set_option maxRecDepth 20000 in
theorem xmk_302 : xMk 302 := Or.inr rfl
theorem xMc_0 : (List.range 51).all (fun m => xMc (0 + m)) = true := by decide +kernel
theorem xMc_1 : (List.range 51).all (fun m => xMc (51 + m)) = true := by decide +kernel
theorem xMc_2 : (List.range 51).all (fun m => xMc (102 + m)) = true := by decide +kernel
theorem xMc_3 : (List.range 51).all (fun m => xMc (153 + m)) = true := by decide +kernel
theorem xMc_4 : (List.range 51).all (fun m => xMc (204 + m)) = true := by decide +kernel
theorem xMc_5 : (List.range 48).all (fun m => xMc (255 + m)) = true := by decide +kernel
theorem xMc_ok {m : Nat} (h : m < 303) : xMc m = true := by
  rcases Nat.lt_or_ge m 51 with q | q
  · have := List.all_eq_true.mp xMc_0 (m - 0) (List.mem_range.mpr (by omega))
    rw [show 0 + (m - 0) = m by omega] at this
    exact this
  rcases Nat.lt_or_ge m 102 with q | q
  · have := List.all_eq_true.mp xMc_1 (m - 51) (List.mem_range.mpr (by omega))
    rw [show 51 + (m - 51) = m by omega] at this
    exact this
  rcases Nat.lt_or_ge m 153 with q | q
  · have := List.all_eq_true.mp xMc_2 (m - 102) (List.mem_range.mpr (by omega))
    rw [show 102 + (m - 102) = m by omega] at this
    exact this
  rcases Nat.lt_or_ge m 204 with q | q
  · have := List.all_eq_true.mp xMc_3 (m - 153) (List.mem_range.mpr (by omega))
    rw [show 153 + (m - 153) = m by omega] at this
    exact this
  rcases Nat.lt_or_ge m 255 with q | q
  · have := List.all_eq_true.mp xMc_4 (m - 204) (List.mem_range.mpr (by omega))
    rw [show 204 + (m - 204) = m by omega] at this
    exact this
  rcases Nat.lt_or_ge m 303 with q | q
  · have := List.all_eq_true.mp xMc_5 (m - 255) (List.mem_range.mpr (by omega))
    rw [show 255 + (m - 255) = m by omega] at this
    exact this
  omega
theorem xMk_all_c0 : ∀ a, a < 51 → xMk (0 + a) := lt_s (lt_s (lt_s (lt_s (lt_s (lt_s (lt_s (lt_s (lt_s (lt_s (lt_s (lt_s (lt_s (lt_s (lt_s (lt_s (lt_s (lt_s (lt_s (lt_s (lt_s (lt_s (lt_s (lt_s (lt_s (lt_s (lt_s (lt_s (lt_s (lt_s (lt_s (lt_s (lt_s (lt_s (lt_s (lt_s (lt_s (lt_s (lt_s (lt_s (lt_s (lt_s (lt_s (lt_s (lt_s (lt_s (lt_s (lt_s (lt_s (lt_s (lt_s (lt_0) xmk_0) xmk_1) xmk_2) xmk_3) xmk_4) xmk_5) xmk_6) xmk_7) xmk_8) xmk_9) xmk_10) xmk_11) xmk_12) xmk_13) xmk_14) xmk_15) xmk_16) xmk_17) xmk_18) xmk_19) xmk_20) xmk_21) xmk_22) xmk_23) xmk_24) xmk_25) xmk_26) xmk_27) xmk_28) xmk_29) xmk_30) xmk_31) xmk_32) xmk_33) xmk_34) xmk_35) xmk_36) xmk_37) xmk_38) xmk_39) xmk_40) xmk_41) xmk_42) xmk_43) xmk_44) xmk_45) xmk_46) xmk_47) xmk_48) xmk_49) xmk_50
theorem xMk_all_c1 : ∀ a, a < 51 → xMk (51 + a) := lt_s (lt_s (lt_s (lt_s (lt_s (lt_s (lt_s (lt_s (lt_s (lt_s (lt_s (lt_s (lt_s (lt_s (lt_s (lt_s (lt_s (lt_s (lt_s (lt_s (lt_s (lt_s (lt_s (lt_s (lt_s (lt_s (lt_s (lt_s (lt_s (lt_s (lt_s (lt_s (lt_s (lt_s (lt_s (lt_s (lt_s (lt_s (lt_s (lt_s (lt_s (lt_s (lt_s (lt_s (lt_s (lt_s (lt_s (lt_s (lt_s (lt_s (lt_s (lt_0) xmk_51) xmk_52) xmk_53) xmk_54) xmk_55) xmk_56) xmk_57) xmk_58) xmk_59) xmk_60) xmk_61) xmk_62) xmk_63) xmk_64) xmk_65) xmk_66) xmk_67) xmk_68) xmk_69) xmk_70) xmk_71) xmk_72) xmk_73) xmk_74) xmk_75) xmk_76) xmk_77) xmk_78) xmk_79) xmk_80) xmk_81) xmk_82) xmk_83) xmk_84) xmk_85) xmk_86) xmk_87) xmk_88) xmk_89) xmk_90) xmk_91) xmk_92) xmk_93) xmk_94) xmk_95) xmk_96) xmk_97) xmk_98) xmk_99) xmk_100) xmk_101
theorem xMk_all_c2 : ∀ a, a < 51 → xMk (102 + a) := lt_s (lt_s (lt_s (lt_s (lt_s (lt_s (lt_s (lt_s (lt_s (lt_s (lt_s (lt_s (lt_s (lt_s (lt_s (lt_s (lt_s (lt_s (lt_s (lt_s (lt_s (lt_s (lt_s (lt_s (lt_s (lt_s (lt_s (lt_s (lt_s (lt_s (lt_s (lt_s (lt_s (lt_s (lt_s (lt_s (lt_s (lt_s (lt_s (lt_s (lt_s (lt_s (lt_s (lt_s (lt_s (lt_s (lt_s (lt_s (lt_s (lt_s (lt_s (lt_0) xmk_102) xmk_103) xmk_104) xmk_105) xmk_106) xmk_107) xmk_108) xmk_109) xmk_110) xmk_111) xmk_112) xmk_113) xmk_114) xmk_115) xmk_116) xmk_117) xmk_118) xmk_119) xmk_120) xmk_121) xmk_122) xmk_123) xmk_124) xmk_125) xmk_126) xmk_127) xmk_128) xmk_129) xmk_130) xmk_131) xmk_132) xmk_133) xmk_134) xmk_135) xmk_136) xmk_137) xmk_138) xmk_139) xmk_140) xmk_141) xmk_142) xmk_143) xmk_144) xmk_145) xmk_146) xmk_147) xmk_148) xmk_149) xmk_150) xmk_151) xmk_152
theorem xMk_all_c3 : ∀ a, a < 51 → xMk (153 + a) := lt_s (lt_s (lt_s (lt_s (lt_s (lt_s (lt_s (lt_s (lt_s (lt_s (lt_s (lt_s (lt_s (lt_s (lt_s (lt_s (lt_s (lt_s (lt_s (lt_s (lt_s (lt_s (lt_s (lt_s (lt_s (lt_s (lt_s (lt_s (lt_s (lt_s (lt_s (lt_s (lt_s (lt_s (lt_s (lt_s (lt_s (lt_s (lt_s (lt_s (lt_s (lt_s (lt_s (lt_s (lt_s (lt_s (lt_s (lt_s (lt_s (lt_s (lt_s (lt_0) xmk_153) xmk_154) xmk_155) xmk_156) xmk_157) xmk_158) xmk_159) xmk_160) xmk_161) xmk_162) xmk_163) xmk_164) xmk_165) xmk_166) xmk_167) xmk_168) xmk_169) xmk_170) xmk_171) xmk_172) xmk_173) xmk_174) xmk_175) xmk_176) xmk_177) xmk_178) xmk_179) xmk_180) xmk_181) xmk_182) xmk_183) xmk_184) xmk_185) xmk_186) xmk_187) xmk_188) xmk_189) xmk_190) xmk_191) xmk_192) xmk_193) xmk_194) xmk_195) xmk_196) xmk_197) xmk_198) xmk_199) xmk_200) xmk_201) xmk_202) xmk_203
theorem xMk_all_c4 : ∀ a, a < 51 → xMk (204 + a) := lt_s (lt_s (lt_s (lt_s (lt_s (lt_s (lt_s (lt_s (lt_s (lt_s (lt_s (lt_s (lt_s (lt_s (lt_s (lt_s (lt_s (lt_s (lt_s (lt_s (lt_s (lt_s (lt_s (lt_s (lt_s (lt_s (lt_s (lt_s (lt_s (lt_s (lt_s (lt_s (lt_s (lt_s (lt_s (lt_s (lt_s (lt_s (lt_s (lt_s (lt_s (lt_s (lt_s (lt_s (lt_s (lt_s (lt_s (lt_s (lt_s (lt_s (lt_s (lt_0) xmk_204) xmk_205) xmk_206) xmk_207) xmk_208) xmk_209) xmk_210) xmk_211) xmk_212) xmk_213) xmk_214) xmk_215) xmk_216) xmk_217) xmk_218) xmk_219) xmk_220) xmk_221) xmk_222) xmk_223) xmk_224) xmk_225) xmk_226) xmk_227) xmk_228) xmk_229) xmk_230) xmk_231) xmk_232) xmk_233) xmk_234) xmk_235) xmk_236) xmk_237) xmk_238) xmk_239) xmk_240) xmk_241) xmk_242) xmk_243) xmk_244) xmk_245) xmk_246) xmk_247) xmk_248) xmk_249) xmk_250) xmk_251) xmk_252) xmk_253) xmk_254
theorem xMk_all_c5 : ∀ a, a < 48 → xMk (255 + a) := lt_s (lt_s (lt_s (lt_s (lt_s (lt_s (lt_s (lt_s (lt_s (lt_s (lt_s (lt_s (lt_s (lt_s (lt_s (lt_s (lt_s (lt_s (lt_s (lt_s (lt_s (lt_s (lt_s (lt_s (lt_s (lt_s (lt_s (lt_s (lt_s (lt_s (lt_s (lt_s (lt_s (lt_s (lt_s (lt_s (lt_s (lt_s (lt_s (lt_s (lt_s (lt_s (lt_s (lt_s (lt_s (lt_s (lt_s (lt_s (lt_0) xmk_255) xmk_256) xmk_257) xmk_258) xmk_259) xmk_260) xmk_261) xmk_262) xmk_263) xmk_264) xmk_265) xmk_266) xmk_267) xmk_268) xmk_269) xmk_270) xmk_271) xmk_272) xmk_273) xmk_274) xmk_275) xmk_276) xmk_277) xmk_278) xmk_279) xmk_280) xmk_281) xmk_282) xmk_283) xmk_284) xmk_285) xmk_286) xmk_287) xmk_288) xmk_289) xmk_290) xmk_291) xmk_292) xmk_293) xmk_294) xmk_295) xmk_296) xmk_297) xmk_298) xmk_299) xmk_300) xmk_301) xmk_302
theorem xMk_all : ∀ m, m < 303 → xMk m := by
  intro m hm
  rcases Nat.lt_or_ge m 51 with q | q
  · have := xMk_all_c0 (m - 0) (by omega)
    rw [show 0 + (m - 0) = m by omega] at this
    exact this
  rcases Nat.lt_or_ge m 102 with q | q
  · have := xMk_all_c1 (m - 51) (by omega)
    rw [show 51 + (m - 51) = m by omega] at this
    exact this
  rcases Nat.lt_or_ge m 153 with q | q
  · have := xMk_all_c2 (m - 102) (by omega)
    rw [show 102 + (m - 102) = m by omega] at this
    exact this
  rcases Nat.lt_or_ge m 204 with q | q
  · have := xMk_all_c3 (m - 153) (by omega)
    rw [show 153 + (m - 153) = m by omega] at this
    exact this
  rcases Nat.lt_or_ge m 255 with q | q
  · have := xMk_all_c4 (m - 204) (by omega)
    rw [show 204 + (m - 204) = m by omega] at this
    exact this
  rcases Nat.lt_or_ge m 303 with q | q
  · have := xMk_all_c5 (m - 255) (by omega)
    rw [show 255 + (m - 255) = m by omega] at this
    exact this
  omega
theorem xMk_ok {m : Nat} (h : m < 303) : xMk m := xMk_all m h
theorem xM_ok {m : Nat} (h : m < 303) (hl : m ≠ 296) : Cond.code (xmy m) (xmb m) (xml m) (xmr m) ∈ xws ∧ (xms m = true → Cond.static (xmy m) ∈ xws) ∧ (xms m = false → Cond.instanceMethod (xmy m) ∈ xws ∧ Cond.selects (xmy m).cls (xmy m) (xmy m) ∈ xws) ∧ Cond.initialized (xmy m).cls ∈ xws ∧ (xmy m).cls = xCn (xmo m) ∧ ((xmy m).cls ≠ "java/lang/invoke/MethodHandle" ∧ (xmy m).cls ≠ "java/lang/invoke/VarHandle" ∧ (parseMethodDescriptor (xmy m).desc).map (fun d => d.parameters.length) = some (if xms m then xmn m else xmn m - 1)) ∧ (plainName (xmy m).cls = true ∨ (m = 299 ∨ m = 300)) ∧ (xms m = true ∨ (1 ≤ xmn m ∧ xmo m < 12)) := by
  have h1 := xMc_ok h
  unfold xMc at h1
  rw [Bool.or_eq_true] at h1
  rcases h1 with h1 | h1
  · exact absurd (of_decide_eq_true h1) hl
  · simp only [Bool.and_eq_true, Bool.or_eq_true, decide_eq_true_eq] at h1
    obtain ⟨a2, a3, a4, a5, a6, a7, a8⟩ := h1
    have a1 := (xMk_ok h).resolve_left hl
    refine ⟨xin a1 rfl, fun hs => ?_, fun hs => ⟨?_, ?_⟩, xin a4 rfl, a5, a6, a7, a8⟩
    · rw [hs] at a2; exact xin a2 rfl
    · rw [hs] at a2; exact xin a2 rfl
    · rcases a3 with a3 | a3
      · rw [hs] at a3; cases a3
      · exact xin a3 rfl
def xMLc (q : Nat × Nat × Nat × Nat × Nat) : Bool := decide (q.2.2.1 < 303 ∧ q.2.2.1 ≠ 296) && (decide (q.2.2.2.1 = 2) || decide (lw_tbl[q.2.2.2.2]? = some (.methodLink (xCn q.1) q.2.1 (xmy q.2.2.1))))
theorem xML_all : xMLk.all xMLc = true := by decide +kernel
theorem xML_ok {q : Nat × Nat × Nat × Nat × Nat} (h : q ∈ xMLk) : (q.2.2.1 < 303 ∧ q.2.2.1 ≠ 296) ∧ (q.2.2.2.1 ≠ 2 → Cond.methodLink (xCn q.1) q.2.1 (xmy q.2.2.1) ∈ xws) := by
  have h1 := List.all_eq_true.mp xML_all q h
  unfold xMLc at h1
  rw [Bool.and_eq_true, Bool.or_eq_true] at h1
  refine ⟨of_decide_eq_true h1.1, fun h2 => ?_⟩
  rcases h1.2 with h3 | h3
  · exact absurd (of_decide_eq_true h3) h2
  · exact xin (of_decide_eq_true h3) rfl
theorem xCL_all : xCL.all (fun q => decide (-2147483648 ≤ q.2.2.1 ∧ q.2.2.1 < 2147483648) && decide (lw_tbl[q.2.2.2]? = some (.constant (xCn q.1) q.2.1 (Int32.ofInt q.2.2.1)))) = true := by decide +kernel
theorem xCL_ok {q : Nat × Nat × Int × Nat} (h : q ∈ xCL) : x32 q.2.2.1 ∧ Cond.constant (xCn q.1) q.2.1 (Int32.ofInt q.2.2.1) ∈ xws := by
  have h1 := List.all_eq_true.mp xCL_all q h
  rw [Bool.and_eq_true] at h1
  exact ⟨of_decide_eq_true h1.1, xin (of_decide_eq_true h1.2) rfl⟩
theorem xLL_all : xLL.all (fun q => decide (-9223372036854775808 ≤ q.2.2.1 ∧ q.2.2.1 < 9223372036854775808) && decide (lw_tbl[q.2.2.2]? = some (.constantLong (xCn q.1) q.2.1 (Int64.ofInt q.2.2.1)))) = true := by decide +kernel
theorem xLL_ok {q : Nat × Nat × Int × Nat} (h : q ∈ xLL) : x64 q.2.2.1 ∧ Cond.constantLong (xCn q.1) q.2.1 (Int64.ofInt q.2.2.1) ∈ xws := by
  have h1 := List.all_eq_true.mp xLL_all q h
  rw [Bool.and_eq_true] at h1
  exact ⟨of_decide_eq_true h1.1, xin (of_decide_eq_true h1.2) rfl⟩
theorem xSL_all : xSL.all (fun q => decide (q.2.2.1 < 22)) = true := by decide +kernel
theorem xSL_ok {q : Nat × Nat × Nat × Nat} (h : q ∈ xSL) : q.2.2.1 < 22 := of_decide_eq_true (List.all_eq_true.mp xSL_all q h)
theorem xSTL_all : xSTL.all (fun q => (Nat.beq q.2.2.1 0 || Nat.beq q.2.2.1 1) && decide (lw_tbl[q.2.2.2]? = some (.methodLink (xCn q.1) q.2.1 (if Nat.beq q.2.2.1 0 then ⟨"java/lang/String", "length", "()I"⟩ else ⟨"java/lang/String", "charAt", "(I)C"⟩)))) = true := by decide +kernel
theorem xACP_all : xACP.all (fun q => decide (lw_tbl[q.2.2]? = some (.methodLink (xCn q.1) q.2.1 arraycopyName))) = true := by decide +kernel
theorem xACP_ok {q : Nat × Nat × Nat} (h : q ∈ xACP) : Cond.methodLink (xCn q.1) q.2.1 arraycopyName ∈ xws := xin (of_decide_eq_true (List.all_eq_true.mp xACP_all q h)) rfl
theorem xnat_ok : Cond.native arraycopyName ∈ xws ∧ Cond.static arraycopyName ∈ xws ∧ Cond.initialized "java/lang/System" ∈ xws := ⟨xin (p := 658) (by decide +kernel) rfl, xin (p := 657) (by decide +kernel) rfl, xin (p := 121) (by decide +kernel) rfl⟩
theorem xlack_ok : Cond.fieldLink (xCn 4) 63 "ConsentDoors$Keys" "LACKING" "[J" ∈ xws := xin (p := 694) (by decide +kernel) rfl
theorem xde_all_c0 : ∀ a, a < 51 → xDe (0 + a) := lt_s (lt_s (lt_s (lt_s (lt_s (lt_s (lt_s (lt_s (lt_s (lt_s (lt_s (lt_s (lt_s (lt_s (lt_s (lt_s (lt_s (lt_s (lt_s (lt_s (lt_s (lt_s (lt_s (lt_s (lt_s (lt_s (lt_s (lt_s (lt_s (lt_s (lt_s (lt_s (lt_s (lt_s (lt_s (lt_s (lt_s (lt_s (lt_s (lt_s (lt_s (lt_s (lt_s (lt_s (lt_s (lt_s (lt_s (lt_s (lt_s (lt_s (lt_s (lt_0) xde_0) xde_1) xde_2) xde_3) xde_4) xde_5) xde_6) xde_7) xde_8) xde_9) xde_10) xde_11) xde_12) xde_13) xde_14) xde_15) xde_16) xde_17) xde_18) xde_19) xde_20) xde_21) xde_22) xde_23) xde_24) xde_25) xde_26) xde_27) xde_28) xde_29) xde_30) xde_31) xde_32) xde_33) xde_34) xde_35) xde_36) xde_37) xde_38) xde_39) xde_40) xde_41) xde_42) xde_43) xde_44) xde_45) xde_46) xde_47) xde_48) xde_49) xde_50
theorem xde_all_c1 : ∀ a, a < 51 → xDe (51 + a) := lt_s (lt_s (lt_s (lt_s (lt_s (lt_s (lt_s (lt_s (lt_s (lt_s (lt_s (lt_s (lt_s (lt_s (lt_s (lt_s (lt_s (lt_s (lt_s (lt_s (lt_s (lt_s (lt_s (lt_s (lt_s (lt_s (lt_s (lt_s (lt_s (lt_s (lt_s (lt_s (lt_s (lt_s (lt_s (lt_s (lt_s (lt_s (lt_s (lt_s (lt_s (lt_s (lt_s (lt_s (lt_s (lt_s (lt_s (lt_s (lt_s (lt_s (lt_s (lt_0) xde_51) xde_52) xde_53) xde_54) xde_55) xde_56) xde_57) xde_58) xde_59) xde_60) xde_61) xde_62) xde_63) xde_64) xde_65) xde_66) xde_67) xde_68) xde_69) xde_70) xde_71) xde_72) xde_73) xde_74) xde_75) xde_76) xde_77) xde_78) xde_79) xde_80) xde_81) xde_82) xde_83) xde_84) xde_85) xde_86) xde_87) xde_88) xde_89) xde_90) xde_91) xde_92) xde_93) xde_94) xde_95) xde_96) xde_97) xde_98) xde_99) xde_100) xde_101
theorem xde_all_c2 : ∀ a, a < 51 → xDe (102 + a) := lt_s (lt_s (lt_s (lt_s (lt_s (lt_s (lt_s (lt_s (lt_s (lt_s (lt_s (lt_s (lt_s (lt_s (lt_s (lt_s (lt_s (lt_s (lt_s (lt_s (lt_s (lt_s (lt_s (lt_s (lt_s (lt_s (lt_s (lt_s (lt_s (lt_s (lt_s (lt_s (lt_s (lt_s (lt_s (lt_s (lt_s (lt_s (lt_s (lt_s (lt_s (lt_s (lt_s (lt_s (lt_s (lt_s (lt_s (lt_s (lt_s (lt_s (lt_s (lt_0) xde_102) xde_103) xde_104) xde_105) xde_106) xde_107) xde_108) xde_109) xde_110) xde_111) xde_112) xde_113) xde_114) xde_115) xde_116) xde_117) xde_118) xde_119) xde_120) xde_121) xde_122) xde_123) xde_124) xde_125) xde_126) xde_127) xde_128) xde_129) xde_130) xde_131) xde_132) xde_133) xde_134) xde_135) xde_136) xde_137) xde_138) xde_139) xde_140) xde_141) xde_142) xde_143) xde_144) xde_145) xde_146) xde_147) xde_148) xde_149) xde_150) xde_151) xde_152
theorem xde_all_c3 : ∀ a, a < 51 → xDe (153 + a) := lt_s (lt_s (lt_s (lt_s (lt_s (lt_s (lt_s (lt_s (lt_s (lt_s (lt_s (lt_s (lt_s (lt_s (lt_s (lt_s (lt_s (lt_s (lt_s (lt_s (lt_s (lt_s (lt_s (lt_s (lt_s (lt_s (lt_s (lt_s (lt_s (lt_s (lt_s (lt_s (lt_s (lt_s (lt_s (lt_s (lt_s (lt_s (lt_s (lt_s (lt_s (lt_s (lt_s (lt_s (lt_s (lt_s (lt_s (lt_s (lt_s (lt_s (lt_s (lt_0) xde_153) xde_154) xde_155) xde_156) xde_157) xde_158) xde_159) xde_160) xde_161) xde_162) xde_163) xde_164) xde_165) xde_166) xde_167) xde_168) xde_169) xde_170) xde_171) xde_172) xde_173) xde_174) xde_175) xde_176) xde_177) xde_178) xde_179) xde_180) xde_181) xde_182) xde_183) xde_184) xde_185) xde_186) xde_187) xde_188) xde_189) xde_190) xde_191) xde_192) xde_193) xde_194) xde_195) xde_196) xde_197) xde_198) xde_199) xde_200) xde_201) xde_202) xde_203
theorem xde_all_c4 : ∀ a, a < 51 → xDe (204 + a) := lt_s (lt_s (lt_s (lt_s (lt_s (lt_s (lt_s (lt_s (lt_s (lt_s (lt_s (lt_s (lt_s (lt_s (lt_s (lt_s (lt_s (lt_s (lt_s (lt_s (lt_s (lt_s (lt_s (lt_s (lt_s (lt_s (lt_s (lt_s (lt_s (lt_s (lt_s (lt_s (lt_s (lt_s (lt_s (lt_s (lt_s (lt_s (lt_s (lt_s (lt_s (lt_s (lt_s (lt_s (lt_s (lt_s (lt_s (lt_s (lt_s (lt_s (lt_s (lt_0) xde_204) xde_205) xde_206) xde_207) xde_208) xde_209) xde_210) xde_211) xde_212) xde_213) xde_214) xde_215) xde_216) xde_217) xde_218) xde_219) xde_220) xde_221) xde_222) xde_223) xde_224) xde_225) xde_226) xde_227) xde_228) xde_229) xde_230) xde_231) xde_232) xde_233) xde_234) xde_235) xde_236) xde_237) xde_238) xde_239) xde_240) xde_241) xde_242) xde_243) xde_244) xde_245) xde_246) xde_247) xde_248) xde_249) xde_250) xde_251) xde_252) xde_253) xde_254
theorem xde_all_c5 : ∀ a, a < 48 → xDe (255 + a) := lt_s (lt_s (lt_s (lt_s (lt_s (lt_s (lt_s (lt_s (lt_s (lt_s (lt_s (lt_s (lt_s (lt_s (lt_s (lt_s (lt_s (lt_s (lt_s (lt_s (lt_s (lt_s (lt_s (lt_s (lt_s (lt_s (lt_s (lt_s (lt_s (lt_s (lt_s (lt_s (lt_s (lt_s (lt_s (lt_s (lt_s (lt_s (lt_s (lt_s (lt_s (lt_s (lt_s (lt_s (lt_s (lt_s (lt_s (lt_s (lt_0) xde_255) xde_256) xde_257) xde_258) xde_259) xde_260) xde_261) xde_262) xde_263) xde_264) xde_265) xde_266) xde_267) xde_268) xde_269) xde_270) xde_271) xde_272) xde_273) xde_274) xde_275) xde_276) xde_277) xde_278) xde_279) xde_280) xde_281) xde_282) xde_283) xde_284) xde_285) xde_286) xde_287) xde_288) xde_289) xde_290) xde_291) xde_292) xde_293) xde_294) xde_295) xde_296) xde_297) xde_298) xde_299) xde_300) xde_301) xde_302
theorem xde_all : ∀ m, m < 303 → xDe m := by
  intro m hm
  rcases Nat.lt_or_ge m 51 with q | q
  · have := xde_all_c0 (m - 0) (by omega)
    rw [show 0 + (m - 0) = m by omega] at this
    exact this
  rcases Nat.lt_or_ge m 102 with q | q
  · have := xde_all_c1 (m - 51) (by omega)
    rw [show 51 + (m - 51) = m by omega] at this
    exact this
  rcases Nat.lt_or_ge m 153 with q | q
  · have := xde_all_c2 (m - 102) (by omega)
    rw [show 102 + (m - 102) = m by omega] at this
    exact this
  rcases Nat.lt_or_ge m 204 with q | q
  · have := xde_all_c3 (m - 153) (by omega)
    rw [show 153 + (m - 153) = m by omega] at this
    exact this
  rcases Nat.lt_or_ge m 255 with q | q
  · have := xde_all_c4 (m - 204) (by omega)
    rw [show 204 + (m - 204) = m by omega] at this
    exact this
  rcases Nat.lt_or_ge m 303 with q | q
  · have := xde_all_c5 (m - 255) (by omega)
    rw [show 255 + (m - 255) = m by omega] at this
    exact this
  omega
end
