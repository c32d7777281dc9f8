/-! ===== SOUNDNESS, 10: a run of the abstract machine is a run of the real one ===== -/
noncomputable section
def xsl : List Nat := [4, 7, 6, 4, 4, 6, 5, 5, 4, 3, 6, 4, 5, 5, 4, 2, 5, 2, 8, 5, 5, 4]
def xsb : List (List Int32) := [[99, 101, 108, 108], [113, 117, 97, 114, 114, 101, 108], [115, 108, 101, 101, 112, 115], [115, 111, 117, 112], [112, 108, 97, 110], [112, 114, 105, 115, 111, 110], [99, 101, 108, 108, 115], [104, 111, 117, 114, 115], [114, 105, 110, 103], [114, 111, 119], [116, 101, 109, 112, 101, 114], [108, 101, 102, 116], [114, 105, 103, 104, 116], [108, 111, 121, 97, 108], [102, 114, 111, 109], [116, 111], [103, 105, 118, 101, 115], [105, 110], [102, 114, 105, 101, 110, 100, 108, 121], [112, 105, 111, 117, 115], [109, 111, 111, 100, 121], [100, 101, 97, 102]]
/-- what holds of a state, with the heap G, beside the cells -/
def xKs (D : va_G) (cA : Nat → ClassId) (d : xAd) (adV : Nat → Nat) (A : Nat → Prop) (L : Nat) (xs : Nat → Int32) (U : State) (G : Heap) : Prop :=
  va_K D xcl (xtys cA) U ∧ va_Z "ConsentDoors$Keys" "LACKING" "[J" (.ref d.2.2.1) A U G ∧ va_T .long d.2.2.1 6 (fun j => .long (Int64.ofInt (xlack (j : Int)))) A U G ∧ va_T .int d.2.2.2 L (fun j => .int (xs j)) A U G ∧ (∀ q ∈ xMLk, q.2.2.2.1 = 2 → va_Nw (.methodLinkNest (xCn q.1) q.2.1 (xmy q.2.2.1) "ConsentDoors") U) ∧ (∀ q ∈ xSL, vk_R (xCn q.1) q.2.1 (xtx q.2.2.1) (d.2.1 q.2.2.1) U) ∧ vk_S 22 xsl xsb d.2.1 adV A U G ∧ va_Z "java/lang/String" "COMPACT_STRINGS" "Z" (.int 1) A U G ∧ va_Zq "jdk/internal/util/Preconditions" "SIOOBE_FORMATTER" "Ljava/util/function/BiFunction;" A U G
theorem xKs_go {D : va_G} {cA : Nat → ClassId} {d : xAd} {adV : Nat → Nat} {A : Nat → Prop} {L : Nat} {xs : Nat → Int32} {U V : State} {G H : Heap} (h : xKs D cA d adV A L xs U G) (hW : U.WarmedH V.vm) (hq : ∀ a : Nat, a < G.size → ¬ A a → H[a]? = G[a]?) : xKs D cA d adV A L xs V H := by
  obtain ⟨h1, h2, h3, h4, h5, h6, h7, h8, h9⟩ := h
  exact ⟨va_K.moved hW.alike h1, (va_Z.moved hW.alike h2).kept hq, (va_T.moved hW.alike h3).kept hq, (va_T.moved hW.alike h4).kept hq, fun q hq2 hk => va_Nw.warmM hW (h5 q hq2 hk), fun q hq2 => vk_R.warm hW (h6 q hq2), (vk_S.moved hW.alike h7).kept hq, (va_Z.moved hW.alike h8).kept hq, h9.elim (fun z => Or.inl ((va_Z.moved hW.alike z).kept hq)) (fun ⟨t, z⟩ => Or.inr ⟨t, (va_Z.moved hW.alike z).kept hq⟩)⟩
theorem xKs_same {D : va_G} {cA : Nat → ClassId} {d : xAd} {adV : Nat → Nat} {A : Nat → Prop} {L : Nat} {xs : Nat → Int32} {U V : State} {G : Heap} (hv : V.vm = U.vm) (h : xKs D cA d adV A L xs U G) : xKs D cA d adV A L xs V G := by
  have ha : U.vm.Alike V.vm := by rw [hv]; exact Vm.Alike.refl _
  obtain ⟨h1, h2, h3, h4, h5, h6, h7, h8, h9⟩ := h
  exact ⟨va_K.moved ha h1, va_Z.moved ha h2, va_T.moved ha h3, va_T.moved ha h4, fun q hq2 hk => va_Nw.same rfl hv.symm (h5 q hq2 hk), fun q hq2 => vk_R.same hv (h6 q hq2), vk_S.moved ha h7, va_Z.moved ha h8, h9.elim (fun z => Or.inl (va_Z.moved ha z)) (fun ⟨t, z⟩ => Or.inr ⟨t, va_Z.moved ha z⟩)⟩
def xPc (D : va_G) (cA : Nat → ClassId) (d : xAd) (adV : Nat → Nat) (A : Nat → Prop) (L : Nat) (xs : Nat → Int32) (as : List xV) (M : xM) : Array Value → State → Prop := fun av U => av = (as.map (xcw d)).toArray ∧ va_P D xcl (xwd cA d M) U.heap ∧ xrg M ∧ xsc L xs M ∧ xKs D cA d adV A L xs U U.heap
def xQc (D : va_G) (cA : Nat → ClassId) (d : xAd) (A : Nat → Prop) (L : Nat) (xs : Nat → Int32) (q : xR) : Array Value → State → Outcome → State → Prop := fun _ st o t => o = .returned (q.1.map (xcw d)) ∧ va_P D xcl (xwd cA d q.2) t.heap ∧ va_F A st t ∧ xrg q.2 ∧ xsc L xs q.2 ∧ ∀ v ∈ q.1.toList, xokv v
theorem xPc_blind {D : va_G} {cA : Nat → ClassId} {d : xAd} {adV : Nat → Nat} {A : Nat → Prop} {L : Nat} {xs : Nat → Int32} {as : List xV} {M : xM} : FrameBlind (xPc D cA d adV A L xs as M) := fun a U g mk h => ⟨h.1, h.2.1, h.2.2.1, h.2.2.2.1, xKs_same (U := U) rfl h.2.2.2.2⟩
def xwm (m : Nat) : List Cond := Cond.code (xmy m) (xmb m) (xml m) (xmr m) :: xws
def xroom (m : Nat) : Room := { frames := xrf m, cells := 0, slots := 0, locals := xrl m }
theorem xgood : ∀ w ∈ xws, w ∈ xws ∧ ((w.onTables && w.keeps) = true ∨ ∃ ty, w = .arrayClass ty) := fun w hw => ⟨hw, good_of_word (List.mem_filter.mp hw).2⟩
theorem xgoodm {m : Nat} (h : m < 303) (hl : m ≠ 296) : GoodIn xws (xwm m) := fun w hw => (List.mem_cons.mp hw).elim (fun e => by rw [e]; exact xgood _ (xM_ok h hl).1) (xgood w)
/-! the locals with which a method begins -/
theorem xpad_len : ∀ (n : Nat) (l : xL), (xpad n l).length = n
  | 0, _ => rfl
  | n + 1, [] => by simp [xpad, xpad_len n []]
  | n + 1, v :: l => by simp [xpad, xpad_len n l]
theorem xget_nil (i : Nat) : xget [] i = none := rfl
theorem xpad_get : ∀ (n : Nat) (l : xL) (i : Nat) (v : xV), xget (xpad n l) i = some v → xget l i = some v
  | 0, _, _, _, h => by cases h
  | n + 1, [], 0, _, h => by cases h
  | n + 1, [], i + 1, v, h => by have := xpad_get n [] i v h; cases this
  | n + 1, _ :: _, 0, _, h => h
  | n + 1, _ :: l, i + 1, v, h => xpad_get n l i v h
theorem xargs_get (d : xAd) : ∀ (as : List xV) (k i : Nat) (v : xV), xget (xargs as) i = some v → (k + i, xcw d v) ∈ lv_args k (as.map (xcw d)) ∧ v ∈ as
  | [], _, _, _, h => by cases h
  | (0, x) :: as, k, 0, v, h => by cases h; exact ⟨List.mem_cons_self, List.mem_cons_self⟩
  | (0, x) :: as, k, i + 1, v, h => by
    obtain ⟨h1, h2⟩ := xargs_get d as (k + 1) i v h
    refine ⟨List.mem_cons_of_mem _ ?_, List.mem_cons_of_mem _ h2⟩
    rw [show k + (i + 1) = k + 1 + i by omega]
    exact h1
  | (1, x) :: as, k, 0, v, h => by cases h; exact ⟨List.mem_cons_self, List.mem_cons_self⟩
  | (1, x) :: as, k, 1, v, h => by cases h
  | (1, x) :: as, k, i + 2, v, h => by
    obtain ⟨h1, h2⟩ := xargs_get d as (k + 2) i v h
    refine ⟨List.mem_cons_of_mem _ ?_, List.mem_cons_of_mem _ h2⟩
    rw [show k + (i + 2) = k + 2 + i by omega]
    exact h1
  | (t + 2, x) :: as, k, 0, v, h => by cases h; exact ⟨List.mem_cons_self, List.mem_cons_self⟩
  | (t + 2, x) :: as, k, i + 1, v, h => by
    obtain ⟨h1, h2⟩ := xargs_get d as (k + 1) i v h
    refine ⟨List.mem_cons_of_mem _ ?_, List.mem_cons_of_mem _ h2⟩
    rw [show k + (i + 1) = k + 1 + i by omega]
    exact h1
theorem xargs_len (d : xAd) : ∀ as : List xV, (lg_sl (as.map (xcw d))).length = (xargs as).length
  | [] => rfl
  | (0, x) :: as => by
    have e : lg_sl (((0, x) :: as).map (xcw d)) = [Slot.val (xcw d (0, x))] ++ lg_sl (as.map (xcw d)) := rfl
    rw [e, List.length_append, xargs_len d as]
    show 1 + (xargs as).length = (xargs as).length + 1
    omega
  | (1, x) :: as => by
    have e : lg_sl (((1, x) :: as).map (xcw d)) = [Slot.val (xcw d (1, x)), Slot.second] ++ lg_sl (as.map (xcw d)) := rfl
    rw [e, List.length_append, xargs_len d as]
    show 2 + (xargs as).length = (xargs as).length + 1 + 1
    omega
  | (t + 2, x) :: as => by
    have e : lg_sl (((t + 2, x) :: as).map (xcw d)) = [Slot.val (xcw d (t + 2, x))] ++ lg_sl (as.map (xcw d)) := rfl
    rw [e, List.length_append, xargs_len d as]
    show 1 + (xargs as).length = (xargs as).length + 1
    omega
theorem xentry (d : xAd) {as : List xV} {n : Nat} (h : (xargs as).length ≤ n) (hok : ∀ v ∈ as, xokv v) : xfr d n (xpad n (xargs as)) ((lg_sl (as.map (xcw d)) ++ List.replicate (n - (lg_sl (as.map (xcw d))).length) Slot.unset).toArray) := by
  have h1 := lv_entry (as.map (xcw d)) (n := n) (by rw [xargs_len]; exact h)
  refine ⟨xpad_len n _, h1.1, h1.2.1, fun i v hi => ?_⟩
  obtain ⟨h2, h3⟩ := xargs_get d as 0 i v (xpad_get n _ i v hi)
  rw [Nat.zero_add] at h2
  exact ⟨h1.2.2 _ h2, hok v h3⟩
theorem xpop_ok : ∀ (n : Nat) (acc st as st' : List xV), xpop n acc st = some (as, st') → ∃ ts : List xV, ts.length = n ∧ st = ts ++ st' ∧ as = ts.reverse ++ acc
  | 0, acc, st, as, st', h => by cases h; exact ⟨[], rfl, rfl, rfl⟩
  | n + 1, acc, [], as, st', h => by cases h
  | n + 1, acc, v :: st, as, st', h => by
    obtain ⟨ts, h1, h2, h3⟩ := xpop_ok n (v :: acc) st as st' h
    exact ⟨v :: ts, by simp [h1], by rw [h2]; rfl, by rw [h3]; simp⟩
theorem xcat_sum (d : xAd) : ∀ st : List xV, ((st.map (xcw d)).map fun v => v.category).sum = xcat st
  | [] => rfl
  | (0, x) :: st => by simp [xcat, xcw, Value.category, ← xcat_sum d st]
  | (1, x) :: st => by simp [xcat, xcw, Value.category, ← xcat_sum d st]
  | (t + 2, x) :: st => by simp [xcat, xcw, Value.category, ← xcat_sum d st]
theorem xtag0 {v : xV} (h : xtag 0 v = true) : ∃ x, v = (0, x) := by
  obtain ⟨t, x⟩ := v
  cases Nat.eq_of_beq_eq_true (show Nat.beq t 0 = true from h)
  exact ⟨x, rfl⟩
theorem xtag1 {v : xV} (h : xtag 1 v = true) : ∃ x, v = (1, x) := by
  obtain ⟨t, x⟩ := v
  cases Nat.eq_of_beq_eq_true (show Nat.beq t 1 = true from h)
  exact ⟨x, rfl⟩
theorem xtag2 {v : xV} (h : xtag 2 v = true) : ∃ k x, v = (k + 2, x) := by
  obtain ⟨t, x⟩ := v
  obtain ⟨k, rfl⟩ := Nat.le.dest (Nat.le_of_ble_eq_true (show Nat.ble 2 t = true from h))
  exact ⟨k, x, by rw [Nat.add_comm]⟩
/-! switches -/
theorem xtab_in : ∀ (l : List Nat) (x : Int) (d j t : Nat), x = (j : Int) → l[j]? = some t → xtab x d l = t
  | [], _, _, _, _, _, h => by simp at h
  | t0 :: l, x, d, 0, t, hx, h => by
    unfold xtab
    rw [if_pos (by omega)]
    simpa using h
  | t0 :: l, x, d, j + 1, t, hx, h => by
    unfold xtab
    rw [if_neg (by omega)]
    exact xtab_in l (x - 1) d j t (by omega) (by simpa using h)
theorem xtab_out : ∀ (l : List Nat) (x : Int) (d : Nat), (l.length : Int) ≤ x → xtab x d l = d
  | [], _, _, _ => rfl
  | t0 :: l, x, d, h => by
    simp only [List.length_cons] at h
    unfold xtab
    rw [if_neg (by omega)]
    exact xtab_out l (x - 1) d (by omega)
theorem xlook_ok (pc : Nat) (d0 : Int) (x : Int) : ∀ l : List (Int × Int), (∀ q ∈ l, 0 ≤ q.1 ∧ 0 ≤ (pc : Int) + q.2) → 0 ≤ (pc : Int) + d0 → (pc : Int) + Op.lookupswitch.offset l d0 x = ((xlook x ((pc : Int) + d0).toNat (l.flatMap (fun q => [q.1.toNat, ((pc : Int) + q.2).toNat])) : Nat) : Int)
  | [], _, h => by
    show (pc : Int) + d0 = ((((pc : Int) + d0).toNat : Nat) : Int)
    omega
  | (a, b) :: l, h, hd => by
    have h1 := h (a, b) List.mem_cons_self
    rw [Op.lookupswitch.offset_cons]
    show _ = ((if x = ((a.toNat : Nat) : Int) then ((pc : Int) + b).toNat else xlook x ((pc : Int) + d0).toNat (l.flatMap (fun q => [q.1.toNat, ((pc : Int) + q.2).toNat])) : Nat) : Int)
    have h2 := xlook_ok pc d0 x l (fun q hq => h q (List.mem_cons_of_mem _ hq)) hd
    dsimp only at h1
    by_cases hx : x = a
    · rw [if_pos (by omega), if_pos (by omega)]
      omega
    · rw [if_neg (by omega), if_neg (by omega)]
      exact h2
theorem xev_s {f : Nat} {x : xC} {r : xR} (h : xEvF xml xfetch f x r) : ∃ g e, xfetch x.1 x.2.1 = some e ∧ xSR xml xfetch g (xins xml x.1 e x.2.2.1 x.2.2.2.1 x.2.2.2.2) r := by
  match f, h with
  | 0, h => exact h.elim
  | g + 1, h =>
    obtain ⟨e, h1, h2⟩ := xSR_of h
    exact ⟨g, e, h1, h2⟩
theorem xmax_inv {f : Nat} {as : List xV} {M : xM} {q : xR} (hl : as.length = 2) (h : xEvF xml xfetch f (299, 0, xpad (xml 299) (xargs as), [], M) q) : ∃ x y, as = [(0, x), (0, y)] ∧ q = (some (0, if x < y then y else x), M) := by
  obtain ⟨g1, e1, he1, h1⟩ := xev_s h
  cases (show xfetch 299 0 = some (0, 0, 0, [], 1) from rfl).symm.trans he1
  obtain ⟨v, hv, ht, h1⟩ := iv0 h1
  obtain ⟨x, rfl⟩ := xtag0 ht
  obtain ⟨g2, e2, he2, h2⟩ := xev_s h1
  cases (show xfetch 299 1 = some (0, 1, 0, [], 2) from rfl).symm.trans he2
  obtain ⟨w, hw, ht2, h2⟩ := iv0 h2
  obtain ⟨y, rfl⟩ := xtag0 ht2
  have has : as = [(0, x), (0, y)] := by
    match as, hl, hv, hw with
    | [(0, a), (0, b)], _, hv, hw => cases hv; cases hw; rfl
    | [(0, a), (1, b)], _, hv, hw => cases hw
    | [(0, a), (t + 2, b)], _, hv, hw => cases hw
    | [(1, a), _], _, hv, _ => cases hv
    | [(t + 2, a), _], _, hv, _ => cases hv
  subst has
  refine ⟨x, y, rfl, ?_⟩
  obtain ⟨g3, e3, he3, h3⟩ := xev_s h2
  cases (show xfetch 299 2 = some (14, 9, 2, [], 5) from rfl).symm.trans he3
  obtain ⟨x', y', st', hst, h3⟩ := iv14 h3
  cases hst
  change xEvF xml xfetch g3 (299, if x < y then 9 else 5, [some (0, x), some (0, y)], [], M) q at h3
  by_cases hc : x < y
  · rw [if_pos hc] at h3 ⊢
    obtain ⟨g4, e4, he4, h4⟩ := xev_s h3
    cases (show xfetch 299 9 = some (0, 1, 0, [], 10) from rfl).symm.trans he4
    obtain ⟨w, hw, ht2, h4⟩ := iv0 h4
    cases hw
    obtain ⟨g5, e5, he5, h5⟩ := xev_s h4
    cases (show xfetch 299 10 = some (26, 0, 0, [], 11) from rfl).symm.trans he5
    obtain ⟨z, hz, hq⟩ := iv26i h5
    cases hz
    exact hq
  · rw [if_neg hc] at h3 ⊢
    obtain ⟨g4, e4, he4, h4⟩ := xev_s h3
    cases (show xfetch 299 5 = some (0, 0, 0, [], 6) from rfl).symm.trans he4
    obtain ⟨w, hw, ht2, h4⟩ := iv0 h4
    cases hw
    obtain ⟨g6, e6, he6, h6⟩ := xev_s h4
    cases (show xfetch 299 6 = some (15, 10, 0, [], 9) from rfl).symm.trans he6
    have h6 := iv15 h6
    obtain ⟨g5, e5, he5, h5⟩ := xev_s h6
    cases (show xfetch 299 10 = some (26, 0, 0, [], 11) from rfl).symm.trans he5
    obtain ⟨z, hz, hq⟩ := iv26i h5
    cases hz
    exact hq
theorem xmin_inv {f : Nat} {as : List xV} {M : xM} {q : xR} (hl : as.length = 2) (h : xEvF xml xfetch f (300, 0, xpad (xml 300) (xargs as), [], M) q) : ∃ x y, as = [(0, x), (0, y)] ∧ q = (some (0, if y < x then y else x), M) := by
  obtain ⟨g1, e1, he1, h1⟩ := xev_s h
  cases (show xfetch 300 0 = some (0, 0, 0, [], 1) from rfl).symm.trans he1
  obtain ⟨v, hv, ht, h1⟩ := iv0 h1
  obtain ⟨x, rfl⟩ := xtag0 ht
  obtain ⟨g2, e2, he2, h2⟩ := xev_s h1
  cases (show xfetch 300 1 = some (0, 1, 0, [], 2) from rfl).symm.trans he2
  obtain ⟨w, hw, ht2, h2⟩ := iv0 h2
  obtain ⟨y, rfl⟩ := xtag0 ht2
  have has : as = [(0, x), (0, y)] := by
    match as, hl, hv, hw with
    | [(0, a), (0, b)], _, hv, hw => cases hv; cases hw; rfl
    | [(0, a), (1, b)], _, hv, hw => cases hw
    | [(0, a), (t + 2, b)], _, hv, hw => cases hw
    | [(1, a), _], _, hv, _ => cases hv
    | [(t + 2, a), _], _, hv, _ => cases hv
  subst has
  refine ⟨x, y, rfl, ?_⟩
  obtain ⟨g3, e3, he3, h3⟩ := xev_s h2
  cases (show xfetch 300 2 = some (14, 9, 4, [], 5) from rfl).symm.trans he3
  obtain ⟨x', y', st', hst, h3⟩ := iv14 h3
  cases hst
  change xEvF xml xfetch g3 (300, if y < x then 9 else 5, [some (0, x), some (0, y)], [], M) q at h3
  by_cases hc : y < x
  · rw [if_pos hc] at h3 ⊢
    obtain ⟨g4, e4, he4, h4⟩ := xev_s h3
    cases (show xfetch 300 9 = some (0, 1, 0, [], 10) from rfl).symm.trans he4
    obtain ⟨w, hw, ht2, h4⟩ := iv0 h4
    cases hw
    obtain ⟨g5, e5, he5, h5⟩ := xev_s h4
    cases (show xfetch 300 10 = some (26, 0, 0, [], 11) from rfl).symm.trans he5
    obtain ⟨z, hz, hq⟩ := iv26i h5
    cases hz
    exact hq
  · rw [if_neg hc] at h3 ⊢
    obtain ⟨g4, e4, he4, h4⟩ := xev_s h3
    cases (show xfetch 300 5 = some (0, 0, 0, [], 6) from rfl).symm.trans he4
    obtain ⟨w, hw, ht2, h4⟩ := iv0 h4
    cases hw
    obtain ⟨g6, e6, he6, h6⟩ := xev_s h4
    cases (show xfetch 300 6 = some (15, 10, 0, [], 9) from rfl).symm.trans he6
    have h6 := iv15 h6
    obtain ⟨g5, e5, he5, h5⟩ := xev_s h6
    cases (show xfetch 300 10 = some (26, 0, 0, [], 11) from rfl).symm.trans he5
    obtain ⟨z, hz, hq⟩ := iv26i h5
    cases hz
    exact hq
theorem xmath_ok : (Cond.code Lib.Math.max.name Lib.Math.max.code 2 (some .int) ∈ xws ∧ Cond.static Lib.Math.max.name ∈ xws) ∧ (Cond.code Lib.Math.min.name Lib.Math.min.code 2 (some .int) ∈ xws ∧ Cond.static Lib.Math.min.name ∈ xws) ∧ Cond.initialized "java/lang/Math" ∈ xws := ⟨⟨xin (p := 855) (by decide +kernel) rfl, xin (p := 854) (by decide +kernel) rfl⟩, ⟨xin (p := 510) (by decide +kernel) rfl, xin (p := 509) (by decide +kernel) rfl⟩, xin (p := 116) (by decide +kernel) rfl⟩
theorem xmath_y : xmy 299 = Lib.Math.max.name ∧ xmy 300 = Lib.Math.min.name := ⟨rfl, rfl⟩
section xMain
variable {p : Program} {l : Launch} {e : Env} {R : Room} {s : State} {mid : MethodId} {args : Array Value} {below : List Frame} {meth : Method} {c : Code} {cells slots : Nat} {Q : State → Prop}
variable {D : va_G} {cA : Nat → ClassId} {d : xAd} {adV : Nat → Nat} {A : Nat → Prop} {L : Nat} {xs : Nat → Int32}
theorem xs_table {cc : ByteArray} {nL : Nat} {I : xM → Heap → List Loc → Prop} {pc : Nat} {ls : xL} {st : List xV} {M : xM} (hx : p.tables.exec = Jvm.exec) (hb : c.code = cc) {x d0 lo hi : Int} {offs : Array Int} {len : Nat} (hd : decode cc pc = .ok (.tableswitch d0 lo hi offs, len)) (h1 : 0 ≤ (pc : Int) + d0) (h2 : hi = lo + offs.size - 1) (h3 : ∀ o ∈ offs.toList, 0 ≤ (pc : Int) + o)
    (k : xGo p l e R s mid args below meth c cells slots Q d nL I (if x < lo then ((pc : Int) + d0).toNat else xtab (x - lo) ((pc : Int) + d0).toNat (offs.toList.map (fun o => ((pc : Int) + o).toNat))) ls st M) : xGo p l e R s mid args below meth c cells slots Q d nL I pc ls ((0, x) :: st) M := by
  intro lsm H locs hf hs hI
  have hk := k lsm H locs hf (xok_t hs) hI
  have hx32 : x32 x := xok_h hs
  have ht := xi_to hx32
  by_cases ho : x < lo ∨ hi < x
  · refine lv_tableOut hx hb hd (by rw [ht]; exact ho) (tgt := ((pc : Int) + d0).toNat) (by omega) ?_
    have e1 : (if x < lo then ((pc : Int) + d0).toNat else xtab (x - lo) ((pc : Int) + d0).toNat (offs.toList.map (fun o => ((pc : Int) + o).toNat))) = ((pc : Int) + d0).toNat := by
      split
      · rfl
      · next hn =>
        apply xtab_out
        rw [List.length_map, Array.length_toList]
        omega
    rw [e1] at hk
    exact hk
  · have hlo : ¬ x < lo := fun q => ho (Or.inl q)
    have hhi : ¬ hi < x := fun q => ho (Or.inr q)
    have hj : (x - lo).toNat < offs.size := by omega
    have hg : offs[(x - lo).toNat]? = some offs[(x - lo).toNat] := Array.getElem?_eq_getElem hj
    have hm : offs[(x - lo).toNat] ∈ offs.toList := by simp
    have h4 := h3 _ hm
    refine lv_tableIn hx hb hd (by rw [ht]; exact hlo) (by rw [ht]; exact hhi) (by rw [ht]; exact hg) (tgt := ((pc : Int) + offs[(x - lo).toNat]).toNat) (by omega) ?_
    rw [if_neg hlo, xtab_in _ (x - lo) _ (x - lo).toNat (((pc : Int) + offs[(x - lo).toNat]).toNat) (by omega) (by rw [List.getElem?_map, Array.getElem?_toList, hg]; rfl)] at hk
    exact hk
theorem xs_lookup {cc : ByteArray} {nL : Nat} {I : xM → Heap → List Loc → Prop} {pc : Nat} {ls : xL} {st : List xV} {M : xM} (hx : p.tables.exec = Jvm.exec) (hb : c.code = cc) {x d0 : Int} {ps : Array (Int × Int)} {len : Nat} (hd : decode cc pc = .ok (.lookupswitch d0 ps, len)) (h1 : 0 ≤ (pc : Int) + d0) (h2 : (ps.toList.zip (ps.toList.drop 1)).all (fun (a, next) => a.1 < next.1) = true) (h3 : ∀ q ∈ ps.toList, 0 ≤ q.1 ∧ 0 ≤ (pc : Int) + q.2)
    (k : xGo p l e R s mid args below meth c cells slots Q d nL I (xlook x ((pc : Int) + d0).toNat (ps.toList.flatMap (fun q => [q.1.toNat, ((pc : Int) + q.2).toNat]))) ls st M) : xGo p l e R s mid args below meth c cells slots Q d nL I pc ls ((0, x) :: st) M := by
  intro lsm H locs hf hs hI
  have hx32 : x32 x := xok_h hs
  exact lv_lookup hx hb hd h2 (by rw [xi_to hx32]) (xlook_ok pc d0 x ps.toList h3 h1) (k lsm H locs hf (xok_t hs) hI)
theorem xcall {pc : Nat} {lsm : Array Slot} {st0 : List Value} {H : Heap} {locs : List Loc} {q : xR} {rest : List xV} {a : Array Value} (hr : va_Run p l e R s mid args below meth c H locs cells slots 0 0 (F0 mid pc lsm st0) (rest.map (xcw d)) (xQc D cA d A L xs q a) A) (hS : va_S A s.heap H locs)
    (kk : ∀ (H1 : Heap) (locs1 : List Loc), xI D cA d A s L xs q.2 H1 locs1 → (∀ v ∈ q.1.toList, xokv v) → W p l e R s mid args below meth c H1 locs1 cells slots Q (F0 mid (pc + 3) lsm ((q.1.toList ++ rest).map (xcw d)))) : W p l e R s mid args below meth c H locs cells slots Q (F0 mid pc lsm st0) := by
  intro T hT X
  obtain ⟨v, st₀, t, T', Lc, h0, X', hL, e1, e2, ⟨hv, hP, hF, hrg, hsc, hok⟩, st⟩ := hr T hT X
  have hv' : v = q.1.map (xcw d) := Outcome.returned.inj hv
  have hS1 : va_S A s.heap t.heap (locs ++ Lc) := by
    refine ⟨Nat.le_trans hS.1 (by rw [← h0]; exact hF.1), fun x h1 h2 => ?_, fun x hx => ?_⟩
    · rw [hF.2 x (by rw [h0]; exact Nat.lt_of_lt_of_le h1 hS.1) h2, h0]
      exact hS.2.1 x h1 h2
    · rcases List.mem_append.mp hx with h | h
      · exact hS.2.2 x h
      · exact hL x h
  obtain ⟨t2, a1, b1⟩ := kk t.heap (locs ++ Lc) ⟨hP, hS1, hrg, hsc⟩ hok T' e1 X'
  have e : v.toList ++ rest.map (xcw d) = (q.1.toList ++ rest).map (xcw d) := by
    rw [hv', List.map_append]
    cases q.1 <;> rfl
  rw [← e] at a1
  exact ⟨t2, st t2 a1, b1⟩
/-- the method's place in the real machine -/
def xCtx (D : va_G) (cA : Nat → ClassId) (d : xAd) (adV : Nat → Nat) (A : Nat → Prop) (L : Nat) (xs : Nat → Int32) (m : Nat) (p : Program) (R : Room) (s : State) (mid : MethodId) (args : Array Value) (c : Code) (cells slots : Nat) : Prop :=
  p.tables.exec = Jvm.exec ∧ c.code = xmb m ∧ c.maxLocals = xml m ∧ s.vm.findClass (xCn (xmo m)) = some mid.cls ∧ (∀ w ∈ xws, w.before args s = true) ∧ xKs D cA d adV A L xs s s.heap ∧ xrf m ≤ R.frames ∧ xrl m ≤ R.locals ∧ cells ≤ R.cells ∧ slots ≤ R.slots
/-- how a method ends -/
def xrOk (m : Nat) (i : Instr) (v : Option xV) : Prop :=
  (i = .ireturn ∧ xmr m = some .int ∧ ∃ x, v = some (0, x)) ∨ (i = .ireturn ∧ xmr m = some .boolean ∧ ∃ x, v = some (0, x) ∧ (x = 0 ∨ x = 1)) ∨ (i = .lreturn ∧ xmr m = some .long ∧ ∃ x, v = some (1, x)) ∨ (i = .areturn ∧ (∃ t, xmr m = some (.object t)) ∧ ∃ k x, v = some (k + 2, x)) ∨ (i = .return_ ∧ xmr m = none ∧ v = none)
def xRet (D : va_G) (cA : Nat → ClassId) (d : xAd) (A : Nat → Prop) (L : Nat) (xs : Nat → Int32) (m : Nat) (p : Program) (l : Launch) (e : Env) (R : Room) (s : State) (mid : MethodId) (args : Array Value) (below : List Frame) (meth : Method) (c : Code) (cells slots : Nat) (Q : State → Prop) (r : xR) : Prop :=
  ∀ (pc : Nat) (lsm : Array Slot) (H : Heap) (locs : List Loc) (i : Instr), xI D cA d A s L xs r.2 H locs → (∀ v ∈ r.1.toList, xokv v) → decode (xmb m) pc = .ok (i, 1) → xrOk m i r.1 → W p l e R s mid args below meth c H locs cells slots Q (F0 mid pc lsm (r.1.toList.map (xcw d)))
/-- length() and charAt() of a String constant, as one step -/
def xPrim (l : Launch) (D : va_G) (cA : Nat → ClassId) (d : xAd) (adV : Nat → Nat) (A : Nat → Prop) (L : Nat) (xs : Nat → Int32) : Prop :=
  ∀ (m : Nat) (p : Program) (e : Env) (R : Room) (s : State) (mid : MethodId) (args : Array Value) (below : List Frame) (meth : Method) (c : Code) (cells slots : Nat) (Q : State → Prop) (q : Nat × Nat × Nat × Nat), xCtx D cA d adV A L xs m p R s mid args c cells slots → q ∈ xSTL → q.1 = xmo m → 5 ≤ R.frames → 130 ≤ R.locals → ∀ (pc : Nat) (ls : xL) (st : List xV) (M : xM), decode (xmb m) pc = .ok (.invokevirtual q.2.1, 3) → xcat st ≤ 8 →
    (q.2.2.1 = 0 → ∀ k : Int, xGo p l e R s mid args below meth c cells slots Q d (xml m) (xI D cA d A s L xs) (pc + 3) ls ((0, ((xstr k.toNat).length : Int)) :: st) M → xGo p l e R s mid args below meth c cells slots Q d (xml m) (xI D cA d A s L xs) pc ls ((54, k) :: st) M) ∧
    (q.2.2.1 = 1 → ∀ k i : Int, (0 ≤ i ∧ i < ((xstr k.toNat).length : Int)) → xGo p l e R s mid args below meth c cells slots Q d (xml m) (xI D cA d A s L xs) (pc + 3) ls ((0, (xstr k.toNat).getD i.toNat 0) :: st) M → xGo p l e R s mid args below meth c cells slots Q d (xml m) (xI D cA d A s L xs) pc ls ((0, i) :: (54, k) :: st) M)
/-- a method's contract, out of its runs of f steps -/
def xCon (l : Launch) (D : va_G) (cA : Nat → ClassId) (d : xAd) (adV : Nat → Nat) (A : Nat → Prop) (L : Nat) (xs : Nat → Int32) (f : Nat) : Prop :=
  ∀ (m : Nat), m < 303 → m ≠ 296 → m ≠ 299 → m ≠ 300 → ∀ (as : List xV) (M : xM) (q : xR), xEvF xml xfetch f (m, 0, xpad (xml m) (xargs as), [], M) q → (∀ v ∈ as, xokv v) → (xargs as).length ≤ xml m → Met l (xmy m) (xwm m) (xroom m) (xPc D cA d adV A L xs as M) (xQc D cA d A L xs q) 0 0 A
theorem xty_tab : (List.range 12).all (fun c => (List.range (xcN c)).all (fun k => match (xft c k).1 with
  | 0 => decide (xtyf c k = .int)
  | 1 => decide (xtyf c k = .long)
  | 2 => decide (xtyf c k = .boolean)
  | _ => true)) = true := by decide +kernel
theorem xtyF {c k : Nat} (hc : c < 12) (hk : k < xcN c) : match (xft c k).1 with
  | 0 => xtyf c k = .int
  | 1 => xtyf c k = .long
  | 2 => xtyf c k = .boolean
  | _ => True := by
  have h := List.all_eq_true.mp (List.all_eq_true.mp xty_tab c (List.mem_range.mpr hc)) k (List.mem_range.mpr hk)
  split
  · next e => rw [e] at h; exact of_decide_eq_true h
  · next e => rw [e] at h; exact of_decide_eq_true h
  · next e => rw [e] at h; exact of_decide_eq_true h
  · trivial
theorem xMLm_all : xMLk.all (fun q => !(Nat.beq q.2.2.1 299 || Nat.beq q.2.2.1 300) || !(Nat.beq q.2.2.2.1 2)) = true := by decide +kernel
theorem xMLm {q : Nat × Nat × Nat × Nat × Nat} (h : q ∈ xMLk) (hk : q.2.2.1 = 299 ∨ q.2.2.1 = 300) : q.2.2.2.1 ≠ 2 := by
  intro h2
  have h1 := List.all_eq_true.mp xMLm_all q h
  rw [h2] at h1
  rcases hk with hk | hk <;> (rw [hk] at h1; cases h1)
set_option maxHeartbeats 8000000 in
theorem xstep (hap : xap A d) (hL : L < 4000) (hPr : xPrim l D cA d adV A L xs) {f : Nat} (hCon : xCon l D cA d adV A L xs f) {m : Nat} (hm : m < 303) {r : xR} (C : xCtx D cA d adV A L xs m p R s mid args c cells slots) (hR : xRet D cA d A L xs m p l e R s mid args below meth c cells slots Q r)
    (ih : ∀ (pc : Nat) (ls : xL) (st : List xV) (M : xM), xEvF xml xfetch f (m, pc, ls, st, M) r → xGo p l e R s mid args below meth c cells slots Q d (xml m) (xI D cA d A s L xs) pc ls st M) :
    ∀ (pc : Nat) (ls : xL) (st : List xV) (M : xM), xEvF xml xfetch (f + 1) (m, pc, ls, st, M) r → xGo p l e R s mid args below meth c cells slots Q d (xml m) (xI D cA d A s L xs) pc ls st M := by
  intro pc ls st M h
  obtain ⟨hx, hb, hml, hown, hts, hKs, hRf, hRl, hcl, hsl⟩ := id C
  obtain ⟨ent, hfe, hsr⟩ := xSR_of h
  dsimp only at hfe hsr
  obtain ⟨i, n, hd, ha⟩ := xde_all m hm pc ent hfe
  have hK := hKs.1
  unfold xabs at ha
  split at ha
  · cases ha
    obtain ⟨v, hg, ht, hgo⟩ := iv0 hsr
    obtain ⟨x, rfl⟩ := xtag0 ht
    exact xs_iload_n hx hb hd hg (ih _ _ _ _ hgo)
  · cases ha
    obtain ⟨v, hg, ht, hgo⟩ := iv0 hsr
    obtain ⟨x, rfl⟩ := xtag0 ht
    exact xs_iload hx hb hd hg (ih _ _ _ _ hgo)
  · cases ha
    obtain ⟨v, hg, ht, hgo⟩ := iv0 hsr
    obtain ⟨x, rfl⟩ := xtag1 ht
    exact xs_lload_n hx hb hd hg (ih _ _ _ _ hgo)
  · cases ha
    obtain ⟨v, hg, ht, hgo⟩ := iv0 hsr
    obtain ⟨x, rfl⟩ := xtag1 ht
    exact xs_lload hx hb hd hg (ih _ _ _ _ hgo)
  · cases ha
    obtain ⟨v, hg, ht, hgo⟩ := iv0 hsr
    obtain ⟨k2, x, rfl⟩ := xtag2 ht
    exact xs_aload_n hx hb hd hg (ih _ _ _ _ hgo)
  · cases ha
    obtain ⟨v, hg, ht, hgo⟩ := iv0 hsr
    obtain ⟨k2, x, rfl⟩ := xtag2 ht
    exact xs_aload hx hb hd hg (ih _ _ _ _ hgo)
  · split at ha
    · next hi =>
      cases ha
      obtain ⟨v, st2, rfl, ht, hgo⟩ := iv1 hsr
      obtain ⟨x, rfl⟩ := xtag0 ht
      exact xs_istore_n hx hb hd hi (ih _ _ _ _ hgo)
    · cases ha
  · split at ha
    · next hi =>
      cases ha
      obtain ⟨v, st2, rfl, ht, hgo⟩ := iv1 hsr
      obtain ⟨x, rfl⟩ := xtag0 ht
      exact xs_istore hx hb hd hi (ih _ _ _ _ hgo)
    · cases ha
  · split at ha
    · next hi =>
      cases ha
      obtain ⟨v, st2, rfl, ht, hgo⟩ := iv1 hsr
      obtain ⟨x, rfl⟩ := xtag1 ht
      exact xs_lstore_n hx hb hd hi (ih _ _ _ _ hgo)
    · cases ha
  · split at ha
    · next hi =>
      cases ha
      obtain ⟨v, st2, rfl, ht, hgo⟩ := iv1 hsr
      obtain ⟨x, rfl⟩ := xtag1 ht
      exact xs_lstore hx hb hd hi (ih _ _ _ _ hgo)
    · cases ha
  · split at ha
    · next hi =>
      cases ha
      obtain ⟨v, st2, rfl, ht, hgo⟩ := iv1 hsr
      obtain ⟨k2, x, rfl⟩ := xtag2 ht
      exact xs_astore_n hx hb hd hi (ih _ _ _ _ hgo)
    · cases ha
  · split at ha
    · next hi =>
      cases ha
      obtain ⟨v, st2, rfl, ht, hgo⟩ := iv1 hsr
      obtain ⟨k2, x, rfl⟩ := xtag2 ht
      exact xs_astore hx hb hd hi (ih _ _ _ _ hgo)
    · cases ha
  · split at ha
    · next hv =>
      cases ha
      exact xs_iconst hx hb hd hv (ih _ _ _ _ (iv2 hsr))
    · cases ha
  · split at ha
    · next hv =>
      cases ha
      exact xs_bipush hx hb hd hv (ih _ _ _ _ (iv2 hsr))
    · cases ha
  · split at ha
    · next hv =>
      cases ha
      exact xs_sipush hx hb hd hv (ih _ _ _ _ (iv2 hsr))
    · cases ha
  · split at ha
    · next q hq =>
      have hmem := List.mem_of_find?_eq_some hq
      have hp := List.find?_some hq
      rw [Bool.and_eq_true] at hp
      have e1 := Nat.eq_of_beq_eq_true hp.1
      have e2 := Nat.eq_of_beq_eq_true hp.2
      subst e2
      cases ha
      obtain ⟨c1, c2⟩ := xCL_ok hmem
      rw [e1] at c2
      exact xs_ldc hx hb hown (hts _ c2) hd c1 (ih _ _ _ _ (iv2 hsr))
    · split at ha
      · next q hq =>
        have hmem := List.mem_of_find?_eq_some hq
        have hp := List.find?_some hq
        rw [Bool.and_eq_true] at hp
        have e1 := Nat.eq_of_beq_eq_true hp.1
        have e2 := Nat.eq_of_beq_eq_true hp.2
        subst e2
        cases ha
        have c1 := xSL_ok hmem
        have c2 := hKs.2.2.2.2.2.1 q hmem
        rw [e1] at c2
        have hgo := ih _ _ _ _ (iv30 hsr)
        intro lsm H locs hf hs hI
        refine va_ldcS hx hb hown c2 hd ?_
        have h9 := hgo lsm H locs hf (xok_c (show xval 52 ((q.2.2.1 : Nat) : Int) by unfold xval; rw [if_neg (by decide), if_neg (by decide), if_pos rfl]; constructor <;> omega) hs) hI
        have e9 : xcw d (54, ((q.2.2.1 : Nat) : Int)) = .ref (d.2.1 q.2.2.1) := by
          show Value.ref (xadr d 52 _) = _
          unfold xadr
          rw [if_neg (by decide), if_neg (by decide), if_pos rfl, Int.toNat_natCast]
        rw [List.map_cons, e9] at h9
        exact h9
      · cases ha
  · split at ha
    · next q hq =>
      have hmem := List.mem_of_find?_eq_some hq
      have hp := List.find?_some hq
      rw [Bool.and_eq_true] at hp
      have e1 := Nat.eq_of_beq_eq_true hp.1
      have e2 := Nat.eq_of_beq_eq_true hp.2
      subst e2
      cases ha
      obtain ⟨c1, c2⟩ := xCL_ok hmem
      rw [e1] at c2
      exact xs_ldcw hx hb hown (hts _ c2) hd c1 (ih _ _ _ _ (iv2 hsr))
    · cases ha
  · cases ha
    exact xs_lconst hx hb hd (ih _ _ _ _ (iv3 hsr))
  · split at ha
    · next q hq =>
      have hmem := List.mem_of_find?_eq_some hq
      have hp := List.find?_some hq
      rw [Bool.and_eq_true] at hp
      have e1 := Nat.eq_of_beq_eq_true hp.1
      have e2 := Nat.eq_of_beq_eq_true hp.2
      subst e2
      cases ha
      obtain ⟨c1, c2⟩ := xLL_ok hmem
      rw [e1] at c2
      exact xs_ldc2 hx hb hown (hts _ c2) hd c1 (ih _ _ _ _ (iv3 hsr))
    · cases ha
  · cases ha
    obtain ⟨x, y, st2, rfl, -, hgo⟩ := iv4 hsr
    exact xs_iadd hx hb hd (ih _ _ _ _ hgo)
  · cases ha
    obtain ⟨x, y, st2, rfl, -, hgo⟩ := iv4 hsr
    exact xs_isub hx hb hd (ih _ _ _ _ hgo)
  · cases ha
    obtain ⟨x, y, st2, rfl, -, hgo⟩ := iv4 hsr
    exact xs_imul hx hb hd (ih _ _ _ _ hgo)
  · cases ha
    obtain ⟨x, y, st2, rfl, -, hgo⟩ := iv4 hsr
    exact xs_iand hx hb hd (ih _ _ _ _ hgo)
  · cases ha
    obtain ⟨x, y, st2, rfl, -, hgo⟩ := iv4 hsr
    exact xs_ior hx hb hd (ih _ _ _ _ hgo)
  · cases ha
    obtain ⟨x, y, st2, rfl, -, hgo⟩ := iv4 hsr
    exact xs_ixor hx hb hd (ih _ _ _ _ hgo)
  · cases ha
    obtain ⟨x, y, st2, rfl, -, hgo⟩ := iv4 hsr
    exact xs_ishl hx hb hd (ih _ _ _ _ hgo)
  · cases ha
    obtain ⟨x, y, st2, rfl, -, hgo⟩ := iv4 hsr
    exact xs_ishr hx hb hd (ih _ _ _ _ hgo)
  · cases ha
    obtain ⟨x, y, st2, rfl, hc, hgo⟩ := iv4 hsr
    exact xs_irem hx hb hd hc (ih _ _ _ _ hgo)
  · cases ha
    obtain ⟨x, y, st2, rfl, hc, hgo⟩ := iv4 hsr
    exact xs_idiv hx hb hd hc (ih _ _ _ _ hgo)
  · cases ha
    obtain ⟨x, y, st2, rfl, -, hgo⟩ := iv4 hsr
    exact xs_iushr hx hb hd (ih _ _ _ _ hgo)
  · cases ha
    obtain ⟨x, y, st2, rfl, -, hgo⟩ := iv5 hsr
    exact xs_ladd hx hb hd (ih _ _ _ _ hgo)
  · cases ha
    obtain ⟨x, y, st2, rfl, -, hgo⟩ := iv5 hsr
    exact xs_lsub hx hb hd (ih _ _ _ _ hgo)
  · cases ha
    obtain ⟨x, y, st2, rfl, -, hgo⟩ := iv5 hsr
    exact xs_lmul hx hb hd (ih _ _ _ _ hgo)
  · cases ha
    obtain ⟨x, y, st2, rfl, -, hgo⟩ := iv5 hsr
    exact xs_land hx hb hd (ih _ _ _ _ hgo)
  · cases ha
    obtain ⟨x, y, st2, rfl, -, hgo⟩ := iv5 hsr
    exact xs_lor hx hb hd (ih _ _ _ _ hgo)
  · cases ha
    obtain ⟨x, y, st2, rfl, -, hgo⟩ := iv5 hsr
    exact xs_lxor hx hb hd (ih _ _ _ _ hgo)
  · cases ha
    obtain ⟨x, y, st2, rfl, hc, hgo⟩ := iv5 hsr
    exact xs_lrem hx hb hd hc (ih _ _ _ _ hgo)
  · cases ha
    obtain ⟨x, y, st2, rfl, hc, hgo⟩ := iv5 hsr
    exact xs_ldiv hx hb hd hc (ih _ _ _ _ hgo)
  · cases ha
    obtain ⟨x, y, st2, rfl, hgo⟩ := iv6a hsr
    exact xs_lshl hx hb hd (ih _ _ _ _ hgo)
  · cases ha
    obtain ⟨x, y, st2, rfl, hgo⟩ := iv6b hsr
    exact xs_lushr hx hb hd (ih _ _ _ _ hgo)
  · cases ha
    obtain ⟨x, y, st2, rfl, hgo⟩ := iv7 hsr
    exact xs_lcmp hx hb hd (ih _ _ _ _ hgo)
  · cases ha
    obtain ⟨x, st2, rfl, hgo⟩ := iv8 hsr
    exact xs_i2l hx hb hd (ih _ _ _ _ hgo)
  · cases ha
    obtain ⟨x, st2, rfl, hgo⟩ := iv8 hsr
    exact xs_l2i hx hb hd (ih _ _ _ _ hgo)
  · cases ha
    obtain ⟨x, st2, rfl, hgo⟩ := iv8 hsr
    exact xs_i2b hx hb hd (ih _ _ _ _ hgo)
  · cases ha
    obtain ⟨x, st2, rfl, hgo⟩ := iv8 hsr
    exact xs_i2s hx hb hd (ih _ _ _ _ hgo)
  · cases ha
    obtain ⟨x, hg, hgo⟩ := iv9 hsr
    exact xs_iinc hx hb hd hg (ih _ _ _ _ hgo)
  · cases ha
    obtain ⟨v, st2, rfl, hv, hgo⟩ := iv10 hsr
    exact xs_dup hx hb hd hv (ih _ _ _ _ hgo)
  · cases ha
    obtain ⟨x, k2, y, st2, rfl, hgo⟩ := iv11 hsr
    exact xs_dup2 hx hb hd (by show (0 : Nat) ≠ 1; decide) (by show k2 + 2 ≠ 1; omega) (ih _ _ _ _ hgo)
  · cases ha
    obtain ⟨x, st2, rfl, hgo⟩ := iv12 hsr
    exact xs_pop hx hb hd (by show (0 : Nat) ≠ 1; decide) (ih _ _ _ _ hgo)
  · next cnd off =>
    split at ha
    · next hoff =>
      cases ha
      obtain ⟨x, st2, rfl, hgo⟩ := iv13 hsr
      have ht : (pc : Int) + off = ((((pc : Int) + off).toNat : Nat) : Int) := by omega
      have hgo := ih _ _ _ _ hgo
      cases cnd with
      | eq => exact xs_if_eq hx hb hd ht hgo
      | ne => exact xs_if_ne hx hb hd ht hgo
      | lt => exact xs_if_lt hx hb hd ht hgo
      | ge => exact xs_if_ge hx hb hd ht hgo
      | gt => exact xs_if_gt hx hb hd ht hgo
      | le => exact xs_if_le hx hb hd ht hgo
    · cases ha
  · next cnd off =>
    split at ha
    · next hoff =>
      cases ha
      obtain ⟨x, y, st2, rfl, hgo⟩ := iv14 hsr
      have ht : (pc : Int) + off = ((((pc : Int) + off).toNat : Nat) : Int) := by omega
      have hgo := ih _ _ _ _ hgo
      cases cnd with
      | eq => exact xs_icmp_eq hx hb hd ht hgo
      | ne => exact xs_icmp_ne hx hb hd ht hgo
      | lt => exact xs_icmp_lt hx hb hd ht hgo
      | ge => exact xs_icmp_ge hx hb hd ht hgo
      | gt => exact xs_icmp_gt hx hb hd ht hgo
      | le => exact xs_icmp_le hx hb hd ht hgo
    · cases ha
  · next off =>
    split at ha
    · next hoff =>
      cases ha
      exact xs_goto hx hb hd (by omega) (ih _ _ _ _ (iv15 hsr))
    · cases ha
  · split at ha
    · next hh =>
      obtain ⟨h1, h2, h3⟩ := hh
      cases ha
      obtain ⟨x, st2, rfl, hgo⟩ := iv16 hsr
      exact xs_table hx hb hd h1 h2 (fun o ho => of_decide_eq_true (List.all_eq_true.mp h3 o ho)) (ih _ _ _ _ hgo)
    · cases ha
  · split at ha
    · next hh =>
      obtain ⟨h1, h2, h3⟩ := hh
      cases ha
      obtain ⟨x, st2, rfl, hgo⟩ := iv17 hsr
      exact xs_lookup hx hb hd h1 h2 (fun q hq => of_decide_eq_true (List.all_eq_true.mp h3 q hq)) (ih _ _ _ _ hgo)
    · cases ha
  · split at ha
    · next q hq =>
      have hmem := List.mem_of_find?_eq_some hq
      have hp := List.find?_some hq
      rw [Bool.and_eq_true] at hp
      have e1 := Nat.eq_of_beq_eq_true hp.1
      have e2 := Nat.eq_of_beq_eq_true hp.2
      subst e2
      obtain ⟨c1, c2, c3, c4⟩ := xFL_ok hmem
      rw [e1] at c4
      split at ha
      · next z hft =>
        cases ha
        obtain ⟨o, st2, rfl, hgo⟩ := iv18a hsr
        exact xs_getI hx hb hK hts (xlay c1) hown (xcl_at _ c1) c2 (hts _ c4) c3 c1 rfl (Or.inl (by rw [hft])) hd (ih _ _ _ _ hgo)
      · next z hft =>
        cases ha
        obtain ⟨o, st2, rfl, hgo⟩ := iv18a hsr
        exact xs_getI hx hb hK hts (xlay c1) hown (xcl_at _ c1) c2 (hts _ c4) c3 c1 rfl (Or.inr (by rw [hft])) hd (ih _ _ _ _ hgo)
      · next z hft =>
        cases ha
        obtain ⟨o, st2, rfl, hgo⟩ := iv18b hsr
        exact xs_getL hx hb hK hts (xlay c1) hown (xcl_at _ c1) c2 (hts _ c4) c3 c1 rfl (by rw [hft]) hd (ih _ _ _ _ hgo)
      · next off hft =>
        cases ha
        obtain ⟨o, st2, rfl, hgo⟩ := iv19 hsr
        intro lsm H locs hf hs hI
        have hv := xgR c1 c2 hft (xok_h hs)
        exact xs_getR hx hb hK hts (xlay c1) hown (xcl_at _ c1) c2 (hts _ c4) c3 c1 rfl hft hv.2 (fun o2 ho2 => (xgR c1 c2 hft ho2).1) hd (ih _ _ _ _ hgo) lsm H locs hf hs hI
      · cases ha
    · cases ha
  · split at ha
    · next q hq =>
      have hmem := List.mem_of_find?_eq_some hq
      have hp := List.find?_some hq
      rw [Bool.and_eq_true] at hp
      have e1 := Nat.eq_of_beq_eq_true hp.1
      have e2 := Nat.eq_of_beq_eq_true hp.2
      subst e2
      obtain ⟨c1, c2, c3, c4⟩ := xFL_ok hmem
      rw [e1] at c4
      split at ha
      · next hfn =>
        have hfin : (xTt q.2.2.1 q.2.2.2.1).2.2.2 = false := by
          unfold xfin at hfn
          rw [xcl_at _ c1] at hfn
          exact hfn
        have hty := xtyF c1 c2
        split at ha
        · next z hft =>
          cases ha
          obtain ⟨x, o, st2, rfl, hgo⟩ := iv20a hsr
          have hlg : xlgK q.2.2.1 ((q.2.2.2.1 : Nat) : Int) = false := by rw [xlg_f c1, hft]; rfl
          rw [hft] at hty
          intro lsm H locs hf hs hI
          have hx32 : x32 x := xok_h hs
          exact xs_put hx hb hK hap hts (xlay c1) hown (xcl_at _ c1) c2 (hts _ c4) c3 c1 rfl (xtyf_ok _ c1) (xnmf_ok _ c1) hfin (v := (0, x)) rfl (fun _ => x32_64 hx32) (fun _ => hx32) (by unfold xfv; rw [hft]; show _ = Value.int (Int32.ofInt (xwr M o _ x o _)); unfold xwr; rw [if_pos ⟨rfl, rfl⟩]; rfl) (by rw [hty]; rfl) (by rw [hty]; rfl) hd (ih _ _ _ _ hgo) lsm H locs hf hs hI
        · next z hft =>
          cases ha
          obtain ⟨x, o, st2, rfl, hgo⟩ := iv20b hsr
          rw [hft] at hty
          intro lsm H locs hf hs hI
          have hx64 : x64 x := xok_h hs
          exact xs_put hx hb hK hap hts (xlay c1) hown (xcl_at _ c1) c2 (hts _ c4) c3 c1 rfl (xtyf_ok _ c1) (xnmf_ok _ c1) hfin (v := (1, x)) rfl (fun _ => hx64) (fun hh => by rw [xlg_f c1, hft] at hh; cases hh) (by unfold xfv; rw [hft]; show _ = Value.long (Int64.ofInt (xwr M o _ x o _)); unfold xwr; rw [if_pos ⟨rfl, rfl⟩]; rfl) (by rw [hty]; rfl) (by rw [hty]; rfl) hd (ih _ _ _ _ hgo) lsm H locs hf hs hI
        · next z hft =>
          cases ha
          obtain ⟨x, o, st2, rfl, hz, hgo⟩ := iv20c hsr
          rw [hft] at hty
          intro lsm H locs hf hs hI
          have hx32 : x32 x := xok_h hs
          exact xs_put hx hb hK hap hts (xlay c1) hown (xcl_at _ c1) c2 (hts _ c4) c3 c1 rfl (xtyf_ok _ c1) (xnmf_ok _ c1) hfin (v := (0, x)) rfl (fun _ => x32_64 hx32) (fun _ => hx32) (by unfold xfv; rw [hft]; show _ = Value.int (Int32.ofInt (xwr M o _ x o _)); unfold xwr; rw [if_pos ⟨rfl, rfl⟩]; rfl) (by rw [hty]; rcases hz with rfl | rfl <;> rfl) (by rw [hty]; rcases hz with rfl | rfl <;> rfl) hd (ih _ _ _ _ hgo) lsm H locs hf hs hI
        · cases ha
      · cases ha
    · cases ha
  · cases ha
    obtain ⟨i2, k2, o, st2, rfl, hh⟩ := iv21 hsr
    rcases hh with ⟨h1, -⟩ | ⟨-, rfl, h2, hgo⟩ | ⟨t, len, hak, hi, hh⟩
    · cases h1
    · exact xs_ialdScr hx hb hKs.2.2.2.1 hL hd h2 (ih _ _ _ _ hgo)
    · rcases hh with ⟨⟨-, rfl⟩ | ⟨h1, -⟩ | ⟨h1, -⟩, hgo⟩ | ⟨h1, -⟩
      · exact xs_iald hx hb hK (xak_or hak).1 hak hd hi (ih _ _ _ _ hgo)
      · cases h1
      · cases h1
      · cases h1
  · cases ha
    obtain ⟨i2, k2, o, st2, rfl, hh⟩ := iv21 hsr
    rcases hh with ⟨h1, -⟩ | ⟨h1, -⟩ | ⟨t, len, hak, hi, hh⟩
    · cases h1
    · cases h1
    · rcases hh with ⟨⟨h1, -⟩ | ⟨-, rfl⟩ | ⟨-, rfl⟩, hgo⟩ | ⟨h1, -⟩
      · cases h1
      · exact xs_bald hx hb hK (xak_or hak).1 hak hd hi (ih _ _ _ _ hgo)
      · exact xs_zald hx hb hK (xak_or hak).1 hak hd hi (ih _ _ _ _ hgo)
      · cases h1
  · cases ha
    obtain ⟨i2, k2, o, st2, rfl, hh⟩ := iv21 hsr
    rcases hh with ⟨-, rfl, h2, hgo⟩ | ⟨h1, -⟩ | ⟨t, len, hak, hi, hh⟩
    · exact xs_laldLack hx hb hKs.2.2.1 hd h2 (ih _ _ _ _ hgo)
    · cases h1
    · rcases hh with ⟨⟨h1, -⟩ | ⟨h1, -⟩ | ⟨h1, -⟩, hgo⟩ | ⟨-, rfl, hgo⟩
      · cases h1
      · cases h1
      · cases h1
      · exact xs_lald hx hb hK (xak_or hak).1 hak hd hi (ih _ _ _ _ hgo)
  · cases ha
    obtain ⟨t, x, i2, k2, o, st2, u, len, rfl, hak, hi, hh⟩ := iv22 hsr
    rcases hh with ⟨-, rfl, rfl, hgo⟩ | ⟨h1, -⟩ | ⟨h1, -⟩ | ⟨h1, -⟩
    · exact xs_iast hx hb hK hap (xak_or hak).1 hak hd hi (ih _ _ _ _ hgo)
    · cases h1
    · cases h1
    · cases h1
  · cases ha
    obtain ⟨t, x, i2, k2, o, st2, u, len, rfl, hak, hi, hh⟩ := iv22 hsr
    rcases hh with ⟨h1, -⟩ | ⟨-, rfl, rfl, hgo⟩ | ⟨-, rfl, rfl, hgo⟩ | ⟨h1, -⟩
    · cases h1
    · exact xs_bast hx hb hK hap (xak_or hak).1 hak hd hi (ih _ _ _ _ hgo)
    · exact xs_zast hx hb hK hap (xak_or hak).1 hak hd hi (ih _ _ _ _ hgo)
    · cases h1
  · cases ha
    obtain ⟨t, x, i2, k2, o, st2, u, len, rfl, hak, hi, hh⟩ := iv22 hsr
    rcases hh with ⟨h1, -⟩ | ⟨h1, -⟩ | ⟨h1, -⟩ | ⟨-, rfl, rfl, hgo⟩
    · cases h1
    · cases h1
    · cases h1
    · exact xs_last hx hb hK hap (xak_or hak).1 hak hd hi (ih _ _ _ _ hgo)
  · cases ha
    obtain ⟨i2, k2, o, st2, q, len, off, str, rfl, hrk, hi, hgo⟩ := iv23 hsr
    obtain ⟨hor, hq⟩ := xrk_or hrk
    exact xs_aald hx hb hK hor hrk hq hd hi (fun o2 ho2 => xgA (by omega) hq hrk hi ho2) (ih _ _ _ _ hgo)
  · cases ha
    obtain ⟨k2, o, st2, rfl, hh⟩ := iv24 hsr
    rcases hh with ⟨rfl, hgo⟩ | ⟨rfl, hgo⟩ | ⟨t, len, hak, hgo⟩
    · exact xs_alenLack hx hb hKs.2.2.1 hd (ih _ _ _ _ hgo)
    · exact xs_alenScr hx hb hKs.2.2.2.1 hL hd (ih _ _ _ _ hgo)
    · obtain ⟨h1, h2, h3⟩ := xak_or hak
      exact xs_alen hx hb hK h1 hak h2 h3 hd (ih _ _ _ _ hgo)
  · split at ha
    · next q hq =>
      have hmem := List.mem_of_find?_eq_some hq
      have hp := List.find?_some hq
      rw [Bool.and_eq_true] at hp
      have e1 := Nat.eq_of_beq_eq_true hp.1
      have e2 := Nat.eq_of_beq_eq_true hp.2
      subst e2
      split at ha
      · next hh =>
        obtain ⟨k0, r1, r2, k3⟩ := hh
        cases ha
        obtain ⟨as, st2, q2, hp2, hrcv, hcat, hlen, hc1, hc2⟩ := iv25 hsr
        obtain ⟨⟨c1, c1b⟩, c2⟩ := xML_ok hmem
        have c2 := c2 (by rw [k0]; decide)
        rw [e1] at c2
        obtain ⟨w1, -, w3, w4, w5, w6, w7, w8⟩ := xM_ok c1 c1b
        obtain ⟨w3a, w3b⟩ := w3 k3
        have n99 : q.2.2.1 ≠ 299 := fun hh => by rw [hh] at k3; cases k3
        have n00 : q.2.2.1 ≠ 300 := fun hh => by rw [hh] at k3; cases k3
        have w8 : 1 ≤ xmn q.2.2.1 ∧ xmo q.2.2.1 < 12 := by rcases w8 with w8 | w8; (· rw [k3] at w8; cases w8); exact w8
        have hn : ((xmn q.2.2.1 : Nat) : Int).toNat = xmn q.2.2.1 := by omega
        rw [hn] at hp2
        obtain ⟨ts, ht1, ht2, ht3⟩ := xpop_ok _ _ _ _ _ hp2
        rw [List.append_nil] at ht3
        subst ht2
        intro lsm H locs hf hs hI
        have hok : ∀ v ∈ as, xokv v := fun v hv => hs v (List.mem_append_left _ (List.mem_reverse.mp (by rw [← ht3]; exact hv)))
        have hM := hCon q.2.2.1 c1 c1b n99 n00 as M q2 hc1 hok hlen
        match as, hrcv, ht3, hok, hlen, hM, hc1 with
        | (t0, o) :: as2, hrcv, ht3, hok, hlen, hM, hc1 =>
          have ht0 : t0 = xmo q.2.2.1 + 2 := Nat.eq_of_beq_eq_true hrcv
          subst ht0
          have hts2 : ts = as2.reverse ++ [(xmo q.2.2.1 + 2, o)] := by rw [← List.reverse_reverse ts, ← ht3, List.reverse_cons]
          have hl2 : as2.length = xmn q.2.2.1 - 1 := by rw [hts2] at ht1; simp at ht1; omega
          obtain ⟨y1, y2, y3, y4, y5⟩ := xft_obj w8.2
          obtain ⟨hv1, hv2, hv3⟩ := xval_cell (hok _ List.mem_cons_self) y3 y4 y5
          have hat := xwd_at (cA := cA) (d := d) (M := M) hv1 hv2
          rw [xent_obj hv3 y1 y2] at hat
          have hrec := va_recv hK hI.1 (xcl_at _ w8.2) hat
          rw [← xadr_cell (d := d) (a := o) y3 y4 y5] at hrec
          have hstk : (F0 mid pc lsm ((ts ++ st2).map (xcw d))).stack = (as2.map (xcw d)).reverse ++ .ref (xadr d (xmo q.2.2.1) o) :: st2.map (xcw d) := by
            show (ts ++ st2).map (xcw d) = _
            rw [hts2]
            simp [xcw_r]
          have hdn := w6.2.2
          rw [k3] at hdn
          refine xcall (va_runV (C := xCn (xmo q.2.2.1)) (b := xadr d (xmo q.2.2.1) o) (As := as2.map (xcw d)) (rest := st2.map (xcw d)) (n := xmn q.2.2.1 - 1) ⟨hx, hb, hml, hown, hts⟩ hM ⟨callB_of (xmn q.2.2.1 - 1) hts (xgoodm c1 c1b) rfl rfl rfl (hts _ w4) (hts _ c2) ⟨w6.1, w6.2.1, hdn⟩ ⟨Nat.le_trans r1 hRf, Nat.le_trans r2 hRl⟩, hts _ w3a, by rw [← w5]; exact hts _ w3b⟩ ⟨xPc_blind, hrec, fun U hU hW => ⟨by simp [xcw_r], by rw [hU]; exact hI.1, hI.2.2.1, hI.2.2.2, by rw [hU]; exact xKs_go hKs hW hI.2.1.2.1⟩⟩ rfl (by rw [List.length_map]; exact hl2) hf.2.1 hstk (lv_room (by rw [xcat_sum]; exact hcat)) hd ⟨hcl, hsl⟩) hI.2.1 (fun H1 locs1 hI1 hok1 => ?_)
          refine ih _ _ _ _ hc2 lsm H1 locs1 hf (fun v hv => ?_) hI1
          rcases List.mem_append.mp hv with hv | hv
          · exact hok1 v hv
          · exact hs v (List.mem_append_right _ hv)
      · cases ha
    · split at ha
      · next q hq =>
        have hmem := List.mem_of_find?_eq_some hq
        have hp := List.find?_some hq
        rw [Bool.and_eq_true] at hp
        have e1 := Nat.eq_of_beq_eq_true hp.1
        have e2 := Nat.eq_of_beq_eq_true hp.2
        subst e2
        split at ha
        · next hh =>
          obtain ⟨r1, r2⟩ := hh
          cases ha
          have hq01 := List.all_eq_true.mp xSTL_all q hmem
          rw [Bool.and_eq_true, Bool.or_eq_true] at hq01
          rcases hq01.1 with h0 | h0
          · have h0 := Nat.eq_of_beq_eq_true h0
            rw [h0] at hsr
            obtain ⟨k2, st2, rfl, hcat, hgo⟩ := iv28a hsr
            exact (hPr m p e R s mid args below meth c cells slots Q q C hmem e1 (Nat.le_trans r1 hRf) (Nat.le_trans r2 hRl) pc ls st2 M hd hcat).1 h0 k2 (ih _ _ _ _ hgo)
          · have h0 := Nat.eq_of_beq_eq_true h0
            rw [h0] at hsr
            obtain ⟨i2, k2, st2, rfl, hcat, hi, hgo⟩ := iv28b hsr
            exact (hPr m p e R s mid args below meth c cells slots Q q C hmem e1 (Nat.le_trans r1 hRf) (Nat.le_trans r2 hRl) pc ls st2 M hd hcat).2 h0 k2 i2 hi (ih _ _ _ _ hgo)
        · cases ha
      · cases ha
  · split at ha
    · next q hq =>
      have hmem := List.mem_of_find?_eq_some hq
      have hp := List.find?_some hq
      rw [Bool.and_eq_true] at hp
      have e1 := Nat.eq_of_beq_eq_true hp.1
      have e2 := Nat.eq_of_beq_eq_true hp.2
      subst e2
      split at ha
      · next hh =>
        obtain ⟨k0, r1, r2, k3⟩ := hh
        cases ha
        obtain ⟨as, st2, q2, hp2, hrcv, hcat, hlen, hc1, hc2⟩ := iv25 hsr
        obtain ⟨⟨c1, c1b⟩, c2⟩ := xML_ok hmem
        obtain ⟨w1, w2, -, w4, w5, w6, w7, w8⟩ := xM_ok c1 c1b
        have w2 := w2 k3
        by_cases n99 : q.2.2.1 = 299
        · rw [n99] at hc1 hp2 r2
          obtain ⟨ts, ht1, ht2, ht3⟩ := xpop_ok _ _ _ _ _ hp2
          rw [List.append_nil] at ht3
          obtain ⟨x, y, has, hq2⟩ := xmax_inv (by rw [ht3, List.length_reverse]; exact ht1) hc1
          have hts2 : ts = [(0, y), (0, x)] := by rw [← List.reverse_reverse ts, ← ht3, has]; rfl
          subst hts2
          subst ht2
          have hk0 : q.2.2.2.1 ≠ 2 := xMLm hmem (Or.inl n99)
          have c2 := c2 hk0
          rw [e1, n99, xmath_y.1] at c2
          rw [hq2] at hc2
          intro lsm H locs hf hs hI
          have hxy := xi_lt (xok_h (xok_t hs)) (xok_h hs)
          refine va_mmax hx hb (by rw [hf.2.1]; exact hml) hown (hts _ c2) (hts _ xmath_ok.1.2) (hts _ xmath_ok.2.2) (hts _ xmath_ok.1.1) (Nat.le_trans (Nat.le_trans (Nat.le_add_left 1 _) r1) hRf) (by have h9 := xcat_sum d st2; have := Nat.le_trans r2 hRl; have e : xml 299 = 2 := rfl; show ((st2.map (xcw d)).map fun v => v.category).sum + 13 ≤ _; rw [h9]; omega) hcl hsl hd ?_
          have hgo := ih _ _ _ _ hc2 lsm H locs hf (xok_c (show x32 (if x < y then y else x) by split; (· exact xok_h hs); exact xok_h (xok_t hs)) (xok_t (xok_t hs))) hI
          have ev : Value.int (if Int32.ofInt x < Int32.ofInt y then Int32.ofInt y else Int32.ofInt x) = xcw d (0, if x < y then y else x) := by
            rw [xcw_i]
            by_cases hc : x < y
            · rw [if_pos hc, if_pos (hxy.mpr hc)]
            · rw [if_neg hc, if_neg (fun z => hc (hxy.mp z))]
          rw [ev]
          exact hgo
        by_cases n00 : q.2.2.1 = 300
        · rw [n00] at hc1 hp2 r2
          obtain ⟨ts, ht1, ht2, ht3⟩ := xpop_ok _ _ _ _ _ hp2
          rw [List.append_nil] at ht3
          obtain ⟨x, y, has, hq2⟩ := xmin_inv (by rw [ht3, List.length_reverse]; exact ht1) hc1
          have hts2 : ts = [(0, y), (0, x)] := by rw [← List.reverse_reverse ts, ← ht3, has]; rfl
          subst hts2
          subst ht2
          have hk0 : q.2.2.2.1 ≠ 2 := xMLm hmem (Or.inr n00)
          have c2 := c2 hk0
          rw [e1, n00, xmath_y.2] at c2
          rw [hq2] at hc2
          intro lsm H locs hf hs hI
          have hxy := xi_lt (xok_h hs) (xok_h (xok_t hs))
          refine va_mmin hx hb (by rw [hf.2.1]; exact hml) hown (hts _ c2) (hts _ xmath_ok.2.1.2) (hts _ xmath_ok.2.2) (hts _ xmath_ok.2.1.1) (Nat.le_trans (Nat.le_trans (Nat.le_add_left 1 _) r1) hRf) (by have h9 := xcat_sum d st2; have := Nat.le_trans r2 hRl; have e : xml 300 = 2 := rfl; show ((st2.map (xcw d)).map fun v => v.category).sum + 13 ≤ _; rw [h9]; omega) hcl hsl hd ?_
          have hgo := ih _ _ _ _ hc2 lsm H locs hf (xok_c (show x32 (if y < x then y else x) by split; (· exact xok_h hs); exact xok_h (xok_t hs)) (xok_t (xok_t hs))) hI
          have ev : Value.int (if Int32.ofInt y < Int32.ofInt x then Int32.ofInt y else Int32.ofInt x) = xcw d (0, if y < x then y else x) := by
            rw [xcw_i]
            by_cases hc : y < x
            · rw [if_pos hc, if_pos (hxy.mpr hc)]
            · rw [if_neg hc, if_neg (fun z => hc (hxy.mp z))]
          rw [ev]
          exact hgo
        have hn : ((xmn q.2.2.1 : Nat) : Int).toNat = xmn q.2.2.1 := by omega
        rw [hn] at hp2
        obtain ⟨ts, ht1, ht2, ht3⟩ := xpop_ok _ _ _ _ _ hp2
        rw [List.append_nil] at ht3
        subst ht2
        intro lsm H locs hf hs hI
        have hok : ∀ v ∈ as, xokv v := fun v hv => hs v (List.mem_append_left _ (List.mem_reverse.mp (by rw [← ht3]; exact hv)))
        have hM := hCon q.2.2.1 c1 c1b n99 n00 as M q2 hc1 hok hlen
        have hdn := w6.2.2
        rw [k3] at hdn
        have hstk : (F0 mid pc lsm ((ts ++ st2).map (xcw d))).stack = (as.map (xcw d)).reverse ++ st2.map (xcw d) := by
          show (ts ++ st2).map (xcw d) = _
          rw [ht3]
          simp
        rcases k0 with k0 | k0
        · have c2 := c2 (by rw [k0]; decide)
          rw [e1] at c2
          refine xcall (va_runS (As := as.map (xcw d)) (rest := st2.map (xcw d)) (n := xmn q.2.2.1) ⟨hx, hb, hml, hown, hts⟩ hM ⟨callB_of (xmn q.2.2.1) hts (xgoodm c1 c1b) rfl rfl rfl (hts _ w4) (hts _ c2) ⟨w6.1, w6.2.1, hdn⟩ ⟨Nat.le_trans r1 hRf, Nat.le_trans r2 hRl⟩, hts _ w2⟩ ⟨xPc_blind, fun U hU hW => ⟨by rfl, by rw [hU]; exact hI.1, hI.2.2.1, hI.2.2.2, by rw [hU]; exact xKs_go hKs hW hI.2.1.2.1⟩⟩ rfl (by rw [List.length_map, ht3, List.length_reverse]; exact ht1) hf.2.1 hstk (lv_room (by rw [xcat_sum]; exact hcat)) hd ⟨hcl, hsl⟩) hI.2.1 (fun H1 locs1 hI1 hok1 => ?_)
          refine ih _ _ _ _ hc2 lsm H1 locs1 hf (fun v hv => ?_) hI1
          rcases List.mem_append.mp hv with hv | hv
          · exact hok1 v hv
          · exact hs v (List.mem_append_right _ hv)
        · have c2 := hKs.2.2.2.2.1 q hmem k0
          rw [e1] at c2
          refine xcall (va_runSN (As := as.map (xcw d)) (rest := st2.map (xcw d)) (n := xmn q.2.2.1) ⟨hx, hb, hml, hown, hts⟩ hM ⟨va_cnB (xmn q.2.2.1) hts (xgoodm c1 c1b) rfl rfl rfl c2 (hts _ w4) ⟨w6.1, w6.2.1, hdn⟩ ⟨Nat.le_trans r1 hRf, Nat.le_trans r2 hRl⟩, hts _ w2, trivial⟩ ⟨xPc_blind, fun U hU hW => ⟨by rfl, by rw [hU]; exact hI.1, hI.2.2.1, hI.2.2.2, by rw [hU]; exact xKs_go hKs hW hI.2.1.2.1⟩⟩ rfl (by rw [List.length_map, ht3, List.length_reverse]; exact ht1) hf.2.1 hstk (lv_room (by rw [xcat_sum]; exact hcat)) hd ⟨hcl, hsl⟩) hI.2.1 (fun H1 locs1 hI1 hok1 => ?_)
          refine ih _ _ _ _ hc2 lsm H1 locs1 hf (fun v hv => ?_) hI1
          rcases List.mem_append.mp hv with hv | hv
          · exact hok1 v hv
          · exact hs v (List.mem_append_right _ hv)
      · cases ha
    · split at ha
      · next q hq =>
        have hmem := List.mem_of_find?_eq_some hq
        have hp := List.find?_some hq
        rw [Bool.and_eq_true] at hp
        have e1 := Nat.eq_of_beq_eq_true hp.1
        have e2 := Nat.eq_of_beq_eq_true hp.2
        subst e2
        split at ha
        · next hh =>
          obtain ⟨r1, r2⟩ := hh
          cases ha
          obtain ⟨c0, j, kb, ob, i2, ka, oa, st2, t, la, lb, rfl, hcat, ht, haka, hakb, hi, hgo⟩ := iv28c hsr
          have c2 := xACP_ok hmem
          rw [e1] at c2
          have hlo : ((st2.map (xcw d)).map fun v => v.category).sum + (nativeFrameWords "java/lang/System" "arraycopy" 5 + 11) ≤ R.locals := by
            rw [xcat_sum]
            have h7 : nativeFrameWords "java/lang/System" "arraycopy" 5 = 7 := by decide +kernel
            omega
          rcases ht with rfl | rfl
          · exact xs_copyI hx hb hK hap hml hown (hts _ c2) (hts _ xnat_ok.1) (hts _ xnat_ok.2.1) (hts _ xnat_ok.2.2) (xak_or haka).1 (xak_or hakb).1 haka hakb hi (Nat.le_trans r1 hRf) hlo hd (ih _ _ _ _ hgo)
          · exact xs_copyL hx hb hK hap hml hown (hts _ c2) (hts _ xnat_ok.1) (hts _ xnat_ok.2.1) (hts _ xnat_ok.2.2) (xak_or haka).1 (xak_or hakb).1 haka hakb hi (Nat.le_trans r1 hRf) hlo hd (ih _ _ _ _ hgo)
        · cases ha
      · cases ha
  · split at ha
    · next hh =>
      obtain ⟨h1, rfl⟩ := hh
      cases ha
      have c2 := xlack_ok
      rw [← h1] at c2
      exact xs_getLack hx hb hKs.2.1 hown (hts _ c2) hd (ih _ _ _ _ (iv29 hsr))
    · cases ha
  · split at ha
    · next hmr =>
      cases ha
      obtain ⟨x, rfl, rfl⟩ := iv26i hsr
      intro lsm H locs hf hs hI
      exact hR pc lsm H locs _ hI (fun v hv => hs v hv) hd (Or.inl ⟨rfl, hmr, x, rfl⟩)
    · next hmr =>
      cases ha
      obtain ⟨x, rfl, hz, rfl⟩ := iv26z hsr
      intro lsm H locs hf hs hI
      exact hR pc lsm H locs _ hI (fun v hv => hs v hv) hd (Or.inr (Or.inl ⟨rfl, hmr, x, rfl, hz⟩))
    · cases ha
  · split at ha
    · next hmr =>
      cases ha
      obtain ⟨x, rfl, rfl⟩ := iv26l hsr
      intro lsm H locs hf hs hI
      exact hR pc lsm H locs _ hI (fun v hv => hs v hv) hd (Or.inr (Or.inr (Or.inl ⟨rfl, hmr, x, rfl⟩)))
    · cases ha
  · split at ha
    · next t hmr =>
      cases ha
      obtain ⟨k2, x, rfl, rfl⟩ := iv26r hsr
      intro lsm H locs hf hs hI
      exact hR pc lsm H locs _ hI (fun v hv => hs v hv) hd (Or.inr (Or.inr (Or.inr (Or.inl ⟨rfl, ⟨t, hmr⟩, k2, x, rfl⟩))))
    · cases ha
  · split at ha
    · next hmr =>
      cases ha
      obtain ⟨rfl, rfl⟩ := iv27 hsr
      intro lsm H locs hf hs hI
      exact hR pc lsm H locs _ hI (fun v hv => hs v hv) hd (Or.inr (Or.inr (Or.inr (Or.inr ⟨rfl, hmr, rfl⟩))))
    · cases ha
  · cases ha
/-- how a method's contract ends -/
theorem xret_met {m : Nat} {q : xR} (hx : p.tables.exec = Jvm.exec) (hb : c.code = xmb m) (hr : meth.sig.returnType = xmr m) (hlocks : meth.locks = false) : xRet D cA d A L xs m p l e R s mid args below meth c 0 0 (MQ below (xQc D cA d A L xs q) args s 0 0 A) q := by
  intro pc lsm H locs i hI hok hd hrok
  have hq : ∀ t : State, t.heap = H → s.WarmedH t.vm → xQc D cA d A L xs q args s (.returned (q.1.map (xcw d))) t := fun t ht _ => ⟨rfl, by rw [ht]; exact hI.1, by rw [show va_F A s t = (s.heap.size ≤ t.heap.size ∧ ∀ q : Nat, q < s.heap.size → ¬ A q → t.heap[q]? = s.heap[q]?) from rfl, ht]; exact ⟨hI.2.1.1, hI.2.1.2.1⟩, hI.2.2.1, hI.2.2.2, hok⟩
  have hf : ∀ z ∈ locs, A z.base := hI.2.1.2.2
  obtain ⟨v, M'⟩ := q
  dsimp only at hrok hq
  rcases hrok with ⟨rfl, hm, x, rfl⟩ | ⟨rfl, hm, x, rfl, hz⟩ | ⟨rfl, hm, x, rfl⟩ | ⟨rfl, ⟨t, hm⟩, k, x, rfl⟩ | ⟨rfl, hm, rfl⟩
  · exact W.iret hx hb (hr.trans hm) hq hf hd hlocks
  · exact W.zret hx hb (hr.trans hm) (by rcases hz with rfl | rfl <;> rfl) hq hf hd hlocks
  · exact W.lret hx hb (hr.trans hm) hq hf hd hlocks
  · exact W.aret hx hb (hr.trans hm) (Or.inl ⟨t, rfl⟩) (Or.inr ⟨_, rfl⟩) hq hf hd hlocks
  · exact W.vret hx hb (hr.trans hm) hq hf hd hlocks
end xMain
/-- SOUNDNESS: for every number of steps -/
theorem xsound {l : Launch} {D : va_G} {cA : Nat → ClassId} {d : xAd} {adV : Nat → Nat} {A : Nat → Prop} {L : Nat} {xs : Nat → Int32} (hap : xap A d) (hL : L < 4000) (hPr : xPrim l D cA d adV A L xs) : ∀ f : Nat, xCon l D cA d adV A L xs f ∧
    ∀ (m : Nat), m < 303 → ∀ (p : Program) (e : Env) (R : Room) (s : State) (mid : MethodId) (args : Array Value) (below : List Frame) (meth : Method) (c : Code) (cells slots : Nat) (Q : State → Prop) (r : xR), xCtx D cA d adV A L xs m p R s mid args c cells slots → xRet D cA d A L xs m p l e R s mid args below meth c cells slots Q r →
    ∀ (pc : Nat) (ls : xL) (st : List xV) (M : xM), xEvF xml xfetch f (m, pc, ls, st, M) r → xGo p l e R s mid args below meth c cells slots Q d (xml m) (xI D cA d A s L xs) pc ls st M
  | 0 => ⟨fun _ _ _ _ _ _ _ _ h => h.elim, fun _ _ _ _ _ _ _ _ _ _ _ _ _ _ _ _ _ _ _ _ _ h => h.elim⟩
  | f + 1 => by
    obtain ⟨hCon, hgo⟩ := xsound hap hL hPr f
    have hstep : ∀ (m : Nat), m < 303 → ∀ (p : Program) (e : Env) (R : Room) (s : State) (mid : MethodId) (args : Array Value) (below : List Frame) (meth : Method) (c : Code) (cells slots : Nat) (Q : State → Prop) (r : xR), xCtx D cA d adV A L xs m p R s mid args c cells slots → xRet D cA d A L xs m p l e R s mid args below meth c cells slots Q r →
        ∀ (pc : Nat) (ls : xL) (st : List xV) (M : xM), xEvF xml xfetch (f + 1) (m, pc, ls, st, M) r → xGo p l e R s mid args below meth c cells slots Q d (xml m) (xI D cA d A s L xs) pc ls st M :=
      fun m hm p e R s mid args below meth c cells slots Q r C hR => xstep hap hL hPr hCon hm C hR (fun pc ls st M h => hgo m hm p e R s mid args below meth c cells slots Q r C hR pc ls st M h)
    refine ⟨fun m hm hl n99 n00 as M q hev hok hlen => ?_, hstep⟩
    obtain ⟨w1, -, -, -, w5, -, w7, -⟩ := xM_ok hm hl
    have w7 : plainName (xmy m).cls = true := w7.resolve_right (fun h => h.elim n99 n00)
    refine Met.ofW (cc := xmb m) (maxL := xml m) (ret := xmr m) w7 rfl ?_
    intro p e s mid args below meth c s₁ B hml hv
    obtain ⟨rfl, hP, hrg, hsc, hKs⟩ := hv
    have hts : ∀ w ∈ xwm m, w.before (as.map (xcw d)).toArray s = true := atoms_spec (ws := xwm m) B.pre
    have hown : s.vm.findClass (xmy m).cls = some mid.cls := findClass_of_methodNamed B.named
    rw [w5] at hown
    rw [lg_entry_eq]
    exact hstep m hm p e _ s mid _ below meth c 0 0 _ q ⟨B.exec, B.bytes, hml, hown, fun w hw => hts w (List.mem_cons_of_mem _ hw), hKs, Nat.le_refl _, Nat.le_refl _, Nat.zero_le _, Nat.zero_le _⟩ (xret_met B.exec B.bytes B.returns B.notSynchronized) 0 _ [] M hev _ s.heap [] (xentry d hlen hok) (fun v hv => by cases hv) ⟨hP, va_S.rf, hrg, hsc⟩
end
