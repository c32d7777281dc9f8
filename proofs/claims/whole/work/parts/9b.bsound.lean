/-! ===== THE BEGINNING, 2: a run of the builder machine is a run of the constructors ===== -/
noncomputable section
def bval (q : Nat → Nat) : bV → Value
  | (0, x) => .int (Int32.ofInt x)
  | (1, x) => .long (Int64.ofInt x)
  | (2, _) => .null
  | (_ + 3, x) => .ref (q x.toNat)
def bref (q : Nat → Nat) : bV → Option Nat
  | (0, _) => none
  | (1, _) => none
  | (2, _) => none
  | (_ + 3, x) => some (q x.toNat)
def bcell (cA : Nat → ClassId) (q : Nat → Nat) : bE → va_E
  | (0, c, _, u) => .inr (c, (List.range (xcN c)).map (fun k => bval q (bget u k (bdef c k))))
  | (1, t, n, u) => .inl (cA t, n, .inl (fun j => Int32.ofInt (bget u j (0, 0)).2))
  | (2, t, n, u) => .inl (cA t, n, .inr (.inl (fun j => Int64.ofInt (bget u j (1, 0)).2)))
  | (_ + 3, t, n, u) => .inl (cA t, n, .inr (.inr (.inr (.inr (fun j => bref q (bget u j (2, 0)))))))
def bW (cA : Nat → ClassId) (q : Nat → Nat) : Nat → List bE → va_W
  | _, [] => []
  | i, e :: L => (q i, bcell cA q e) :: bW cA q (i + 1) L
theorem bW_get (cA : Nat → ClassId) (q : Nat → Nat) : ∀ (L : List bE) (i k : Nat), (bW cA q i L)[k]? = (L[k]?).map (fun e => (q (i + k), bcell cA q e))
  | [], _, _ => by simp [bW]
  | e :: L, i, 0 => by simp [bW]
  | e :: L, i, k + 1 => by
    show (bW cA q (i + 1) L)[k]? = _
    rw [bW_get cA q L (i + 1) k, List.getElem?_cons_succ, show i + 1 + k = i + (k + 1) by omega]
theorem bW_get0 {cA : Nat → ClassId} {q : Nat → Nat} {L : List bE} {k : Nat} {e : bE} (h : L[k]? = some e) : (bW cA q 0 L)[k]? = some (q k, bcell cA q e) := by
  rw [bW_get, h, Nat.zero_add]
  rfl
theorem bW_len (cA : Nat → ClassId) (q : Nat → Nat) : ∀ (L : List bE) (i : Nat), (bW cA q i L).length = L.length
  | [], _ => rfl
  | e :: L, i => by
    show (bW cA q (i + 1) L).length + 1 = L.length + 1
    rw [bW_len cA q L (i + 1)]
theorem bW_app (cA : Nat → ClassId) (q : Nat → Nat) (x : bE) : ∀ (L : List bE) (i : Nat), bW cA q i (L ++ [x]) = bW cA q i L ++ [(q (i + L.length), bcell cA q x)]
  | [], i => rfl
  | e :: L, i => by
    show (q i, bcell cA q e) :: bW cA q (i + 1) (L ++ [x]) = (q i, bcell cA q e) :: (bW cA q (i + 1) L ++ [(q (i + (L.length + 1)), bcell cA q x)])
    rw [bW_app cA q x L (i + 1), show i + 1 + L.length = i + (L.length + 1) by omega]
theorem bW_set (cA : Nat → ClassId) (q : Nat → Nat) (x : bE) : ∀ (L : List bE) (i k : Nat), (bW cA q i L).set k (q (i + k), bcell cA q x) = bW cA q i (L.set k x)
  | [], _, _ => rfl
  | e :: L, i, 0 => rfl
  | e :: L, i, k + 1 => by
    show (q i, bcell cA q e) :: (bW cA q (i + 1) L).set k (q (i + (k + 1)), bcell cA q x) = (q i, bcell cA q e) :: bW cA q (i + 1) (L.set k x)
    rw [← bW_set cA q x L (i + 1) k, show i + 1 + k = i + (k + 1) by omega]
theorem bW_set0 {cA : Nat → ClassId} {q : Nat → Nat} {x : bE} {L : List bE} {k : Nat} : (bW cA q 0 L).set k (q k, bcell cA q x) = bW cA q 0 (L.set k x) := by
  rw [← bW_set cA q x L 0 k, Nat.zero_add]
theorem bget_ok {n : Nat} : ∀ (u : List (Nat × bV)) (j : Nat) (v : bV), u.all (fun p => bokv n p.2) = true → bokv n v = true → bokv n (bget u j v) = true
  | [], _, _, _, hv => hv
  | (i, w) :: u, j, v, h, hv => by
    rw [List.all_cons, Bool.and_eq_true] at h
    show bokv n (if j = i then w else bget u j v) = true
    by_cases hj : j = i
    · rw [if_pos hj]; exact h.1
    · rw [if_neg hj]; exact bget_ok u j v h.2 hv
theorem bokv_3 {n t : Nat} {x : Int} (h : bokv n (t + 3, x) = true) : x.toNat < n := by
  unfold bokv at h
  rw [Bool.or_eq_true] at h
  rcases h with h | h
  · have := Nat.le_of_ble_eq_true h
    exact absurd this (by show ¬ t + 3 ≤ 2; omega)
  · exact Nat.le_of_ble_eq_true h
theorem bval_ag {n : Nat} {q q1 : Nat → Nat} (hq : ∀ i, i < n → q1 i = q i) : ∀ v : bV, bokv n v = true → bval q1 v = bval q v
  | (0, _), _ => rfl
  | (1, _), _ => rfl
  | (2, _), _ => rfl
  | (_ + 3, x), h => by
    show Value.ref (q1 x.toNat) = Value.ref (q x.toNat)
    rw [hq _ (bokv_3 h)]
theorem bref_ag {n : Nat} {q q1 : Nat → Nat} (hq : ∀ i, i < n → q1 i = q i) : ∀ v : bV, bokv n v = true → bref q1 v = bref q v
  | (0, _), _ => rfl
  | (1, _), _ => rfl
  | (2, _), _ => rfl
  | (_ + 3, x), h => by
    show some (q1 x.toNat) = some (q x.toNat)
    rw [hq _ (bokv_3 h)]
theorem bdef_ok (n c k : Nat) : bokv n (bdef c k) = true := by
  unfold bdef
  split <;> rfl
theorem bcell_ag {n : Nat} {cA : Nat → ClassId} {q q1 : Nat → Nat} (hq : ∀ i, i < n → q1 i = q i) : ∀ e : bE, bokE n e = true → bcell cA q1 e = bcell cA q e
  | (0, c, m, u), h => by
    show (Sum.inr (c, (List.range (xcN c)).map (fun k => bval q1 (bget u k (bdef c k)))) : va_E) = Sum.inr (c, (List.range (xcN c)).map (fun k => bval q (bget u k (bdef c k))))
    rw [show (fun k => bval q1 (bget u k (bdef c k))) = (fun k => bval q (bget u k (bdef c k))) from funext fun k => bval_ag hq _ (bget_ok u k _ h (bdef_ok n c k))]
  | (1, _, _, _), _ => rfl
  | (2, _, _, _), _ => rfl
  | (s + 3, t, m, u), h => by
    show (Sum.inl (cA t, m, Sum.inr (Sum.inr (Sum.inr (Sum.inr (fun j => bref q1 (bget u j (2, 0))))))) : va_E) = Sum.inl (cA t, m, Sum.inr (Sum.inr (Sum.inr (Sum.inr (fun j => bref q (bget u j (2, 0)))))))
    rw [show (fun j => bref q1 (bget u j (2, 0))) = (fun j => bref q (bget u j (2, 0))) from funext fun j => bref_ag hq _ (bget_ok u j _ h rfl)]
theorem bW_ag {n : Nat} {cA : Nat → ClassId} {q q1 : Nat → Nat} (hq : ∀ i, i < n → q1 i = q i) : ∀ (L : List bE) (i : Nat), L.all (bokE n) = true → i + L.length ≤ n → bW cA q1 i L = bW cA q i L
  | [], _, _, _ => rfl
  | e :: L, i, h, hn => by
    rw [List.all_cons, Bool.and_eq_true] at h
    rw [List.length_cons] at hn
    show (q1 i, bcell cA q1 e) :: bW cA q1 (i + 1) L = (q i, bcell cA q e) :: bW cA q (i + 1) L
    rw [hq i (by omega), bcell_ag hq e h.1, bW_ag hq L (i + 1) h.2 (by omega)]
theorem bst_ag {n : Nat} {q q1 : Nat → Nat} (hq : ∀ i, i < n → q1 i = q i) : ∀ st : List bV, st.all (bokv n) = true → st.map (bval q1) = st.map (bval q)
  | [], _ => rfl
  | v :: st, h => by
    rw [List.all_cons, Bool.and_eq_true] at h
    rw [List.map_cons, List.map_cons, bval_ag hq v h.1, bst_ag hq st h.2]
theorem bok_of {n k : Nat} {st : List bV} {L : List bE} (h : bok n k st L = true) : k < n ∧ st.all (bokv n) = true ∧ L.all (bokE n) = true := by
  unfold bok at h
  rw [Bool.and_eq_true, Bool.and_eq_true] at h
  exact ⟨Nat.le_of_ble_eq_true h.1, h.2.1, h.2.2⟩
theorem bfind_ok {T : List (Nat × Nat × Nat × Nat × Nat)} {c i : Nat} {e : Nat × Nat × Nat × Nat × Nat} (h : bfind T c i = some e) : e ∈ T ∧ e.1 = c ∧ e.2.1 = i := by
  unfold bfind at h
  have h1 := List.mem_of_find?_eq_some h
  have h2 := List.find?_some h
  rw [Bool.and_eq_true] at h2
  exact ⟨h1, Nat.eq_of_beq_eq_true h2.1, Nat.eq_of_beq_eq_true h2.2⟩
/-! the words -/
theorem bw_ct {e : Nat × Nat × Nat × Nat × Nat} (h : e ∈ bCt) : e.2.2.1 < 12 ∧ ((e.2.2.2.1 = 2 ∧ Cond.methodLinkNest (xCn e.1) e.2.1 (bnm e.2.2.1) "ConsentDoors" ∈ lw_tbl) ∨ (e.2.2.2.1 = 0 ∧ Cond.methodLink (xCn e.1) e.2.1 (bnm e.2.2.1) ∈ xws)) := by
  have h1 := List.all_eq_true.mp bCt_all e h
  unfold bCtc at h1
  rw [Bool.and_eq_true, Bool.or_eq_true, Bool.and_eq_true, Bool.and_eq_true] at h1
  refine ⟨of_decide_eq_true h1.1, ?_⟩
  rcases h1.2 with h2 | h2
  · exact Or.inl ⟨Nat.eq_of_beq_eq_true h2.1, List.mem_of_getElem? (of_decide_eq_true h2.2)⟩
  · exact Or.inr ⟨Nat.eq_of_beq_eq_true h2.1, xin (of_decide_eq_true h2.2) rfl⟩
theorem bw_oi {e : Nat × Nat × Nat × Nat × Nat} (h : e ∈ bOi) : Cond.methodLink (xCn e.1) e.2.1 Lib.objectInit ∈ xws := xin (of_decide_eq_true (List.all_eq_true.mp bOi_all e h)) rfl
theorem bw_nw {e : Nat × Nat × Nat × Nat × Nat} (h : e ∈ bNw) : e.2.2.1 < 12 ∧ Cond.classLink (xCn e.1) e.2.1 (xCn e.2.2.1) ∈ xws := by
  have h1 := List.all_eq_true.mp bNw_all e h
  rw [Bool.and_eq_true] at h1
  exact ⟨of_decide_eq_true h1.1, xin (of_decide_eq_true h1.2) rfl⟩
theorem bw_fl {e : Nat × Nat × Nat × Nat × Nat} (h : e ∈ bFL) : e.1 < 12 ∧ e.2.2.1 < xcN e.1 ∧ (xTt e.1 e.2.2.1).1 = xCn e.1 ∧ Cond.fieldLink (xCn e.1) e.2.1 (xCn e.1) (xTt e.1 e.2.2.1).2.1 (xTt e.1 e.2.2.1).2.2.1 ∈ xws := by
  have h1 := List.all_eq_true.mp bFL_all e h
  rw [Bool.and_eq_true, Bool.and_eq_true, Bool.and_eq_true] at h1
  exact ⟨of_decide_eq_true h1.1, of_decide_eq_true h1.2.1, of_decide_eq_true h1.2.2.1, xin (of_decide_eq_true h1.2.2.2) rfl⟩
theorem bw_ps {c : Nat} (h : c < 12) : Cond.instanceMethod (bnm c) ∈ xws ∧ Cond.initialized (xCn c) ∈ xws ∧ Cond.instantiable (xCn c) (xcN c) ∈ xws ∧ ((bnm c).cls ≠ "java/lang/invoke/MethodHandle" ∧ (bnm c).cls ≠ "java/lang/invoke/VarHandle" ∧ (parseMethodDescriptor (bnm c).desc).map (fun d => d.parameters.length) = some 0) ∧ plainName (bnm c).cls = true := by
  have h1 := List.all_eq_true.mp bPs_all c (List.mem_range.mpr h)
  rw [Bool.and_eq_true, Bool.and_eq_true, Bool.and_eq_true, Bool.and_eq_true] at h1
  exact ⟨xin (of_decide_eq_true h1.1) rfl, xin (of_decide_eq_true h1.2.1) rfl, xin (of_decide_eq_true h1.2.2.1) rfl, of_decide_eq_true h1.2.2.2.1, h1.2.2.2.2⟩
theorem bw_ty {c k : Nat} (hc : c < 12) (hk : k < xcN c) : ((xft c k).1 = 3 ∧ defaultValue (xtyf c k) = .null ∧ ((∃ t, xtyf c k = .object t) ∨ ∃ t, xtyf c k = .array t)) ∨ ((xft c k).1 = 0 ∧ xtyf c k = .int) ∨ ((xft c k).1 = 1 ∧ xtyf c k = .long) ∨ ((xft c k).1 = 2 ∧ xtyf c k = .boolean) := by
  have h1 := List.all_eq_true.mp (List.all_eq_true.mp bty_all c (List.mem_range.mpr hc)) k (List.mem_range.mpr hk)
  rw [Bool.or_eq_true, Bool.or_eq_true, Bool.or_eq_true, Bool.and_eq_true, Bool.and_eq_true, Bool.and_eq_true, Bool.and_eq_true, Bool.and_eq_true] at h1
  rcases h1 with ((h1 | h1) | h1) | h1
  · refine Or.inl ⟨of_decide_eq_true h1.1, of_decide_eq_true h1.2.1, ?_⟩
    have h2 := h1.2.2
    split at h2
    · next t e => exact Or.inl ⟨t, e⟩
    · next t e => exact Or.inr ⟨t, e⟩
    · cases h2
  · exact Or.inr (Or.inl ⟨of_decide_eq_true h1.1, of_decide_eq_true h1.2⟩)
  · exact Or.inr (Or.inr (Or.inl ⟨of_decide_eq_true h1.1, of_decide_eq_true h1.2⟩))
  · exact Or.inr (Or.inr (Or.inr ⟨of_decide_eq_true h1.1, of_decide_eq_true h1.2⟩))
/-- what holds of the tables, beside the words -/
def bK (D : va_G) (cA : Nat → ClassId) (U : State) : Prop := va_K D xcl (xtys cA) U ∧ (va_AO "ConsentDoors$Sets" U ∧ va_AO "ConsentDoors$Prison" U ∧ va_AO "ConsentDoors$Slot" U) ∧ ∀ e ∈ bCt, e.2.2.2.1 = 2 → va_Nw (.methodLinkNest (xCn e.1) e.2.1 (bnm e.2.2.1) "ConsentDoors") U
theorem bK_go {D : va_G} {cA : Nat → ClassId} {U V : State} (h : bK D cA U) (hW : U.WarmedH V.vm) : bK D cA V :=
  ⟨va_K.moved hW.alike h.1, ⟨va_AO.moved hW.alike h.2.1.1, va_AO.moved hW.alike h.2.1.2.1, va_AO.moved hW.alike h.2.1.2.2⟩, fun e he h2 => va_Nw.warmM hW (h.2.2 e he h2)⟩
theorem bK_same {D : va_G} {cA : Nat → ClassId} {U V : State} (hv : V.vm = U.vm) (h : bK D cA U) : bK D cA V := by
  have ha : U.vm.Alike V.vm := by rw [hv]; exact Vm.Alike.refl _
  exact ⟨va_K.moved ha h.1, ⟨va_AO.moved ha h.2.1.1, va_AO.moved ha h.2.1.2.1, va_AO.moved ha h.2.1.2.2⟩, fun e he h2 => va_Nw.same rfl hv.symm (h.2.2 e he h2)⟩
def bH (D : va_G) (cA : Nat → ClassId) (A : Nat → Prop) (s : State) (q : Nat → Nat) (L : List bE) (H : Heap) (locs : List Loc) : Prop := va_P D xcl (bW cA q 0 L) H ∧ va_D A (bW cA q 0 L) ∧ va_S A s.heap H locs
def bLs (q : Nat → Nat) (k : Nat) (o : Option Int) (nL : Nat) (lsm : Array Slot) : Prop := match o with
  | none => lv_has lsm nL [(0, .ref (q k))]
  | some x => lv_has lsm nL [(1, .int (Int32.ofInt x)), (0, .ref (q k))]
theorem bLs_0 {q : Nat → Nat} {k : Nat} {o : Option Int} {nL : Nat} {lsm : Array Slot} (h : bLs q k o nL lsm) : lsm[0]? = some (.val (.ref (q k))) := by
  cases o with
  | none => exact lv_at h 0 rfl
  | some x => exact lv_at h 1 rfl
theorem bLs_n {q : Nat → Nat} {k : Nat} {o : Option Int} {nL : Nat} {lsm : Array Slot} (h : bLs q k o nL lsm) : lsm.size = nL := by
  cases o with
  | none => exact h.1
  | some x => exact h.1
theorem bLs_ag {q q1 : Nat → Nat} {k : Nat} {o : Option Int} {nL : Nat} {lsm : Array Slot} (hq : q1 k = q k) (h : bLs q k o nL lsm) : bLs q1 k o nL lsm := by
  cases o with
  | none =>
    show lv_has lsm nL [(0, .ref (q1 k))]
    rw [hq]; exact h
  | some x =>
    show lv_has lsm nL [(1, .int (Int32.ofInt x)), (0, .ref (q1 k))]
    rw [hq]; exact h
def bCx (D : va_G) (cA : Nat → ClassId) (A : Nat → Prop) (c : Nat) (p : Program) (R : Room) (s : State) (mid : MethodId) (args : Array Value) (meth : Method) (cd : Code) : Prop := p.tables.exec = Jvm.exec ∧ cd.code = bcode c ∧ cd.maxLocals = bml c ∧ s.vm.findClass (xCn c) = some mid.cls ∧ meth.name = "<init>" ∧ (∀ w ∈ xws, w.before args s = true) ∧ bK D cA s ∧ (bfr c ≤ R.frames ∧ brl c ≤ R.locals) ∧ (bmc c ≤ R.cells ∧ bms c ≤ R.slots) ∧ ∀ x, s.heap.size ≤ x → A x
section bMain
variable {p : Program} {l : Launch} {e : Env} {R : Room} {s : State} {mid : MethodId} {args : Array Value} {below : List Frame} {meth : Method} {cd : Code} {Q : State → Prop} {D : va_G} {cA : Nat → ClassId} {A : Nat → Prop}
def bRk (p : Program) (l : Launch) (e : Env) (R : Room) (s : State) (mid : MethodId) (args : Array Value) (below : List Frame) (meth : Method) (cd : Code) (Q : State → Prop) (D : va_G) (cA : Nat → ClassId) (A : Nat → Prop) (c : Nat) (L' : List bE) (n : Nat) (q : Nat → Nat) : Prop :=
  ∀ (q2 : Nat → Nat) (pc : Nat) (lsm : Array Slot) (H : Heap) (locs : List Loc) (cells slots : Nat), (∀ i, i < n → q2 i = q i) → bH D cA A s q2 L' H locs → decode (bcode c) pc = .ok (.return_, 1) → cells ≤ bmc c → slots ≤ bms c → W p l e R s mid args below meth cd H locs cells slots Q (F0 mid pc lsm [])
def bGo (p : Program) (l : Launch) (e : Env) (R : Room) (s : State) (mid : MethodId) (args : Array Value) (below : List Frame) (meth : Method) (cd : Code) (Q : State → Prop) (D : va_G) (cA : Nat → ClassId) (A : Nat → Prop) (c k : Nat) (L' : List bE) (pc : Nat) (o : Option Int) (st : List bV) (L : List bE) (b1 b2 : Nat) : Prop :=
  ∀ (q : Nat → Nat) (lsm : Array Slot) (H : Heap) (locs : List Loc) (cells slots : Nat), bRk p l e R s mid args below meth cd Q D cA A c L' L.length q → cells + b1 = bmc c → slots + b2 = bms c → bLs q k o (bml c) lsm → bH D cA A s q L H locs → W p l e R s mid args below meth cd H locs cells slots Q (F0 mid pc lsm (st.map (bval q)))
def bPc (D : va_G) (cA : Nat → ClassId) (A : Nat → Prop) (k : Nat) (q : Nat → Nat) (L : List bE) : Array Value → State → Prop := fun av U => av = ([Value.ref (q k)]).toArray ∧ va_P D xcl (bW cA q 0 L) U.heap ∧ va_D A (bW cA q 0 L) ∧ (∀ x, U.heap.size ≤ x → A x) ∧ bK D cA U
def bQc (D : va_G) (cA : Nat → ClassId) (A : Nat → Prop) (q : Nat → Nat) (n : Nat) (L' : List bE) : Array Value → State → Outcome → State → Prop := fun _ st oc t => oc = .returned none ∧ va_F A st t ∧ ∃ q2 : Nat → Nat, (∀ i, i < n → q2 i = q i) ∧ va_P D xcl (bW cA q2 0 L') t.heap ∧ va_D A (bW cA q2 0 L')
theorem bPc_blind {k : Nat} {q : Nat → Nat} {L : List bE} : FrameBlind (bPc D cA A k q L) := fun a U g mk h => ⟨h.1, h.2.1, h.2.2.1, h.2.2.2.1, bK_same (U := U) rfl h.2.2.2.2⟩
def bwm (c : Nat) : List Cond := Cond.code (bnm c) (bcode c) (bml c) none :: xws
def broom (c : Nat) : Room := { frames := bfr c, cells := bmc c, slots := bms c, locals := brl c }
theorem bgood {c : Nat} (h : c < 12) : GoodIn xws (bwm c) := fun w hw => (List.mem_cons.mp hw).elim (fun e => by rw [e]; exact xgood _ (bcw c h)) (xgood w)
def bCon (l : Launch) (D : va_G) (cA : Nat → ClassId) (A : Nat → Prop) (f : Nat) : Prop := ∀ (c k : Nat) (L L' : List bE), bRun f c k 0 none [] L (bmc c) (bms c) = some L' → c < 12 → ∀ q : Nat → Nat, Met l (bnm c) (bwm c) (broom c) (bPc D cA A k q L) (bQc D cA A q L.length L') (bmc c) (bms c) A
theorem bRk_up {c : Nat} {L' : List bE} {n n2 : Nat} {q q1 : Nat → Nat} (h : bRk p l e R s mid args below meth cd Q D cA A c L' n q) (hn : n ≤ n2) (hq : ∀ i, i < n → q1 i = q i) : bRk p l e R s mid args below meth cd Q D cA A c L' n2 q1 :=
  fun q2 pc lsm H locs cells slots h1 => h q2 pc lsm H locs cells slots (fun i hi => (h1 i (by omega)).trans (hq i hi))
/-- a new cell -/
theorem bnext {c k : Nat} {L' : List bE} {pc : Nat} {o : Option Int} {st : List bV} {L : List bE} {b1 b2 : Nat} {x : bE} (hgo : bGo p l e R s mid args below meth cd Q D cA A c k L' pc o ((3, (L.length : Int)) :: st) (L ++ [x]) b1 b2) (hok : bok L.length k st L = true) (hx : x.2.2.2 = []) {q : Nat → Nat} {lsm : Array Slot} {H : Heap} {locs : List Loc} {cells slots a : Nat} (hR : bRk p l e R s mid args below meth cd Q D cA A c L' L.length q) (h1 : cells + b1 = bmc c) (h2 : slots + b2 = bms c) (hl : bLs q k o (bml c) lsm) (hP : va_P D xcl (bW cA q 0 L ++ [(a, bcell cA q x)]) H) (hD : va_D A (bW cA q 0 L ++ [(a, bcell cA q x)])) (hS : va_S A s.heap H locs) : W p l e R s mid args below meth cd H locs cells slots Q (F0 mid pc lsm (.ref a :: st.map (bval q))) := by
  obtain ⟨hk, hst, hL⟩ := bok_of hok
  have hq : ∀ i, i < L.length → (fun i => if i = L.length then a else q i) i = q i := fun i hi => by
    show (if i = L.length then a else q i) = q i
    rw [if_neg (by omega)]
  have hqn : (fun i => if i = L.length then a else q i) L.length = a := by
    show (if L.length = L.length then a else q L.length) = a
    rw [if_pos rfl]
  generalize (fun i => if i = L.length then a else q i) = q1 at hq hqn
  have e1 : bW cA q1 0 (L ++ [x]) = bW cA q 0 L ++ [(a, bcell cA q x)] := by
    rw [bW_app, Nat.zero_add, hqn, bW_ag hq L 0 hL (by omega), bcell_ag hq x (by unfold bokE; rw [hx]; rfl)]
  have h := hgo q1 lsm H locs cells slots (bRk_up hR (by simp) hq) h1 h2 (bLs_ag (hq k hk) hl) ⟨by rw [e1]; exact hP, by rw [e1]; exact hD, hS⟩
  rw [List.map_cons, bst_ag hq st hst] at h
  have e2 : bval q1 (3, (L.length : Int)) = .ref a := by
    show Value.ref (q1 L.length) = _
    rw [hqn]
  rw [e2] at h
  exact h
theorem bcat (q : Nat → Nat) : ∀ st : List bV, ((st.map (bval q)).map fun v => v.category).sum ≤ 2 * st.length
  | [] => Nat.zero_le _
  | v :: st => by
    have h1 := bcat q st
    have h2 : (bval q v).category ≤ 2 := by rcases lv_cat (bval q v) with h | h <;> omega
    simp only [List.map_cons, List.sum_cons, List.length_cons]
    omega
theorem bcall {pc mc ms n : Nat} {lsm : Array Slot} {st0 rest : List Value} {H : Heap} {locs : List Loc} {cells slots : Nat} {q : Nat → Nat} {L2 : List bE} {a : Array Value} (hr : va_Run p l e R s mid args below meth cd H locs cells slots mc ms (F0 mid pc lsm st0) rest (bQc D cA A q n L2 a) A) (hS : va_S A s.heap H locs)
    (kk : ∀ (q2 : Nat → Nat) (H1 : Heap) (locs1 : List Loc), (∀ i, i < n → q2 i = q i) → bH D cA A s q2 L2 H1 locs1 → W p l e R s mid args below meth cd H1 locs1 (cells + mc) (slots + ms) Q (F0 mid (pc + 3) lsm rest)) : W p l e R s mid args below meth cd H locs cells slots Q (F0 mid pc lsm st0) := by
  intro T hT X
  obtain ⟨v, st₀, t, T', Lc, h0, X', hL, e1, e2, ⟨hv, hF, q2, hag, hP, hD⟩, st⟩ := hr T hT X
  cases hv
  have hS1 : va_S A s.heap t.heap (locs ++ Lc) := by
    refine ⟨Nat.le_trans hS.1 (by rw [← h0]; exact hF.1), fun x h1 h2 => ?_, fun x hx => ?_⟩
    · rw [hF.2 x (by rw [h0]; exact Nat.lt_of_lt_of_le h1 hS.1) h2, h0]
      exact hS.2.1 x h1 h2
    · rcases List.mem_append.mp hx with h | h
      · exact hS.2.2 x h
      · exact hL x h
  obtain ⟨t2, a1, b1⟩ := kk q2 t.heap (locs ++ Lc) hag ⟨hP, hD, hS1⟩ T' e1 X'
  exact ⟨t2, st t2 a1, b1⟩
end bMain
end
