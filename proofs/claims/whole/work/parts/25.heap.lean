/-! ===== SOUNDNESS, 5: a row an instruction that reads or writes the heap ===== -/
noncomputable section
theorem x_cl {i : Int} (h : x32 i) : (Int32.ofInt i).toNatClampNeg = i.toNat := by
  show (Int32.ofInt i).toInt.toNat = _
  rw [xi_to h]
theorem x_in {i n : Int} (h : x32 i) (h0 : 0 ≤ i) (h1 : i < n) : vp_in (Int32.ofInt i) n.toNat := by
  rw [vp_in_iff, xi_to h]
  constructor <;> omega
theorem x_at {i : Int} (h0 : 0 ≤ i) : ((i.toNat : Nat) : Int) = i := by omega
theorem x_upd {M : xM} {o i X : Int} (h0 : 0 ≤ i) : upd (fun j : Nat => Int32.ofInt (M o (j : Int))) i.toNat (Int32.ofInt X) = fun j : Nat => Int32.ofInt (xwr M o i X o (j : Int)) := by
  funext j
  unfold upd xwr
  by_cases h : j = i.toNat
  · rw [if_pos h, if_pos ⟨rfl, by omega⟩]
  · rw [if_neg h, if_neg (fun q => h (by omega))]
theorem x_updL {M : xM} {o i X : Int} (h0 : 0 ≤ i) : vp_updL (fun j : Nat => Int64.ofInt (M o (j : Int))) i.toNat (Int64.ofInt X) = fun j : Nat => Int64.ofInt (xwr M o i X o (j : Int)) := by
  funext j
  unfold vp_updL xwr
  by_cases h : j = i.toNat
  · rw [if_pos h, if_pos ⟨rfl, by omega⟩]
  · rw [if_neg h, if_neg (fun q => h (by omega))]
theorem xn_byte (x : Int) : vp_nar .byte (Int32.ofInt x) = Int32.ofInt (xw8 x) := xc_i2b x
theorem xn_bool (x : Int) : vp_nar .boolean (Int32.ofInt x) = Int32.ofInt (xbit x) := by
  show Int32.ofInt x &&& 1 = _
  rw [pk_and (Int32.ofInt x) 1 (by decide), xi_tn, xbit_eq]
  apply Int32.toInt_inj.mp
  rw [xi_to ⟨by omega, by omega⟩, nI_toInt (by omega)]
  omega
theorem xw8_lo (x : Int) : x32 (xw8 x) := xw8_in x
theorem xbit_in (x : Int) : x32 (xbit x) := by rw [xbit_eq]; constructor <;> omega
theorem xlg_num {k : Nat} {t : Nat} {n : Int} (h : xak k = some (t, n)) (ht : t ≠ 3) (i : Int) : xlgK k i = false := by
  unfold xlgK
  match t, h, ht with
  | 0, h, _ => simp only [h]
  | 1, h, _ => simp only [h]
  | 2, h, _ => simp only [h]
  | 3, _, ht => exact absurd rfl ht
  | t + 4, h, _ => simp only [h]
theorem xlg_long {k : Nat} {n : Int} (h : xak k = some (3, n)) (i : Int) : xlgK k i = true := by
  unfold xlgK
  simp only [h]
theorem xent_num {cA : Nat → ClassId} {d : xAd} {M : xM} {a : Int} {k t : Nat} {n : Int} (hk : xkd a = k) (h : xak k = some (t, n)) (ht : t ≠ 3) : xent cA d M a = .inl (cA t, n.toNat, .inl (fun j => Int32.ofInt (M a (j : Int)))) := by
  unfold xent
  rw [hk]
  unfold xentK
  match t, h, ht with
  | 0, h, _ => simp only [h]
  | 1, h, _ => simp only [h]
  | 2, h, _ => simp only [h]
  | 3, _, ht => exact absurd rfl ht
  | t + 4, h, _ => simp only [h]
theorem xent_long {cA : Nat → ClassId} {d : xAd} {M : xM} {a : Int} {k : Nat} {n : Int} (hk : xkd a = k) (h : xak k = some (3, n)) : xent cA d M a = .inl (cA 3, n.toNat, .inr (.inl (fun j => Int64.ofInt (M a (j : Int))))) := by
  unfold xent
  rw [hk]
  unfold xentK
  simp only [h]
theorem xent_ref {cA : Nat → ClassId} {d : xAd} {M : xM} {a : Int} {k e : Nat} {n off str : Int} (hk : xkd a = k) (h0 : xak k = none) (h : xrk k = some (e, n, off, str)) : xent cA d M a = .inl (cA (xrc k), n.toNat, .inr (.inr (.inr (.inr (fun j => some (d.1 (a + off + str * (j : Int)))))))) := by
  unfold xent
  rw [hk]
  unfold xentK
  simp only [h0, h]
theorem xent_obj {cA : Nat → ClassId} {d : xAd} {M : xM} {a : Int} {k : Nat} (hk : xkd a = k) (h0 : xak k = none) (h : xrk k = none) : xent cA d M a = .inr (k, (List.range (xcN k)).map (xfv d M a k)) := by
  unfold xent
  rw [hk]
  unfold xentK
  simp only [h0, h]
section xHeap
variable {p : Program} {l : Launch} {e : Env} {R : Room} {s : State} {m : MethodId} {args : Array Value} {below : List Frame} {meth : Method} {c : Code} {cells slots : Nat} {Q : State → Prop} {cc : ByteArray} {d : xAd} {nL : Nat} {pc : Nat} {ls : xL} {st : List xV} {M : xM}
variable {D : va_G} {cA : Nat → ClassId} {A : Nat → Prop} {L : Nat} {xs : Nat → Int32}
theorem xs_iald (hx : p.tables.exec = Jvm.exec) (hb : c.code = cc) (hK : va_K D xcl (xtys cA) s) {k : Nat} {o i n : Int} (hk : k ≠ 50 ∧ k ≠ 51 ∧ k ≠ 52) (hak : xak k = some (0, n)) (hd : decode cc pc = .ok (.iaload, 1)) (hi : 0 ≤ i ∧ i < n) (kk : xGo p l e R s m args below meth c cells slots Q d nL (xI D cA d A s L xs) (pc + 1) ls ((0, M o i) :: st) M) : xGo p l e R s m args below meth c cells slots Q d nL (xI D cA d A s L xs) pc ls ((0, i) :: (k + 2, o) :: st) M := by
  intro lsm H locs hf hs hI
  obtain ⟨hv1, hv2, hv3⟩ := xval_cell (xok_h (xok_t hs)) hk.1 hk.2.1 hk.2.2
  have hai : x32 i := xok_h hs
  have ha := xwd_at (cA := cA) (d := d) (M := M) hv1 hv2
  rw [xent_num hv3 hak (by decide)] at ha
  show W p l e R s m args below meth c H locs cells slots Q (F0 m pc lsm (.int (Int32.ofInt i) :: .ref (xadr d k o) :: st.map (xcw d)))
  rw [xadr_cell hk.1 hk.2.1 hk.2.2]
  refine va_iald hx hb hK hI.1 (o - 1).toNat 0 ha rfl (x_in hai hi.1 hi.2) hd ?_
  rw [x_cl hai, x_at hi.1]
  exact kk lsm H locs hf (xok_c ((hI.2.2.1 o i).2 (by rw [hv3]; exact xlg_num hak (by decide) i)) (xok_t (xok_t hs))) hI
theorem xs_bald (hx : p.tables.exec = Jvm.exec) (hb : c.code = cc) (hK : va_K D xcl (xtys cA) s) {k : Nat} {o i n : Int} (hk : k ≠ 50 ∧ k ≠ 51 ∧ k ≠ 52) (hak : xak k = some (1, n)) (hd : decode cc pc = .ok (.baload, 1)) (hi : 0 ≤ i ∧ i < n) (kk : xGo p l e R s m args below meth c cells slots Q d nL (xI D cA d A s L xs) (pc + 1) ls ((0, M o i) :: st) M) : xGo p l e R s m args below meth c cells slots Q d nL (xI D cA d A s L xs) pc ls ((0, i) :: (k + 2, o) :: st) M := by
  intro lsm H locs hf hs hI
  obtain ⟨hv1, hv2, hv3⟩ := xval_cell (xok_h (xok_t hs)) hk.1 hk.2.1 hk.2.2
  have hai : x32 i := xok_h hs
  have ha := xwd_at (cA := cA) (d := d) (M := M) hv1 hv2
  rw [xent_num hv3 hak (by decide)] at ha
  show W p l e R s m args below meth c H locs cells slots Q (F0 m pc lsm (.int (Int32.ofInt i) :: .ref (xadr d k o) :: st.map (xcw d)))
  rw [xadr_cell hk.1 hk.2.1 hk.2.2]
  refine va_bald hx hb hK hI.1 (o - 1).toNat 1 ha rfl (x_in hai hi.1 hi.2) hd ?_
  rw [x_cl hai, x_at hi.1]
  exact kk lsm H locs hf (xok_c ((hI.2.2.1 o i).2 (by rw [hv3]; exact xlg_num hak (by decide) i)) (xok_t (xok_t hs))) hI
theorem xs_zald (hx : p.tables.exec = Jvm.exec) (hb : c.code = cc) (hK : va_K D xcl (xtys cA) s) {k : Nat} {o i n : Int} (hk : k ≠ 50 ∧ k ≠ 51 ∧ k ≠ 52) (hak : xak k = some (2, n)) (hd : decode cc pc = .ok (.baload, 1)) (hi : 0 ≤ i ∧ i < n) (kk : xGo p l e R s m args below meth c cells slots Q d nL (xI D cA d A s L xs) (pc + 1) ls ((0, M o i) :: st) M) : xGo p l e R s m args below meth c cells slots Q d nL (xI D cA d A s L xs) pc ls ((0, i) :: (k + 2, o) :: st) M := by
  intro lsm H locs hf hs hI
  obtain ⟨hv1, hv2, hv3⟩ := xval_cell (xok_h (xok_t hs)) hk.1 hk.2.1 hk.2.2
  have hai : x32 i := xok_h hs
  have ha := xwd_at (cA := cA) (d := d) (M := M) hv1 hv2
  rw [xent_num hv3 hak (by decide)] at ha
  show W p l e R s m args below meth c H locs cells slots Q (F0 m pc lsm (.int (Int32.ofInt i) :: .ref (xadr d k o) :: st.map (xcw d)))
  rw [xadr_cell hk.1 hk.2.1 hk.2.2]
  refine va_zald hx hb hK hI.1 (o - 1).toNat 2 ha rfl (x_in hai hi.1 hi.2) hd ?_
  rw [x_cl hai, x_at hi.1]
  exact kk lsm H locs hf (xok_c ((hI.2.2.1 o i).2 (by rw [hv3]; exact xlg_num hak (by decide) i)) (xok_t (xok_t hs))) hI
theorem xs_lald (hx : p.tables.exec = Jvm.exec) (hb : c.code = cc) (hK : va_K D xcl (xtys cA) s) {k : Nat} {o i n : Int} (hk : k ≠ 50 ∧ k ≠ 51 ∧ k ≠ 52) (hak : xak k = some (3, n)) (hd : decode cc pc = .ok (.laload, 1)) (hi : 0 ≤ i ∧ i < n) (kk : xGo p l e R s m args below meth c cells slots Q d nL (xI D cA d A s L xs) (pc + 1) ls ((1, M o i) :: st) M) : xGo p l e R s m args below meth c cells slots Q d nL (xI D cA d A s L xs) pc ls ((0, i) :: (k + 2, o) :: st) M := by
  intro lsm H locs hf hs hI
  obtain ⟨hv1, hv2, hv3⟩ := xval_cell (xok_h (xok_t hs)) hk.1 hk.2.1 hk.2.2
  have hai : x32 i := xok_h hs
  have ha := xwd_at (cA := cA) (d := d) (M := M) hv1 hv2
  rw [xent_long hv3 hak] at ha
  show W p l e R s m args below meth c H locs cells slots Q (F0 m pc lsm (.int (Int32.ofInt i) :: .ref (xadr d k o) :: st.map (xcw d)))
  rw [xadr_cell hk.1 hk.2.1 hk.2.2]
  refine va_lald hx hb hK hI.1 (o - 1).toNat 3 ha rfl (x_in hai hi.1 hi.2) hd ?_
  rw [x_cl hai, x_at hi.1]
  exact kk lsm H locs hf (xok_c ((hI.2.2.1 o i).1 (by rw [hv3]; exact xlg_long hak i)) (xok_t (xok_t hs))) hI
theorem xs_iast (hx : p.tables.exec = Jvm.exec) (hb : c.code = cc) (hK : va_K D xcl (xtys cA) s) (hap : xap A d) {k : Nat} {o i n x : Int} (hk : k ≠ 50 ∧ k ≠ 51 ∧ k ≠ 52) (hak : xak k = some (0, n)) (hd : decode cc pc = .ok (.iastore, 1)) (hi : 0 ≤ i ∧ i < n) (kk : xGo p l e R s m args below meth c cells slots Q d nL (xI D cA d A s L xs) (pc + 1) ls st (xwr M o i (x))) : xGo p l e R s m args below meth c cells slots Q d nL (xI D cA d A s L xs) pc ls ((0, x) :: (0, i) :: (k + 2, o) :: st) M := by
  intro lsm H locs hf hs hI
  obtain ⟨hv1, hv2, hv3⟩ := xval_cell (xok_h (xok_t (xok_t hs))) hk.1 hk.2.1 hk.2.2
  have hai : x32 i := xok_h (xok_t hs)
  have ha := xwd_at (cA := cA) (d := d) (M := M) hv1 hv2
  rw [xent_num hv3 hak (by decide)] at ha
  show W p l e R s m args below meth c H locs cells slots Q (F0 m pc lsm (.int (Int32.ofInt x) :: .int (Int32.ofInt i) :: .ref (xadr d k o) :: st.map (xcw d)))
  rw [xadr_cell hk.1 hk.2.1 hk.2.2]
  refine va_iast hx hb hK hI.1 (xwd_D hap M) hI.2.1 (o - 1).toNat 0 ha rfl (x_in hai hi.1 hi.2) hd (fun H1 locs1 hP1 _ hS1 => ?_)
  rw [x_cl hai, x_upd hi.1, xwd_set (M' := xwr M o i (x)) hv1 hv2 (xent_num hv3 hak (by decide)).symm (fun b hb => xent_wr hb)] at hP1
  have hz : x32 (x) := (xok_h hs)
  exact kk lsm H1 locs1 hf (xok_t (xok_t (xok_t hs))) ⟨hP1, hS1, xrg_wr hI.2.2.1 (fun _ => x32_64 hz) (fun _ => hz), xsc_wr hI.2.2.2 hv1⟩
theorem xs_bast (hx : p.tables.exec = Jvm.exec) (hb : c.code = cc) (hK : va_K D xcl (xtys cA) s) (hap : xap A d) {k : Nat} {o i n x : Int} (hk : k ≠ 50 ∧ k ≠ 51 ∧ k ≠ 52) (hak : xak k = some (1, n)) (hd : decode cc pc = .ok (.bastore, 1)) (hi : 0 ≤ i ∧ i < n) (kk : xGo p l e R s m args below meth c cells slots Q d nL (xI D cA d A s L xs) (pc + 1) ls st (xwr M o i (xw8 x))) : xGo p l e R s m args below meth c cells slots Q d nL (xI D cA d A s L xs) pc ls ((0, x) :: (0, i) :: (k + 2, o) :: st) M := by
  intro lsm H locs hf hs hI
  obtain ⟨hv1, hv2, hv3⟩ := xval_cell (xok_h (xok_t (xok_t hs))) hk.1 hk.2.1 hk.2.2
  have hai : x32 i := xok_h (xok_t hs)
  have ha := xwd_at (cA := cA) (d := d) (M := M) hv1 hv2
  rw [xent_num hv3 hak (by decide)] at ha
  show W p l e R s m args below meth c H locs cells slots Q (F0 m pc lsm (.int (Int32.ofInt x) :: .int (Int32.ofInt i) :: .ref (xadr d k o) :: st.map (xcw d)))
  rw [xadr_cell hk.1 hk.2.1 hk.2.2]
  refine va_bast hx hb hK hI.1 (xwd_D hap M) hI.2.1 (o - 1).toNat 1 ha rfl (x_in hai hi.1 hi.2) hd (fun H1 locs1 hP1 _ hS1 => ?_)
  rw [xn_byte, x_cl hai, x_upd hi.1, xwd_set (M' := xwr M o i (xw8 x)) hv1 hv2 (xent_num hv3 hak (by decide)).symm (fun b hb => xent_wr hb)] at hP1
  have hz : x32 (xw8 x) := (xw8_in x)
  exact kk lsm H1 locs1 hf (xok_t (xok_t (xok_t hs))) ⟨hP1, hS1, xrg_wr hI.2.2.1 (fun _ => x32_64 hz) (fun _ => hz), xsc_wr hI.2.2.2 hv1⟩
theorem xs_zast (hx : p.tables.exec = Jvm.exec) (hb : c.code = cc) (hK : va_K D xcl (xtys cA) s) (hap : xap A d) {k : Nat} {o i n x : Int} (hk : k ≠ 50 ∧ k ≠ 51 ∧ k ≠ 52) (hak : xak k = some (2, n)) (hd : decode cc pc = .ok (.bastore, 1)) (hi : 0 ≤ i ∧ i < n) (kk : xGo p l e R s m args below meth c cells slots Q d nL (xI D cA d A s L xs) (pc + 1) ls st (xwr M o i (xbit x))) : xGo p l e R s m args below meth c cells slots Q d nL (xI D cA d A s L xs) pc ls ((0, x) :: (0, i) :: (k + 2, o) :: st) M := by
  intro lsm H locs hf hs hI
  obtain ⟨hv1, hv2, hv3⟩ := xval_cell (xok_h (xok_t (xok_t hs))) hk.1 hk.2.1 hk.2.2
  have hai : x32 i := xok_h (xok_t hs)
  have ha := xwd_at (cA := cA) (d := d) (M := M) hv1 hv2
  rw [xent_num hv3 hak (by decide)] at ha
  show W p l e R s m args below meth c H locs cells slots Q (F0 m pc lsm (.int (Int32.ofInt x) :: .int (Int32.ofInt i) :: .ref (xadr d k o) :: st.map (xcw d)))
  rw [xadr_cell hk.1 hk.2.1 hk.2.2]
  refine va_zast hx hb hK hI.1 (xwd_D hap M) hI.2.1 (o - 1).toNat 2 ha rfl (x_in hai hi.1 hi.2) hd (fun H1 locs1 hP1 _ hS1 => ?_)
  rw [xn_bool, x_cl hai, x_upd hi.1, xwd_set (M' := xwr M o i (xbit x)) hv1 hv2 (xent_num hv3 hak (by decide)).symm (fun b hb => xent_wr hb)] at hP1
  have hz : x32 (xbit x) := (xbit_in x)
  exact kk lsm H1 locs1 hf (xok_t (xok_t (xok_t hs))) ⟨hP1, hS1, xrg_wr hI.2.2.1 (fun _ => x32_64 hz) (fun _ => hz), xsc_wr hI.2.2.2 hv1⟩
theorem xs_last (hx : p.tables.exec = Jvm.exec) (hb : c.code = cc) (hK : va_K D xcl (xtys cA) s) (hap : xap A d) {k : Nat} {o i n x : Int} (hk : k ≠ 50 ∧ k ≠ 51 ∧ k ≠ 52) (hak : xak k = some (3, n)) (hd : decode cc pc = .ok (.lastore, 1)) (hi : 0 ≤ i ∧ i < n) (kk : xGo p l e R s m args below meth c cells slots Q d nL (xI D cA d A s L xs) (pc + 1) ls st (xwr M o i x)) : xGo p l e R s m args below meth c cells slots Q d nL (xI D cA d A s L xs) pc ls ((1, x) :: (0, i) :: (k + 2, o) :: st) M := by
  intro lsm H locs hf hs hI
  obtain ⟨hv1, hv2, hv3⟩ := xval_cell (xok_h (xok_t (xok_t hs))) hk.1 hk.2.1 hk.2.2
  have hai : x32 i := xok_h (xok_t hs)
  have hax : x64 x := xok_h hs
  have ha := xwd_at (cA := cA) (d := d) (M := M) hv1 hv2
  rw [xent_long hv3 hak] at ha
  show W p l e R s m args below meth c H locs cells slots Q (F0 m pc lsm (.long (Int64.ofInt x) :: .int (Int32.ofInt i) :: .ref (xadr d k o) :: st.map (xcw d)))
  rw [xadr_cell hk.1 hk.2.1 hk.2.2]
  refine va_last hx hb hK hI.1 (xwd_D hap M) hI.2.1 (o - 1).toNat 3 ha rfl (x_in hai hi.1 hi.2) hd (fun H1 locs1 hP1 _ hS1 => ?_)
  rw [x_cl hai, x_updL hi.1, xwd_set (M' := xwr M o i x) hv1 hv2 (xent_long hv3 hak).symm (fun b hb => xent_wr hb)] at hP1
  exact kk lsm H1 locs1 hf (xok_t (xok_t (xok_t hs))) ⟨hP1, hS1, xrg_wr hI.2.2.1 (fun _ => hax) (fun h => by rw [hv3, xlg_long hak i] at h; cases h), xsc_wr hI.2.2.2 hv1⟩
theorem xs_alen (hx : p.tables.exec = Jvm.exec) (hb : c.code = cc) (hK : va_K D xcl (xtys cA) s) {k t : Nat} {o n : Int} (hk : k ≠ 50 ∧ k ≠ 51 ∧ k ≠ 52) (hak : xak k = some (t, n)) (ht : t < 4) (hn : 0 ≤ n ∧ n ≤ 100000) (hd : decode cc pc = .ok (.arraylength, 1)) (kk : xGo p l e R s m args below meth c cells slots Q d nL (xI D cA d A s L xs) (pc + 1) ls ((0, n) :: st) M) : xGo p l e R s m args below meth c cells slots Q d nL (xI D cA d A s L xs) pc ls ((k + 2, o) :: st) M := by
  intro lsm H locs hf hs hI
  obtain ⟨hv1, hv2, hv3⟩ := xval_cell (xok_h hs) hk.1 hk.2.1 hk.2.2
  have ha := xwd_at (cA := cA) (d := d) (M := M) hv1 hv2
  show W p l e R s m args below meth c H locs cells slots Q (F0 m pc lsm (.ref (xadr d k o) :: st.map (xcw d)))
  rw [xadr_cell hk.1 hk.2.1 hk.2.2]
  have hl : Int32.ofNat n.toNat = Int32.ofInt n := by
    apply Int32.toInt_inj.mp
    rw [xi_to ⟨by omega, by omega⟩]
    have := nI_toInt (n := n.toNat) (by omega)
    rw [show Int32.ofNat n.toNat = nI n.toNat from rfl, this]
    omega
  have hgo := kk lsm H locs hf (xok_c (show x32 n from ⟨by omega, by omega⟩) (xok_t hs)) hI
  by_cases h3 : t = 3
  · subst h3
    rw [xent_long hv3 hak] at ha
    exact va_alen hx hb hK hI.1 (o - 1).toNat 3 ha (ty := .long) rfl hl hd hgo
  · rw [xent_num hv3 hak h3] at ha
    match t, ht, h3, ha with
    | 0, _, _, ha => exact va_alen hx hb hK hI.1 (o - 1).toNat 0 ha (ty := .int) rfl hl hd hgo
    | 1, _, _, ha => exact va_alen hx hb hK hI.1 (o - 1).toNat 1 ha (ty := .byte) rfl hl hd hgo
    | 2, _, _, ha => exact va_alen hx hb hK hI.1 (o - 1).toNat 2 ha (ty := .boolean) rfl hl hd hgo
    | t + 3, ht, h3, _ => omega
theorem xs_aald (hx : p.tables.exec = Jvm.exec) (hb : c.code = cc) (hK : va_K D xcl (xtys cA) s) {k q : Nat} {o i n off str : Int} (hk : (k = 60 ∨ k = 61) ∨ k = 62 ∨ k = 63) (hrk : xrk k = some (q, n, off, str)) (hq : q ≠ 50 ∧ q ≠ 51 ∧ q ≠ 52) (hd : decode cc pc = .ok (.aaload, 1)) (hi : 0 ≤ i ∧ i < n) (hval : ∀ o, xval k o → xval q (o + off + str * i)) (kk : xGo p l e R s m args below meth c cells slots Q d nL (xI D cA d A s L xs) (pc + 1) ls ((q + 2, o + off + str * i) :: st) M) : xGo p l e R s m args below meth c cells slots Q d nL (xI D cA d A s L xs) pc ls ((0, i) :: (k + 2, o) :: st) M := by
  intro lsm H locs hf hs hI
  have hk0 : k ≠ 50 ∧ k ≠ 51 ∧ k ≠ 52 := by omega
  obtain ⟨hv1, hv2, hv3⟩ := xval_cell (xok_h (xok_t hs)) hk0.1 hk0.2.1 hk0.2.2
  have hai : x32 i := xok_h hs
  have h0 : xak k = none := by rcases hk with (rfl | rfl) | rfl | rfl <;> rfl
  have ha := xwd_at (cA := cA) (d := d) (M := M) hv1 hv2
  rw [xent_ref hv3 h0 hrk] at ha
  show W p l e R s m args below meth c H locs cells slots Q (F0 m pc lsm (.int (Int32.ofInt i) :: .ref (xadr d k o) :: st.map (xcw d)))
  rw [xadr_cell hk0.1 hk0.2.1 hk0.2.2]
  have hgo := kk lsm H locs hf (xok_c (hval o (xok_h (xok_t hs))) (xok_t (xok_t hs))) hI
  have e1 : xcw d (q + 2, o + off + str * i) = .ref (d.1 (o + off + str * i)) := by
    rw [xcw_r, xadr_cell hq.1 hq.2.1 hq.2.2]
  have fin : W p l e R s m args below meth c H locs cells slots Q (F0 m (pc + 1) lsm (va_rf ((fun j : Nat => some (d.1 (o + off + str * (j : Int)))) (Int32.ofInt i).toNatClampNeg) :: st.map (xcw d))) := by
    rw [x_cl hai]
    show W p l e R s m args below meth c H locs cells slots Q (F0 m (pc + 1) lsm (.ref (d.1 (o + off + str * ((i.toNat : Nat) : Int))) :: st.map (xcw d)))
    rw [x_at hi.1, ← e1]
    exact hgo
  rcases hk with (rfl | rfl) | rfl | rfl
  · exact va_aldq hx hb hK hI.1 (o - 1).toNat 5 ha rfl (x_in hai hi.1 hi.2) hd fin
  · exact va_aldq hx hb hK hI.1 (o - 1).toNat 6 ha rfl (x_in hai hi.1 hi.2) hd fin
  · exact va_aldq hx hb hK hI.1 (o - 1).toNat 4 ha rfl (x_in hai hi.1 hi.2) hd fin
  · exact va_aldq hx hb hK hI.1 (o - 1).toNat 4 ha rfl (x_in hai hi.1 hi.2) hd fin
theorem xft_obj {ci : Nat} (h : ci < 12) : xak ci = none ∧ xrk ci = none ∧ ci ≠ 50 ∧ ci ≠ 51 ∧ ci ≠ 52 := by
  match ci, h with
  | 0, _ => exact ⟨rfl, rfl, by decide, by decide, by decide⟩
  | 1, _ => exact ⟨rfl, rfl, by decide, by decide, by decide⟩
  | 2, _ => exact ⟨rfl, rfl, by decide, by decide, by decide⟩
  | 3, _ => exact ⟨rfl, rfl, by decide, by decide, by decide⟩
  | 4, _ => exact ⟨rfl, rfl, by decide, by decide, by decide⟩
  | 5, _ => exact ⟨rfl, rfl, by decide, by decide, by decide⟩
  | 6, _ => exact ⟨rfl, rfl, by decide, by decide, by decide⟩
  | 7, _ => exact ⟨rfl, rfl, by decide, by decide, by decide⟩
  | 8, _ => exact ⟨rfl, rfl, by decide, by decide, by decide⟩
  | 9, _ => exact ⟨rfl, rfl, by decide, by decide, by decide⟩
  | 10, _ => exact ⟨rfl, rfl, by decide, by decide, by decide⟩
  | 11, _ => exact ⟨rfl, rfl, by decide, by decide, by decide⟩
theorem xfs_at {d : xAd} {M : xM} {o : Int} {ci k N : Nat} (hN : xcN ci = N) (hk : k < N) : ((List.range (xcN ci)).map (xfv d M o ci))[k]? = some (xfv d M o ci k) := by
  rw [List.getElem?_map, List.getElem?_range (by omega)]
  rfl
theorem xlg_f {ci k : Nat} (h : ci < 12) : xlgK ci (k : Int) = ((xft ci k).1 == 1) := by
  unfold xlgK
  simp only [(xft_obj h).1]
  simp
/-- getfield of a number -/
theorem xs_getI (hx : p.tables.exec = Jvm.exec) (hb : c.code = cc) (hK : va_K D xcl (xtys cA) s) {own : String} {C : String} {T : u_T} {N index ci k : Nat} {Ts : List Cond} (hts : ∀ w ∈ Ts, w.before args s = true) (hin : ∀ w ∈ u_ws C T N, w ∈ Ts) (hown : s.vm.findClass own = some m.cls) (hc : xcl[ci]? = some (C, T, N)) (hk : k < N) (hlink : (Cond.fieldLink own index C (T k).2.1 (T k).2.2.1).before args s = true) (hC : (T k).1 = C) (hci : ci < 12) (hN : xcN ci = N) {o : Int} (hf0 : (xft ci k).1 = 0 ∨ (xft ci k).1 = 2) (hd : decode cc pc = .ok (.getfield index, 3)) (kk : xGo p l e R s m args below meth c cells slots Q d nL (xI D cA d A s L xs) (pc + 3) ls ((0, M o (k : Int)) :: st) M) : xGo p l e R s m args below meth c cells slots Q d nL (xI D cA d A s L xs) pc ls ((ci + 2, o) :: st) M := by
  intro lsm H locs hf hs hI
  obtain ⟨h1, h2, h3, h4, h5⟩ := xft_obj hci
  obtain ⟨hv1, hv2, hv3⟩ := xval_cell (xok_h hs) h3 h4 h5
  have ha := xwd_at (cA := cA) (d := d) (M := M) hv1 hv2
  rw [xent_obj hv3 h1 h2] at ha
  show W p l e R s m args below meth c H locs cells slots Q (F0 m pc lsm (.ref (xadr d ci o) :: st.map (xcw d)))
  rw [xadr_cell h3 h4 h5]
  have hlg : xlgK (xkd o) (k : Int) = false := by
    rw [hv3, xlg_f hci]
    rcases hf0 with h | h <;> rw [h] <;> rfl
  have hgo := kk lsm H locs hf (xok_c ((hI.2.2.1 o k).2 hlg) (xok_t hs)) hI
  have hv : xfv d M o ci k = .int (Int32.ofInt (M o (k : Int))) := by
    unfold xfv
    generalize hq : xft ci k = q at hf0
    obtain ⟨t, off⟩ := q
    rcases hf0 with h | h <;> (dsimp only at h; subst h; rfl)
  exact va_get hx hb hts hin hown hK hI.1 (o - 1).toNat ha hc k hk hlink (fun x h => by rw [← hC]; exact h) (by rw [xfs_at hN hk, hv]; try rfl) hd hgo
theorem xs_getL (hx : p.tables.exec = Jvm.exec) (hb : c.code = cc) (hK : va_K D xcl (xtys cA) s) {own : String} {C : String} {T : u_T} {N index ci k : Nat} {Ts : List Cond} (hts : ∀ w ∈ Ts, w.before args s = true) (hin : ∀ w ∈ u_ws C T N, w ∈ Ts) (hown : s.vm.findClass own = some m.cls) (hc : xcl[ci]? = some (C, T, N)) (hk : k < N) (hlink : (Cond.fieldLink own index C (T k).2.1 (T k).2.2.1).before args s = true) (hC : (T k).1 = C) (hci : ci < 12) (hN : xcN ci = N) {o : Int} (hf0 : (xft ci k).1 = 1) (hd : decode cc pc = .ok (.getfield index, 3)) (kk : xGo p l e R s m args below meth c cells slots Q d nL (xI D cA d A s L xs) (pc + 3) ls ((1, M o (k : Int)) :: st) M) : xGo p l e R s m args below meth c cells slots Q d nL (xI D cA d A s L xs) pc ls ((ci + 2, o) :: st) M := by
  intro lsm H locs hf hs hI
  obtain ⟨h1, h2, h3, h4, h5⟩ := xft_obj hci
  obtain ⟨hv1, hv2, hv3⟩ := xval_cell (xok_h hs) h3 h4 h5
  have ha := xwd_at (cA := cA) (d := d) (M := M) hv1 hv2
  rw [xent_obj hv3 h1 h2] at ha
  show W p l e R s m args below meth c H locs cells slots Q (F0 m pc lsm (.ref (xadr d ci o) :: st.map (xcw d)))
  rw [xadr_cell h3 h4 h5]
  have hlg : xlgK (xkd o) (k : Int) = true := by
    rw [hv3, xlg_f hci, hf0]; rfl
  have hgo := kk lsm H locs hf (xok_c ((hI.2.2.1 o k).1 hlg) (xok_t hs)) hI
  have hv : xfv d M o ci k = .long (Int64.ofInt (M o (k : Int))) := by
    unfold xfv
    generalize hq : xft ci k = q at hf0
    obtain ⟨t, off⟩ := q
    dsimp only at hf0
    subst hf0
    rfl
  exact va_get hx hb hts hin hown hK hI.1 (o - 1).toNat ha hc k hk hlink (fun x h => by rw [← hC]; exact h) (by rw [xfs_at hN hk, hv]; try rfl) hd hgo
/-- getfield of a reference -/
theorem xs_getR (hx : p.tables.exec = Jvm.exec) (hb : c.code = cc) (hK : va_K D xcl (xtys cA) s) {own : String} {C : String} {T : u_T} {N index ci k : Nat} {Ts : List Cond} (hts : ∀ w ∈ Ts, w.before args s = true) (hin : ∀ w ∈ u_ws C T N, w ∈ Ts) (hown : s.vm.findClass own = some m.cls) (hc : xcl[ci]? = some (C, T, N)) (hk : k < N) (hlink : (Cond.fieldLink own index C (T k).2.1 (T k).2.2.1).before args s = true) (hC : (T k).1 = C) (hci : ci < 12) (hN : xcN ci = N) {q : Nat} {o off : Int} (hf0 : xft ci k = (3, off)) (hq : q ≠ 50 ∧ q ≠ 51 ∧ q ≠ 52) (hval : ∀ o, xval ci o → xval q (o + off)) (hd : decode cc pc = .ok (.getfield index, 3)) (kk : xGo p l e R s m args below meth c cells slots Q d nL (xI D cA d A s L xs) (pc + 3) ls ((q + 2, o + off) :: st) M) : xGo p l e R s m args below meth c cells slots Q d nL (xI D cA d A s L xs) pc ls ((ci + 2, o) :: st) M := by
  intro lsm H locs hf hs hI
  obtain ⟨h1, h2, h3, h4, h5⟩ := xft_obj hci
  obtain ⟨hv1, hv2, hv3⟩ := xval_cell (xok_h hs) h3 h4 h5
  have ha := xwd_at (cA := cA) (d := d) (M := M) hv1 hv2
  rw [xent_obj hv3 h1 h2] at ha
  show W p l e R s m args below meth c H locs cells slots Q (F0 m pc lsm (.ref (xadr d ci o) :: st.map (xcw d)))
  rw [xadr_cell h3 h4 h5]
  have hgo := kk lsm H locs hf (xok_c (hval o (xok_h hs)) (xok_t hs)) hI
  have hv : xfv d M o ci k = xcw d (q + 2, o + off) := by
    rw [xcw_r, xadr_cell hq.1 hq.2.1 hq.2.2]
    unfold xfv
    rw [hf0]
    rfl
  exact va_get hx hb hts hin hown hK hI.1 (o - 1).toNat ha hc k hk hlink (fun x h => by rw [← hC]; exact h) (by rw [xfs_at hN hk, hv]; try rfl) hd hgo
theorem xfs_set {d : xAd} {M : xM} {o x : Int} {ci k N : Nat} {v : Value} (hN : xcN ci = N) (hk : k < N) (hv : v = xfv d (xwr M o (k : Int) x) o ci k) : ((List.range (xcN ci)).map (xfv d M o ci)).set k v = (List.range (xcN ci)).map (xfv d (xwr M o (k : Int) x) o ci) := by
  subst hv
  apply List.ext_getElem?
  intro i
  rw [List.getElem?_set]
  simp only [List.length_map, List.length_range]
  split
  · next hi =>
    subst hi
    rw [if_pos (show k < xcN ci by omega), List.getElem?_map, List.getElem?_range (show k < xcN ci by omega)]
    rfl
  · next hi =>
    rw [List.getElem?_map, List.getElem?_map]
    by_cases hlt : i < xcN ci
    · rw [List.getElem?_range hlt]
      simp only [Option.map_some, Option.some.injEq]
      have e : xwr M o (k : Int) x o (i : Int) = M o (i : Int) := by
        unfold xwr
        rw [if_neg (fun q => hi (by omega))]
      unfold xfv
      simp only [e]
    · rw [List.getElem?_eq_none (by simpa using hlt)]
      rfl
/-- putfield of a number -/
theorem xs_put (hx : p.tables.exec = Jvm.exec) (hb : c.code = cc) (hK : va_K D xcl (xtys cA) s) (hap : xap A d) {own : String} {C : String} {T : u_T} {N index ci k : Nat} {Ts : List Cond} (hts : ∀ w ∈ Ts, w.before args s = true) (hin : ∀ w ∈ u_ws C T N, w ∈ Ts) (hown : s.vm.findClass own = some m.cls) (hc : xcl[ci]? = some (C, T, N)) (hk : k < N) (hlink : (Cond.fieldLink own index C (T k).2.1 (T k).2.2.1).before args s = true) (hC : (T k).1 = C) (hci : ci < 12) (hN : xcN ci = N) {ty0 : Nat → FieldType} (hty : ∀ k, k < N → parseFieldDescriptor (T k).2.2.1 = some (ty0 k)) (hnm : ∀ a, a < N → ∀ b, b < N → a ≠ b → (T a).2.1 ≠ (T b).2.1) (hfin : (T k).2.2.2 = false) {o x : Int} {v : xV} (hvx : v.2 = x) (hr1 : xlgK ci (k : Int) = true → x64 x) (hr2 : xlgK ci (k : Int) = false → x32 x) (hvv : xcw d v = xfv d (xwr M o (k : Int) x) o ci k) (hn : narrow (ty0 k) (xcw d v) = xcw d v) (hfit : fits (ty0 k) (xcw d v) = true) (hd : decode cc pc = .ok (.putfield index, 3)) (kk : xGo p l e R s m args below meth c cells slots Q d nL (xI D cA d A s L xs) (pc + 3) ls st (xwr M o (k : Int) x)) : xGo p l e R s m args below meth c cells slots Q d nL (xI D cA d A s L xs) pc ls (v :: (ci + 2, o) :: st) M := by
  intro lsm H locs hf hs hI
  obtain ⟨h1, h2, h3, h4, h5⟩ := xft_obj hci
  obtain ⟨hv1, hv2, hv3⟩ := xval_cell (xok_h (xok_t hs)) h3 h4 h5
  have ha := xwd_at (cA := cA) (d := d) (M := M) hv1 hv2
  rw [xent_obj hv3 h1 h2] at ha
  show W p l e R s m args below meth c H locs cells slots Q (F0 m pc lsm (xcw d v :: .ref (xadr d ci o) :: st.map (xcw d)))
  rw [xadr_cell h3 h4 h5]
  refine va_put hx hb hts hin ty0 hty hnm hown hK hI.1 (xwd_D hap M) hI.2.1 (o - 1).toNat ha hc k hk hlink (fun x h => by rw [← hC]; exact h) hfin (hty k hk) hn hfit (by rw [List.length_map, List.length_range, hN]; exact hk) hd (fun H1 locs1 hP1 _ hS1 => ?_)
  rw [xfs_set hN hk hvv, xwd_set (M' := xwr M o (k : Int) x) hv1 hv2 (xent_obj hv3 h1 h2).symm (fun b hb => xent_wr hb)] at hP1
  exact kk lsm H1 locs1 hf (xok_t (xok_t hs)) ⟨hP1, hS1, xrg_wr hI.2.2.1 (fun h => hr1 (by rw [← hv3]; exact h)) (fun h => hr2 (by rw [← hv3]; exact h)), xsc_wr hI.2.2.2 hv1⟩
theorem xs_getLack (hx : p.tables.exec = Jvm.exec) (hb : c.code = cc) {own : String} {index : Nat} (hZ : va_Z "ConsentDoors$Keys" "LACKING" "[J" (.ref d.2.2.1) A s s.heap) (hown : s.vm.findClass own = some m.cls) (hlink : (Cond.fieldLink own index "ConsentDoors$Keys" "LACKING" "[J").before args s = true) (hd : decode cc pc = .ok (.getstatic index, 3)) (kk : xGo p l e R s m args below meth c cells slots Q d nL (xI D cA d A s L xs) (pc + 3) ls ((52, -1) :: st) M) : xGo p l e R s m args below meth c cells slots Q d nL (xI D cA d A s L xs) pc ls st M := by
  intro lsm H locs hf hs hI
  exact va_gets hx hb hZ hI.2.1 hown hlink (fun x h => h) hd (kk lsm H locs hf (xok_c (show xval 50 (-1) by unfold xval; rw [if_pos rfl]) hs) hI)
theorem xlack_in (i : Int) : x64 (xlack i) := by
  unfold xlack
  split
  · constructor <;> decide
  · split
    · constructor <;> decide
    · split
      · constructor <;> decide
      · split
        · constructor <;> decide
        · split <;> constructor <;> decide
theorem xs_laldLack (hx : p.tables.exec = Jvm.exec) (hb : c.code = cc) (hT : va_T .long d.2.2.1 6 (fun j => .long (Int64.ofInt (xlack (j : Int)))) A s s.heap) {o i : Int} (hd : decode cc pc = .ok (.laload, 1)) (hi : 0 ≤ i ∧ i < 6) (kk : xGo p l e R s m args below meth c cells slots Q d nL (xI D cA d A s L xs) (pc + 1) ls ((1, xlack i) :: st) M) : xGo p l e R s m args below meth c cells slots Q d nL (xI D cA d A s L xs) pc ls ((0, i) :: (52, o) :: st) M := by
  intro lsm H locs hf hs hI
  have hai : x32 i := xok_h hs
  exact va_tl hx hb hT hI.2.1 (x_in (n := 6) hai hi.1 hi.2) (v := .long (Int64.ofInt (xlack i))) (by rw [x_cl hai, x_at hi.1]) hd (kk lsm H locs hf (xok_c (xlack_in i) (xok_t (xok_t hs))) hI)
theorem xs_alenLack (hx : p.tables.exec = Jvm.exec) (hb : c.code = cc) (hT : va_T .long d.2.2.1 6 (fun j => .long (Int64.ofInt (xlack (j : Int)))) A s s.heap) {o : Int} (hd : decode cc pc = .ok (.arraylength, 1)) (kk : xGo p l e R s m args below meth c cells slots Q d nL (xI D cA d A s L xs) (pc + 1) ls ((0, 6) :: st) M) : xGo p l e R s m args below meth c cells slots Q d nL (xI D cA d A s L xs) pc ls ((52, o) :: st) M := by
  intro lsm H locs hf hs hI
  exact va_tlen hx hb hT hI.2.1 (v := Int32.ofInt 6) rfl hd (kk lsm H locs hf (xok_c (show x32 6 by constructor <;> decide) (xok_t hs)) hI)
theorem xs_ialdScr (hx : p.tables.exec = Jvm.exec) (hb : c.code = cc) (hT : va_T .int d.2.2.2 L (fun j => .int (xs j)) A s s.heap) (hL : L < 4000) {o i : Int} (hd : decode cc pc = .ok (.iaload, 1)) (hi : 0 ≤ i ∧ i < M 0 4000) (kk : xGo p l e R s m args below meth c cells slots Q d nL (xI D cA d A s L xs) (pc + 1) ls ((0, M 0 i) :: st) M) : xGo p l e R s m args below meth c cells slots Q d nL (xI D cA d A s L xs) pc ls ((0, i) :: (53, o) :: st) M := by
  intro lsm H locs hf hs hI
  have hai : x32 i := xok_h hs
  obtain ⟨hs1, hs2⟩ := hI.2.2.2
  rw [hs1] at hi
  have e : M 0 i = (xs i.toNat).toInt := by
    have := hs2 i.toNat (by omega)
    rw [x_at hi.1] at this
    exact this
  have h3 : x32 (M 0 i) := by
    rw [e]
    exact ⟨Int32.le_toInt _, Int32.toInt_lt _⟩
  have hin := x_in (n := (L : Int)) hai hi.1 hi.2
  rw [Int.toNat_natCast] at hin
  refine va_ti hx hb hT hI.2.1 hin (v := .int (Int32.ofInt (M 0 i))) ?_ hd (kk lsm H locs hf (xok_c h3 (xok_t (xok_t hs))) hI)
  rw [x_cl hai, e, Int32.ofInt_toInt]
theorem xs_alenScr (hx : p.tables.exec = Jvm.exec) (hb : c.code = cc) (hT : va_T .int d.2.2.2 L (fun j => .int (xs j)) A s s.heap) (hL : L < 4000) {o : Int} (hd : decode cc pc = .ok (.arraylength, 1)) (kk : xGo p l e R s m args below meth c cells slots Q d nL (xI D cA d A s L xs) (pc + 1) ls ((0, M 0 4000) :: st) M) : xGo p l e R s m args below meth c cells slots Q d nL (xI D cA d A s L xs) pc ls ((53, o) :: st) M := by
  intro lsm H locs hf hs hI
  have hs1 := hI.2.2.2.1
  refine va_tlen hx hb hT hI.2.1 (v := Int32.ofInt (M 0 4000)) ?_ hd (kk lsm H locs hf (xok_c (show x32 (M 0 4000) by rw [hs1]; constructor <;> omega) (xok_t hs)) hI)
  rw [hs1]
  rfl
theorem xs_copyI (hx : p.tables.exec = Jvm.exec) (hb : c.code = cc) (hK : va_K D xcl (xtys cA) s) (hap : xap A d) (hml : c.maxLocals = nL) {own : String} {index : Nat} (hown : s.vm.findClass own = some m.cls) (hlink : (Cond.methodLink own index arraycopyName).before args s = true) (hnat : (Cond.native arraycopyName).before args s = true) (hstat : (Cond.static arraycopyName).before args s = true) (hini : (Cond.initialized "java/lang/System").before args s = true) {ka kb : Nat} {oa ob i j n la lb : Int} (hka : ka ≠ 50 ∧ ka ≠ 51 ∧ ka ≠ 52) (hkb : kb ≠ 50 ∧ kb ≠ 51 ∧ kb ≠ 52) (haka : xak ka = some (0, la)) (hakb : xak kb = some (0, lb)) (hi : 0 ≤ n ∧ 0 ≤ i ∧ 0 ≤ j ∧ i + n ≤ la ∧ j + n ≤ lb) (hfr : 1 ≤ R.frames) (hlo : ((st.map (xcw d)).map fun v => v.category).sum + (nativeFrameWords "java/lang/System" "arraycopy" 5 + 11) ≤ R.locals) (hd : decode cc pc = .ok (.invokestatic index, 3)) (kk : xGo p l e R s m args below meth c cells slots Q d nL (xI D cA d A s L xs) (pc + 3) ls st (xcpy M oa i ob j n)) : xGo p l e R s m args below meth c cells slots Q d nL (xI D cA d A s L xs) pc ls ((0, n) :: (0, j) :: (kb + 2, ob) :: (0, i) :: (ka + 2, oa) :: st) M := by
  intro lsm H locs hf hs hI
  have hn : x32 n := xok_h hs
  have hj : x32 j := xok_h (xok_t hs)
  have hii : x32 i := xok_h (xok_t (xok_t (xok_t hs)))
  obtain ⟨hvb1, hvb2, hvb3⟩ := xval_cell (xok_h (xok_t (xok_t hs))) hkb.1 hkb.2.1 hkb.2.2
  obtain ⟨hva1, hva2, hva3⟩ := xval_cell (xok_h (xok_t (xok_t (xok_t (xok_t hs))))) hka.1 hka.2.1 hka.2.2
  have ha := xwd_at (cA := cA) (d := d) (M := M) hva1 hva2
  have hb2 := xwd_at (cA := cA) (d := d) (M := M) hvb1 hvb2
  rw [xent_num hva3 haka (by decide)] at ha
  rw [xent_num hvb3 hakb (by decide)] at hb2
  show W p l e R s m args below meth c H locs cells slots Q (F0 m pc lsm (.int (Int32.ofInt n) :: .int (Int32.ofInt j) :: .ref (xadr d kb ob) :: .int (Int32.ofInt i) :: .ref (xadr d ka oa) :: st.map (xcw d)))
  rw [xadr_cell hka.1 hka.2.1 hka.2.2, xadr_cell hkb.1 hkb.2.1 hkb.2.2]
  have nn : ∀ {z : Int}, x32 z → 0 ≤ z → ¬ Int32.ofInt z < 0 := fun {z} h h0 q => by
    have := (xi_lt h (show x32 0 by constructor <;> decide)).mp q
    omega
  refine va_copyi hx hb (by rw [hf.2.1]; exact hml) hown hlink hnat hstat hini hK hI.1 (xwd_D hap M) hI.2.1 (oa - 1).toNat (ob - 1).toNat 0 0 ha hb2 rfl rfl rfl (nn hii hi.2.1) (nn hj hi.2.2.1) (nn hn hi.1) (by rw [x_cl hii, x_cl hn]; omega) (by rw [x_cl hj, x_cl hn]; omega) (fun _ _ => rfl) hfr hlo hd (fun H1 locs1 hP1 _ hS1 => ?_)
  have ec : va_cpy (fun q : Nat => Int32.ofInt (M oa (q : Int))) (fun q : Nat => Int32.ofInt (M ob (q : Int))) (Int32.ofInt i).toNatClampNeg (Int32.ofInt j).toNatClampNeg (Int32.ofInt n).toNatClampNeg = fun q : Nat => Int32.ofInt (xcpy M oa i ob j n ob (q : Int)) := by
    funext q
    rw [x_cl hii, x_cl hj, x_cl hn]
    unfold va_cpy xcpy
    by_cases hq : j.toNat ≤ q ∧ q < j.toNat + n.toNat
    · rw [if_pos hq, if_pos ⟨rfl, by omega, by omega⟩]
      have e2 : ((i.toNat + (q - j.toNat) : Nat) : Int) = (q : Int) - j + i := by omega
      show Int32.ofInt (M oa ((i.toNat + (q - j.toNat) : Nat) : Int)) = _
      rw [e2]
    · rw [if_neg hq, if_neg (fun z => hq (by omega))]
  rw [ec, xwd_set (M' := xcpy M oa i ob j n) hvb1 hvb2 (xent_num hvb3 hakb (by decide)).symm (fun b hb => xent_cpy hb)] at hP1
  refine kk lsm H1 locs1 hf (xok_t (xok_t (xok_t (xok_t (xok_t hs))))) ⟨hP1, hS1, fun x y => ?_, xsc_cpy hI.2.2.2 hvb1⟩
  unfold xcpy
  by_cases hq : x = ob ∧ j ≤ y ∧ y < j + n
  · rw [if_pos hq, hq.1, hvb3]
    have h9 := hI.2.2.1 oa (y - j + i)
    rw [hva3] at h9
    rw [xlg_num hakb (by decide)]
    rw [xlg_num haka (by decide)] at h9
    exact h9
  · rw [if_neg hq]
    exact hI.2.2.1 x y
theorem xs_copyL (hx : p.tables.exec = Jvm.exec) (hb : c.code = cc) (hK : va_K D xcl (xtys cA) s) (hap : xap A d) (hml : c.maxLocals = nL) {own : String} {index : Nat} (hown : s.vm.findClass own = some m.cls) (hlink : (Cond.methodLink own index arraycopyName).before args s = true) (hnat : (Cond.native arraycopyName).before args s = true) (hstat : (Cond.static arraycopyName).before args s = true) (hini : (Cond.initialized "java/lang/System").before args s = true) {ka kb : Nat} {oa ob i j n la lb : Int} (hka : ka ≠ 50 ∧ ka ≠ 51 ∧ ka ≠ 52) (hkb : kb ≠ 50 ∧ kb ≠ 51 ∧ kb ≠ 52) (haka : xak ka = some (3, la)) (hakb : xak kb = some (3, lb)) (hi : 0 ≤ n ∧ 0 ≤ i ∧ 0 ≤ j ∧ i + n ≤ la ∧ j + n ≤ lb) (hfr : 1 ≤ R.frames) (hlo : ((st.map (xcw d)).map fun v => v.category).sum + (nativeFrameWords "java/lang/System" "arraycopy" 5 + 11) ≤ R.locals) (hd : decode cc pc = .ok (.invokestatic index, 3)) (kk : xGo p l e R s m args below meth c cells slots Q d nL (xI D cA d A s L xs) (pc + 3) ls st (xcpy M oa i ob j n)) : xGo p l e R s m args below meth c cells slots Q d nL (xI D cA d A s L xs) pc ls ((0, n) :: (0, j) :: (kb + 2, ob) :: (0, i) :: (ka + 2, oa) :: st) M := by
  intro lsm H locs hf hs hI
  have hn : x32 n := xok_h hs
  have hj : x32 j := xok_h (xok_t hs)
  have hii : x32 i := xok_h (xok_t (xok_t (xok_t hs)))
  obtain ⟨hvb1, hvb2, hvb3⟩ := xval_cell (xok_h (xok_t (xok_t hs))) hkb.1 hkb.2.1 hkb.2.2
  obtain ⟨hva1, hva2, hva3⟩ := xval_cell (xok_h (xok_t (xok_t (xok_t (xok_t hs))))) hka.1 hka.2.1 hka.2.2
  have ha := xwd_at (cA := cA) (d := d) (M := M) hva1 hva2
  have hb2 := xwd_at (cA := cA) (d := d) (M := M) hvb1 hvb2
  rw [xent_long hva3 haka] at ha
  rw [xent_long hvb3 hakb] at hb2
  show W p l e R s m args below meth c H locs cells slots Q (F0 m pc lsm (.int (Int32.ofInt n) :: .int (Int32.ofInt j) :: .ref (xadr d kb ob) :: .int (Int32.ofInt i) :: .ref (xadr d ka oa) :: st.map (xcw d)))
  rw [xadr_cell hka.1 hka.2.1 hka.2.2, xadr_cell hkb.1 hkb.2.1 hkb.2.2]
  have nn : ∀ {z : Int}, x32 z → 0 ≤ z → ¬ Int32.ofInt z < 0 := fun {z} h h0 q => by
    have := (xi_lt h (show x32 0 by constructor <;> decide)).mp q
    omega
  refine va_copyl hx hb (by rw [hf.2.1]; exact hml) hown hlink hnat hstat hini hK hI.1 (xwd_D hap M) hI.2.1 (oa - 1).toNat (ob - 1).toNat 3 3 ha hb2 rfl rfl rfl (nn hii hi.2.1) (nn hj hi.2.2.1) (nn hn hi.1) (by rw [x_cl hii, x_cl hn]; omega) (by rw [x_cl hj, x_cl hn]; omega) (fun _ _ => rfl) hfr hlo hd (fun H1 locs1 hP1 _ hS1 => ?_)
  have ec : va_cpy (fun q : Nat => Int64.ofInt (M oa (q : Int))) (fun q : Nat => Int64.ofInt (M ob (q : Int))) (Int32.ofInt i).toNatClampNeg (Int32.ofInt j).toNatClampNeg (Int32.ofInt n).toNatClampNeg = fun q : Nat => Int64.ofInt (xcpy M oa i ob j n ob (q : Int)) := by
    funext q
    rw [x_cl hii, x_cl hj, x_cl hn]
    unfold va_cpy xcpy
    by_cases hq : j.toNat ≤ q ∧ q < j.toNat + n.toNat
    · rw [if_pos hq, if_pos ⟨rfl, by omega, by omega⟩]
      have e2 : ((i.toNat + (q - j.toNat) : Nat) : Int) = (q : Int) - j + i := by omega
      show Int64.ofInt (M oa ((i.toNat + (q - j.toNat) : Nat) : Int)) = _
      rw [e2]
    · rw [if_neg hq, if_neg (fun z => hq (by omega))]
  rw [ec, xwd_set (M' := xcpy M oa i ob j n) hvb1 hvb2 (xent_long hvb3 hakb).symm (fun b hb => xent_cpy hb)] at hP1
  refine kk lsm H1 locs1 hf (xok_t (xok_t (xok_t (xok_t (xok_t hs))))) ⟨hP1, hS1, fun x y => ?_, xsc_cpy hI.2.2.2 hvb1⟩
  unfold xcpy
  by_cases hq : x = ob ∧ j ≤ y ∧ y < j + n
  · rw [if_pos hq, hq.1, hvb3]
    have h9 := hI.2.2.1 oa (y - j + i)
    rw [hva3] at h9
    rw [xlg_long hakb]
    rw [xlg_long haka] at h9
    exact h9
  · rw [if_neg hq]
    exact hI.2.2.1 x y
end xHeap
end
