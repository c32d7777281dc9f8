/-! ===== SOUNDNESS, 3: a row an instruction (those that leave the heap alone) ===== -/
noncomputable section
/-- from the machine's configuration the real one comes to Q -/
def xGo (p : Program) (l : Launch) (e : Env) (R : Room) (s : State) (m : MethodId) (args : Array Value) (below : List Frame) (meth : Method) (c : Code) (cells slots : Nat) (Q : State → Prop) (d : xAd) (nL : Nat) (I : xM → Heap → List Loc → Prop) (pc : Nat) (ls : xL) (st : List xV) (M : xM) : Prop :=
  ∀ (lsm : Array Slot) (H : Heap) (locs : List Loc), xfr d nL ls lsm → (∀ v ∈ st, xokv v) → I M H locs → W p l e R s m args below meth c H locs cells slots Q (F0 m pc lsm (st.map (xcw d)))
theorem xok_c {v : xV} {st : List xV} (hv : xokv v) (hs : ∀ w ∈ st, xokv w) : ∀ w ∈ v :: st, xokv w := fun w hw => (List.mem_cons.mp hw).elim (fun h => h ▸ hv) (hs w)
theorem xok_h {v : xV} {st : List xV} (hs : ∀ w ∈ v :: st, xokv w) : xokv v := hs v List.mem_cons_self
theorem xok_t {v : xV} {st : List xV} (hs : ∀ w ∈ v :: st, xokv w) : ∀ w ∈ st, xokv w := fun w hw => hs w (List.mem_cons_of_mem _ hw)
section xIns
variable {p : Program} {l : Launch} {e : Env} {R : Room} {s : State} {m : MethodId} {args : Array Value} {below : List Frame} {meth : Method} {c : Code} {cells slots : Nat} {Q : State → Prop} {cc : ByteArray} {d : xAd} {nL : Nat} {I : xM → Heap → List Loc → Prop} {pc : Nat} {ls : xL} {st : List xV} {M : xM}
theorem xs_iconst (hx : p.tables.exec = Jvm.exec) (hb : c.code = cc) {v : Int} (hd : decode cc pc = .ok (.iconst v, 1)) (hv : x32 v) (k : xGo p l e R s m args below meth c cells slots Q d nL I (pc + 1) ls ((0, v) :: st) M) : xGo p l e R s m args below meth c cells slots Q d nL I pc ls st M :=
  fun lsm H locs hf hs hI => lv_iconst hx hb hd rfl (k lsm H locs hf (xok_c hv hs) hI)
theorem xs_bipush (hx : p.tables.exec = Jvm.exec) (hb : c.code = cc) {v : Int} (hd : decode cc pc = .ok (.bipush v, 2)) (hv : -128 ≤ v ∧ v < 128) (k : xGo p l e R s m args below meth c cells slots Q d nL I (pc + 2) ls ((0, v) :: st) M) : xGo p l e R s m args below meth c cells slots Q d nL I pc ls st M :=
  fun lsm H locs hf hs hI => lv_bipush hx hb hd (v := Int32.ofInt v) (by
    apply Int32.toInt_inj.mp
    rw [xi_to ⟨by omega, by omega⟩, Int8.toInt_toInt32, Int8.toInt_ofInt_of_le hv.1 hv.2]) (k lsm H locs hf (xok_c ⟨by omega, by omega⟩ hs) hI)
theorem xs_sipush (hx : p.tables.exec = Jvm.exec) (hb : c.code = cc) {v : Int} (hd : decode cc pc = .ok (.sipush v, 3)) (hv : -32768 ≤ v ∧ v < 32768) (k : xGo p l e R s m args below meth c cells slots Q d nL I (pc + 3) ls ((0, v) :: st) M) : xGo p l e R s m args below meth c cells slots Q d nL I pc ls st M :=
  fun lsm H locs hf hs hI => lv_sipush hx hb hd (v := Int32.ofInt v) (by
    apply Int32.toInt_inj.mp
    rw [xi_to ⟨by omega, by omega⟩, Int16.toInt_toInt32, Int16.toInt_ofInt_of_le hv.1 hv.2]) (k lsm H locs hf (xok_c ⟨by omega, by omega⟩ hs) hI)
theorem xs_lconst (hx : p.tables.exec = Jvm.exec) (hb : c.code = cc) {v : Fin 2} (hd : decode cc pc = .ok (.lconst v, 1)) (k : xGo p l e R s m args below meth c cells slots Q d nL I (pc + 1) ls ((1, ((v : Nat) : Int)) :: st) M) : xGo p l e R s m args below meth c cells slots Q d nL I pc ls st M :=
  fun lsm H locs hf hs hI => lv_lconst hx hb hd (v := Int64.ofInt ((v : Nat) : Int)) (by
    match v with
    | 0 => rfl
    | 1 => rfl) (k lsm H locs hf (xok_c (by
      show x64 _
      have := v.isLt
      constructor <;> omega) hs) hI)
theorem xs_ldc (hx : p.tables.exec = Jvm.exec) (hb : c.code = cc) {own : String} {i : Nat} {v : Int} (hown : s.vm.findClass own = some m.cls) (hw : (Jvm.Cond.constant own i (Int32.ofInt v)).before args s = true) (hd : decode cc pc = .ok (.ldc i, 2)) (hv : x32 v) (k : xGo p l e R s m args below meth c cells slots Q d nL I (pc + 2) ls ((0, v) :: st) M) : xGo p l e R s m args below meth c cells slots Q d nL I pc ls st M :=
  fun lsm H locs hf hs hI => lv_ldc hx hb hown hw hd (k lsm H locs hf (xok_c hv hs) hI)
theorem xs_ldcw (hx : p.tables.exec = Jvm.exec) (hb : c.code = cc) {own : String} {i : Nat} {v : Int} (hown : s.vm.findClass own = some m.cls) (hw : (Jvm.Cond.constant own i (Int32.ofInt v)).before args s = true) (hd : decode cc pc = .ok (.ldc_w i, 3)) (hv : x32 v) (k : xGo p l e R s m args below meth c cells slots Q d nL I (pc + 3) ls ((0, v) :: st) M) : xGo p l e R s m args below meth c cells slots Q d nL I pc ls st M :=
  fun lsm H locs hf hs hI => lv_ldcw hx hb hown hw hd (k lsm H locs hf (xok_c hv hs) hI)
theorem xs_ldc2 (hx : p.tables.exec = Jvm.exec) (hb : c.code = cc) {own : String} {i : Nat} {v : Int} (hown : s.vm.findClass own = some m.cls) (hw : (Jvm.Cond.constantLong own i (Int64.ofInt v)).before args s = true) (hd : decode cc pc = .ok (.ldc2_w i, 3)) (hv : x64 v) (k : xGo p l e R s m args below meth c cells slots Q d nL I (pc + 3) ls ((1, v) :: st) M) : xGo p l e R s m args below meth c cells slots Q d nL I pc ls st M :=
  fun lsm H locs hf hs hI => lv_ldc2 hx hb hown hw hd (k lsm H locs hf (xok_c hv hs) hI)
theorem xs_iload (hx : p.tables.exec = Jvm.exec) (hb : c.code = cc) {i : Nat} {x : Int} (hd : decode cc pc = .ok (.iload i, 2)) (hg : xget ls i = some (0, x)) (k : xGo p l e R s m args below meth c cells slots Q d nL I (pc + 2) ls ((0, x) :: st) M) : xGo p l e R s m args below meth c cells slots Q d nL I pc ls st M :=
  fun lsm H locs hf hs hI => lv_iload hx hb hd (hf.2.2.2 i _ hg).1 (k lsm H locs hf (xok_c (hf.2.2.2 i _ hg).2 hs) hI)
theorem xs_iload_n (hx : p.tables.exec = Jvm.exec) (hb : c.code = cc) {i : Fin 4} {x : Int} (hd : decode cc pc = .ok (.iload_n i, 1)) (hg : xget ls i = some (0, x)) (k : xGo p l e R s m args below meth c cells slots Q d nL I (pc + 1) ls ((0, x) :: st) M) : xGo p l e R s m args below meth c cells slots Q d nL I pc ls st M :=
  fun lsm H locs hf hs hI => lv_iload_n hx hb hd rfl (hf.2.2.2 i _ hg).1 (k lsm H locs hf (xok_c (hf.2.2.2 i _ hg).2 hs) hI)
theorem xs_lload (hx : p.tables.exec = Jvm.exec) (hb : c.code = cc) {i : Nat} {x : Int} (hd : decode cc pc = .ok (.lload i, 2)) (hg : xget ls i = some (1, x)) (k : xGo p l e R s m args below meth c cells slots Q d nL I (pc + 2) ls ((1, x) :: st) M) : xGo p l e R s m args below meth c cells slots Q d nL I pc ls st M :=
  fun lsm H locs hf hs hI => lv_lload hx hb hd (hf.2.2.2 i _ hg).1 (k lsm H locs hf (xok_c (hf.2.2.2 i _ hg).2 hs) hI)
theorem xs_lload_n (hx : p.tables.exec = Jvm.exec) (hb : c.code = cc) {i : Fin 4} {x : Int} (hd : decode cc pc = .ok (.lload_n i, 1)) (hg : xget ls i = some (1, x)) (k : xGo p l e R s m args below meth c cells slots Q d nL I (pc + 1) ls ((1, x) :: st) M) : xGo p l e R s m args below meth c cells slots Q d nL I pc ls st M :=
  fun lsm H locs hf hs hI => lv_lload_n hx hb hd rfl (hf.2.2.2 i _ hg).1 (k lsm H locs hf (xok_c (hf.2.2.2 i _ hg).2 hs) hI)
theorem xs_aload (hx : p.tables.exec = Jvm.exec) (hb : c.code = cc) {i t : Nat} {x : Int} (hd : decode cc pc = .ok (.aload i, 2)) (hg : xget ls i = some (t + 2, x)) (k : xGo p l e R s m args below meth c cells slots Q d nL I (pc + 2) ls ((t + 2, x) :: st) M) : xGo p l e R s m args below meth c cells slots Q d nL I pc ls st M :=
  fun lsm H locs hf hs hI => lv_aload hx hb hd (hf.2.2.2 i _ hg).1 (k lsm H locs hf (xok_c (hf.2.2.2 i _ hg).2 hs) hI)
theorem xs_aload_n (hx : p.tables.exec = Jvm.exec) (hb : c.code = cc) {i : Fin 4} {t : Nat} {x : Int} (hd : decode cc pc = .ok (.aload_n i, 1)) (hg : xget ls i = some (t + 2, x)) (k : xGo p l e R s m args below meth c cells slots Q d nL I (pc + 1) ls ((t + 2, x) :: st) M) : xGo p l e R s m args below meth c cells slots Q d nL I pc ls st M :=
  fun lsm H locs hf hs hI => lv_aload_n hx hb hd rfl (hf.2.2.2 i _ hg).1 (k lsm H locs hf (xok_c (hf.2.2.2 i _ hg).2 hs) hI)
theorem xs_istore (hx : p.tables.exec = Jvm.exec) (hb : c.code = cc) {i : Nat} {x : Int} (hd : decode cc pc = .ok (.istore i, 2)) (hi : i < nL) (k : xGo p l e R s m args below meth c cells slots Q d nL I (pc + 2) (xsto ls i (0, x)) st M) : xGo p l e R s m args below meth c cells slots Q d nL I pc ls ((0, x) :: st) M :=
  fun lsm H locs hf hs hI => lv_istore hx hb hd (xfr_has hf) hi rfl (fun ls' h' => k ls' H locs (xst1 (v := (0, x)) hf (by show (0 : Nat) ≠ 1; decide) (xok_h hs) h') (xok_t hs) hI)
theorem xs_istore_n (hx : p.tables.exec = Jvm.exec) (hb : c.code = cc) {i : Fin 4} {x : Int} (hd : decode cc pc = .ok (.istore_n i, 1)) (hi : (i : Nat) < nL) (k : xGo p l e R s m args below meth c cells slots Q d nL I (pc + 1) (xsto ls i (0, x)) st M) : xGo p l e R s m args below meth c cells slots Q d nL I pc ls ((0, x) :: st) M :=
  fun lsm H locs hf hs hI => lv_istore_n hx hb hd rfl (xfr_has hf) hi rfl (fun ls' h' => k ls' H locs (xst1 (v := (0, x)) hf (by show (0 : Nat) ≠ 1; decide) (xok_h hs) h') (xok_t hs) hI)
theorem xs_astore (hx : p.tables.exec = Jvm.exec) (hb : c.code = cc) {i t : Nat} {x : Int} (hd : decode cc pc = .ok (.astore i, 2)) (hi : i < nL) (k : xGo p l e R s m args below meth c cells slots Q d nL I (pc + 2) (xsto ls i (t + 2, x)) st M) : xGo p l e R s m args below meth c cells slots Q d nL I pc ls ((t + 2, x) :: st) M :=
  fun lsm H locs hf hs hI => lv_astore hx hb hd (xfr_has hf) hi rfl (fun ls' h' => k ls' H locs (xst1 (v := (t + 2, x)) hf (by show t + 2 ≠ 1; omega) (xok_h hs) h') (xok_t hs) hI)
theorem xs_astore_n (hx : p.tables.exec = Jvm.exec) (hb : c.code = cc) {i : Fin 4} {t : Nat} {x : Int} (hd : decode cc pc = .ok (.astore_n i, 1)) (hi : (i : Nat) < nL) (k : xGo p l e R s m args below meth c cells slots Q d nL I (pc + 1) (xsto ls i (t + 2, x)) st M) : xGo p l e R s m args below meth c cells slots Q d nL I pc ls ((t + 2, x) :: st) M :=
  fun lsm H locs hf hs hI => lv_astore_n hx hb hd rfl (xfr_has hf) hi rfl (fun ls' h' => k ls' H locs (xst1 (v := (t + 2, x)) hf (by show t + 2 ≠ 1; omega) (xok_h hs) h') (xok_t hs) hI)
theorem xs_lstore (hx : p.tables.exec = Jvm.exec) (hb : c.code = cc) {i : Nat} {x : Int} (hd : decode cc pc = .ok (.lstore i, 2)) (hi : i + 1 < nL) (k : xGo p l e R s m args below meth c cells slots Q d nL I (pc + 2) (xsto ls i (1, x)) st M) : xGo p l e R s m args below meth c cells slots Q d nL I pc ls ((1, x) :: st) M :=
  fun lsm H locs hf hs hI => lv_lstore hx hb hd (xfr_has hf) hi rfl (fun ls' h' => k ls' H locs (xst2 hf (xok_h hs) h') (xok_t hs) hI)
theorem xs_lstore_n (hx : p.tables.exec = Jvm.exec) (hb : c.code = cc) {i : Fin 4} {x : Int} (hd : decode cc pc = .ok (.lstore_n i, 1)) (hi : (i : Nat) + 1 < nL) (k : xGo p l e R s m args below meth c cells slots Q d nL I (pc + 1) (xsto ls i (1, x)) st M) : xGo p l e R s m args below meth c cells slots Q d nL I pc ls ((1, x) :: st) M :=
  fun lsm H locs hf hs hI => lv_lstore_n hx hb hd rfl (xfr_has hf) hi rfl (fun ls' h' => k ls' H locs (xst2 hf (xok_h hs) h') (xok_t hs) hI)
theorem xs_iadd (hx : p.tables.exec = Jvm.exec) (hb : c.code = cc) {x y : Int} (hd : decode cc pc = .ok (.iadd, 1)) (k : xGo p l e R s m args below meth c cells slots Q d nL I (pc + 1) ls ((0, xw32 (x + y)) :: st) M) : xGo p l e R s m args below meth c cells slots Q d nL I pc ls ((0, y) :: (0, x) :: st) M :=
  fun lsm H locs hf hs hI => lv_iadd hx hb hd (by
    rw [xi_add x y]
    exact k lsm H locs hf (xok_c (xi_in _) (xok_t (xok_t hs))) hI)
theorem xs_isub (hx : p.tables.exec = Jvm.exec) (hb : c.code = cc) {x y : Int} (hd : decode cc pc = .ok (.isub, 1)) (k : xGo p l e R s m args below meth c cells slots Q d nL I (pc + 1) ls ((0, xw32 (x - y)) :: st) M) : xGo p l e R s m args below meth c cells slots Q d nL I pc ls ((0, y) :: (0, x) :: st) M :=
  fun lsm H locs hf hs hI => lv_isub hx hb hd (by
    rw [xi_sub x y]
    exact k lsm H locs hf (xok_c (xi_in _) (xok_t (xok_t hs))) hI)
theorem xs_imul (hx : p.tables.exec = Jvm.exec) (hb : c.code = cc) {x y : Int} (hd : decode cc pc = .ok (.imul, 1)) (k : xGo p l e R s m args below meth c cells slots Q d nL I (pc + 1) ls ((0, xw32 (x * y)) :: st) M) : xGo p l e R s m args below meth c cells slots Q d nL I pc ls ((0, y) :: (0, x) :: st) M :=
  fun lsm H locs hf hs hI => lv_imul hx hb hd (by
    rw [xi_mul x y]
    exact k lsm H locs hf (xok_c (xi_in _) (xok_t (xok_t hs))) hI)
theorem xs_iand (hx : p.tables.exec = Jvm.exec) (hb : c.code = cc) {x y : Int} (hd : decode cc pc = .ok (.iand, 1)) (k : xGo p l e R s m args below meth c cells slots Q d nL I (pc + 1) ls ((0, xand x y) :: st) M) : xGo p l e R s m args below meth c cells slots Q d nL I pc ls ((0, y) :: (0, x) :: st) M :=
  fun lsm H locs hf hs hI => lv_iand hx hb hd (by
    rw [xi_and x y]
    exact k lsm H locs hf (xok_c (xand_in x y) (xok_t (xok_t hs))) hI)
theorem xs_ior (hx : p.tables.exec = Jvm.exec) (hb : c.code = cc) {x y : Int} (hd : decode cc pc = .ok (.ior, 1)) (k : xGo p l e R s m args below meth c cells slots Q d nL I (pc + 1) ls ((0, xor32 x y) :: st) M) : xGo p l e R s m args below meth c cells slots Q d nL I pc ls ((0, y) :: (0, x) :: st) M :=
  fun lsm H locs hf hs hI => lv_ior hx hb hd (by
    rw [xi_or x y]
    exact k lsm H locs hf (xok_c (xor_in x y) (xok_t (xok_t hs))) hI)
theorem xs_ixor (hx : p.tables.exec = Jvm.exec) (hb : c.code = cc) {x y : Int} (hd : decode cc pc = .ok (.ixor, 1)) (k : xGo p l e R s m args below meth c cells slots Q d nL I (pc + 1) ls ((0, xxor x y) :: st) M) : xGo p l e R s m args below meth c cells slots Q d nL I pc ls ((0, y) :: (0, x) :: st) M :=
  fun lsm H locs hf hs hI => lv_ixor hx hb hd (by
    rw [xi_xor x y]
    exact k lsm H locs hf (xok_c (xxor_in x y) (xok_t (xok_t hs))) hI)
theorem xs_ishl (hx : p.tables.exec = Jvm.exec) (hb : c.code = cc) {x y : Int} (hd : decode cc pc = .ok (.ishl, 1)) (k : xGo p l e R s m args below meth c cells slots Q d nL I (pc + 1) ls ((0, xshl x y) :: st) M) : xGo p l e R s m args below meth c cells slots Q d nL I pc ls ((0, y) :: (0, x) :: st) M :=
  fun lsm H locs hf hs hI => lv_ishl hx hb hd (by
    rw [xi_shl x y]
    exact k lsm H locs hf (xok_c (xshl_in x y) (xok_t (xok_t hs))) hI)
theorem xs_ishr (hx : p.tables.exec = Jvm.exec) (hb : c.code = cc) {x y : Int} (hd : decode cc pc = .ok (.ishr, 1)) (k : xGo p l e R s m args below meth c cells slots Q d nL I (pc + 1) ls ((0, xshr x y) :: st) M) : xGo p l e R s m args below meth c cells slots Q d nL I pc ls ((0, y) :: (0, x) :: st) M :=
  fun lsm H locs hf hs hI => lv_ishr hx hb hd (by
    rw [xi_shr y (xok_h (xok_t hs))]
    exact k lsm H locs hf (xok_c (xshr_in y (xok_h (xok_t hs))) (xok_t (xok_t hs))) hI)
theorem xs_iushr (hx : p.tables.exec = Jvm.exec) (hb : c.code = cc) {x y : Int} (hd : decode cc pc = .ok (.iushr, 1)) (k : xGo p l e R s m args below meth c cells slots Q d nL I (pc + 1) ls ((0, xushr x y) :: st) M) : xGo p l e R s m args below meth c cells slots Q d nL I pc ls ((0, y) :: (0, x) :: st) M :=
  fun lsm H locs hf hs hI => lv_iushr hx hb hd (xi_ushr x y) (k lsm H locs hf (xok_c (xushr_in x y) (xok_t (xok_t hs))) hI)
theorem xs_irem (hx : p.tables.exec = Jvm.exec) (hb : c.code = cc) {x y : Int} (hd : decode cc pc = .ok (.irem, 1)) (hy : y ≠ 0) (k : xGo p l e R s m args below meth c cells slots Q d nL I (pc + 1) ls ((0, xrem x y) :: st) M) : xGo p l e R s m args below meth c cells slots Q d nL I pc ls ((0, y) :: (0, x) :: st) M :=
  fun lsm H locs hf hs hI => lv_irem hx hb hd (fun h => hy ((xi_eq (xok_h hs) (show x32 0 by constructor <;> decide)).mp h)) (by
    rw [xi_rem (xok_h (xok_t hs)) (xok_h hs)]
    exact k lsm H locs hf (xok_c (xrem_in y (xok_h (xok_t hs))) (xok_t (xok_t hs))) hI)
theorem xs_idiv (hx : p.tables.exec = Jvm.exec) (hb : c.code = cc) {x y : Int} (hd : decode cc pc = .ok (.idiv, 1)) (hy : y ≠ 0) (k : xGo p l e R s m args below meth c cells slots Q d nL I (pc + 1) ls ((0, xdiv x y) :: st) M) : xGo p l e R s m args below meth c cells slots Q d nL I pc ls ((0, y) :: (0, x) :: st) M :=
  fun lsm H locs hf hs hI => lv_idiv hx hb hd (fun h => hy ((xi_eq (xok_h hs) (show x32 0 by constructor <;> decide)).mp h)) (by
    rw [xi_div (xok_h (xok_t hs)) (xok_h hs)]
    exact k lsm H locs hf (xok_c (xdiv_in2 x y) (xok_t (xok_t hs))) hI)
theorem xs_ladd (hx : p.tables.exec = Jvm.exec) (hb : c.code = cc) {x y : Int} (hd : decode cc pc = .ok (.ladd, 1)) (k : xGo p l e R s m args below meth c cells slots Q d nL I (pc + 1) ls ((1, xw64 (x + y)) :: st) M) : xGo p l e R s m args below meth c cells slots Q d nL I pc ls ((1, y) :: (1, x) :: st) M :=
  fun lsm H locs hf hs hI => lv_ladd hx hb hd (by
    rw [xl_add x y]
    exact k lsm H locs hf (xok_c (xl_in _) (xok_t (xok_t hs))) hI)
theorem xs_lsub (hx : p.tables.exec = Jvm.exec) (hb : c.code = cc) {x y : Int} (hd : decode cc pc = .ok (.lsub, 1)) (k : xGo p l e R s m args below meth c cells slots Q d nL I (pc + 1) ls ((1, xw64 (x - y)) :: st) M) : xGo p l e R s m args below meth c cells slots Q d nL I pc ls ((1, y) :: (1, x) :: st) M :=
  fun lsm H locs hf hs hI => lv_lsub hx hb hd (by
    rw [xl_sub x y]
    exact k lsm H locs hf (xok_c (xl_in _) (xok_t (xok_t hs))) hI)
theorem xs_lmul (hx : p.tables.exec = Jvm.exec) (hb : c.code = cc) {x y : Int} (hd : decode cc pc = .ok (.lmul, 1)) (k : xGo p l e R s m args below meth c cells slots Q d nL I (pc + 1) ls ((1, xw64 (x * y)) :: st) M) : xGo p l e R s m args below meth c cells slots Q d nL I pc ls ((1, y) :: (1, x) :: st) M :=
  fun lsm H locs hf hs hI => lv_lmul hx hb hd (by
    rw [xl_mul x y]
    exact k lsm H locs hf (xok_c (xl_in _) (xok_t (xok_t hs))) hI)
theorem xs_land (hx : p.tables.exec = Jvm.exec) (hb : c.code = cc) {x y : Int} (hd : decode cc pc = .ok (.land, 1)) (k : xGo p l e R s m args below meth c cells slots Q d nL I (pc + 1) ls ((1, xandL x y) :: st) M) : xGo p l e R s m args below meth c cells slots Q d nL I pc ls ((1, y) :: (1, x) :: st) M :=
  fun lsm H locs hf hs hI => lv_land hx hb hd (by
    rw [xl_and x y]
    exact k lsm H locs hf (xok_c (xandL_in x y) (xok_t (xok_t hs))) hI)
theorem xs_lor (hx : p.tables.exec = Jvm.exec) (hb : c.code = cc) {x y : Int} (hd : decode cc pc = .ok (.lor, 1)) (k : xGo p l e R s m args below meth c cells slots Q d nL I (pc + 1) ls ((1, xorL x y) :: st) M) : xGo p l e R s m args below meth c cells slots Q d nL I pc ls ((1, y) :: (1, x) :: st) M :=
  fun lsm H locs hf hs hI => lv_lor hx hb hd (by
    rw [xl_or x y]
    exact k lsm H locs hf (xok_c (xorL_in x y) (xok_t (xok_t hs))) hI)
theorem xs_lxor (hx : p.tables.exec = Jvm.exec) (hb : c.code = cc) {x y : Int} (hd : decode cc pc = .ok (.lxor, 1)) (k : xGo p l e R s m args below meth c cells slots Q d nL I (pc + 1) ls ((1, xxorL x y) :: st) M) : xGo p l e R s m args below meth c cells slots Q d nL I pc ls ((1, y) :: (1, x) :: st) M :=
  fun lsm H locs hf hs hI => lv_lxor hx hb hd (by
    rw [xl_xor x y]
    exact k lsm H locs hf (xok_c (xxorL_in x y) (xok_t (xok_t hs))) hI)
theorem xs_lrem (hx : p.tables.exec = Jvm.exec) (hb : c.code = cc) {x y : Int} (hd : decode cc pc = .ok (.lrem, 1)) (hy : y ≠ 0) (k : xGo p l e R s m args below meth c cells slots Q d nL I (pc + 1) ls ((1, xrem x y) :: st) M) : xGo p l e R s m args below meth c cells slots Q d nL I pc ls ((1, y) :: (1, x) :: st) M :=
  fun lsm H locs hf hs hI => lv_lrem hx hb hd (fun h => hy ((xl_eq (xok_h hs) (show x64 0 by constructor <;> decide)).mp h)) (by
    rw [xl_rem (xok_h (xok_t hs)) (xok_h hs)]
    exact k lsm H locs hf (xok_c (xremL_in y (xok_h (xok_t hs))) (xok_t (xok_t hs))) hI)
theorem xs_ldiv (hx : p.tables.exec = Jvm.exec) (hb : c.code = cc) {x y : Int} (hd : decode cc pc = .ok (.ldiv, 1)) (hy : y ≠ 0) (k : xGo p l e R s m args below meth c cells slots Q d nL I (pc + 1) ls ((1, xdivL x y) :: st) M) : xGo p l e R s m args below meth c cells slots Q d nL I pc ls ((1, y) :: (1, x) :: st) M :=
  fun lsm H locs hf hs hI => lv_ldiv hx hb hd (fun h => hy ((xl_eq (xok_h hs) (show x64 0 by constructor <;> decide)).mp h)) (by
    rw [xl_div (xok_h (xok_t hs)) (xok_h hs)]
    exact k lsm H locs hf (xok_c (xdivL_in x y) (xok_t (xok_t hs))) hI)
theorem xs_lshl (hx : p.tables.exec = Jvm.exec) (hb : c.code = cc) {x y : Int} (hd : decode cc pc = .ok (.lshl, 1)) (k : xGo p l e R s m args below meth c cells slots Q d nL I (pc + 1) ls ((1, xshlL x y) :: st) M) : xGo p l e R s m args below meth c cells slots Q d nL I pc ls ((0, y) :: (1, x) :: st) M :=
  fun lsm H locs hf hs hI => lv_lshl hx hb hd (xl_shl x (xok_h hs)) (k lsm H locs hf (xok_c (xshlL_in x y) (xok_t (xok_t hs))) hI)
theorem xs_lushr (hx : p.tables.exec = Jvm.exec) (hb : c.code = cc) {x y : Int} (hd : decode cc pc = .ok (.lushr, 1)) (k : xGo p l e R s m args below meth c cells slots Q d nL I (pc + 1) ls ((1, xushrL x y) :: st) M) : xGo p l e R s m args below meth c cells slots Q d nL I pc ls ((0, y) :: (1, x) :: st) M :=
  fun lsm H locs hf hs hI => lv_lushr hx hb hd (xl_ushr x (xok_h hs)) (k lsm H locs hf (xok_c (xushrL_in x y) (xok_t (xok_t hs))) hI)
theorem xs_lcmp (hx : p.tables.exec = Jvm.exec) (hb : c.code = cc) {x y : Int} (hd : decode cc pc = .ok (.lcmp, 1)) (k : xGo p l e R s m args below meth c cells slots Q d nL I (pc + 1) ls ((0, xcmpL x y) :: st) M) : xGo p l e R s m args below meth c cells slots Q d nL I pc ls ((1, y) :: (1, x) :: st) M :=
  fun lsm H locs hf hs hI => W.lcmp hx hb hd (by
    rw [xl_cmp (xok_h (xok_t hs)) (xok_h hs)]
    exact k lsm H locs hf (xok_c (xcmp_in x y) (xok_t (xok_t hs))) hI)
theorem xs_i2l (hx : p.tables.exec = Jvm.exec) (hb : c.code = cc) {x : Int} (hd : decode cc pc = .ok (.i2l, 1)) (k : xGo p l e R s m args below meth c cells slots Q d nL I (pc + 1) ls ((1, x) :: st) M) : xGo p l e R s m args below meth c cells slots Q d nL I pc ls ((0, x) :: st) M :=
  fun lsm H locs hf hs hI => lv_i2l hx hb hd (xc_i2l (xok_h hs)) (k lsm H locs hf (xok_c ((show x64 x from ⟨by have := (show x32 x from xok_h hs); omega, by have := (show x32 x from xok_h hs); omega⟩)) (xok_t hs)) hI)
theorem xs_l2i (hx : p.tables.exec = Jvm.exec) (hb : c.code = cc) {x : Int} (hd : decode cc pc = .ok (.l2i, 1)) (k : xGo p l e R s m args below meth c cells slots Q d nL I (pc + 1) ls ((0, xw32 x) :: st) M) : xGo p l e R s m args below meth c cells slots Q d nL I pc ls ((1, x) :: st) M :=
  fun lsm H locs hf hs hI => lv_l2i hx hb hd (xc_l2i x) (k lsm H locs hf (xok_c (xi_in x) (xok_t hs)) hI)
theorem xs_i2b (hx : p.tables.exec = Jvm.exec) (hb : c.code = cc) {x : Int} (hd : decode cc pc = .ok (.i2b, 1)) (k : xGo p l e R s m args below meth c cells slots Q d nL I (pc + 1) ls ((0, xw8 x) :: st) M) : xGo p l e R s m args below meth c cells slots Q d nL I pc ls ((0, x) :: st) M :=
  fun lsm H locs hf hs hI => lv_i2b hx hb hd (xc_i2b x) (k lsm H locs hf (xok_c (xw8_in x) (xok_t hs)) hI)
theorem xs_i2s (hx : p.tables.exec = Jvm.exec) (hb : c.code = cc) {x : Int} (hd : decode cc pc = .ok (.i2s, 1)) (k : xGo p l e R s m args below meth c cells slots Q d nL I (pc + 1) ls ((0, xw16 x) :: st) M) : xGo p l e R s m args below meth c cells slots Q d nL I pc ls ((0, x) :: st) M :=
  fun lsm H locs hf hs hI => lv_i2s hx hb hd (xc_i2s x) (k lsm H locs hf (xok_c (xw16_in x) (xok_t hs)) hI)
theorem xs_if_eq (hx : p.tables.exec = Jvm.exec) (hb : c.code = cc) {x off : Int} {t : Nat} (hd : decode cc pc = .ok (.ifCond .eq off, 3)) (ht : (pc : Int) + off = (t : Int)) (k : xGo p l e R s m args below meth c cells slots Q d nL I (if x = 0 then t else pc + 3) ls st M) : xGo p l e R s m args below meth c cells slots Q d nL I pc ls ((0, x) :: st) M := by
  intro lsm H locs hf hs hI
  have h2 := k lsm H locs hf (xok_t hs) hI
  have iff := xi_eq (xok_h hs) (show x32 0 by constructor <;> decide)
  refine lv_if_eq hx hb hd ht (fun h => ?_) (fun h => ?_)
  · have h3 := iff.mp h
    first | rw [if_pos h3] at h2 | rw [if_neg (by omega)] at h2
    exact h2
  · have h3 := fun q => h (iff.mpr q)
    first | rw [if_neg h3] at h2 | rw [if_pos (by omega)] at h2
    exact h2
theorem xs_icmp_eq (hx : p.tables.exec = Jvm.exec) (hb : c.code = cc) {x y off : Int} {t : Nat} (hd : decode cc pc = .ok (.if_icmp .eq off, 3)) (ht : (pc : Int) + off = (t : Int)) (k : xGo p l e R s m args below meth c cells slots Q d nL I (if x = y then t else pc + 3) ls st M) : xGo p l e R s m args below meth c cells slots Q d nL I pc ls ((0, y) :: (0, x) :: st) M := by
  intro lsm H locs hf hs hI
  have h2 := k lsm H locs hf (xok_t (xok_t hs)) hI
  have iff := xi_eq (xok_h (xok_t hs)) (xok_h hs)
  refine lv_icmp_eq hx hb hd ht (fun h => ?_) (fun h => ?_)
  · have h3 := iff.mp h
    first | rw [if_pos h3] at h2 | rw [if_neg (by omega)] at h2
    exact h2
  · have h3 := fun q => h (iff.mpr q)
    first | rw [if_neg h3] at h2 | rw [if_pos (by omega)] at h2
    exact h2
theorem xs_if_ne (hx : p.tables.exec = Jvm.exec) (hb : c.code = cc) {x off : Int} {t : Nat} (hd : decode cc pc = .ok (.ifCond .ne off, 3)) (ht : (pc : Int) + off = (t : Int)) (k : xGo p l e R s m args below meth c cells slots Q d nL I (if x = 0 then pc + 3 else t) ls st M) : xGo p l e R s m args below meth c cells slots Q d nL I pc ls ((0, x) :: st) M := by
  intro lsm H locs hf hs hI
  have h2 := k lsm H locs hf (xok_t hs) hI
  have iff := xi_eq (xok_h hs) (show x32 0 by constructor <;> decide)
  refine lv_if_ne hx hb hd ht (fun h => ?_) (fun h => ?_)
  · have h3 := fun q => h (iff.mpr q)
    rw [if_neg h3] at h2
    exact h2
  · have h3 := iff.mp h
    rw [if_pos h3] at h2
    exact h2
theorem xs_icmp_ne (hx : p.tables.exec = Jvm.exec) (hb : c.code = cc) {x y off : Int} {t : Nat} (hd : decode cc pc = .ok (.if_icmp .ne off, 3)) (ht : (pc : Int) + off = (t : Int)) (k : xGo p l e R s m args below meth c cells slots Q d nL I (if x = y then pc + 3 else t) ls st M) : xGo p l e R s m args below meth c cells slots Q d nL I pc ls ((0, y) :: (0, x) :: st) M := by
  intro lsm H locs hf hs hI
  have h2 := k lsm H locs hf (xok_t (xok_t hs)) hI
  have iff := xi_eq (xok_h (xok_t hs)) (xok_h hs)
  refine lv_icmp_ne hx hb hd ht (fun h => ?_) (fun h => ?_)
  · have h3 := fun q => h (iff.mpr q)
    rw [if_neg h3] at h2
    exact h2
  · have h3 := iff.mp h
    rw [if_pos h3] at h2
    exact h2
theorem xs_if_lt (hx : p.tables.exec = Jvm.exec) (hb : c.code = cc) {x off : Int} {t : Nat} (hd : decode cc pc = .ok (.ifCond .lt off, 3)) (ht : (pc : Int) + off = (t : Int)) (k : xGo p l e R s m args below meth c cells slots Q d nL I (if x < 0 then t else pc + 3) ls st M) : xGo p l e R s m args below meth c cells slots Q d nL I pc ls ((0, x) :: st) M := by
  intro lsm H locs hf hs hI
  have h2 := k lsm H locs hf (xok_t hs) hI
  have iff := xi_lt (xok_h hs) (show x32 0 by constructor <;> decide)
  refine lv_if_lt hx hb hd ht (fun h => ?_) (fun h => ?_)
  · have h3 := iff.mp h
    first | rw [if_pos h3] at h2 | rw [if_neg (by omega)] at h2
    exact h2
  · have h3 := fun q => h (iff.mpr q)
    first | rw [if_neg h3] at h2 | rw [if_pos (by omega)] at h2
    exact h2
theorem xs_icmp_lt (hx : p.tables.exec = Jvm.exec) (hb : c.code = cc) {x y off : Int} {t : Nat} (hd : decode cc pc = .ok (.if_icmp .lt off, 3)) (ht : (pc : Int) + off = (t : Int)) (k : xGo p l e R s m args below meth c cells slots Q d nL I (if x < y then t else pc + 3) ls st M) : xGo p l e R s m args below meth c cells slots Q d nL I pc ls ((0, y) :: (0, x) :: st) M := by
  intro lsm H locs hf hs hI
  have h2 := k lsm H locs hf (xok_t (xok_t hs)) hI
  have iff := xi_lt (xok_h (xok_t hs)) (xok_h hs)
  refine lv_icmp_lt hx hb hd ht (fun h => ?_) (fun h => ?_)
  · have h3 := iff.mp h
    first | rw [if_pos h3] at h2 | rw [if_neg (by omega)] at h2
    exact h2
  · have h3 := fun q => h (iff.mpr q)
    first | rw [if_neg h3] at h2 | rw [if_pos (by omega)] at h2
    exact h2
theorem xs_if_ge (hx : p.tables.exec = Jvm.exec) (hb : c.code = cc) {x off : Int} {t : Nat} (hd : decode cc pc = .ok (.ifCond .ge off, 3)) (ht : (pc : Int) + off = (t : Int)) (k : xGo p l e R s m args below meth c cells slots Q d nL I (if x < 0 then pc + 3 else t) ls st M) : xGo p l e R s m args below meth c cells slots Q d nL I pc ls ((0, x) :: st) M := by
  intro lsm H locs hf hs hI
  have h2 := k lsm H locs hf (xok_t hs) hI
  have iff := xi_le (show x32 0 by constructor <;> decide) (xok_h hs)
  refine lv_if_ge hx hb hd ht (fun h => ?_) (fun h => ?_)
  · have h3 := iff.mp h
    rw [if_neg (show ¬ x < 0 by omega)] at h2
    exact h2
  · have h3 := fun q => h (iff.mpr q)
    have h4 := mt iff.mpr h
    rw [if_pos (show x < 0 by omega)] at h2
    exact h2
theorem xs_icmp_ge (hx : p.tables.exec = Jvm.exec) (hb : c.code = cc) {x y off : Int} {t : Nat} (hd : decode cc pc = .ok (.if_icmp .ge off, 3)) (ht : (pc : Int) + off = (t : Int)) (k : xGo p l e R s m args below meth c cells slots Q d nL I (if x < y then pc + 3 else t) ls st M) : xGo p l e R s m args below meth c cells slots Q d nL I pc ls ((0, y) :: (0, x) :: st) M := by
  intro lsm H locs hf hs hI
  have h2 := k lsm H locs hf (xok_t (xok_t hs)) hI
  have iff := xi_le (xok_h hs) (xok_h (xok_t hs))
  refine lv_icmp_ge hx hb hd ht (fun h => ?_) (fun h => ?_)
  · have h3 := iff.mp h
    rw [if_neg (show ¬ x < y by omega)] at h2
    exact h2
  · have h3 := fun q => h (iff.mpr q)
    have h4 := mt iff.mpr h
    rw [if_pos (show x < y by omega)] at h2
    exact h2
theorem xs_if_gt (hx : p.tables.exec = Jvm.exec) (hb : c.code = cc) {x off : Int} {t : Nat} (hd : decode cc pc = .ok (.ifCond .gt off, 3)) (ht : (pc : Int) + off = (t : Int)) (k : xGo p l e R s m args below meth c cells slots Q d nL I (if 0 < x then t else pc + 3) ls st M) : xGo p l e R s m args below meth c cells slots Q d nL I pc ls ((0, x) :: st) M := by
  intro lsm H locs hf hs hI
  have h2 := k lsm H locs hf (xok_t hs) hI
  have iff := xi_lt (show x32 0 by constructor <;> decide) (xok_h hs)
  refine lv_if_gt hx hb hd ht (fun h => ?_) (fun h => ?_)
  · have h3 := iff.mp h
    first | rw [if_pos h3] at h2 | rw [if_neg (by omega)] at h2
    exact h2
  · have h3 := fun q => h (iff.mpr q)
    first | rw [if_neg h3] at h2 | rw [if_pos (by omega)] at h2
    exact h2
theorem xs_icmp_gt (hx : p.tables.exec = Jvm.exec) (hb : c.code = cc) {x y off : Int} {t : Nat} (hd : decode cc pc = .ok (.if_icmp .gt off, 3)) (ht : (pc : Int) + off = (t : Int)) (k : xGo p l e R s m args below meth c cells slots Q d nL I (if y < x then t else pc + 3) ls st M) : xGo p l e R s m args below meth c cells slots Q d nL I pc ls ((0, y) :: (0, x) :: st) M := by
  intro lsm H locs hf hs hI
  have h2 := k lsm H locs hf (xok_t (xok_t hs)) hI
  have iff := xi_lt (xok_h hs) (xok_h (xok_t hs))
  refine lv_icmp_gt hx hb hd ht (fun h => ?_) (fun h => ?_)
  · have h3 := iff.mp h
    first | rw [if_pos h3] at h2 | rw [if_neg (by omega)] at h2
    exact h2
  · have h3 := fun q => h (iff.mpr q)
    first | rw [if_neg h3] at h2 | rw [if_pos (by omega)] at h2
    exact h2
theorem xs_if_le (hx : p.tables.exec = Jvm.exec) (hb : c.code = cc) {x off : Int} {t : Nat} (hd : decode cc pc = .ok (.ifCond .le off, 3)) (ht : (pc : Int) + off = (t : Int)) (k : xGo p l e R s m args below meth c cells slots Q d nL I (if 0 < x then pc + 3 else t) ls st M) : xGo p l e R s m args below meth c cells slots Q d nL I pc ls ((0, x) :: st) M := by
  intro lsm H locs hf hs hI
  have h2 := k lsm H locs hf (xok_t hs) hI
  have iff := xi_le (xok_h hs) (show x32 0 by constructor <;> decide)
  refine lv_if_le hx hb hd ht (fun h => ?_) (fun h => ?_)
  · have h3 := iff.mp h
    rw [if_neg (show ¬ 0 < x by omega)] at h2
    exact h2
  · have h3 := fun q => h (iff.mpr q)
    have h4 := mt iff.mpr h
    rw [if_pos (show 0 < x by omega)] at h2
    exact h2
theorem xs_icmp_le (hx : p.tables.exec = Jvm.exec) (hb : c.code = cc) {x y off : Int} {t : Nat} (hd : decode cc pc = .ok (.if_icmp .le off, 3)) (ht : (pc : Int) + off = (t : Int)) (k : xGo p l e R s m args below meth c cells slots Q d nL I (if y < x then pc + 3 else t) ls st M) : xGo p l e R s m args below meth c cells slots Q d nL I pc ls ((0, y) :: (0, x) :: st) M := by
  intro lsm H locs hf hs hI
  have h2 := k lsm H locs hf (xok_t (xok_t hs)) hI
  have iff := xi_le (xok_h (xok_t hs)) (xok_h hs)
  refine lv_icmp_le hx hb hd ht (fun h => ?_) (fun h => ?_)
  · have h3 := iff.mp h
    rw [if_neg (show ¬ y < x by omega)] at h2
    exact h2
  · have h3 := fun q => h (iff.mpr q)
    have h4 := mt iff.mpr h
    rw [if_pos (show y < x by omega)] at h2
    exact h2
theorem xs_dup (hx : p.tables.exec = Jvm.exec) (hb : c.code = cc) {v : xV} (hd : decode cc pc = .ok (.dup, 1)) (hv : v.1 ≠ 1) (k : xGo p l e R s m args below meth c cells slots Q d nL I (pc + 1) ls (v :: v :: st) M) : xGo p l e R s m args below meth c cells slots Q d nL I pc ls (v :: st) M :=
  fun lsm H locs hf hs hI => lv_dup hx hb hd (by rw [xcw_cat, if_neg hv]) (k lsm H locs hf (xok_c (xok_h hs) hs) hI)
theorem xs_dup2 (hx : p.tables.exec = Jvm.exec) (hb : c.code = cc) {v w : xV} (hd : decode cc pc = .ok (.dup2, 1)) (hv : v.1 ≠ 1) (hw : w.1 ≠ 1) (k : xGo p l e R s m args below meth c cells slots Q d nL I (pc + 1) ls (v :: w :: v :: w :: st) M) : xGo p l e R s m args below meth c cells slots Q d nL I pc ls (v :: w :: st) M :=
  fun lsm H locs hf hs hI => lv_dup2_11 hx hb hd (by rw [xcw_cat, if_neg hv]) (by rw [xcw_cat, if_neg hw]) (k lsm H locs hf (xok_c (xok_h hs) (xok_c (xok_h (xok_t hs)) hs)) hI)
theorem xs_pop (hx : p.tables.exec = Jvm.exec) (hb : c.code = cc) {v : xV} (hd : decode cc pc = .ok (.pop, 1)) (hv : v.1 ≠ 1) (k : xGo p l e R s m args below meth c cells slots Q d nL I (pc + 1) ls st M) : xGo p l e R s m args below meth c cells slots Q d nL I pc ls (v :: st) M :=
  fun lsm H locs hf hs hI => lv_pop hx hb hd (by rw [xcw_cat, if_neg hv]) (k lsm H locs hf (xok_t hs) hI)
theorem xs_goto (hx : p.tables.exec = Jvm.exec) (hb : c.code = cc) {off : Int} {t : Nat} (hd : decode cc pc = .ok (.goto off, 3)) (ht : (pc : Int) + off = (t : Int)) (k : xGo p l e R s m args below meth c cells slots Q d nL I t ls st M) : xGo p l e R s m args below meth c cells slots Q d nL I pc ls st M :=
  fun lsm H locs hf hs hI => lv_goto hx hb hd ht (k lsm H locs hf hs hI)
theorem xs_iinc (hx : p.tables.exec = Jvm.exec) (hb : c.code = cc) {i : Nat} {n x : Int} (hd : decode cc pc = .ok (.iinc i n, 3)) (hg : xget ls i = some (0, x)) (k : xGo p l e R s m args below meth c cells slots Q d nL I (pc + 3) (xset ls i (some (0, xw32 (x + n)))) st M) : xGo p l e R s m args below meth c cells slots Q d nL I pc ls st M := by
  intro lsm H locs hf hs hI
  obtain ⟨j, hj⟩ : ∃ j, (xpr d ls nL)[j]? = some (i, Value.int (Int32.ofInt x)) := List.getElem?_of_mem (xpr_mem (d := d) hf.1 hg)
  refine lv_iinc hx hb hd (xfr_has hf) hj (v := Int32.ofInt (xw32 (x + n))) (xi_add x n) (by rw [← hf.1]; exact xget_lt hg) rfl (fun ls' h' => ?_)
  have h2 := xst1 (v := (0, xw32 (x + n))) hf (by show (0 : Nat) ≠ 1; decide) (xi_in (x + n)) h'
  have e : xsto ls i (0, xw32 (x + n)) = xset (xclr ls i) i (some (0, xw32 (x + n))) := rfl
  rcases xclr_or ls i with h3 | ⟨j', y, rfl, hy⟩
  · rw [e, h3] at h2
    exact k ls' H locs h2 hs hI
  · -- a long just ahead of an int's slot: the frame rules it out
    have h4 := (hf.2.2.2 _ _ hy).1
    have h5 := hf.2.2.1.1 j' _ h4 rfl
    have h6 := (hf.2.2.2 _ _ hg).1
    rw [h5] at h6
    cases h6
end xIns
end
