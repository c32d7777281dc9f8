/-! ===== THE BEGINNING, 9: the two sides agree at first; the law's first steps ===== -/
theorem m0_z {a i : Int} (h2 : a ≠ 2) (h3 : a ≠ 310) (h4 : a ≠ 311) : m0 a i = 0 := by
  unfold m0
  rw [if_neg (by omega), if_neg (by omega), if_neg (by omega)]
theorem xM0_ne {L : Nat} {xs : Nat → Int32} {a : Int} (h : a ≠ 0) (i : Int) : xM0 L xs a i = m0 a i := by
  unfold xM0
  rw [if_neg h]
theorem xM0_z {L : Nat} {xs : Nat → Int32} {a : Int} (h : a ≠ 0) (h2 : a ≠ 2) (h3 : a ≠ 310) (h4 : a ≠ 311) (i : Int) : xM0 L xs a i = 0 := by
  rw [xM0_ne h, m0_z h2 h3 h4]
theorem xWE_0 {V : xM} (hv : ∀ a i : Int, 0 ≤ a → a ≤ 10 → V a i = 0) : xWE V := by
  have e00 := hv 0 0 (by decide) (by decide)
  have e01 := hv 0 1 (by decide) (by decide)
  have e02 := hv 0 2 (by decide) (by decide)
  have e03 := hv 0 3 (by decide) (by decide)
  have e04 := hv 0 4 (by decide) (by decide)
  have e05 := hv 0 5 (by decide) (by decide)
  have e06 := hv 0 6 (by decide) (by decide)
  have e07 := hv 0 7 (by decide) (by decide)
  have z : x32 0 := ⟨by decide, by decide⟩
  refine ⟨⟨by omega, by omega, Or.inl e03, by omega, fun c _ _ => ?_, fun b _ _ => ?_, fun i _ _ => ?_, by rw [e04]; exact z, by rw [e05]; exact z, fun h _ _ => ?_⟩, Or.inl e00, fun h => by omega, fun _ => e01, fun h => by omega, ⟨fun _ => e02, fun _ => e00⟩, by omega, by omega, by omega, ⟨by omega, ?_⟩, by omega, fun c h c0 c1 _ _ hb => ?_, fun h _ _ => Or.inr (Or.inr (hv 10 h (by decide) (by decide)))⟩
  · have f1 := hv 1 c (by decide) (by decide)
    have f2 := hv 2 c (by decide) (by decide)
    have f3 := hv 3 c (by decide) (by decide)
    have f5 := hv 5 c (by decide) (by decide)
    exact ⟨by omega, by omega, fun h => by omega, by omega, by rw [f5]; exact z⟩
  · have f6 := hv 6 b (by decide) (by decide)
    exact ⟨by omega, by omega⟩
  · have f8 := hv 8 i (by decide) (by decide)
    exact ⟨by omega, by omega⟩
  · have f10 := hv 10 h (by decide) (by decide)
    exact ⟨by omega, by omega⟩
  · rw [e05, e00]; decide
  · rw [hv 5 c (by decide) (by decide), xbt_0] at hb
    cases hb
theorem xQ0_0 {M V : xM} (hz : ∀ a i : Int, 316 ≤ a → a ≤ 321 → M a i = 0) (hv : ∀ a i : Int, 0 ≤ a → a ≤ 10 → V a i = 0) : xQ0 M 310 0 V := by
  have e06 := hv 0 6 (by decide) (by decide)
  have e07 := hv 0 7 (by decide) (by decide)
  have k := fun (a b i j : Int) (h1 : 316 ≤ a) (h2 : a ≤ 321) (h3 : 0 ≤ b) (h4 : b ≤ 10) => (hz a i h1 h2).trans (hv b j h3 h4).symm
  refine ⟨⟨⟨k _ _ _ _ (by decide) (by decide) (by decide) (by decide), k _ _ _ _ (by decide) (by decide) (by decide) (by decide), k _ _ _ _ (by decide) (by decide) (by decide) (by decide), k _ _ _ _ (by decide) (by decide) (by decide) (by decide), k _ _ _ _ (by decide) (by decide) (by decide) (by decide), k _ _ _ _ (by decide) (by decide) (by decide) (by decide)⟩, fun c c0 c1 => ?_, fun c h c0 c1 h0 h1 => ?_, fun c c0 c1 => ?_, fun i i0 i1 => by omega, fun h h0 h1 => k _ _ _ _ (by decide) (by decide) (by decide) (by decide)⟩, k _ _ _ _ (by decide) (by decide) (by decide) (by decide)⟩
  · refine ⟨k _ _ _ _ (by decide) (by decide) (by decide) (by decide), k _ _ _ _ (by decide) (by decide) (by decide) (by decide), k _ _ _ _ (by decide) (by decide) (by decide) (by decide), k _ _ _ _ (by decide) (by decide) (by decide) (by decide), k _ _ _ _ (by decide) (by decide) (by decide) (by decide), ?_⟩
    rw [hv 0 4 (by decide) (by decide), xbt_0, if_neg Bool.false_ne_true]
    exact hz _ _ (by decide) (by decide)
  · rw [hv 5 c (by decide) (by decide), xbt_0]
    exact ⟨fun h => absurd h Bool.false_ne_true, fun ⟨i, i0, i1, _⟩ => by omega⟩
  · rw [hv 4 c (by decide) (by decide), e06]
    rfl
theorem xM0_Sim (L : Nat) (xs : Nat → Int32) : Sim (xM0 L xs) := by
  have z : ∀ a i : Int, a ≠ 0 → a ≠ 2 → a ≠ 310 → a ≠ 311 → xM0 L xs a i = 0 := fun a i h1 h2 h3 h4 => xM0_z h1 h2 h3 h4 i
  have m : ∀ a i : Int, a ≠ 0 → xM0 L xs a i = m0 a i := fun a i h => xM0_ne h i
  have hv : ∀ a i : Int, 0 ≤ a → a ≤ 10 → xVw (xM0 L xs) 16 a i = 0 := fun a i h0 h1 => z (16 + a) i (by omega) (by omega) (by omega) (by omega)
  have z31 := z 3 1 (by decide) (by decide) (by decide) (by decide)
  refine ⟨⟨?_, by omega, by omega, fun i _ _ => ?_⟩, ⟨?_, ?_, fun i _ _ => ?_⟩, ⟨xWE_0 hv, xQ0_0 (fun a i h1 h2 => z a i (by omega) (by omega) (by omega) (by omega)) hv⟩, fun k _ _ => Or.inl ⟨z 267 k (by decide) (by decide) (by decide) (by decide), z 322 k (by decide) (by decide) (by decide) (by decide)⟩, fun s h0 h1 => Or.inl ⟨z (302 + 2 * s) 0 (by omega) (by omega) (by omega) (by omega), ?_⟩, fun h => ?_⟩
  · rw [z31, m 310 6 (by decide)]; rfl
  · have z4 := z 4 i (by decide) (by decide) (by decide) (by decide)
    have z5 := z 315 i (by decide) (by decide) (by decide) (by decide)
    exact ⟨by omega, by omega, by omega⟩
  · rw [m 2 7 (by decide), m 310 14 (by decide)]; rfl
  · rw [m 2 8 (by decide), m 310 15 (by decide)]; rfl
  · have z4 := z 13 i (by decide) (by decide) (by decide) (by decide)
    exact ⟨by omega, by omega⟩
  · rw [m 311 s (by decide)]
    unfold m0
    rw [if_neg (by omega), if_neg (by omega), if_pos ⟨rfl, h0, h1⟩]
  · have := z 16 0 (by decide) (by decide) (by decide) (by decide)
    omega
theorem bext (cA : Nat → ClassId) (q : Nat → Nat) {L : List bE} (x : bE) (a : Nat) (hL : L.all (bokE L.length) = true) (hx : x.2.2.2 = []) : ∃ q1 : Nat → Nat, (∀ i, i < L.length → q1 i = q i) ∧ q1 L.length = a ∧ bW cA q1 0 (L ++ [x]) = bW cA q 0 L ++ [(a, bcell cA q x)] := by
  have hq : ∀ i, i < L.length → (fun i => if i = L.length then a else q i) i = q i := fun i hi => by
    show (if i = L.length then a else q i) = q i
    rw [if_neg (by omega)]
  have hqn : (fun i => if i = L.length then a else q i) L.length = a := by
    show (if L.length = L.length then a else q L.length) = a
    rw [if_pos rfl]
  refine ⟨fun i => if i = L.length then a else q i, hq, hqn, ?_⟩
  generalize (fun i => if i = L.length then a else q i) = q1 at hq hqn
  rw [bW_app, Nat.zero_add, hqn, bW_ag hq L 0 hL (by omega), bcell_ag hq x (by unfold bokE; rw [hx]; rfl)]
theorem blaw_d0 : decode code 0 = .ok (.new 7, 3) := by decide +kernel
theorem blaw_d3 : decode code 3 = .ok (.dup, 1) := by decide +kernel
theorem blaw_d4 : decode code 4 = .ok (.invokespecial 9, 3) := by decide +kernel
theorem blaw_d7 : decode code 7 = .ok (.astore_n 1, 1) := by decide +kernel
theorem blaw_d8 : decode code 8 = .ok (.new 10, 3) := by decide +kernel
theorem blaw_d11 : decode code 11 = .ok (.dup, 1) := by decide +kernel
theorem blaw_d12 : decode code 12 = .ok (.invokespecial 12, 3) := by decide +kernel
theorem blaw_d15 : decode code 15 = .ok (.astore_n 2, 1) := by decide +kernel
/-- a constructor, called by the law -/
theorem bl_ctor {p : Program} {l : Launch} {e : Env} {s : State} {m : MethodId} {args : Array Value} {below : List Frame} {meth : Method} {c : Code} {Q : State → Prop} {D : va_G} {cA : Nat → ClassId} {A : Nat → Prop} (hx : p.tables.exec = Jvm.exec) (hb : c.code = code) (hml : c.maxLocals = 4) (hown : s.vm.findClass (xCn 12) = some m.cls) (hts : ∀ w ∈ xws, w.before args s = true) (hK : bK D cA s) (hA : ∀ x, s.heap.size ≤ x → A x) {c2 j : Nat} (hc2 : c2 < 12) (hw : Cond.methodLink (xCn 12) j (bnm c2) ∈ xws) {f k2 pc cells slots : Nat} {lsm : Array Slot} {rest : List Value} {H : Heap} {locs : List Loc} {q : Nat → Nat} {L L2 : List bE} (hrun : bRun f c2 k2 0 none [] L (bmc c2) (bms c2) = some L2) (hd : decode code pc = .ok (.invokespecial j, 3)) (hls : lsm.size = 4) (hcat : (rest.map fun v => v.category).sum ≤ 8) (hcl : cells + bmc c2 ≤ room_1.cells) (hsl : slots + bms c2 ≤ room_1.slots) (hR2 : bfr c2 + 1 ≤ room_1.frames ∧ 8 + (bml c2 + 11) + brl c2 ≤ room_1.locals) (hH : bH D cA A s q L H locs)
    (kk : ∀ (q2 : Nat → Nat) (H1 : Heap) (locs1 : List Loc), (∀ i, i < L.length → q2 i = q i) → bH D cA A s q2 L2 H1 locs1 → W p l e room_1 s m args below meth c H1 locs1 (cells + bmc c2) (slots + bms c2) Q (F0 m (pc + 3) lsm rest)) : W p l e room_1 s m args below meth c H locs cells slots Q (F0 m pc lsm (.ref (q k2) :: rest)) := by
  obtain ⟨hP, hD, hS⟩ := hH
  obtain ⟨w1, w2, w3, w4, w5⟩ := bw_ps hc2
  have hpre : PreS s H (bPc D cA A k2 q L) (.ref (q k2) :: []) := ⟨bPc_blind, fun U hU hW => ⟨rfl, by rw [hU]; exact hP, hD, fun x hx => hA x (by rw [hU] at hx; exact Nat.le_trans hS.1 hx), bK_go hK hW⟩⟩
  have hMet := (bsound (l := l) (D := D) (cA := cA) (A := A) f).1 c2 k2 L L2 hrun hc2 q
  refine bcall (q := q) (L2 := L2) (n := L.length) (a := (Value.ref (q k2) :: []).toArray) (mc := bmc c2) (ms := bms c2) ?_ hS (fun q2 H1 locs1 ha hH1 => kk q2 H1 locs1 ha hH1)
  exact va_runI (own := xCn 12) (index := j) (cc := code) (nL := 4) (As := []) (rest := rest) ⟨hx, hb, hml, hown, hts⟩ hMet (cwI 0 hts (bgood hc2) rfl rfl rfl (hts _ w2) (hts _ hw) (hts _ w1) rfl w4 hR2) hpre rfl rfl hls rfl (lv_room hcat) hd ⟨hcl, hsl⟩
theorem xvok_0 : xokv (53, 0) := by show xval 51 0; unfold xval; decide +kernel
theorem xvok_1 : xokv (2, 1) := by show xval 0 1; unfold xval; decide +kernel
theorem xvok_2 : xokv (13, 310) := by show xval 11 310; unfold xval; decide +kernel
theorem xmb_law : xmb 296 = code := rfl
theorem xml_law : xml 296 = 4 := rfl
/-- from pc 16 of the law, both objects made -/
theorem whole_run {p : Program} {l : Launch} {e : Env} {s : State} {m : MethodId} {below : List Frame} {meth : Method} {c : Code} {b L : Nat} {xs : Nat → Int32} (hL : L ≤ 3072) (hx : p.tables.exec = Jvm.exec) (hb : c.code = code) (hr : meth.sig.returnType = ret) (hml : c.maxLocals = 4) (hown : s.vm.findClass (xCn 12) = some m.cls) (htx : ∀ w ∈ xws, w.before #[Value.ref b] s = true) (hlocks : meth.locks = false) {D : va_G} {cA : Nat → ClassId} {d : xAd} {adV : Nat → Nat} (hKs : xKs D cA d adV (fun q => s.heap.size ≤ q) L xs s s.heap) (hap : xap (fun q => s.heap.size ≤ q) d) {ls : Array Slot} (hl : lv_has ls 4 [(2, .ref (d.1 310)), (1, .ref (d.1 1)), (0, .ref d.2.2.2)]) {H : Heap} {locs : List Loc} (hP : va_P D xcl (xwd cA d (xM0 L xs)) H) (hS : va_S (fun q => s.heap.size ≤ q) s.heap H locs) : W p l e room_1 s m #[Value.ref b] below meth c H locs 600000 7302250 (lw_Z below #[Value.ref b] s) (F0 m 16 ls []) := by
  have hlen : xM0 L xs 0 4000 = (L : Int) := (xM0_sc hL).1
  obtain ⟨M', hev⟩ := law_true (xM0 L xs 0) (L : Int) (by omega) (by omega) hlen (fun j h0 h1 => by
    have e := (xM0_sc (xs := xs) hL).2 j.toNat (by omega)
    rw [show ((j.toNat : Nat) : Int) = j by omega] at e
    rw [e]
    exact ⟨Int32.le_toInt _, Int32.toInt_lt _⟩) (xM0_Sim L xs) rfl
  have hev2 : xEv (296, 16, [some (53, 0), some (2, 1), some (13, 310), none], [], xM0 L xs) (some (0, 1), M') := xEvG_n xml xfetch 2 (y := (296, 18, [some (53, 0), some (2, 1), some (13, 310), some (0, 0)], [], xM0 L xs)) rfl trivial hev
  obtain ⟨f, hf⟩ := hev2
  refine (xsound hap (by omega) xprim f).2 296 (by decide) p e room_1 s m _ below meth c 600000 7302250 _ (some (0, 1), M') ⟨hx, hb, hml, hown, htx, hKs, by decide, by decide, Nat.le_refl _, Nat.le_refl _⟩ ?_ 16 _ [] _ hf ls H locs ?_ (fun v hv => by cases hv) ⟨hP, hS, xM0_rg hL, xM0_sc hL⟩
  · intro pc lsm H1 locs1 i hI _ hd hok
    have hi : i = .ireturn := by
      rcases hok with ⟨h, -⟩ | ⟨h, -⟩ | ⟨-, h, -⟩ | ⟨-, ⟨t, h⟩, -⟩ | ⟨-, h, -⟩
      · exact h
      · exact h
      · cases h
      · cases h
      · cases h
    subst hi
    refine va_forget (fun q hq => hI.2.1.2.2 q hq) ?_
    exact lw_ret hx hb hr hlocks hd
  · refine ⟨rfl, hl.1, hl.2.1, fun i v hv => ?_⟩
    match i, hv with
    | 0, hv => cases hv; exact ⟨lv_at hl 2 rfl, xvok_0⟩
    | 1, hv => cases hv; exact ⟨lv_at hl 1 rfl, xvok_1⟩
    | 2, hv => cases hv; exact ⟨lv_at hl 0 rfl, xvok_2⟩
    | 3, hv => cases hv
    | i + 4, hv => cases hv
/-- YOUR PART: from the entry, for every script of at most 3072 ints, the law comes to its end with true ('hflags': the launch's flags, for a law that throws: no stack traces) -/
theorem whole_start {p : Program} {e : Env} {s : State} {m : MethodId} {below : List Frame} {meth : Method} {c : Code} (l : Launch) (hflags : l.flags = flags0) {b L : Nat} {xs : Nat → Int32} (hL : L ≤ 3072) (C0 : lw_At p s m meth c b L xs) : W p l e room_1 s m #[Value.ref b] below meth c s.heap [] 0 0 (lw_Z below #[Value.ref b] s) (entryFrame m ([Value.ref b] : List Value).toArray 4) := by
  obtain ⟨hx, hb, hr, hml, hown, hts, hX, hbl, hlocks, hgv⟩ := C0
  have htx := bws (c := 0) hts
  have hown : s.vm.findClass (xCn 12) = some m.cls := hown
  obtain ⟨D, cA, hK⟩ := bKof hts
  obtain ⟨adK, adV, tl, hKs⟩ := bKs hts hgv hX hbl hK
  obtain ⟨L1, L2, hr1, hn1, hok1, hr2, hn2, hc⟩ := bfin
  have hA : ∀ x, s.heap.size ≤ x → (fun q => s.heap.size ≤ q) x := fun _ h => h
  have hl0 := lv_entry ([.ref b] : List Value) (n := 4) (by show 1 ≤ 4; decide)
  rw [lg_entry_eq]
  generalize ((lg_sl [Value.ref b] ++ List.replicate (4 - (lg_sl [Value.ref b]).length) Slot.unset).toArray) = ls0 at hl0 ⊢
  have hl0 : lv_has ls0 4 [(0, .ref b)] := hl0
  have hH0 : bH D cA (fun q => s.heap.size ≤ q) s (fun _ => 0) [] s.heap [] := ⟨(fun k x h => by cases h), ⟨(fun i j p q h => by cases h), (fun k q h => by cases h)⟩, va_S.rf⟩
  refine bs_new (c2 := 0) (j := 7) (own := xCn 12) (cc := code) hx hb hown htx hK.1 hA (by decide) blawn.1 blaw_d0 hH0 (by decide) (by decide) (fun a H1 p1 p2 p3 => ?_)
  obtain ⟨q1, -, hqa, hbW⟩ := bext cA (fun _ => 0) (L := []) (0, 0, 0, []) a rfl rfl
  rw [← hbW] at p1 p2
  have hqa : q1 0 = a := hqa
  subst hqa
  refine lv_dup hx hb blaw_d3 rfl ?_
  refine bl_ctor (q := q1) (c2 := 0) (j := 9) (k2 := 0) (pc := 4) (L := [(0, 0, 0, [])]) (rest := [.ref (q1 0)]) hx hb hml hown htx hK hA (by decide) blawl.1 hr1 blaw_d4 hl0.1 (by show 1 ≤ 8; decide) (by decide) (by decide) ⟨by decide, by decide⟩ ⟨p1, p2, p3⟩ (fun q2 H2 locs2 hag2 hH2 => ?_)
  rw [← hag2 0 (by decide)]
  refine lv_astore_n (lv' := [(1, .ref (q2 0)), (0, .ref b)]) hx hb blaw_d7 rfl hl0 (by decide) rfl (fun ls1 hl1 => ?_)
  refine bs_new (c2 := 11) (j := 10) (own := xCn 12) (cc := code) hx hb hown htx hK.1 hA (by decide) blawn.2 blaw_d8 hH2 (by decide) (by decide) (fun a2 H3 p4 p5 p6 => ?_)
  obtain ⟨q3, hag3, hqa3, hbW3⟩ := bext cA q2 (L := L1) (0, 11, 0, []) a2 (by rw [hn1]; exact hok1) rfl
  rw [← hbW3] at p4 p5
  rw [hn1] at hqa3 hag3
  subst hqa3
  refine lv_dup hx hb blaw_d11 rfl ?_
  refine bl_ctor (q := q3) (c2 := 11) (j := 12) (k2 := 309) (pc := 12) (L := L1 ++ [(0, 11, 0, [])]) (rest := [.ref (q3 309)]) hx hb hml hown htx hK hA (by decide) blawl.2 hr2 blaw_d12 hl1.1 (by show 1 ≤ 8; decide) (by decide) (by decide) ⟨by decide, by decide⟩ ⟨p4, p5, p6⟩ (fun q4 H4 locs4 hag4 hH4 => ?_)
  rw [List.length_append, hn1] at hag4
  rw [← hag4 309 (by decide)]
  refine lv_astore_n (lv' := [(2, .ref (q4 309)), (1, .ref (q2 0)), (0, .ref b)]) hx hb blaw_d15 rfl hl1 (by decide) rfl (fun ls2 hl2 => ?_)
  rw [← hag3 0 (by decide), ← hag4 0 (by decide)] at hl2
  obtain ⟨p7, p8, p9⟩ := hH4
  refine W.widen (k := 600000) (n := 7302250) (by decide) (by decide) ?_
  have hd : ∀ i : Nat, i < 329 → (fun a : Int => q4 (a - 1).toNat) ((i : Int) + 1) = q4 i := fun i _ => by
    show q4 ((i : Int) + 1 - 1).toNat = q4 i
    rw [show ((i : Int) + 1 - 1).toNat = i by omega]
  have hg : ∀ j, j < 329 → ∃ e, (bW cA q4 0 L2)[j]? = some (q4 j, e) := fun j hj => by
    obtain ⟨e, he, -⟩ := hc j hj
    exact ⟨_, bW_get0 he⟩
  have hP := bwd (D := D) (cA := cA) (q := q4) (d := (fun a : Int => q4 (a - 1).toNat, adK, tl, b)) (M := xM0 L xs) hc p7 hd (fun a i h => xM0_ne h i)
  have hap : xap (fun q => s.heap.size ≤ q) (fun a : Int => q4 (a - 1).toNat, adK, tl, b) := by
    refine ⟨fun x y h1 h2 h3 h4 he => ?_, fun x h1 h2 => ?_⟩
    · obtain ⟨e1, g1⟩ := hg (x - 1).toNat (by omega)
      obtain ⟨e2, g2⟩ := hg (y - 1).toNat (by omega)
      have := p8.1 _ _ _ _ g1 g2 he
      omega
    · obtain ⟨e1, g1⟩ := hg (x - 1).toNat (by omega)
      exact p8.2 _ _ g1
  exact whole_run hL hx hb hr hml hown htx hlocks (hKs _) hap hl2 hP p9
