/-! ===== THE BEGINNING, 4: soundness of the builder machine ===== -/
noncomputable section
theorem bfr_1 : ∀ {c : Nat}, c < 12 → 1 ≤ bfr c := by
  intro c h
  exact (show ∀ c, c < 12 → 1 ≤ bfr c by decide) c h
theorem bfr_2 : ∀ {c : Nat}, c < 12 → 12 ≤ brl c := by
  intro c h
  exact (show ∀ c, c < 12 → 12 ≤ brl c by decide) c h
theorem bml_1 : ∀ {c : Nat}, c < 12 → 1 ≤ bml c := by
  intro c h
  exact (show ∀ c, c < 12 → 1 ≤ bml c by decide) c h
section bMain
variable {c : Nat}
variable {p : Program} {l : Launch} {e : Env} {R : Room} {s : State} {mid : MethodId} {args : Array Value} {below : List Frame} {meth : Method} {cd : Code} {Q : State → Prop} {D : va_G} {cA : Nat → ClassId} {A : Nat → Prop}
theorem bs_ctor (C : bCx D cA A c p R s mid args meth cd) (hc : c < 12) {f : Nat} (hCon : bCon l D cA A f) {k2 j pc cells slots : Nat} {lsm : Array Slot} {rest : List Value} {H : Heap} {locs : List Loc} {q : Nat → Nat} {L L2 : List bE} {e5 : Nat × Nat × Nat × Nat × Nat} (he : bfind bCt c j = some e5) (hrun : bRun f e5.2.2.1 k2 0 none [] L (bmc e5.2.2.1) (bms e5.2.2.1) = some L2) (hd : decode (bcode c) pc = .ok (.invokespecial j, 3)) (hls : lsm.size = bml c) (hcat : (rest.map fun v => v.category).sum ≤ 8) (hcl : cells + bmc e5.2.2.1 ≤ R.cells) (hsl : slots + bms e5.2.2.1 ≤ R.slots) (hro : bfr e5.2.2.1 + 1 ≤ bfr c ∧ 8 + (bml e5.2.2.1 + 11) + brl e5.2.2.1 ≤ brl c) (hH : bH D cA A s q L H locs)
    (kk : ∀ (q2 : Nat → Nat) (H1 : Heap) (locs1 : List Loc), (∀ i, i < L.length → q2 i = q i) → bH D cA A s q2 L2 H1 locs1 → W p l e R s mid args below meth cd H1 locs1 (cells + bmc e5.2.2.1) (slots + bms e5.2.2.1) Q (F0 mid (pc + 3) lsm rest)) : W p l e R s mid args below meth cd H locs cells slots Q (F0 mid pc lsm (.ref (q k2) :: rest)) := by
  obtain ⟨hx1, hb1, hml, hown, hin, hts, hK, ⟨hf, hlo⟩, -, hA⟩ := C
  obtain ⟨hP, hD, hS⟩ := hH
  obtain ⟨hm, h1, h2⟩ := bfind_ok he
  obtain ⟨hc2, hlk⟩ := bw_ct hm
  obtain ⟨w1, w2, w3, w4, w5⟩ := bw_ps hc2
  have hpre : PreS s H (bPc D cA A k2 q L) (.ref (q k2) :: []) := ⟨bPc_blind, fun U hU hW => ⟨rfl, by rw [hU]; exact hP, hD, fun x hx => hA x (by rw [hU] at hx; exact Nat.le_trans hS.1 hx), bK_go hK hW⟩⟩
  have hR2 : bfr e5.2.2.1 + 1 ≤ R.frames ∧ 8 + (bml e5.2.2.1 + 11) + brl e5.2.2.1 ≤ R.locals := ⟨Nat.le_trans hro.1 hf, Nat.le_trans hro.2 hlo⟩
  have hMet := hCon e5.2.2.1 k2 L L2 hrun hc2 q
  subst h1
  subst h2
  refine bcall (q := q) (L2 := L2) (n := L.length) (a := (Value.ref (q k2) :: []).toArray) (mc := bmc e5.2.2.1) (ms := bms e5.2.2.1) ?_ hS (fun q2 H1 locs1 ha hH1 => kk q2 H1 locs1 ha hH1)
  rcases hlk with ⟨hk2, -⟩ | ⟨-, hw⟩
  · exact va_runIN (own := xCn e5.1) (host := "ConsentDoors") (index := e5.2.1) (cc := bcode e5.1) (nL := bml e5.1) (As := []) (rest := rest) ⟨hx1, hb1, hml, hown, hts⟩ hMet ⟨va_cnB 0 hts (bgood hc2) rfl rfl rfl (hK.2.2 e5 hm hk2) (hts _ w2) w4 hR2, rfl, hts _ w1⟩ hpre rfl rfl hls rfl (lv_room hcat) hd ⟨hcl, hsl⟩
  · exact va_runI (own := xCn e5.1) (index := e5.2.1) (cc := bcode e5.1) (nL := bml e5.1) (As := []) (rest := rest) ⟨hx1, hb1, hml, hown, hts⟩ hMet (cwI 0 hts (bgood hc2) rfl rfl rfl (hts _ w2) (hts _ hw) (hts _ w1) rfl w4 hR2) hpre rfl rfl hls rfl (lv_room hcat) hd ⟨hcl, hsl⟩
theorem bRun_eq (f c k pc : Nat) (o : Option Int) (st : List bV) (L : List bE) (b1 b2 : Nat) : bRun (f + 1) c k pc o st L b1 b2 = (match decode (bcode c) pc with
    | .ok (i, n) => bOne (fun pc o st L b1 b2 => bRun f c k pc o st L b1 b2) (fun c2 a L => bRun f c2 a 0 none [] L (bmc c2) (bms c2)) c k pc o st L b1 b2 i n
    | .error _ => none) := by
  rw [bRun]
  simp only [bfn_eq]
  cases decode (bcode c) pc <;> rfl
set_option maxHeartbeats 4000000 in
theorem bstep {f : Nat} (hCon : bCon l D cA A f) {c : Nat} (hc : c < 12) {k : Nat} {L' : List bE} (C : bCx D cA A c p R s mid args meth cd) (ih : ∀ (pc : Nat) (o : Option Int) (st : List bV) (L : List bE) (b1 b2 : Nat), bRun f c k pc o st L b1 b2 = some L' → bGo p l e R s mid args below meth cd Q D cA A c k L' pc o st L b1 b2) :
    ∀ (pc : Nat) (o : Option Int) (st : List bV) (L : List bE) (b1 b2 : Nat), bRun (f + 1) c k pc o st L b1 b2 = some L' → bGo p l e R s mid args below meth cd Q D cA A c k L' pc o st L b1 b2 := by
  intro pc o st L b1 b2 h q lsm H locs cells slots hR hc1 hc2 hl hH
  obtain ⟨hx, hb, hml, hown, hin, hts, hK, ⟨hf, hlo⟩, ⟨hcR, hsR⟩, hA⟩ := id C
  rw [bRun_eq] at h
  split at h
  · next i n hd =>
    unfold bOne at h
    split at h
    · split at h
      · next hj => exact lv_aload_n hx hb hd hj (bLs_0 hl) (ih _ _ _ _ _ _ h q lsm H locs cells slots hR hc1 hc2 hl hH)
      · cases h
    · split at h
      · next x =>
        split at h
        · next hj => exact lv_iload_n hx hb hd hj (lv_at hl 0 rfl) (ih _ _ _ _ _ _ h q lsm H locs cells slots hR hc1 hc2 hl hH)
        · cases h
      · cases h
    · split at h
      · next x st2 =>
        split at h
        · next hj =>
          cases o with
          | none => exact lv_istore_n (lv' := [(1, .int (Int32.ofInt x)), (0, .ref (q k))]) hx hb hd hj.1 hl hj.2 rfl (fun ls hl2 => ih _ _ _ _ _ _ h q ls H locs cells slots hR hc1 hc2 hl2 hH)
          | some y => exact lv_istore_n (lv' := [(1, .int (Int32.ofInt x)), (0, .ref (q k))]) hx hb hd hj.1 hl hj.2 rfl (fun ls hl2 => ih _ _ _ _ _ _ h q ls H locs cells slots hR hc1 hc2 hl2 hH)
        · cases h
      · cases h
    · split at h
      · next x st2 => exact lv_dup hx hb hd rfl (ih _ _ _ _ _ _ h q lsm H locs cells slots hR hc1 hc2 hl hH)
      · cases h
    · exact lv_iconst hx hb hd rfl (ih _ _ _ _ _ _ h q lsm H locs cells slots hR hc1 hc2 hl hH)
    · next v =>
      split at h
      · next hv =>
        refine lv_bipush hx hb hd (v := Int32.ofInt v) ?_ (ih _ _ _ _ _ _ h q lsm H locs cells slots hR hc1 hc2 hl hH)
        apply Int32.toInt_inj.mp
        rw [xi_to ⟨by omega, by omega⟩, Int8.toInt_toInt32, Int8.toInt_ofInt_of_le hv.1 hv.2]
      · cases h
    · next v =>
      split at h
      · next hv =>
        refine lv_sipush hx hb hd (v := Int32.ofInt v) ?_ (ih _ _ _ _ _ _ h q lsm H locs cells slots hR hc1 hc2 hl hH)
        apply Int32.toInt_inj.mp
        rw [xi_to ⟨by omega, by omega⟩, Int16.toInt_toInt32, Int16.toInt_ofInt_of_le hv.1 hv.2]
      · cases h
    · next j v =>
      split at h
      · next x =>
        split at h
        · next hj =>
          obtain ⟨rfl, hj2⟩ := hj
          exact lv_iinc (v := Int32.ofInt (x + v)) (lv' := [(1, .int (Int32.ofInt (x + v))), (0, .ref (q k))]) hx hb hd hl (k := 0) rfl (by rw [Int32.ofInt_add]) hj2 rfl (fun ls hl2 => ih _ _ _ _ _ _ h q ls H locs cells slots hR hc1 hc2 hl2 hH)
        · cases h
      · cases h
    · next off =>
      split at h
      · next ho => exact lv_goto (tgt := ((pc : Int) + off).toNat) hx hb hd (by omega) (ih _ _ _ _ _ _ h q lsm H locs cells slots hR hc1 hc2 hl hH)
      · cases h
    · next cnd off =>
      split at h
      · next y x st2 =>
        split at h
        · next hj =>
          obtain ⟨⟨g1, g2⟩, ⟨g3, g4⟩, g5⟩ := hj
          split at h
          · have iff := xi_le (x := y) (y := x) ⟨by omega, by omega⟩ ⟨by omega, by omega⟩
            refine lv_icmp_ge (tgt := ((pc : Int) + off).toNat) hx hb hd (by omega) (fun hq => ?_) (fun hq => ?_)
            · rw [if_neg (show ¬ x < y by have := iff.mp hq; omega)] at h
              exact ih _ _ _ _ _ _ h q lsm H locs cells slots hR hc1 hc2 hl hH
            · rw [if_pos (show x < y by have := mt iff.mpr hq; omega)] at h
              exact ih _ _ _ _ _ _ h q lsm H locs cells slots hR hc1 hc2 hl hH
          · have iff := xi_lt (x := y) (y := x) ⟨by omega, by omega⟩ ⟨by omega, by omega⟩
            refine lv_icmp_gt (tgt := ((pc : Int) + off).toNat) hx hb hd (by omega) (fun hq => ?_) (fun hq => ?_)
            · rw [if_pos (iff.mp hq)] at h
              exact ih _ _ _ _ _ _ h q lsm H locs cells slots hR hc1 hc2 hl hH
            · rw [if_neg (mt iff.mpr hq)] at h
              exact ih _ _ _ _ _ _ h q lsm H locs cells slots hR hc1 hc2 hl hH
          · cases h
        · cases h
      · cases h
    · split at h
      · next x st2 =>
        split at h
        · next so ty hb2 =>
          split at h
          · next hj =>
            obtain ⟨g1, ⟨g2, g3⟩, g4⟩ := hj
            rw [bfn_eq, bfl_eq] at h
            refine bs_newa C hb2 hd g1 hH (by omega) (by omega) (fun a H1 p1 p2 p3 => ?_)
            exact bnext (ih _ _ _ _ _ _ h) g4 rfl hR (by omega) (by omega) hl p1 p2 p3
          · cases h
        · cases h
      · cases h
    · split at h
      · next x st2 =>
        split at h
        · next e5 he =>
          split at h
          · next ty hb2 =>
            split at h
            · next hj =>
              obtain ⟨g1, ⟨g2, g3⟩, g4⟩ := hj
              rw [bfn_eq, bfl_eq] at h
              refine bs_anew C he hb2 hd g1 hH (by omega) (by omega) (fun a H1 p1 p2 p3 => ?_)
              exact bnext (ih _ _ _ _ _ _ h) g4 rfl hR (by omega) (by omega) hl p1 p2 p3
            · cases h
          · cases h
        · cases h
      · cases h
    · split at h
      · next e5 he =>
        split at h
        · next hj =>
          obtain ⟨⟨g2, g3⟩, g4⟩ := hj
          obtain ⟨hm, h1, h2⟩ := bfind_ok he
          obtain ⟨hc3, hcl⟩ := bw_nw hm
          rw [h1, h2] at hcl
          rw [bfn_eq, bfl_eq] at h
          refine bs_new hx hb hown hts hK.1 hA hc3 hcl hd hH (by omega) (by omega) (fun a H1 p1 p2 p3 => ?_)
          exact bnext (ih _ _ _ _ _ _ h) g4 rfl hR (by omega) (by omega) hl p1 p2 p3
        · cases h
      · cases h
    · split at h
      · next v a st2 =>
        split at h
        · next e5 c3 n2 u he hL =>
          split at h
          · next hj =>
            obtain ⟨rfl, hf2⟩ := hj
            rw [bfl_eq] at h
            exact bs_put C he hd hL hf2 hH (fun H1 locs1 hH1 => ih _ _ _ _ _ _ h q lsm H1 locs1 cells slots (by rw [List.length_set]; exact hR) hc1 hc2 hl hH1)
          · cases h
        · cases h
      · cases h
    · split at h
      · next a st2 =>
        split at h
        · next e5 c3 n2 u he hL =>
          split at h
          · next hj =>
            subst hj
            exact bs_get C he hd hL hH (ih _ _ _ _ _ _ h q lsm H locs cells slots hR hc1 hc2 hl hH)
          · cases h
        · cases h
      · cases h
    · split at h
      · next v x a st2 =>
        split at h
        · next t n2 u c3 n3 u3 hL hv =>
          split at h
          · next hj =>
            rw [bfl_eq] at h
            exact bs_aast C hd hL hv hj.1 hj.2 hH (fun H1 locs1 hH1 => ih _ _ _ _ _ _ h q lsm H1 locs1 cells slots (by rw [List.length_set]; exact hR) hc1 hc2 hl hH1)
          · cases h
        · cases h
      · cases h
    · split at h
      · next v x a st2 =>
        split at h
        · next n2 u hL =>
          split at h
          · next hj =>
            rw [bfl_eq] at h
            exact bs_iast C hd hL hj hH (fun H1 locs1 hH1 => ih _ _ _ _ _ _ h q lsm H1 locs1 cells slots (by rw [List.length_set]; exact hR) hc1 hc2 hl hH1)
          · cases h
        · cases h
      · cases h
    · split at h
      · next a st2 =>
        split at h
        · next e5 he =>
          split at h
          · obtain ⟨hm, h1, h2⟩ := bfind_ok he
            have hw := bw_oi hm
            rw [h1, h2] at hw
            refine W.objInit hx hb hown (hts _ hw) (hts _ bob.2) (hts _ bob.1) rfl (by rw [hml]; exact bLs_n hl) rfl hd ?_ ?_ ?_
            · exact Nat.le_trans (bfr_1 hc) hf
            · exact Nat.le_trans (bfr_2 hc) hlo
            · exact W.eq (g2 := F0 mid (pc + 3) lsm []) rfl (ih _ _ _ _ _ _ h q lsm H locs cells slots hR hc1 hc2 hl hH)
          · cases h
        · next he0 =>
          split at h
          · next e5 he =>
            split at h
            · next hj =>
              obtain ⟨⟨g1, g2⟩, g3, g4, g5⟩ := hj
              split at h
              · next L2 hrun =>
                split at h
                · next hlen =>
                  obtain ⟨hk, hst, hLa⟩ := bok_of g5
                  refine bs_ctor (k2 := a.toNat) (rest := st2.map (bval q)) C hc hCon he hrun hd (bLs_n hl) (by have := bcat q st2; omega) (by omega) (by omega) g3 hH (fun q2 H1 locs1 hag hH1 => ?_)
                  have h3 := ih _ _ _ _ _ _ h q2 lsm H1 locs1 (cells + bmc e5.2.2.1) (slots + bms e5.2.2.1) (bRk_up hR hlen hag) (by omega) (by omega) (bLs_ag (hag k hk) hl) hH1
                  rw [bst_ag hag st2 hst] at h3
                  exact h3
                · cases h
              · cases h
            · cases h
          · cases h
      · cases h
    · split at h
      · cases h
        exact hR q pc lsm H locs cells slots (fun _ _ => rfl) hH hd (by omega) (by omega)
      · cases h
    · cases h
  · cases h
theorem bret {c : Nat} {L L' : List bE} {q : Nat → Nat} (hx : p.tables.exec = Jvm.exec) (hb : cd.code = bcode c) (hr : meth.sig.returnType = none) (hlocks : meth.locks = false) : bRk p l e R s mid args below meth cd (MQ below (bQc D cA A q L.length L') args s (bmc c) (bms c) A) D cA A c L' L.length q := by
  intro q2 pc lsm H locs cells slots hag hH hd h1 h2
  obtain ⟨hP, hD, hS⟩ := hH
  refine W.widen h1 h2 ?_
  exact W.vret hx hb hr (fun t ht hW => ⟨rfl, hS.F ht, q2, hag, by rw [ht]; exact hP, hD⟩) hS.2.2 hd hlocks
end bMain
theorem bsound {l : Launch} {D : va_G} {cA : Nat → ClassId} {A : Nat → Prop} : ∀ f : Nat, bCon l D cA A f ∧ ∀ (c : Nat), c < 12 → ∀ (k : Nat) (L' : List bE) (p : Program) (e : Env) (R : Room) (s : State) (mid : MethodId) (args : Array Value) (below : List Frame) (meth : Method) (cd : Code) (Q : State → Prop), bCx D cA A c p R s mid args meth cd → ∀ (pc : Nat) (o : Option Int) (st : List bV) (L : List bE) (b1 b2 : Nat), bRun f c k pc o st L b1 b2 = some L' → bGo p l e R s mid args below meth cd Q D cA A c k L' pc o st L b1 b2
  | 0 => by
    refine ⟨?_, ?_⟩
    · intro c k L L' h
      cases h
    · intro c hc k L' p e R s mid args below meth cd Q C pc o st L b1 b2 h
      cases h
  | f + 1 => by
    obtain ⟨hCon, hgo⟩ := bsound (l := l) (D := D) (cA := cA) (A := A) f
    have hstep := fun (c : Nat) (hc : c < 12) (k : Nat) (L' : List bE) (p : Program) (e : Env) (R : Room) (s : State) (mid : MethodId) (args : Array Value) (below : List Frame) (meth : Method) (cd : Code) (Q : State → Prop) (C : bCx D cA A c p R s mid args meth cd) => bstep (l := l) (e := e) (below := below) (Q := Q) (k := k) (L' := L') hCon hc C (fun pc o st L b1 b2 h => hgo c hc k L' p e R s mid args below meth cd Q C pc o st L b1 b2 h)
    refine ⟨fun c k L L' hrun hc q => ?_, hstep⟩
    obtain ⟨w1, w2, w3, w4, w5⟩ := bw_ps hc
    refine Met.ofW (cc := bcode c) (maxL := bml c) (ret := none) w5 rfl ?_
    intro p e s mid args below meth cd s₁ B hml hv
    obtain ⟨rfl, hP, hD, hA, hK⟩ := hv
    have hts := atoms_spec (ws := bwm c) B.pre
    have hown : s.vm.findClass (bnm c).cls = some mid.cls := findClass_of_methodNamed B.named
    have hin : meth.name = "<init>" := (name_of_methodNamed B.named B.method).1
    have hl := lv_entry ([.ref (q k)]) (n := bml c) (bml_1 hc)
    rw [lg_entry_eq]
    exact hstep c hc k L' p e (broom c) s mid _ below meth cd _ ⟨B.exec, B.bytes, hml, hown, hin, fun w hw => hts w (List.mem_cons_of_mem _ hw), hK, ⟨Nat.le_refl _, Nat.le_refl _⟩, ⟨Nat.le_refl _, Nat.le_refl _⟩, hA⟩ 0 none [] L (bmc c) (bms c) hrun q _ s.heap [] 0 0 (bret B.exec B.bytes B.returns B.notSynchronized) (Nat.zero_add _) (Nat.zero_add _) hl ⟨hP, hD, va_S.rf⟩
end
