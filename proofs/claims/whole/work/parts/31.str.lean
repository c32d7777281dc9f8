/-! ===== SOUNDNESS, 11: length() and charAt() of String constants (the JDK's own code) ===== -/
noncomputable section
def yS_coder : MethodName := ⟨"java/lang/String", "coder", "()B"⟩
def yS_isL : MethodName := ⟨"java/lang/String", "isLatin1", "()Z"⟩
def yS_len : MethodName := ⟨"java/lang/String", "length", "()I"⟩
def yS_chr : MethodName := ⟨"java/lang/String", "charAt", "(I)C"⟩
def yS_chk : MethodName := ⟨"java/lang/String", "checkIndex", "(II)V"⟩
def yS_pre : MethodName := ⟨"jdk/internal/util/Preconditions", "checkIndex", "(IILjava/util/function/BiFunction;)I"⟩
def yS_lat : MethodName := ⟨"java/lang/StringLatin1", "charAt", "([BI)C"⟩
theorem dS_co0 : decode prog_17_method_152_code 0 = .ok (.getstatic 38, 3) := by decide +kernel
theorem dS_co3 : decode prog_17_method_152_code 3 = .ok (.ifCond .eq 10, 3) := by decide +kernel
theorem dS_co6 : decode prog_17_method_152_code 6 = .ok (.aload_n 0, 1) := by decide +kernel
theorem dS_co7 : decode prog_17_method_152_code 7 = .ok (.getfield 15, 3) := by decide +kernel
theorem dS_co10 : decode prog_17_method_152_code 10 = .ok (.goto 4, 3) := by decide +kernel
theorem dS_co14 : decode prog_17_method_152_code 14 = .ok (.ireturn, 1) := by decide +kernel
theorem dS_is0 : decode prog_17_method_154_code 0 = .ok (.getstatic 38, 3) := by decide +kernel
theorem dS_is3 : decode prog_17_method_154_code 3 = .ok (.ifCond .eq 14, 3) := by decide +kernel
theorem dS_is6 : decode prog_17_method_154_code 6 = .ok (.aload_n 0, 1) := by decide +kernel
theorem dS_is7 : decode prog_17_method_154_code 7 = .ok (.getfield 15, 3) := by decide +kernel
theorem dS_is10 : decode prog_17_method_154_code 10 = .ok (.ifCond .ne 7, 3) := by decide +kernel
theorem dS_is13 : decode prog_17_method_154_code 13 = .ok (.iconst 1, 1) := by decide +kernel
theorem dS_is14 : decode prog_17_method_154_code 14 = .ok (.goto 4, 3) := by decide +kernel
theorem dS_is18 : decode prog_17_method_154_code 18 = .ok (.ireturn, 1) := by decide +kernel
theorem dS_le0 : decode prog_17_method_54_code 0 = .ok (.aload_n 0, 1) := by decide +kernel
theorem dS_le1 : decode prog_17_method_54_code 1 = .ok (.getfield 9, 3) := by decide +kernel
theorem dS_le4 : decode prog_17_method_54_code 4 = .ok (.arraylength, 1) := by decide +kernel
theorem dS_le5 : decode prog_17_method_54_code 5 = .ok (.aload_n 0, 1) := by decide +kernel
theorem dS_le6 : decode prog_17_method_54_code 6 = .ok (.invokevirtual 335, 3) := by decide +kernel
theorem dS_le9 : decode prog_17_method_54_code 9 = .ok (.ishr, 1) := by decide +kernel
theorem dS_le10 : decode prog_17_method_54_code 10 = .ok (.ireturn, 1) := by decide +kernel
theorem dS_ch0 : decode prog_17_method_56_code 0 = .ok (.aload_n 0, 1) := by decide +kernel
theorem dS_ch1 : decode prog_17_method_56_code 1 = .ok (.invokevirtual 492, 3) := by decide +kernel
theorem dS_ch4 : decode prog_17_method_56_code 4 = .ok (.ifCond .eq 12, 3) := by decide +kernel
theorem dS_ch7 : decode prog_17_method_56_code 7 = .ok (.aload_n 0, 1) := by decide +kernel
theorem dS_ch8 : decode prog_17_method_56_code 8 = .ok (.getfield 9, 3) := by decide +kernel
theorem dS_ch11 : decode prog_17_method_56_code 11 = .ok (.iload_n 1, 1) := by decide +kernel
theorem dS_ch12 : decode prog_17_method_56_code 12 = .ok (.invokestatic 495, 3) := by decide +kernel
theorem dS_ch15 : decode prog_17_method_56_code 15 = .ok (.ireturn, 1) := by decide +kernel
theorem dS_ck0 : decode prog_17_method_155_code 0 = .ok (.iload_n 0, 1) := by decide +kernel
theorem dS_ck1 : decode prog_17_method_155_code 1 = .ok (.iload_n 1, 1) := by decide +kernel
theorem dS_ck2 : decode prog_17_method_155_code 2 = .ok (.getstatic 1053, 3) := by decide +kernel
theorem dS_ck5 : decode prog_17_method_155_code 5 = .ok (.invokestatic 1059, 3) := by decide +kernel
theorem dS_ck8 : decode prog_17_method_155_code 8 = .ok (.pop, 1) := by decide +kernel
theorem dS_ck9 : decode prog_17_method_155_code 9 = .ok (.return_, 1) := by decide +kernel
theorem dS_pr0 : decode prog_22_method_11_code 0 = .ok (.iload_n 0, 1) := by decide +kernel
theorem dS_pr1 : decode prog_22_method_11_code 1 = .ok (.ifCond .lt 8, 3) := by decide +kernel
theorem dS_pr4 : decode prog_22_method_11_code 4 = .ok (.iload_n 0, 1) := by decide +kernel
theorem dS_pr5 : decode prog_22_method_11_code 5 = .ok (.iload_n 1, 1) := by decide +kernel
theorem dS_pr6 : decode prog_22_method_11_code 6 = .ok (.if_icmp .lt 10, 3) := by decide +kernel
theorem dS_pr16 : decode prog_22_method_11_code 16 = .ok (.iload_n 0, 1) := by decide +kernel
theorem dS_pr17 : decode prog_22_method_11_code 17 = .ok (.ireturn, 1) := by decide +kernel
theorem dS_la0 : decode prog_18_method_2_code 0 = .ok (.iload_n 1, 1) := by decide +kernel
theorem dS_la1 : decode prog_18_method_2_code 1 = .ok (.aload_n 0, 1) := by decide +kernel
theorem dS_la2 : decode prog_18_method_2_code 2 = .ok (.arraylength, 1) := by decide +kernel
theorem dS_la3 : decode prog_18_method_2_code 3 = .ok (.invokestatic 9, 3) := by decide +kernel
theorem dS_la6 : decode prog_18_method_2_code 6 = .ok (.aload_n 0, 1) := by decide +kernel
theorem dS_la7 : decode prog_18_method_2_code 7 = .ok (.iload_n 1, 1) := by decide +kernel
theorem dS_la8 : decode prog_18_method_2_code 8 = .ok (.baload, 1) := by decide +kernel
theorem dS_la9 : decode prog_18_method_2_code 9 = .ok (.sipush 255, 3) := by decide +kernel
theorem dS_la12 : decode prog_18_method_2_code 12 = .ok (.iand, 1) := by decide +kernel
theorem dS_la13 : decode prog_18_method_2_code 13 = .ok (.i2c, 1) := by decide +kernel
theorem dS_la14 : decode prog_18_method_2_code 14 = .ok (.ireturn, 1) := by decide +kernel
theorem wS_ini : Cond.initialized "java/lang/String" ∈ xws ∧ Cond.initialized "java/lang/StringLatin1" ∈ xws ∧ Cond.initialized "jdk/internal/util/Preconditions" ∈ xws := ⟨xin (p := 117) (by decide +kernel) rfl, xin (p := 118) (by decide +kernel) rfl, xin (p := 119) (by decide +kernel) rfl⟩
theorem wS_fl : Cond.fieldLink "java/lang/String" 38 "java/lang/String" "COMPACT_STRINGS" "Z" ∈ xws ∧ Cond.fieldLink "java/lang/String" 1053 "jdk/internal/util/Preconditions" "SIOOBE_FORMATTER" "Ljava/util/function/BiFunction;" ∈ xws ∧ Cond.fieldLink "java/lang/String" 9 "java/lang/String" "value" "[B" ∈ xws ∧ Cond.fieldLink "java/lang/String" 15 "java/lang/String" "coder" "B" ∈ xws := ⟨xin (p := 536) (by decide +kernel) rfl, xin (p := 552) (by decide +kernel) rfl, xin (p := 1968) (by decide +kernel) rfl, xin (p := 1969) (by decide +kernel) rfl⟩
theorem wS_ml : Cond.methodLink "java/lang/String" 335 yS_coder ∈ xws ∧ Cond.methodLink "java/lang/String" 492 yS_isL ∈ xws ∧ Cond.methodLink "java/lang/String" 495 yS_lat ∈ xws ∧ Cond.methodLink "java/lang/StringLatin1" 9 yS_chk ∈ xws ∧ Cond.methodLink "java/lang/String" 1059 yS_pre ∈ xws := ⟨xin (p := 532) (by decide +kernel) rfl, xin (p := 542) (by decide +kernel) rfl, xin (p := 546) (by decide +kernel) rfl, xin (p := 549) (by decide +kernel) rfl, xin (p := 554) (by decide +kernel) rfl⟩
theorem wS_in : (Cond.instanceMethod yS_len ∈ xws ∧ Cond.selects "java/lang/String" yS_len yS_len ∈ xws) ∧ (Cond.instanceMethod yS_chr ∈ xws ∧ Cond.selects "java/lang/String" yS_chr yS_chr ∈ xws) ∧ (Cond.instanceMethod yS_coder ∈ xws ∧ Cond.selects "java/lang/String" yS_coder yS_coder ∈ xws) ∧ (Cond.instanceMethod yS_isL ∈ xws ∧ Cond.selects "java/lang/String" yS_isL yS_isL ∈ xws) := ⟨⟨xin (p := 529) (by decide +kernel) rfl, xin (p := 530) (by decide +kernel) rfl⟩, ⟨xin (p := 539) (by decide +kernel) rfl, xin (p := 540) (by decide +kernel) rfl⟩, ⟨xin (p := 533) (by decide +kernel) rfl, xin (p := 534) (by decide +kernel) rfl⟩, ⟨xin (p := 543) (by decide +kernel) rfl, xin (p := 544) (by decide +kernel) rfl⟩⟩
theorem wS_st : Cond.static yS_lat ∈ xws ∧ Cond.static yS_chk ∈ xws ∧ Cond.static yS_pre ∈ xws := ⟨xin (p := 547) (by decide +kernel) rfl, xin (p := 550) (by decide +kernel) rfl, xin (p := 555) (by decide +kernel) rfl⟩
abbrev kS_len : Cond := .code yS_len prog_17_method_54_code 1 (some .int)
abbrev kS_chr : Cond := .code yS_chr prog_17_method_56_code 2 (some .char)
abbrev kS_coder : Cond := .code yS_coder prog_17_method_152_code 1 (some .byte)
abbrev kS_isL : Cond := .code yS_isL prog_17_method_154_code 1 (some .boolean)
abbrev kS_chk : Cond := .code yS_chk prog_17_method_155_code 2 none
abbrev kS_pre : Cond := .code yS_pre prog_22_method_11_code 3 (some .int)
abbrev kS_lat : Cond := .code yS_lat prog_18_method_2_code 2 (some .char)
theorem wS_code : kS_len ∈ xws ∧ kS_chr ∈ xws ∧ kS_coder ∈ xws ∧ kS_isL ∈ xws ∧ kS_chk ∈ xws ∧ kS_pre ∈ xws ∧ kS_lat ∈ xws := ⟨xin (p := 531) (by decide +kernel) rfl, xin (p := 541) (by decide +kernel) rfl, xin (p := 535) (by decide +kernel) rfl, xin (p := 545) (by decide +kernel) rfl, xin (p := 551) (by decide +kernel) rfl, xin (p := 556) (by decide +kernel) rfl, xin (p := 548) (by decide +kernel) rfl⟩
theorem xgoodk {w : Cond} (h : w ∈ xws) : GoodIn xws (w :: xws) := fun v hv => (List.mem_cons.mp hv).elim (fun e => by rw [e]; exact xgood _ h) (xgood v)
def xPn (D : va_G) (cA : Nat → ClassId) (d : xAd) (adV : Nat → Nat) (A : Nat → Prop) (L : Nat) (xs : Nat → Int32) (as : List Value) : Array Value → State → Prop := fun av U => av = as.toArray ∧ xKs D cA d adV A L xs U U.heap
def xQn (v : Option Value) : Array Value → State → Outcome → State → Prop := fun _ st o t => o = .returned v ∧ t.heap = st.heap
theorem xPn_blind {D : va_G} {cA : Nat → ClassId} {d : xAd} {adV : Nat → Nat} {A : Nat → Prop} {L : Nat} {xs : Nat → Int32} {as : List Value} : FrameBlind (xPn D cA d adV A L xs as) := fun a U g mk h => ⟨h.1, xKs_same (U := U) rfl h.2⟩
def rS (f lo : Nat) : Room := { frames := f, cells := 0, slots := 0, locals := lo }
section xStr
variable {p : Program} {l : Launch} {e : Env} {R : Room} {s : State} {mid : MethodId} {args : Array Value} {below : List Frame} {meth : Method} {c : Code} {cells slots : Nat} {Q : State → Prop}
variable {D : va_G} {cA : Nat → ClassId} {d : xAd} {adV : Nat → Nat} {A : Nat → Prop} {L : Nat} {xs : Nat → Int32}
theorem xcalln {pc : Nat} {ls : Array Slot} {st0 rest : List Value} {H : Heap} {locs : List Loc} {v : Option Value} {a : Array Value} (hr : va_Run p l e R s mid args below meth c H locs cells slots 0 0 (F0 mid pc ls st0) rest (xQn v a) (fun _ => False)) (kk : W p l e R s mid args below meth c H locs cells slots Q (F0 mid (pc + 3) ls (v.toList ++ rest))) : W p l e R s mid args below meth c H locs cells slots Q (F0 mid pc ls st0) := by
  intro T hT X
  obtain ⟨v', st₀, t, T', Lc, h0, X', hL, e1, e2, ⟨hv, hh⟩, st⟩ := hr T hT X
  have hv' : v' = v := Outcome.returned.inj hv
  subst hv'
  obtain ⟨t2, a1, b1⟩ := kk T' (by rw [e1, hh, h0]) (Stand.forget X' (fun q h => (hL q h).elim))
  exact ⟨t2, st t2 a1, b1⟩
set_option maxHeartbeats 2000000 in
theorem cS_coder (l : Launch) {i : Nat} (hi : i < 22) : Met l yS_coder (kS_coder :: xws) (rS 0 0) (xPn D cA d adV A L xs [.ref (d.2.1 i)]) (xQn (some (.int 0))) 0 0 (fun _ => False) := by
  refine Met.ofW (cc := prog_17_method_152_code) (maxL := 1) (ret := some .byte) (by decide) rfl ?_
  intro p e s m args below meth c s₁ B hml hv
  obtain ⟨rfl, hKs⟩ := hv
  have hx := B.exec
  have hb := B.bytes
  have hr := B.returns
  have hlocks := B.notSynchronized
  have hts := atoms_spec (ws := kS_coder :: xws) B.pre
  have hts' : ∀ w ∈ xws, w.before (#[.ref (d.2.1 i)] : Array Value) s = true := fun w hw => hts w (List.mem_cons_of_mem _ hw)
  have hown : s.vm.findClass "java/lang/String" = some m.cls := findClass_of_methodNamed B.named
  have hl := lv_entry ([.ref (d.2.1 i)]) (n := 1) (Nat.le_of_ble_eq_true rfl)
  rw [lg_entry_eq]
  generalize (lg_sl ([.ref (d.2.1 i)]) ++ List.replicate (1 - (lg_sl ([.ref (d.2.1 i)])).length) Slot.unset).toArray = ls at hl ⊢
  refine va_gets hx hb hKs.2.2.2.2.2.2.2.1 va_S.rf hown (hts' _ wS_fl.1) (fun x h => h) dS_co0 ?_
  refine lv_if_eq (tgt := 13) hx hb dS_co3 (by decide) (fun h => absurd h (by decide)) (fun _ => ?_)
  refine lv_aload_n hx hb dS_co6 rfl (lv_at hl 0 rfl) ?_
  refine vk_getf hx hb (hKs.2.2.2.2.2.2.1.1 i hi).2.1 va_S.rf hown (hts' _ wS_fl.2.2.2) (fun x h => h) dS_co7 ?_
  refine lv_goto (tgt := 14) hx hb dS_co10 (by decide) ?_
  exact W.zret hx hb hr rfl (fun t ht _ => ⟨rfl, ht⟩) (fun q h => by cases h) dS_co14 hlocks
set_option maxHeartbeats 2000000 in
theorem cS_isL (l : Launch) {i : Nat} (hi : i < 22) : Met l yS_isL (kS_isL :: xws) (rS 0 0) (xPn D cA d adV A L xs [.ref (d.2.1 i)]) (xQn (some (.int 1))) 0 0 (fun _ => False) := by
  refine Met.ofW (cc := prog_17_method_154_code) (maxL := 1) (ret := some .boolean) (by decide) rfl ?_
  intro p e s m args below meth c s₁ B hml hv
  obtain ⟨rfl, hKs⟩ := hv
  have hx := B.exec
  have hb := B.bytes
  have hr := B.returns
  have hlocks := B.notSynchronized
  have hts := atoms_spec (ws := kS_isL :: xws) B.pre
  have hts' : ∀ w ∈ xws, w.before (#[.ref (d.2.1 i)] : Array Value) s = true := fun w hw => hts w (List.mem_cons_of_mem _ hw)
  have hown : s.vm.findClass "java/lang/String" = some m.cls := findClass_of_methodNamed B.named
  have hl := lv_entry ([.ref (d.2.1 i)]) (n := 1) (Nat.le_of_ble_eq_true rfl)
  rw [lg_entry_eq]
  generalize (lg_sl ([.ref (d.2.1 i)]) ++ List.replicate (1 - (lg_sl ([.ref (d.2.1 i)])).length) Slot.unset).toArray = ls at hl ⊢
  refine va_gets hx hb hKs.2.2.2.2.2.2.2.1 va_S.rf hown (hts' _ wS_fl.1) (fun x h => h) dS_is0 ?_
  refine lv_if_eq (tgt := 17) hx hb dS_is3 (by decide) (fun h => absurd h (by decide)) (fun _ => ?_)
  refine lv_aload_n hx hb dS_is6 rfl (lv_at hl 0 rfl) ?_
  refine vk_getf hx hb (hKs.2.2.2.2.2.2.1.1 i hi).2.1 va_S.rf hown (hts' _ wS_fl.2.2.2) (fun x h => h) dS_is7 ?_
  refine lv_if_ne (tgt := 17) hx hb dS_is10 (by decide) (fun h => absurd rfl h) (fun _ => ?_)
  refine lv_iconst (v := 1) hx hb dS_is13 (by decide) ?_
  refine lv_goto (tgt := 18) hx hb dS_is14 (by decide) ?_
  exact W.zret hx hb hr rfl (fun t ht _ => ⟨rfl, ht⟩) (fun q h => by cases h) dS_is18 hlocks
set_option maxHeartbeats 2000000 in
theorem cS_len (l : Launch) {i : Nat} (hi : i < 22) : Met l yS_len (kS_len :: xws) (rS 1 20) (xPn D cA d adV A L xs [.ref (d.2.1 i)]) (xQn (some (.int (Int32.ofNat (xsl.getD i 0))))) 0 0 (fun _ => False) := by
  refine Met.ofW (cc := prog_17_method_54_code) (maxL := 1) (ret := some .int) (by decide) rfl ?_
  intro p e s m args below meth c s₁ B hml hv
  obtain ⟨rfl, hKs⟩ := hv
  have hx := B.exec
  have hb := B.bytes
  have hr := B.returns
  have hlocks := B.notSynchronized
  have hts := atoms_spec (ws := kS_len :: xws) B.pre
  have hts' : ∀ w ∈ xws, w.before (#[.ref (d.2.1 i)] : Array Value) s = true := fun w hw => hts w (List.mem_cons_of_mem _ hw)
  have hown : s.vm.findClass "java/lang/String" = some m.cls := findClass_of_methodNamed B.named
  have hl := lv_entry ([.ref (d.2.1 i)]) (n := 1) (Nat.le_of_ble_eq_true rfl)
  rw [lg_entry_eq]
  generalize (lg_sl ([.ref (d.2.1 i)]) ++ List.replicate (1 - (lg_sl ([.ref (d.2.1 i)])).length) Slot.unset).toArray = ls at hl ⊢
  have hS := (hKs.2.2.2.2.2.2.1.1 i hi)
  refine lv_aload_n hx hb dS_le0 rfl (lv_at hl 0 rfl) ?_
  refine vk_getf hx hb hS.2.2.1 va_S.rf hown (hts' _ wS_fl.2.2.1) (fun x h => h) dS_le1 ?_
  refine va_tlen hx hb hS.2.2.2 va_S.rf rfl dS_le4 ?_
  refine lv_aload_n hx hb dS_le5 rfl (lv_at hl 0 rfl) ?_
  refine xcalln (va_runV (C := "java/lang/String") (b := d.2.1 i) (As := []) (n := 0) ⟨hx, hb, hml, hown, hts'⟩ (cS_coder (D := D) (cA := cA) (d := d) (adV := adV) (A := A) (L := L) (xs := xs) l hi) ⟨callB_of 0 hts' (xgoodk wS_code.2.2.1) rfl rfl rfl (hts' _ wS_ini.1) (hts' _ wS_ml.1) (by decide +kernel) ⟨Nat.le_of_ble_eq_true rfl, Nat.le_of_ble_eq_true rfl⟩, hts' _ wS_in.2.2.1.1, hts' _ wS_in.2.2.1.2⟩ ⟨xPn_blind, vk_recv hKs.2.2.2.2.2.2.1 hi va_S.rf, fun U hU hW => ⟨rfl, by rw [hU]; exact xKs_go hKs hW (fun _ _ _ => rfl)⟩⟩ rfl rfl hl.1 rfl (lv_room (by show 1 + 0 ≤ 8; decide)) dS_le6 ⟨Nat.le_refl _, Nat.le_refl _⟩) ?_
  refine lv_ishr hx hb dS_le9 ?_
  rw [sb_shr0]
  exact W.iret hx hb hr (fun t ht _ => ⟨rfl, ht⟩) (fun q h => by cases h) dS_le10 hlocks
set_option maxHeartbeats 2000000 in
theorem cS_pre (l : Launch) {a n : Int32} {z : Value} (hz : z.category = 1) (h0 : ¬ a < 0) (h1 : a < n) : Met l yS_pre (kS_pre :: xws) (rS 0 0) (xPn D cA d adV A L xs [.int a, .int n, z]) (xQn (some (.int a))) 0 0 (fun _ => False) := by
  refine Met.ofW (cc := prog_22_method_11_code) (maxL := 3) (ret := some .int) (by decide) rfl ?_
  intro p e s m args below meth c s₁ B hml hv
  obtain ⟨rfl, hKs⟩ := hv
  have hx := B.exec
  have hb := B.bytes
  have hr := B.returns
  have hlocks := B.notSynchronized
  have hlz : (lg_sl ([.int a, .int n, z])).length ≤ 3 := by
    have e : lg_sl ([.int a, .int n, z]) = [Slot.val (.int a)] ++ ([Slot.val (.int n)] ++ ((if z.category = 2 then [Slot.val z, Slot.second] else [Slot.val z]) ++ [])) := rfl
    rw [e, if_neg (by rw [hz]; decide)]
    exact Nat.le_refl 3
  have hl := lv_entry ([.int a, .int n, z]) (n := 3) hlz
  rw [lg_entry_eq]
  generalize (lg_sl ([.int a, .int n, z]) ++ List.replicate (3 - (lg_sl ([.int a, .int n, z])).length) Slot.unset).toArray = ls at hl ⊢
  have hl0 : ls[0]? = some (.val (.int a)) := hl.2.2 (0, .int a) (by simp [lv_args])
  have hl1 : ls[1]? = some (.val (.int n)) := hl.2.2 (1, .int n) (by simp [lv_args, Value.category])
  refine lv_iload_n hx hb dS_pr0 rfl hl0 ?_
  refine lv_if_lt (tgt := 9) hx hb dS_pr1 (by decide) (fun h => absurd h h0) (fun _ => ?_)
  refine lv_iload_n hx hb dS_pr4 rfl hl0 ?_
  refine lv_iload_n hx hb dS_pr5 rfl hl1 ?_
  refine lv_icmp_lt (tgt := 16) hx hb dS_pr6 (by decide) (fun _ => ?_) (fun h => absurd h1 h)
  refine lv_iload_n hx hb dS_pr16 rfl hl0 ?_
  exact W.iret hx hb hr (fun t ht _ => ⟨rfl, ht⟩) (fun q h => by cases h) dS_pr17 hlocks
set_option maxHeartbeats 2000000 in
theorem cS_chk (l : Launch) {a n : Int32} (h0 : ¬ a < 0) (h1 : a < n) : Met l yS_chk (kS_chk :: xws) (rS 1 22) (xPn D cA d adV A L xs [.int a, .int n]) (xQn none) 0 0 (fun _ => False) := by
  refine Met.ofW (cc := prog_17_method_155_code) (maxL := 2) (ret := none) (by decide) rfl ?_
  intro p e s m args below meth c s₁ B hml hv
  obtain ⟨rfl, hKs⟩ := hv
  have hx := B.exec
  have hb := B.bytes
  have hr := B.returns
  have hlocks := B.notSynchronized
  have hts := atoms_spec (ws := kS_chk :: xws) B.pre
  have hts' : ∀ w ∈ xws, w.before (#[.int a, .int n] : Array Value) s = true := fun w hw => hts w (List.mem_cons_of_mem _ hw)
  have hown : s.vm.findClass "java/lang/String" = some m.cls := findClass_of_methodNamed B.named
  have hl := lv_entry ([.int a, .int n]) (n := 2) (Nat.le_of_ble_eq_true rfl)
  rw [lg_entry_eq]
  generalize (lg_sl ([.int a, .int n]) ++ List.replicate (2 - (lg_sl ([.int a, .int n])).length) Slot.unset).toArray = ls at hl ⊢
  have key : ∀ z : Value, z.category = 1 → W p l e (headSpec (kS_chk :: xws) (rS 1 22)).room s m #[.int a, .int n] below meth c s.heap [] 0 0 (MQ below (xQn none) #[.int a, .int n] s 0 0 (fun _ => False)) (F0 m 5 ls [z, .int n, .int a]) := by
    intro z hz
    refine xcalln (va_runS (As := [.int a, .int n, z]) (rest := []) (n := 3) ⟨hx, hb, hml, hown, hts'⟩ (cS_pre (D := D) (cA := cA) (d := d) (adV := adV) (A := A) (L := L) (xs := xs) l hz h0 h1) ⟨callB_of 3 hts' (xgoodk wS_code.2.2.2.2.2.1) rfl rfl rfl (hts' _ wS_ini.2.2) (hts' _ wS_ml.2.2.2.2) (by decide +kernel) ⟨Nat.le_of_ble_eq_true rfl, Nat.le_of_ble_eq_true rfl⟩, hts' _ wS_st.2.2⟩ ⟨xPn_blind, fun U hU hW => ⟨rfl, by rw [hU]; exact xKs_go hKs hW (fun _ _ _ => rfl)⟩⟩ rfl rfl hl.1 rfl (lv_room (by decide)) dS_ck5 ⟨Nat.le_refl _, Nat.le_refl _⟩) ?_
    refine lv_pop hx hb dS_ck8 rfl ?_
    exact W.vret hx hb hr (fun t ht _ => ⟨rfl, ht⟩) (fun q h => by cases h) dS_ck9 hlocks
  refine lv_iload_n hx hb dS_ck0 rfl (lv_at hl 0 rfl) ?_
  refine lv_iload_n hx hb dS_ck1 rfl (lv_at hl 1 rfl) ?_
  rcases hKs.2.2.2.2.2.2.2.2 with hZ | ⟨t, hZ⟩
  · exact va_gets hx hb hZ va_S.rf hown (hts' _ wS_fl.2.1) (fun x h => h) dS_ck2 (key .null rfl)
  · exact va_gets hx hb hZ va_S.rf hown (hts' _ wS_fl.2.1) (fun x h => h) dS_ck2 (key (.ref t) rfl)
def xchv (i k : Nat) : Int32 := (xsb.getD i []).getD k 0
theorem xch_ok : (List.range 22).all (fun i => decide (xsl.getD i 0 = (xstr i).length) && ((List.range (xsl.getD i 0)).all (fun k => decide (xchv i k &&& 255 = xchv i k ∧ xchv i k = Int32.ofInt ((xstr i).getD k 0) ∧ 0 ≤ (xstr i).getD k 0 ∧ (xstr i).getD k 0 < 256)))) = true := by decide +kernel
theorem xch_k {i k : Nat} (hi : i < 22) (hk : k < xsl.getD i 0) : xsl.getD i 0 = (xstr i).length ∧ xchv i k &&& 255 = xchv i k ∧ xchv i k = Int32.ofInt ((xstr i).getD k 0) ∧ 0 ≤ (xstr i).getD k 0 ∧ (xstr i).getD k 0 < 256 := by
  have h := List.all_eq_true.mp xch_ok i (List.mem_range.mpr hi)
  rw [Bool.and_eq_true] at h
  exact ⟨of_decide_eq_true h.1, of_decide_eq_true (List.all_eq_true.mp h.2 k (List.mem_range.mpr hk))⟩
theorem xch_l {i : Nat} (hi : i < 22) : xsl.getD i 0 = (xstr i).length ∧ xsl.getD i 0 < 100 := by
  have h := List.all_eq_true.mp xch_ok i (List.mem_range.mpr hi)
  rw [Bool.and_eq_true] at h
  refine ⟨of_decide_eq_true h.1, ?_⟩
  have : (List.range 22).all (fun i => decide (xsl.getD i 0 < 100)) = true := by decide +kernel
  exact of_decide_eq_true (List.all_eq_true.mp this i (List.mem_range.mpr hi))
set_option maxHeartbeats 2000000 in
theorem cS_lat (l : Launch) {i k : Nat} (hi : i < 22) (hk : k < xsl.getD i 0) : Met l yS_lat (kS_lat :: xws) (rS 2 43) (xPn D cA d adV A L xs [.ref (adV i), .int (nI k)]) (xQn (some (.int (xchv i k)))) 0 0 (fun _ => False) := by
  refine Met.ofW (cc := prog_18_method_2_code) (maxL := 2) (ret := some .char) (by decide) rfl ?_
  intro p e s m args below meth c s₁ B hml hv
  obtain ⟨rfl, hKs⟩ := hv
  have hx := B.exec
  have hb := B.bytes
  have hr := B.returns
  have hlocks := B.notSynchronized
  have hts := atoms_spec (ws := kS_lat :: xws) B.pre
  have hts' : ∀ w ∈ xws, w.before (#[.ref (adV i), .int (nI k)] : Array Value) s = true := fun w hw => hts w (List.mem_cons_of_mem _ hw)
  have hown : s.vm.findClass "java/lang/StringLatin1" = some m.cls := findClass_of_methodNamed B.named
  have hl := lv_entry ([.ref (adV i), .int (nI k)]) (n := 2) (Nat.le_of_ble_eq_true rfl)
  rw [lg_entry_eq]
  generalize (lg_sl ([.ref (adV i), .int (nI k)]) ++ List.replicate (2 - (lg_sl ([.ref (adV i), .int (nI k)])).length) Slot.unset).toArray = ls at hl ⊢
  have hS := (hKs.2.2.2.2.2.2.1.1 i hi)
  obtain ⟨-, hq1, -, -, -⟩ := xch_k hi hk
  have hln := (xch_l hi).2
  have hin : vp_in (nI k) (xsl.getD i 0) := vp_in_nI hk (by omega)
  refine lv_iload_n hx hb dS_la0 rfl (lv_at hl 1 rfl) ?_
  refine lv_aload_n hx hb dS_la1 rfl (lv_at hl 0 rfl) ?_
  refine va_tlen hx hb hS.2.2.2 va_S.rf rfl dS_la2 ?_
  refine xcalln (va_runS (As := [.int (nI k), .int (Int32.ofNat (xsl.getD i 0))]) (rest := []) (n := 2) ⟨hx, hb, hml, hown, hts'⟩ (cS_chk (D := D) (cA := cA) (d := d) (adV := adV) (A := A) (L := L) (xs := xs) l (nI_pos (by omega)) (nI_lt hk (by omega))) ⟨callB_of 2 hts' (xgoodk wS_code.2.2.2.2.1) rfl rfl rfl (hts' _ wS_ini.1) (hts' _ wS_ml.2.2.2.1) (by decide +kernel) ⟨Nat.le_of_ble_eq_true rfl, Nat.le_of_ble_eq_true rfl⟩, hts' _ wS_st.2.1⟩ ⟨xPn_blind, fun U hU hW => ⟨rfl, by rw [hU]; exact xKs_go hKs hW (fun _ _ _ => rfl)⟩⟩ rfl rfl hl.1 rfl (lv_room (by decide)) dS_la3 ⟨Nat.le_refl _, Nat.le_refl _⟩) ?_
  refine lv_aload_n hx hb dS_la6 rfl (lv_at hl 0 rfl) ?_
  refine lv_iload_n hx hb dS_la7 rfl (lv_at hl 1 rfl) ?_
  refine va_tb hx hb hS.2.2.2 va_S.rf hin (v := .int (xchv i k)) (by rw [nI_clamp (by omega)]; rfl) dS_la8 ?_
  refine lv_sipush (v := 255) hx hb dS_la9 (by decide) ?_
  refine lv_iand hx hb dS_la12 ?_
  refine lv_i2c (v := xchv i k) hx hb dS_la13 (by rw [sc_c2]; exact hq1) ?_
  exact W.zret hx hb hr (by rw [← hq1]; exact sc_nar _) (fun t ht _ => ⟨rfl, ht⟩) (fun q h => by cases h) dS_la14 hlocks
set_option maxHeartbeats 2000000 in
theorem cS_chr (l : Launch) {i k : Nat} (hi : i < 22) (hk : k < xsl.getD i 0) : Met l yS_chr (kS_chr :: xws) (rS 3 64) (xPn D cA d adV A L xs [.ref (d.2.1 i), .int (nI k)]) (xQn (some (.int (xchv i k)))) 0 0 (fun _ => False) := by
  refine Met.ofW (cc := prog_17_method_56_code) (maxL := 2) (ret := some .char) (by decide) rfl ?_
  intro p e s m args below meth c s₁ B hml hv
  obtain ⟨rfl, hKs⟩ := hv
  have hx := B.exec
  have hb := B.bytes
  have hr := B.returns
  have hlocks := B.notSynchronized
  have hts := atoms_spec (ws := kS_chr :: xws) B.pre
  have hts' : ∀ w ∈ xws, w.before (#[.ref (d.2.1 i), .int (nI k)] : Array Value) s = true := fun w hw => hts w (List.mem_cons_of_mem _ hw)
  have hown : s.vm.findClass "java/lang/String" = some m.cls := findClass_of_methodNamed B.named
  have hl := lv_entry ([.ref (d.2.1 i), .int (nI k)]) (n := 2) (Nat.le_of_ble_eq_true rfl)
  rw [lg_entry_eq]
  generalize (lg_sl ([.ref (d.2.1 i), .int (nI k)]) ++ List.replicate (2 - (lg_sl ([.ref (d.2.1 i), .int (nI k)])).length) Slot.unset).toArray = ls at hl ⊢
  have hS := (hKs.2.2.2.2.2.2.1.1 i hi)
  obtain ⟨-, hq1, -, -, -⟩ := xch_k hi hk
  refine lv_aload_n hx hb dS_ch0 rfl (lv_at hl 0 rfl) ?_
  refine xcalln (va_runV (C := "java/lang/String") (b := d.2.1 i) (As := []) (rest := []) (n := 0) ⟨hx, hb, hml, hown, hts'⟩ (cS_isL (D := D) (cA := cA) (d := d) (adV := adV) (A := A) (L := L) (xs := xs) l hi) ⟨callB_of 0 hts' (xgoodk wS_code.2.2.2.1) rfl rfl rfl (hts' _ wS_ini.1) (hts' _ wS_ml.2.1) (by decide +kernel) ⟨Nat.le_of_ble_eq_true rfl, Nat.le_of_ble_eq_true rfl⟩, hts' _ wS_in.2.2.2.1, hts' _ wS_in.2.2.2.2⟩ ⟨xPn_blind, vk_recv hKs.2.2.2.2.2.2.1 hi va_S.rf, fun U hU hW => ⟨rfl, by rw [hU]; exact xKs_go hKs hW (fun _ _ _ => rfl)⟩⟩ rfl rfl hl.1 rfl (lv_room (by decide)) dS_ch1 ⟨Nat.le_refl _, Nat.le_refl _⟩) ?_
  refine lv_if_eq (tgt := 16) hx hb dS_ch4 (by decide) (fun h => absurd h (by decide)) (fun _ => ?_)
  refine lv_aload_n hx hb dS_ch7 rfl (lv_at hl 0 rfl) ?_
  refine vk_getf hx hb hS.2.2.1 va_S.rf hown (hts' _ wS_fl.2.2.1) (fun x h => h) dS_ch8 ?_
  refine lv_iload_n hx hb dS_ch11 rfl (lv_at hl 1 rfl) ?_
  refine xcalln (va_runS (As := [.ref (adV i), .int (nI k)]) (rest := []) (n := 2) ⟨hx, hb, hml, hown, hts'⟩ (cS_lat (D := D) (cA := cA) (d := d) (adV := adV) (A := A) (L := L) (xs := xs) l hi hk) ⟨callB_of 2 hts' (xgoodk wS_code.2.2.2.2.2.2) rfl rfl rfl (hts' _ wS_ini.2.1) (hts' _ wS_ml.2.2.1) (by decide +kernel) ⟨Nat.le_of_ble_eq_true rfl, Nat.le_of_ble_eq_true rfl⟩, hts' _ wS_st.1⟩ ⟨xPn_blind, fun U hU hW => ⟨rfl, by rw [hU]; exact xKs_go hKs hW (fun _ _ _ => rfl)⟩⟩ rfl rfl hl.1 rfl (lv_room (by decide)) dS_ch12 ⟨Nat.le_refl _, Nat.le_refl _⟩) ?_
  exact W.zret hx hb hr (by rw [← hq1]; exact sc_nar _) (fun t ht _ => ⟨rfl, ht⟩) (fun q h => by cases h) dS_ch15 hlocks
end xStr
/-- the two as steps of the machine -/
theorem xprim {l : Launch} {D : va_G} {cA : Nat → ClassId} {d : xAd} {adV : Nat → Nat} {A : Nat → Prop} {L : Nat} {xs : Nat → Int32} : xPrim l D cA d adV A L xs := by
  intro m p e R s mid args below meth c cells slots Q q C hq hqo hRf hRl pc ls st M hd hcat
  obtain ⟨hx, hb, hml, hown, hts, hKs, -, -, hcl, hsl⟩ := id C
  have hw := List.all_eq_true.mp xSTL_all q hq
  rw [Bool.and_eq_true] at hw
  have hw2 := of_decide_eq_true hw.2
  have ek : ∀ k : Int, xval 52 k → ∃ i : Nat, i < 22 ∧ k.toNat = i ∧ xcw d (54, k) = .ref (d.2.1 i) := by
    intro k hk
    unfold xval at hk
    rw [if_neg (by decide), if_neg (by decide), if_pos rfl] at hk
    refine ⟨k.toNat, by omega, rfl, ?_⟩
    show Value.ref (xadr d 52 k) = _
    unfold xadr
    rw [if_neg (by decide), if_neg (by decide), if_pos rfl]
  refine ⟨fun h0 k kk => ?_, fun h1 k i2 hi2 kk => ?_⟩
  · intro lsm H locs hf hs hI
    obtain ⟨i, hi, hki, hcw⟩ := ek k (xok_h hs)
    rw [h0] at hw2
    have hlk : Cond.methodLink (xCn (xmo m)) q.2.1 yS_len ∈ xws := by
      rw [← hqo]
      exact xin hw2 rfl
    have hl := xch_l hi
    show W p l e R s mid args below meth c H locs cells slots Q (F0 mid pc lsm (xcw d (54, k) :: st.map (xcw d)))
    rw [hcw]
    refine xcalln (va_runV (C := "java/lang/String") (b := d.2.1 i) (As := []) (rest := st.map (xcw d)) (n := 0) ⟨hx, hb, hml, hown, hts⟩ (cS_len (D := D) (cA := cA) (d := d) (adV := adV) (A := A) (L := L) (xs := xs) l hi) ⟨callB_of 0 hts (xgoodk wS_code.1) rfl rfl rfl (hts _ wS_ini.1) (hts _ hlk) (by decide +kernel) ⟨by show 1 + 1 ≤ _; omega, by show 8 + (1 + 11) + 20 ≤ _; omega⟩, hts _ wS_in.1.1, hts _ wS_in.1.2⟩ ⟨xPn_blind, vk_recv hKs.2.2.2.2.2.2.1 hi hI.2.1, fun U hU hW => ⟨rfl, by rw [hU]; exact xKs_go hKs hW hI.2.1.2.1⟩⟩ rfl rfl hf.2.1 rfl (lv_room (by rw [xcat_sum]; exact hcat)) hd ⟨hcl, hsl⟩) ?_
    have hgo := kk lsm H locs hf (xok_c (show x32 _ by rw [hki, ← hl.1]; constructor <;> omega) (xok_t hs)) hI
    rw [List.map_cons, xcw_i, hki, ← hl.1] at hgo
    exact hgo
  · intro lsm H locs hf hs hI
    obtain ⟨i, hi, hki, hcw⟩ := ek k (xok_h (xok_t hs))
    rw [h1] at hw2
    have hlk : Cond.methodLink (xCn (xmo m)) q.2.1 yS_chr ∈ xws := by
      rw [← hqo]
      exact xin hw2 rfl
    have hl := xch_l hi
    rw [hki] at hi2
    have hk : i2.toNat < xsl.getD i 0 := by omega
    have hai : x32 i2 := xok_h hs
    have hni : Int32.ofInt i2 = nI i2.toNat := by
      apply Int32.toInt_inj.mp
      rw [xi_to hai, nI_toInt (by omega)]
      omega
    obtain ⟨-, -, hq3, hq4, hq5⟩ := xch_k hi hk
    show W p l e R s mid args below meth c H locs cells slots Q (F0 mid pc lsm (.int (Int32.ofInt i2) :: xcw d (54, k) :: st.map (xcw d)))
    rw [hcw, hni]
    refine xcalln (va_runV (C := "java/lang/String") (b := d.2.1 i) (As := [.int (nI i2.toNat)]) (rest := st.map (xcw d)) (n := 1) ⟨hx, hb, hml, hown, hts⟩ (cS_chr (D := D) (cA := cA) (d := d) (adV := adV) (A := A) (L := L) (xs := xs) l hi hk) ⟨callB_of 1 hts (xgoodk wS_code.2.1) rfl rfl rfl (hts _ wS_ini.1) (hts _ hlk) (by decide +kernel) ⟨by show 3 + 1 ≤ _; omega, by show 8 + (2 + 11) + 64 ≤ _; omega⟩, hts _ wS_in.2.1.1, hts _ wS_in.2.1.2⟩ ⟨xPn_blind, vk_recv hKs.2.2.2.2.2.2.1 hi hI.2.1, fun U hU hW => ⟨rfl, by rw [hU]; exact xKs_go hKs hW hI.2.1.2.1⟩⟩ rfl rfl hf.2.1 rfl (lv_room (by rw [xcat_sum]; exact hcat)) hd ⟨hcl, hsl⟩) ?_
    have hgo := kk lsm H locs hf (xok_c (show x32 _ by rw [hki]; constructor <;> omega) (xok_t (xok_t hs))) hI
    rw [List.map_cons, xcw_i, hki, ← hq3] at hgo
    exact hgo
end
