/-! ===== THE BEGINNING, 5: the law: what it is asked (from the skeleton), and the tables at its entry ===== -/
/-! THE CLAIM OUT OF ONE WALK OF THE LAW'S BODY. Your part is whole_start (and what it stands on); all else here is the same for every law, but numbers. -/
def R_law : String := "ConsentDoorsLaw"
def lw_P (b : Addr) (xs : List Int32) (args : Array Value) (s : State) : Prop := args = #[.ref b] ∧ s.IntsAt b xs ∧ xs.length ≤ 3072 ∧ (Jvm.Cond.and given_1 narrow_1).before args s = true
def lw_Q (_ : Array Value) (s : State) (o : Outcome) (t : State) : Prop := o = .returned (some (.int 1)) ∧ Framed s o t [] 600000 7302250
def lw_Z (below : List Frame) (a : Array Value) (s : State) : State → Prop := fun t => ∃ o, t.status = .running ∧ Ended t below o ∧ lw_Q a s o t
/-- the law's own end, with 1 on the stack, nothing written that was there before, its room as the claim has it -/
theorem lw_ret {p : Program} {l : Launch} {e : Env} {s : State} {m : MethodId} {below : List Frame} {meth : Method} {c : Code} {b : Nat} (hx : p.tables.exec = Jvm.exec) (hb : c.code = code) (hr : meth.sig.returnType = ret) (hlocks : meth.locks = false) {pc : Nat} {H : Heap} {ls : Array Slot} (hdg : decode code pc = .ok (.ireturn, 1)) : W p l e room_1 s m #[Value.ref b] below meth c H [] 600000 7302250 (lw_Z below #[Value.ref b] s) (F0 m pc ls [.int 1]) := by
  intro T hT X
  obtain ⟨fs, hret, hrun, hended, hW, hframe⟩ := X.leave (v := some (.int 1)) (hlocks := hlocks) (fun h => by rw [hr] at h; cases h)
  have hmeth' : T.vm.method? m = some meth := X.method'
  refine ⟨T.setFrames fs, ?_, .returned (some (.int 1)), hrun, hended, rfl, ⟨_, rfl⟩, hW, hframe⟩
  jvm_step X.here [X.here.top, hx, hb, hdg, hmeth', hr, ret, narrow_b1]
  (try refine ⟨rfl, ?_⟩); (try refine ⟨rfl, ?_⟩)
  first | (intro acts; rw [hret _ acts rfl rfl rfl]) | rw [hret _ _ rfl rfl rfl]
  exact Steps.refl _
/-- what holds at the law's entry: the machine, the code, the tables' words (any of lw_tbl by 'hts w (by decide +kernel)'), the script of L ints xs at the cell b, what the Statement gives of the start (any of its parts by flat_of_before) -/
def lw_At (p : Program) (s : State) (m : MethodId) (meth : Method) (c : Code) (b L : Nat) (xs : Nat → Int32) : Prop :=
  p.tables.exec = Jvm.exec ∧ c.code = code ∧ meth.sig.returnType = ret ∧ c.maxLocals = 4 ∧ s.vm.findClass R_law = some m.cls ∧ (∀ w ∈ lw_tbl, w.before #[Value.ref b] s = true) ∧ va_X b L xs s s.heap ∧ b < s.heap.size ∧ meth.locks = false ∧ (Jvm.Cond.and given_1 narrow_1).before #[Value.ref b] s = true
/-! what the law's entry gives -/
noncomputable section
def xFlt : List Cond := flatC (Jvm.Cond.and given_1 narrow_1)
def xsi (i : Nat) : Nat := [56, 65, 70, 75, 80, 89, 95, 101, 103, 105, 121, 123, 125, 127, 161, 163, 172, 174, 181, 183, 185, 187].getD i 0
def xstm (i : Nat) : Term := .string "ConsentDoors$Reader" (xsi i)
theorem xf_ex : (List.range 22).all (fun i => decide (Cond.exactly (xstm i) "java/lang/String" ∈ xFlt)) = true := by decide +kernel
theorem xf_co : (List.range 22).all (fun i => decide (Cond.eq (.field (xstm i) "java/lang/String" "coder" "B") (.int 0) ∈ xFlt)) = true := by decide +kernel
theorem xf_ar : (List.range 22).all (fun i => decide (Cond.arrayOf (.field (xstm i) "java/lang/String" "value" "[B") .byte ∈ xFlt)) = true := by decide +kernel
theorem xf_le : (List.range 22).all (fun i => decide (Cond.eq (.length (.field (xstm i) "java/lang/String" "value" "[B")) (.int (Int32.ofNat (xsl.getD i 0))) ∈ xFlt)) = true := by decide +kernel
theorem xf_el : (List.range 22).all (fun i => (List.range (xsl.getD i 0)).all (fun j => decide (Cond.eq (.elem (.field (xstm i) "java/lang/String" "value" "[B") (.int (Int32.ofNat j))) (.int ((xsb.getD i []).getD j 0)) ∈ xFlt))) = true := by decide +kernel
def xNe : List (Nat × Nat × Nat) := [(5, 6, 73), (5, 7, 83), (6, 7, 84), (5, 8, 93), (6, 8, 94), (7, 8, 95), (5, 9, 103), (6, 9, 104), (7, 9, 105), (8, 9, 106), (5, 0, 115), (6, 0, 116), (7, 0, 117), (8, 0, 118), (9, 0, 119), (5, 18, 132), (6, 18, 133), (7, 18, 134), (8, 18, 135), (9, 18, 136), (0, 18, 137), (5, 19, 147), (6, 19, 148), (7, 19, 149), (8, 19, 150), (9, 19, 151), (0, 19, 152), (18, 19, 153), (5, 20, 163), (6, 20, 164), (7, 20, 165), (8, 20, 166), (9, 20, 167), (0, 20, 168), (18, 20, 169), (19, 20, 170), (5, 21, 179), (6, 21, 180), (7, 21, 181), (8, 21, 182), (9, 21, 183), (0, 21, 184), (18, 21, 185), (19, 21, 186), (20, 21, 187), (5, 10, 198), (6, 10, 199), (7, 10, 200), (8, 10, 201), (9, 10, 202), (0, 10, 203), (18, 10, 204), (19, 10, 205), (20, 10, 206), (21, 10, 207), (5, 11, 216), (6, 11, 217), (7, 11, 218), (8, 11, 219), (9, 11, 220), (0, 11, 221), (18, 11, 222), (19, 11, 223), (20, 11, 224), (21, 11, 225), (10, 11, 226), (5, 12, 236), (6, 12, 237), (7, 12, 238), (8, 12, 239), (9, 12, 240), (0, 12, 241), (18, 12, 242), (19, 12, 243), (20, 12, 244), (21, 12, 245), (10, 12, 246), (11, 12, 247), (5, 13, 257), (6, 13, 258), (7, 13, 259), (8, 13, 260), (9, 13, 261), (0, 13, 262), (18, 13, 263), (19, 13, 264), (20, 13, 265), (21, 13, 266), (10, 13, 267), (11, 13, 268), (12, 13, 269), (5, 1, 281), (6, 1, 282), (7, 1, 283), (8, 1, 284), (9, 1, 285), (0, 1, 286), (18, 1, 287), (19, 1, 288), (20, 1, 289), (21, 1, 290), (10, 1, 291), (11, 1, 292), (12, 1, 293), (13, 1, 294), (5, 2, 305), (6, 2, 306), (7, 2, 307), (8, 2, 308), (9, 2, 309), (0, 2, 310), (18, 2, 311), (19, 2, 312), (20, 2, 313), (21, 2, 314), (10, 2, 315), (11, 2, 316), (12, 2, 317), (13, 2, 318), (1, 2, 319), (5, 14, 328), (6, 14, 329), (7, 14, 330), (8, 14, 331), (9, 14, 332), (0, 14, 333), (18, 14, 334), (19, 14, 335), (20, 14, 336), (21, 14, 337), (10, 14, 338), (11, 14, 339), (12, 14, 340), (13, 14, 341), (1, 14, 342), (2, 14, 343), (5, 15, 350), (6, 15, 351), (7, 15, 352), (8, 15, 353), (9, 15, 354), (0, 15, 355), (18, 15, 356), (19, 15, 357), (20, 15, 358), (21, 15, 359), (10, 15, 360), (11, 15, 361), (12, 15, 362), (13, 15, 363), (1, 15, 364), (2, 15, 365), (14, 15, 366), (5, 3, 375), (6, 3, 376), (7, 3, 377), (8, 3, 378), (9, 3, 379), (0, 3, 380), (18, 3, 381), (19, 3, 382), (20, 3, 383), (21, 3, 384), (10, 3, 385), (11, 3, 386), (12, 3, 387), (13, 3, 388), (1, 3, 389), (2, 3, 390), (14, 3, 391), (15, 3, 392), (5, 16, 402), (6, 16, 403), (7, 16, 404), (8, 16, 405), (9, 16, 406), (0, 16, 407), (18, 16, 408), (19, 16, 409), (20, 16, 410), (21, 16, 411), (10, 16, 412), (11, 16, 413), (12, 16, 414), (13, 16, 415), (1, 16, 416), (2, 16, 417), (14, 16, 418), (15, 16, 419), (3, 16, 420), (5, 17, 427), (6, 17, 428), (7, 17, 429), (8, 17, 430), (9, 17, 431), (0, 17, 432), (18, 17, 433), (19, 17, 434), (20, 17, 435), (21, 17, 436), (10, 17, 437), (11, 17, 438), (12, 17, 439), (13, 17, 440), (1, 17, 441), (2, 17, 442), (14, 17, 443), (15, 17, 444), (3, 17, 445), (16, 17, 446), (5, 4, 455), (6, 4, 456), (7, 4, 457), (8, 4, 458), (9, 4, 459), (0, 4, 460), (18, 4, 461), (19, 4, 462), (20, 4, 463), (21, 4, 464), (10, 4, 465), (11, 4, 466), (12, 4, 467), (13, 4, 468), (1, 4, 469), (2, 4, 470), (14, 4, 471), (15, 4, 472), (3, 4, 473), (16, 4, 474), (17, 4, 475)]
theorem xf_ne1 : xNe.all (fun e => decide (xFlt[e.2.2]? = some (Cond.not (Cond.eq (xstm e.1) (xstm e.2.1))))) = true := by decide +kernel
theorem xf_ne2 : (List.range 22).all (fun i => (List.range 22).all (fun j => Nat.beq i j || xNe.any (fun e => (Nat.beq e.1 i && Nat.beq e.2.1 j) || (Nat.beq e.1 j && Nat.beq e.2.1 i)))) = true := by decide +kernel
theorem xf_ne {i j : Nat} (hi : i < 22) (hj : j < 22) (h : i ≠ j) : Cond.not (Cond.eq (xstm i) (xstm j)) ∈ xFlt ∨ Cond.not (Cond.eq (xstm j) (xstm i)) ∈ xFlt := by
  have h1 := List.all_eq_true.mp (List.all_eq_true.mp xf_ne2 i (List.mem_range.mpr hi)) j (List.mem_range.mpr hj)
  rw [Bool.or_eq_true] at h1
  rcases h1 with h1 | h1
  · exact absurd (Nat.eq_of_beq_eq_true h1) h
  · obtain ⟨e, he, h2⟩ := List.any_eq_true.mp h1
    have h3 := List.mem_of_getElem? (of_decide_eq_true (List.all_eq_true.mp xf_ne1 e he))
    rw [Bool.or_eq_true, Bool.and_eq_true, Bool.and_eq_true] at h2
    rcases h2 with ⟨a, b⟩ | ⟨a, b⟩
    · rw [Nat.eq_of_beq_eq_true a, Nat.eq_of_beq_eq_true b] at h3
      exact Or.inl h3
    · rw [Nat.eq_of_beq_eq_true a, Nat.eq_of_beq_eq_true b] at h3
      exact Or.inr h3
theorem xf_lk : (List.range 6).all (fun j => decide (Cond.eq (.elem (.static "ConsentDoors$Keys" "LACKING" "[J") (.int (Int32.ofNat j))) (.long (Int64.ofInt (xlack (j : Int)))) ∈ xFlt)) = true := by decide +kernel
theorem xf_nw : xMLk.all (fun q => !(Nat.beq q.2.2.2.1 2) || decide (lw_tbl[q.2.2.2.2]? = some (.methodLinkNest (xCn q.1) q.2.1 (xmy q.2.2.1) "ConsentDoors"))) = true := by decide +kernel
theorem xf_sl : xSL.all (fun q => Nat.beq q.1 7 && (decide (xsi q.2.2.1 = q.2.1) && decide (lw_tbl[q.2.2.2]? = some (.stringRef (xCn 7) q.2.1 (xtx q.2.2.1))))) = true := by decide +kernel
theorem xsl_small : ∀ i, i < 22 → xsl.getD i 0 < 2 ^ 31 := by decide +kernel
theorem bws {c : Nat} {s : State} {args : Array Value} (hts : ∀ w ∈ lw_tbl, w.before args s = true) : ∀ w ∈ xws, w.before args s = true := fun w hw => hts w (List.mem_filter.mp hw).1
theorem bprim {s : State} {args : Array Value} {ty : FieldType} (h : (Cond.arrayClass ty).before args s = true) (hp : ∀ a : ClassId, s.vm.findClass ("[" ++ ty.toString) = some a → va_RA s a ty) : ∃ a : ClassId, ArrOfT s a ty ∧ va_RA s a ty := by
  obtain ⟨cA, kA, comp, h1, h2, h3⟩ := Cond.arrayClass_spec h
  exact ⟨cA, fun n z => ⟨(fun k h => by cases h), kA, h2, comp, h3⟩, hp cA h1⟩
theorem bobj {s : State} {args : Array Value} {n : String} (h : (Cond.arrayOver (.object n)).before args s = true) : ∃ a : ClassId, ArrOfT s a (.object n) ∧ va_RA s a (.object n) := by
  obtain ⟨comp, c, k, h1, h2, h3, h4, h5⟩ := Cond.arrayOver_spec h
  exact ⟨c, fun n z => ⟨(fun k h => by cases h), k, h3, comp, h4⟩, k, comp, h3, h4, h1, h5⟩
/-- the classes and the arrays' classes -/
theorem bKof {s : State} {args : Array Value} (hts : ∀ w ∈ lw_tbl, w.before args s = true) : ∃ (D : va_G) (cA : Nat → ClassId), bK D cA s := by
  have htx := bws (c := 0) hts
  have h0 : ∀ c : Nat, ∃ q : ClassId × (Nat → Nat), c < 12 → u_Kn s (xCn c) (xTt c) (xcN c) q.1 q.2 := by
    intro c
    by_cases hc : c < 12
    · obtain ⟨cC, iS, h⟩ := u_known (C := xCn c) (T := xTt c) (N := xcN c) (n := xcN c) htx (xlay hc) (htx _ (bw_ps hc).2.2.1)
      exact ⟨(cC, iS), fun _ => h⟩
    · exact ⟨(0, fun _ => 0), fun h => absurd h hc⟩
  obtain ⟨dd, hdd⟩ := Classical.axiomOfChoice h0
  have w := barw
  have v := barx
  obtain ⟨a0, p0⟩ := bprim (htx _ w.1) (fun a h => h)
  obtain ⟨a1, p1⟩ := bprim (htx _ w.2.1) (fun a h => h)
  obtain ⟨a2, p2⟩ := bprim (htx _ w.2.2.1) (fun a h => h)
  obtain ⟨a3, p3⟩ := bprim (htx _ w.2.2.2) (fun a h => h)
  obtain ⟨a4, p4⟩ := bobj (hts _ v.1)
  obtain ⟨a5, p5⟩ := bobj (hts _ v.2.1)
  obtain ⟨a6, p6⟩ := bobj (hts _ v.2.2)
  refine ⟨(fun c => (dd c).1, fun c => (dd c).2), fun t => match t with | 0 => a0 | 1 => a1 | 2 => a2 | 3 => a3 | 4 => a4 | 5 => a5 | _ => a6, ⟨fun c q hq => ?_, fun k q hk => ?_⟩, ⟨va_AO.of (hts _ v.1), va_AO.of (hts _ v.2.1), va_AO.of (hts _ v.2.2)⟩, fun e he h2 => ?_⟩
  · have hc : c < 12 := (List.getElem?_eq_some_iff.mp hq).1
    cases (xcl_at c hc).symm.trans hq
    exact hdd c hc
  · match k, hk with
    | 0, hk => cases hk; exact p0
    | 1, hk => cases hk; exact p1
    | 2, hk => cases hk; exact p2
    | 3, hk => cases hk; exact p3
    | 4, hk => cases hk; exact p4
    | 5, hk => cases hk; exact p5
    | 6, hk => cases hk; exact p6
    | k + 7, hk => cases hk
  · obtain ⟨-, hl⟩ := bw_ct he
    rcases hl with ⟨-, hl⟩ | ⟨hl, -⟩
    · exact va_Nw.of rfl (hts _ hl)
    · omega
theorem bKs {s : State} {args : Array Value} {b L : Nat} {xs : Nat → Int32} (hts : ∀ w ∈ lw_tbl, w.before args s = true) (hgv : (Jvm.Cond.and given_1 narrow_1).before args s = true) (hX : va_X b L xs s s.heap) (hbl : b < s.heap.size) {D : va_G} {cA : Nat → ClassId} (hK : bK D cA s) :
    ∃ (adK adV : Nat → Nat) (tl : Nat), ∀ d1 : Int → Nat, xKs D cA (d1, adK, tl, b) adV (fun q => s.heap.size ≤ q) L xs s s.heap := by
  have hs : ∀ c ∈ xFlt, c.before args s = true := flat_of_before _ hgv
  have hA : ∀ a : Nat, a < s.heap.size → ¬ (fun q => s.heap.size ≤ q) a := fun a h q => by
    have q : s.heap.size ≤ a := q
    omega
  have all22 : ∀ {f : Nat → Bool}, (List.range 22).all f = true → ∀ i, i < 22 → f i = true := fun h i hi => List.all_eq_true.mp h i (List.mem_range.mpr hi)
  obtain ⟨adK, adV, hS, hev⟩ := vk_Sof (args := args) (s := s) (N := 22) (tm := xstm) (len := xsl) (byt := xsb) (A := fun q => s.heap.size ≤ q) xsl_small (fun i hi => hs _ (of_decide_eq_true (all22 xf_ex i hi))) (fun i hi => hs _ (of_decide_eq_true (all22 xf_co i hi))) (fun i hi => hs _ (of_decide_eq_true (all22 xf_ar i hi))) (fun i hi => hs _ (of_decide_eq_true (all22 xf_le i hi)))
    (fun i hi j hj => hs _ (of_decide_eq_true (List.all_eq_true.mp (all22 xf_el i hi) j (List.mem_range.mpr hj))))
    (fun i j hi hj hij => (xf_ne hi hj hij).imp (hs _) (hs _)) hA
  obtain ⟨tl, htl, hT⟩ := va_Tof (args := args) (s := s) (tm := .static "ConsentDoors$Keys" "LACKING" "[J") (ty := .long) (N := 6) (f := fun j => .long (Int64.ofInt (xlack (j : Int)))) (A := fun q => s.heap.size ≤ q) (by decide) (hs _ (by decide +kernel)) (va_eqt (hs _ (by decide +kernel))) (fun j hj => va_eqtl (hs _ (of_decide_eq_true (List.all_eq_true.mp xf_lk j (List.mem_range.mpr hj))))) hA
  refine ⟨adK, adV, tl, fun d1 => ⟨hK.1, ?_, hT, ?_, ?_, ?_, hS, ?_, ?_⟩⟩
  · exact va_Zof (hts _ (List.mem_of_getElem? (i := 695) (by decide +kernel))) (hts _ (List.mem_filter.mp (bw_ps (c := 4) (by decide)).2.1).1) htl hA
  · obtain ⟨scr, g1, g2, g3, g4, g5⟩ := hX
    exact ⟨scr, g1, g2, g3, Nat.le_of_eq g4.symm, by rw [g4], g5, hA b hbl⟩
  · intro q hq h2
    have h := List.all_eq_true.mp xf_nw q hq
    rw [h2] at h
    exact va_Nw.of rfl (hts _ (List.mem_of_getElem? (of_decide_eq_true h)))
  · intro q hq
    have h := List.all_eq_true.mp xf_sl q hq
    rw [Bool.and_eq_true, Bool.and_eq_true] at h
    have h7 : q.1 = 7 := Nat.eq_of_beq_eq_true h.1
    have hi := of_decide_eq_true h.2.1
    have hw := hts _ (List.mem_of_getElem? (of_decide_eq_true h.2.2))
    have he := hev q.2.2.1 (xSL_ok hq)
    unfold xstm at he
    rw [hi] at he
    rw [h7]
    exact vk_R.of hw he
  · exact va_Zof (hts _ (List.mem_of_getElem? (i := 537) (by decide +kernel))) (hts _ (List.mem_of_getElem? (i := 117) (by decide +kernel))) (va_eqt (hs _ (by decide +kernel))) hA
  · exact va_Zqof (hts _ (List.mem_of_getElem? (i := 553) (by decide +kernel))) (hts _ (List.mem_of_getElem? (i := 119) (by decide +kernel))) (hs _ (by decide +kernel)) hA
end
