/-! ===== THE BEGINNING, 3: each instruction of a constructor ===== -/
noncomputable section
theorem bRA {s : State} {a : ClassId} {ty : FieldType} (h : va_RA s a ty) : s.vm.findClass ("[" ++ ty.toString) = some a := by
  cases ty with
  | object C =>
    obtain ⟨_, _, _, _, _, h4⟩ := h
    exact h4
  | _ => exact h
theorem btys {D : va_G} {cA : Nat → ClassId} {s : State} (hK : va_K D xcl (xtys cA) s) {t : Nat} {ty : FieldType} {cB : ClassId} (ht : (xtys cA)[t]? = some (cA t, ty)) (hK2 : va_K D xcl (xtys cA ++ [(cB, ty)]) s) : cB = cA t := by
  have h1 := bRA (hK.2 t _ ht).2
  have h2 := bRA (hK2.2 7 (cB, ty) rfl).2
  exact Option.some.inj (h2.symm.trans h1)
theorem bmap_set {N k : Nat} {f : Nat → Value} {y : Value} : ((List.range N).map f).set k y = (List.range N).map (fun j => if j = k then y else f j) := by
  apply List.ext_getElem?
  intro i
  rw [List.getElem?_set, List.getElem?_map, List.getElem?_map, List.length_map, List.length_range]
  by_cases hi : i < N
  · rw [List.getElem?_range hi]
    by_cases hk : k = i
    · rw [if_pos hk, if_pos (by omega)]
      show some y = some (if i = k then y else f i)
      rw [if_pos hk.symm]
    · rw [if_neg hk]
      show some (f i) = some (if i = k then y else f i)
      rw [if_neg (fun z => hk z.symm)]
  · have e : (List.range N)[i]? = none := List.getElem?_eq_none (by rw [List.length_range]; omega)
    rw [e]
    by_cases hk : k = i
    · rw [if_pos hk, if_neg (by omega)]
      rfl
    · rw [if_neg hk]
      rfl
theorem bcell_put {cA : Nat → ClassId} {q : Nat → Nat} {c n k : Nat} {u : List (Nat × bV)} {v : bV} : (Sum.inr (c, ((List.range (xcN c)).map (fun j => bval q (bget u j (bdef c j)))).set k (bval q v)) : va_E) = bcell cA q (0, c, n, (k, v) :: u) := by
  rw [bmap_set]
  show _ = (Sum.inr (c, (List.range (xcN c)).map (fun j => bval q (bget ((k, v) :: u) j (bdef c j)))) : va_E)
  rw [show (fun j => if j = k then bval q v else bval q (bget u j (bdef c j))) = (fun j => bval q (bget ((k, v) :: u) j (bdef c j))) from funext fun j => by
    show (if j = k then bval q v else bval q (bget u j (bdef c j))) = bval q (if j = k then v else bget u j (bdef c j))
    by_cases hj : j = k
    · rw [if_pos hj, if_pos hj]
    · rw [if_neg hj, if_neg hj]]
theorem b32 {x : Int} (h : 0 ≤ x ∧ x ≤ 20000) : x32 x := ⟨by omega, by omega⟩
theorem bneg {x : Int} (h : 0 ≤ x ∧ x ≤ 20000) : ¬ Int32.ofInt x < 0 := by
  rw [show (0 : Int32) = Int32.ofInt 0 from rfl, xi_lt (b32 h) ⟨by omega, by omega⟩]
  omega
section bMain
variable {p : Program} {l : Launch} {e : Env} {R : Room} {s : State} {mid : MethodId} {args : Array Value} {below : List Frame} {meth : Method} {cd : Code} {Q : State → Prop} {D : va_G} {cA : Nat → ClassId} {A : Nat → Prop}
variable {c pc cells slots : Nat} {ls : Array Slot} {rest : List Value} {H : Heap} {locs : List Loc} {q : Nat → Nat} {L : List bE}
theorem bs_newa (C : bCx D cA A c p R s mid args meth cd) {t : ArrayType} {so ty : Nat} {x : Int} (hb : barr t = some (so, ty)) (hd : decode (bcode c) pc = .ok (.newarray t, 2)) (hx : 0 ≤ x ∧ x ≤ 20000) (hH : bH D cA A s q L H locs) (hcells : cells + 1 ≤ R.cells) (hslots : slots + x.toNat ≤ R.slots)
    (kk : ∀ (a : Nat) (H1 : Heap), va_P D xcl (bW cA q 0 L ++ [(a, bcell cA q (so, ty, x.toNat, []))]) H1 → va_D A (bW cA q 0 L ++ [(a, bcell cA q (so, ty, x.toNat, []))]) → va_S A s.heap H1 locs → W p l e R s mid args below meth cd H1 locs (cells + 1) (slots + x.toNat) Q (F0 mid (pc + 2) ls (.ref a :: rest))) : W p l e R s mid args below meth cd H locs cells slots Q (F0 mid pc ls (.int (Int32.ofInt x) :: rest)) := by
  obtain ⟨hx1, hb1, hml, hown, hin, hts, ⟨hK, -, -⟩, -, -, hA⟩ := C
  obtain ⟨hP, hD, hS⟩ := hH
  have w := barw
  cases t with
  | int =>
    cases hb
    refine va_newa (D := D) hx1 hb1 (hts _ w.1) (atype := .int) (ty := .int) rfl hK hP hD hS hA (a0 := (x.toNat, .inl (fun j => Int32.ofInt (bget [] j (0, 0)).2))) (fun _ => rfl) (bneg hx) (x_cl (b32 hx)) (by show x.toNat * 4 ≤ 536870912; omega) hcells hslots hd (fun a cB H1 hK2 hP1 hD1 hS1 => ?_)
    cases btys hK (t := 0) rfl hK2
    exact kk a H1 hP1 hD1 hS1
  | byte =>
    cases hb
    refine va_newa (D := D) hx1 hb1 (hts _ w.2.1) (atype := .byte) (ty := .byte) rfl hK hP hD hS hA (a0 := (x.toNat, .inl (fun j => Int32.ofInt (bget [] j (0, 0)).2))) (fun _ => rfl) (bneg hx) (x_cl (b32 hx)) (by show x.toNat * 1 ≤ 536870912; omega) hcells hslots hd (fun a cB H1 hK2 hP1 hD1 hS1 => ?_)
    cases btys hK (t := 1) rfl hK2
    exact kk a H1 hP1 hD1 hS1
  | boolean =>
    cases hb
    refine va_newa (D := D) hx1 hb1 (hts _ w.2.2.1) (atype := .boolean) (ty := .boolean) rfl hK hP hD hS hA (a0 := (x.toNat, .inl (fun j => Int32.ofInt (bget [] j (0, 0)).2))) (fun _ => rfl) (bneg hx) (x_cl (b32 hx)) (by show x.toNat * 1 ≤ 536870912; omega) hcells hslots hd (fun a cB H1 hK2 hP1 hD1 hS1 => ?_)
    cases btys hK (t := 2) rfl hK2
    exact kk a H1 hP1 hD1 hS1
  | long =>
    cases hb
    refine va_newa (D := D) hx1 hb1 (hts _ w.2.2.2) (atype := .long) (ty := .long) rfl hK hP hD hS hA (a0 := (x.toNat, .inr (.inl (fun j => Int64.ofInt (bget [] j (1, 0)).2)))) (fun _ => rfl) (bneg hx) (x_cl (b32 hx)) (by show x.toNat * 8 ≤ 536870912; omega) hcells hslots hd (fun a cB H1 hK2 hP1 hD1 hS1 => ?_)
    cases btys hK (t := 3) rfl hK2
    exact kk a H1 hP1 hD1 hS1
  | _ => cases hb
theorem bs_anew (C : bCx D cA A c p R s mid args meth cd) {j ty : Nat} {e5 : Nat × Nat × Nat × Nat × Nat} {x : Int} (he : bfind bNw c j = some e5) (hb : bta e5.2.2.1 = some ty) (hd : decode (bcode c) pc = .ok (.anewarray j, 3)) (hx : 0 ≤ x ∧ x ≤ 20000) (hH : bH D cA A s q L H locs) (hcells : cells + 1 ≤ R.cells) (hslots : slots + x.toNat ≤ R.slots)
    (kk : ∀ (a : Nat) (H1 : Heap), va_P D xcl (bW cA q 0 L ++ [(a, bcell cA q (3, ty, x.toNat, []))]) H1 → va_D A (bW cA q 0 L ++ [(a, bcell cA q (3, ty, x.toNat, []))]) → va_S A s.heap H1 locs → W p l e R s mid args below meth cd H1 locs (cells + 1) (slots + x.toNat) Q (F0 mid (pc + 3) ls (.ref a :: rest))) : W p l e R s mid args below meth cd H locs cells slots Q (F0 mid pc ls (.int (Int32.ofInt x) :: rest)) := by
  obtain ⟨hx1, hb1, hml, hown, hin, hts, ⟨hK, hao, -⟩, -, -, hA⟩ := C
  obtain ⟨hP, hD, hS⟩ := hH
  obtain ⟨hm, rfl, rfl⟩ := bfind_ok he
  obtain ⟨-, hw⟩ := bw_nw hm
  unfold bta at hb
  split at hb
  · next h8 =>
    cases hb
    rw [h8] at hw
    refine va_newq (D := D) hx1 hb1 hown (hts _ hw) hao.1 hK hP hD hS hA (bneg hx) (x_cl (b32 hx)) (by omega) hcells hslots hd (fun a cB H1 hK2 hP1 hD1 hS1 => ?_)
    cases btys hK (t := 4) rfl hK2
    exact kk a H1 hP1 hD1 hS1
  · next h8 =>
    cases hb
    rw [h8] at hw
    refine va_newq (D := D) hx1 hb1 hown (hts _ hw) hao.2.1 hK hP hD hS hA (bneg hx) (x_cl (b32 hx)) (by omega) hcells hslots hd (fun a cB H1 hK2 hP1 hD1 hS1 => ?_)
    cases btys hK (t := 5) rfl hK2
    exact kk a H1 hP1 hD1 hS1
  · next h8 =>
    cases hb
    rw [h8] at hw
    refine va_newq (D := D) hx1 hb1 hown (hts _ hw) hao.2.2 hK hP hD hS hA (bneg hx) (x_cl (b32 hx)) (by omega) hcells hslots hd (fun a cB H1 hK2 hP1 hD1 hS1 => ?_)
    cases btys hK (t := 6) rfl hK2
    exact kk a H1 hP1 hD1 hS1
  · cases hb
theorem bnew_fs {c2 : Nat} (h : c2 < 12) (q : Nat → Nat) : ∀ j, j < xcN c2 → defaultValue (xtyf c2 j) = vp_V ((List.range (xcN c2)).map (fun k => bval q (bget [] k (bdef c2 k)))) j := by
  intro j hj
  have e1 : vp_V ((List.range (xcN c2)).map (fun k => bval q (bget [] k (bdef c2 k)))) j = bval q (bdef c2 j) := by
    unfold vp_V
    rw [List.getD_eq_getElem?_getD, List.getElem?_map, List.getElem?_range hj]
    rfl
  rw [e1]
  unfold bdef
  rcases bw_ty h hj with ⟨h1, h2, -⟩ | ⟨h1, h2⟩ | ⟨h1, h2⟩ | ⟨h1, h2⟩
  · rw [h1, h2]; rfl
  · rw [h1, h2]; rfl
  · rw [h1, h2]; rfl
  · rw [h1, h2]; rfl
theorem bs_new {c2 : Nat} {j : Nat} {own : String} (hexec : p.tables.exec = Jvm.exec) {cc : ByteArray} (hb : cd.code = cc) (hown : s.vm.findClass own = some mid.cls) (hts : ∀ w ∈ xws, w.before args s = true) (hK : va_K D xcl (xtys cA) s) (hA : ∀ x, s.heap.size ≤ x → A x) (hc2 : c2 < 12) (hcl : Cond.classLink own j (xCn c2) ∈ xws) (hd : decode cc pc = .ok (.new j, 3)) (hH : bH D cA A s q L H locs) (hcells : cells + 1 ≤ R.cells) (hslots : slots + xcN c2 ≤ R.slots)
    (kk : ∀ (a : Nat) (H1 : Heap), va_P D xcl (bW cA q 0 L ++ [(a, bcell cA q (0, c2, 0, []))]) H1 → va_D A (bW cA q 0 L ++ [(a, bcell cA q (0, c2, 0, []))]) → va_S A s.heap H1 locs → W p l e R s mid args below meth cd H1 locs (cells + 1) (slots + xcN c2) Q (F0 mid (pc + 3) ls (.ref a :: rest))) : W p l e R s mid args below meth cd H locs cells slots Q (F0 mid pc ls rest) := by
  obtain ⟨hP, hD, hS⟩ := hH
  obtain ⟨-, w2, w3, -, -⟩ := bw_ps hc2
  exact va_new (ci := c2) (fs := (List.range (xcN c2)).map (fun k => bval q (bget [] k (bdef c2 k)))) (C := xCn c2) (T := xTt c2) (N := xcN c2) hexec hb hts (xlay hc2) (xtyf c2) (xtyf_ok c2 hc2) hown (hts _ hcl) (hts _ w3) (hts _ w2) hK hP hD hS hA (xcl_at c2 hc2) (bnew_fs hc2 q) hcells hslots hd kk
theorem bs_put (C : bCx D cA A c p R s mid args meth cd) {j : Nat} {e5 : Nat × Nat × Nat × Nat × Nat} (he : bfind bFL c j = some e5) (hd : decode (bcode c) pc = .ok (.putfield j, 3)) {a n : Nat} {u : List (Nat × bV)} (hL : L[a]? = some (0, c, n, u)) {v : bV} (hf : bfit c e5.2.2.1 v = true) (hH : bH D cA A s q L H locs)
    (kk : ∀ (H1 : Heap) (locs1 : List Loc), bH D cA A s q (L.set a (0, c, n, (e5.2.2.1, v) :: u)) H1 locs1 → W p l e R s mid args below meth cd H1 locs1 cells slots Q (F0 mid (pc + 3) ls rest)) : W p l e R s mid args below meth cd H locs cells slots Q (F0 mid pc ls (bval q v :: .ref (q a) :: rest)) := by
  obtain ⟨hx1, hb1, hml, hown, hin, hts, ⟨hK, -, -⟩, -, -, hA⟩ := C
  obtain ⟨hP, hD, hS⟩ := hH
  obtain ⟨hm, h1, h2⟩ := bfind_ok he
  obtain ⟨hc, hk, hT, hw⟩ := bw_fl hm
  obtain ⟨e1, e2, k, e4, p5⟩ := e5
  dsimp only at h1 h2 hc hk hT hw hf kk
  subst h1
  subst h2
  have hg := bW_get0 (cA := cA) (q := q) hL
  have hg : (bW cA q 0 L)[a]? = some (q a, .inr (e1, (List.range (xcN e1)).map (fun j => bval q (bget u j (bdef e1 j))))) := hg
  have hlen : k < ((List.range (xcN e1)).map (fun j => bval q (bget u j (bdef e1 j)))).length := by rw [List.length_map, List.length_range]; exact hk
  have key : narrow (xtyf e1 k) (bval q v) = bval q v ∧ fits (xtyf e1 k) (bval q v) = true := by
    unfold bfit at hf
    rw [Bool.or_eq_true, Bool.and_eq_true, Bool.and_eq_true] at hf
    obtain ⟨t, z⟩ := v
    rcases hf with ⟨f1, f2⟩ | ⟨f1, f2⟩
    · cases Nat.eq_of_beq_eq_true (show Nat.beq t 3 = true from f1)
      have f2 := Nat.eq_of_beq_eq_true f2
      rcases bw_ty hc hk with ⟨-, -, ⟨t, h⟩ | ⟨t, h⟩⟩ | ⟨h1, -⟩ | ⟨h1, -⟩ | ⟨h1, -⟩
      · rw [h]; exact ⟨rfl, rfl⟩
      · rw [h]; exact ⟨rfl, rfl⟩
      · omega
      · omega
      · omega
    · cases Nat.eq_of_beq_eq_true (show Nat.beq t 0 = true from f1)
      have f2 := Nat.eq_of_beq_eq_true f2
      rcases bw_ty hc hk with ⟨h1, -⟩ | ⟨-, h⟩ | ⟨h1, -⟩ | ⟨h1, -⟩
      · omega
      · rw [h]; exact ⟨rfl, rfl⟩
      · omega
      · omega
  have k2 : ∀ (H1 : Heap) (locs1 : List Loc), va_P D xcl ((bW cA q 0 L).set a (q a, .inr (e1, ((List.range (xcN e1)).map (fun j => bval q (bget u j (bdef e1 j)))).set k (bval q v)))) H1 → va_D A ((bW cA q 0 L).set a (q a, .inr (e1, ((List.range (xcN e1)).map (fun j => bval q (bget u j (bdef e1 j)))).set k (bval q v)))) → va_S A s.heap H1 locs1 → W p l e R s mid args below meth cd H1 locs1 cells slots Q (F0 mid (pc + 3) ls rest) := by
    intro H1 locs1 p1 p2 p3
    rw [bcell_put (cA := cA) (n := n), bW_set0] at p1 p2
    exact kk H1 locs1 ⟨p1, p2, p3⟩
  have hsame : ∀ x, s.fieldFound? (xTt e1 k).1 (xTt e1 k).2.1 (xTt e1 k).2.2.1 = some x → s.fieldFound? (xCn e1) (xTt e1 k).2.1 (xTt e1 k).2.2.1 = some x := fun x h => by rw [← hT]; exact h
  cases hfin : (xTt e1 k).2.2.2 with
  | true => exact va_putF (D := D) (ci := e1) (v := bval q v) (ty := xtyf e1 k) (C := xCn e1) (T := xTt e1) (N := xcN e1) hx1 hb1 hts (xlay hc) (xtyf e1) (xtyf_ok e1 hc) (xnmf_ok e1 hc) hown hK hP hD hS a hg (xcl_at e1 hc) k hk (hts _ hw) hsame hfin hin hT (xtyf_ok e1 hc k hk) key.1 key.2 hlen hd k2
  | false => exact va_put (D := D) (ci := e1) (v := bval q v) (ty := xtyf e1 k) (C := xCn e1) (T := xTt e1) (N := xcN e1) hx1 hb1 hts (xlay hc) (xtyf e1) (xtyf_ok e1 hc) (xnmf_ok e1 hc) hown hK hP hD hS a hg (xcl_at e1 hc) k hk (hts _ hw) hsame hfin (xtyf_ok e1 hc k hk) key.1 key.2 hlen hd k2
theorem bs_get (C : bCx D cA A c p R s mid args meth cd) {j : Nat} {e5 : Nat × Nat × Nat × Nat × Nat} (he : bfind bFL c j = some e5) (hd : decode (bcode c) pc = .ok (.getfield j, 3)) {a n : Nat} {u : List (Nat × bV)} (hL : L[a]? = some (0, c, n, u)) (hH : bH D cA A s q L H locs)
    (kk : W p l e R s mid args below meth cd H locs cells slots Q (F0 mid (pc + 3) ls (bval q (bget u e5.2.2.1 (bdef c e5.2.2.1)) :: rest))) : W p l e R s mid args below meth cd H locs cells slots Q (F0 mid pc ls (.ref (q a) :: rest)) := by
  obtain ⟨hx1, hb1, hml, hown, hin, hts, ⟨hK, -, -⟩, -, -, hA⟩ := C
  obtain ⟨hP, hD, hS⟩ := hH
  obtain ⟨hm, h1, h2⟩ := bfind_ok he
  obtain ⟨hc, hk, hT, hw⟩ := bw_fl hm
  obtain ⟨e1, e2, k, e4, p5⟩ := e5
  dsimp only at h1 h2 hc hk hT hw kk
  subst h1
  subst h2
  have hg := bW_get0 (cA := cA) (q := q) hL
  have hg : (bW cA q 0 L)[a]? = some (q a, .inr (e1, (List.range (xcN e1)).map (fun j => bval q (bget u j (bdef e1 j))))) := hg
  have hsame : ∀ x, s.fieldFound? (xTt e1 k).1 (xTt e1 k).2.1 (xTt e1 k).2.2.1 = some x → s.fieldFound? (xCn e1) (xTt e1 k).2.1 (xTt e1 k).2.2.1 = some x := fun x h => by rw [← hT]; exact h
  exact va_get (D := D) (ci := e1) (v := bval q (bget u k (bdef e1 k))) (C := xCn e1) (T := xTt e1) (N := xcN e1) hx1 hb1 hts (xlay hc) hown hK hP a hg (xcl_at e1 hc) k hk (hts _ hw) hsame (by rw [List.getElem?_map, List.getElem?_range hk]; rfl) hd kk
theorem bta_ty (cA : Nat → ClassId) {c2 t : Nat} (h : bta c2 = some t) : c2 < 12 ∧ (xtys cA)[t]? = some (cA t, .object (xCn c2)) := by
  unfold bta at h
  split at h
  · cases h; exact ⟨by decide, rfl⟩
  · cases h; exact ⟨by decide, rfl⟩
  · cases h; exact ⟨by decide, rfl⟩
  · cases h
theorem bs_aast (C : bCx D cA A c p R s mid args meth cd) (hd : decode (bcode c) pc = .ok (.aastore, 1)) {a t n c2 n3 : Nat} {w x : Int} {u u3 : List (Nat × bV)} (hL : L[a]? = some (3, t, n, u)) (hv : L[w.toNat]? = some (0, c2, n3, u3)) (hb : bta c2 = some t) (hx : 0 ≤ x ∧ x < (n : Int) ∧ x < 1000) (hH : bH D cA A s q L H locs)
    (kk : ∀ (H1 : Heap) (locs1 : List Loc), bH D cA A s q (L.set a (3, t, n, (x.toNat, (3, w)) :: u)) H1 locs1 → W p l e R s mid args below meth cd H1 locs1 cells slots Q (F0 mid (pc + 1) ls rest)) : W p l e R s mid args below meth cd H locs cells slots Q (F0 mid pc ls (.ref (q w.toNat) :: .int (Int32.ofInt x) :: .ref (q a) :: rest)) := by
  obtain ⟨hx1, hb1, hml, hown, hin, hts, ⟨hK, -, -⟩, -, -, hA⟩ := C
  obtain ⟨hP, hD, hS⟩ := hH
  obtain ⟨hc2, ht⟩ := bta_ty cA hb
  have hx32 : x32 x := ⟨by omega, by omega⟩
  have hg := bW_get0 (cA := cA) (q := q) hL
  have hg : (bW cA q 0 L)[a]? = some (q a, .inl (cA t, n, .inr (.inr (.inr (.inr (fun j => bref q (bget u j (2, 0)))))))) := hg
  have hg2 := bW_get0 (cA := cA) (q := q) hv
  have hg2 : (bW cA q 0 L)[w.toNat]? = some (q w.toNat, .inr (c2, (List.range (xcN c2)).map (fun j => bval q (bget u3 j (bdef c2 j))))) := hg2
  have hin2 : vp_in (Int32.ofInt x) n := by
    have := x_in (n := (n : Int)) hx32 hx.1 hx.2.1
    rwa [Int.toNat_natCast] at this
  refine va_astq (D := D) hx1 hb1 hK hP hD hS a t w.toNat c2 hg ht hg2 (xcl_at c2 hc2) hin2 hd (fun H1 locs1 p1 p2 p3 => ?_)
  have ec : (Sum.inl (cA t, n, Sum.inr (Sum.inr (Sum.inr (Sum.inr (va_up (fun j => bref q (bget u j (2, 0))) (Int32.ofInt x).toNatClampNeg (some (q w.toNat))))))) : va_E) = bcell cA q (3, t, n, (x.toNat, (3, w)) :: u) := by
    show _ = (Sum.inl (cA t, n, Sum.inr (Sum.inr (Sum.inr (Sum.inr (fun j => bref q (bget ((x.toNat, (3, w)) :: u) j (2, 0))))))) : va_E)
    rw [show va_up (fun j => bref q (bget u j (2, 0))) (Int32.ofInt x).toNatClampNeg (some (q w.toNat)) = (fun j => bref q (bget ((x.toNat, (3, w)) :: u) j (2, 0))) from funext fun j => by
      show (if j = (Int32.ofInt x).toNatClampNeg then some (q w.toNat) else bref q (bget u j (2, 0))) = bref q (if j = x.toNat then (3, w) else bget u j (2, 0))
      rw [x_cl hx32]
      by_cases hj : j = x.toNat
      · rw [if_pos hj, if_pos hj]; rfl
      · rw [if_neg hj, if_neg hj]]
  rw [ec, bW_set0] at p1 p2
  exact kk H1 locs1 ⟨p1, p2, p3⟩
theorem bs_iast (C : bCx D cA A c p R s mid args meth cd) (hd : decode (bcode c) pc = .ok (.iastore, 1)) {a n : Nat} {w x : Int} {u : List (Nat × bV)} (hL : L[a]? = some (1, 0, n, u)) (hx : 0 ≤ x ∧ x < (n : Int) ∧ x < 1000) (hH : bH D cA A s q L H locs)
    (kk : ∀ (H1 : Heap) (locs1 : List Loc), bH D cA A s q (L.set a (1, 0, n, (x.toNat, (0, w)) :: u)) H1 locs1 → W p l e R s mid args below meth cd H1 locs1 cells slots Q (F0 mid (pc + 1) ls rest)) : W p l e R s mid args below meth cd H locs cells slots Q (F0 mid pc ls (.int (Int32.ofInt w) :: .int (Int32.ofInt x) :: .ref (q a) :: rest)) := by
  obtain ⟨hx1, hb1, hml, hown, hin, hts, ⟨hK, -, -⟩, -, -, hA⟩ := C
  obtain ⟨hP, hD, hS⟩ := hH
  have hx32 : x32 x := ⟨by omega, by omega⟩
  have hg := bW_get0 (cA := cA) (q := q) hL
  have hg : (bW cA q 0 L)[a]? = some (q a, .inl (cA 0, n, .inl (fun j => Int32.ofInt (bget u j (0, 0)).2))) := hg
  have hin2 : vp_in (Int32.ofInt x) n := by
    have := x_in (n := (n : Int)) hx32 hx.1 hx.2.1
    rwa [Int.toNat_natCast] at this
  refine va_iast (D := D) hx1 hb1 hK hP hD hS a 0 hg rfl hin2 hd (fun H1 locs1 p1 p2 p3 => ?_)
  have ec : (Sum.inl (cA 0, n, Sum.inl (upd (fun j => Int32.ofInt (bget u j (0, 0)).2) (Int32.ofInt x).toNatClampNeg (Int32.ofInt w))) : va_E) = bcell cA q (1, 0, n, (x.toNat, (0, w)) :: u) := by
    show _ = (Sum.inl (cA 0, n, Sum.inl (fun j => Int32.ofInt (bget ((x.toNat, (0, w)) :: u) j (0, 0)).2)) : va_E)
    rw [show upd (fun j => Int32.ofInt (bget u j (0, 0)).2) (Int32.ofInt x).toNatClampNeg (Int32.ofInt w) = (fun j => Int32.ofInt (bget ((x.toNat, (0, w)) :: u) j (0, 0)).2) from funext fun j => by
      show (if j = (Int32.ofInt x).toNatClampNeg then Int32.ofInt w else Int32.ofInt (bget u j (0, 0)).2) = Int32.ofInt (if j = x.toNat then ((0, w) : bV) else bget u j (0, 0)).2
      rw [x_cl hx32]
      by_cases hj : j = x.toNat
      · rw [if_pos hj, if_pos hj]
      · rw [if_neg hj, if_neg hj]]
  rw [ec, bW_set0] at p1 p2
  exact kk H1 locs1 ⟨p1, p2, p3⟩
end bMain
end
