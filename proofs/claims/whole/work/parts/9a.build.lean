/-! ===== THE BEGINNING, 1: a builder machine (tables printed by wip/tools/mk9a.py) ===== -/
noncomputable section
def bCt : List (Nat × Nat × Nat × Nat × Nat) := [(0, 9, 7, 2, 134), (7, 11, 10, 2, 140), (7, 20, 6, 2, 157), (0, 18, 6, 2, 285), (0, 28, 5, 0, 288), (5, 11, 4, 2, 294), (5, 27, 8, 2, 337), (0, 38, 2, 2, 360), (0, 48, 1, 2, 375), (0, 55, 3, 2, 388), (0, 74, 9, 2, 413)]
def bOi : List (Nat × Nat × Nat × Nat × Nat) := [(0, 1, 0, 0, 129), (7, 3, 0, 0, 137), (10, 3, 0, 0, 143), (6, 3, 0, 0, 160), (5, 3, 0, 0, 291), (4, 3, 0, 0, 297), (8, 3, 0, 0, 340), (2, 3, 0, 0, 363), (1, 3, 0, 0, 378), (3, 3, 0, 0, 391), (9, 3, 0, 0, 416), (11, 1, 0, 0, 1228)]
def bNw : List (Nat × Nat × Nat × Nat × Nat) := [(12, 7, 0, 0, 124), (0, 7, 7, 0, 132), (7, 9, 10, 0, 138), (7, 18, 6, 0, 155), (0, 16, 6, 0, 284), (0, 26, 5, 0, 286), (5, 9, 4, 0, 292), (5, 18, 8, 0, 334), (0, 36, 2, 0, 358), (0, 46, 1, 0, 373), (0, 53, 3, 0, 386), (0, 68, 9, 0, 410), (12, 10, 11, 0, 1223)]
def bFL : List (Nat × Nat × Nat × Nat × Nat) := [(10, 9, 0, 0, 144), (10, 15, 1, 0, 146), (6, 42, 0, 0, 161), (6, 46, 1, 0, 166), (6, 49, 2, 0, 172), (6, 52, 3, 0, 175), (6, 56, 4, 0, 178), (6, 59, 5, 0, 182), (6, 62, 6, 0, 185), (6, 65, 7, 0, 188), (6, 9, 8, 0, 191), (6, 15, 9, 0, 194), (6, 18, 10, 0, 197), (6, 21, 11, 0, 200), (6, 24, 12, 0, 202), (6, 27, 13, 0, 204), (6, 30, 14, 0, 207), (6, 33, 15, 0, 208), (6, 36, 16, 0, 209), (6, 39, 17, 0, 210), (7, 12, 0, 0, 252), (7, 21, 1, 0, 254), (7, 189, 2, 0, 256), (7, 32, 3, 0, 257), (7, 44, 4, 0, 258), (7, 143, 5, 0, 259), (7, 35, 6, 0, 260), (7, 29, 7, 0, 261), (7, 25, 8, 0, 263), (4, 34, 0, 0, 299), (4, 38, 1, 0, 303), (4, 9, 2, 0, 305), (4, 15, 3, 0, 307), (4, 18, 4, 0, 310), (4, 21, 5, 0, 313), (4, 24, 6, 0, 316), (8, 11, 0, 0, 341), (5, 12, 0, 0, 345), (5, 20, 1, 0, 347), (5, 24, 2, 0, 349), (2, 9, 0, 0, 364), (2, 15, 1, 0, 366), (1, 9, 0, 0, 379), (1, 15, 1, 0, 380), (3, 15, 0, 0, 392), (3, 20, 1, 0, 394), (3, 23, 2, 0, 396), (3, 26, 3, 0, 398), (9, 15, 0, 0, 417), (9, 19, 1, 0, 419), (9, 23, 2, 0, 421), (9, 9, 3, 0, 424), (0, 10, 0, 0, 437), (0, 19, 1, 0, 438), (0, 23, 2, 0, 439), (0, 29, 3, 0, 440), (0, 33, 4, 0, 441), (0, 39, 5, 0, 442), (0, 43, 6, 0, 443), (0, 49, 7, 0, 444), (0, 56, 8, 0, 445), (0, 60, 9, 0, 446), (0, 64, 10, 0, 447), (0, 70, 11, 0, 448), (11, 74, 0, 0, 1229), (11, 7, 1, 0, 1230), (11, 13, 2, 0, 1231), (11, 16, 3, 0, 1232), (11, 20, 4, 0, 1233), (11, 23, 5, 0, 1234), (11, 91, 6, 0, 1235), (11, 98, 7, 0, 1236), (11, 115, 8, 0, 1237), (11, 105, 9, 0, 1238), (11, 108, 10, 0, 1239), (11, 111, 11, 0, 1240), (11, 126, 12, 0, 1241), (11, 129, 13, 0, 1242), (11, 153, 14, 0, 1243), (11, 27, 15, 0, 1244), (11, 31, 16, 0, 1245), (11, 34, 17, 0, 1246), (11, 37, 18, 0, 1247), (11, 40, 19, 0, 1248), (11, 43, 20, 0, 1249), (11, 46, 21, 0, 1250), (11, 49, 22, 0, 1251), (11, 265, 23, 0, 1252), (11, 269, 24, 0, 1253), (11, 272, 25, 0, 1254), (11, 275, 26, 0, 1255), (11, 278, 27, 0, 1256), (11, 281, 28, 0, 1257), (11, 284, 29, 0, 1258), (11, 287, 30, 0, 1259), (11, 300, 31, 0, 1260), (11, 306, 32, 0, 1261), (11, 303, 33, 0, 1262), (11, 53, 34, 0, 1263), (11, 290, 35, 0, 1264), (11, 56, 36, 0, 1265), (11, 59, 37, 0, 1266), (11, 62, 38, 0, 1267), (11, 65, 39, 0, 1268), (11, 68, 40, 0, 1269), (11, 71, 41, 0, 1270), (11, 421, 42, 0, 1271), (11, 424, 43, 0, 1272), (11, 427, 44, 0, 1273), (11, 430, 45, 0, 1274), (11, 451, 46, 0, 1275)]
def bcode (c : Nat) : ByteArray := match c with
  | 0 => prog_1_method_1_code
  | 1 => prog_2_method_1_code
  | 2 => prog_3_method_1_code
  | 3 => prog_4_method_1_code
  | 4 => prog_5_method_1_code
  | 5 => prog_6_method_1_code
  | 6 => prog_7_method_1_code
  | 7 => prog_8_method_1_code
  | 8 => prog_9_method_1_code
  | 9 => prog_10_method_1_code
  | 10 => prog_11_method_1_code
  | _ => prog_13_method_1_code
def bml (c : Nat) : Nat := [2, 1, 1, 1, 1, 2, 1, 1, 1, 1, 1, 2].getD c 0
def bmc (c : Nat) : Nat := [308, 2, 2, 0, 5, 108, 10, 13, 1, 1, 1, 19].getD c 0
def bms (c : Nat) : Nat := [4424, 521, 48, 0, 54, 561, 114, 1734, 8, 60, 1600, 28853].getD c 0
def bfr (c : Nat) : Nat := [3, 1, 1, 1, 1, 2, 1, 2, 1, 1, 1, 1].getD c 0
def brl (c : Nat) : Nat := [53, 12, 12, 12, 12, 32, 12, 32, 12, 12, 12, 12].getD c 0
def bpc (c : Nat) : Nat := [128, 377, 362, 390, 296, 290, 159, 136, 339, 415, 142, 1227].getD c 0
def bpi (c : Nat) : Nat := [127, 376, 361, 389, 295, 289, 158, 135, 338, 414, 141, 1226].getD c 0
def bpn (c : Nat) : Nat := [103, 111, 110, 112, 108, 107, 106, 104, 109, 113, 105, 114].getD c 0
def bps (c : Nat) : Nat := [125, 374, 359, 387, 293, 287, 156, 133, 336, 412, 139, 1224].getD c 0
def bnm (c : Nat) : MethodName := ⟨xCn c, "<init>", "()V"⟩
set_option maxRecDepth 100000 in
theorem bco_0 : lw_tbl[128]? = some (.code (bnm 0) (bcode 0) (bml 0) none) := rfl
set_option maxRecDepth 100000 in
theorem bco_1 : lw_tbl[377]? = some (.code (bnm 1) (bcode 1) (bml 1) none) := rfl
set_option maxRecDepth 100000 in
theorem bco_2 : lw_tbl[362]? = some (.code (bnm 2) (bcode 2) (bml 2) none) := rfl
set_option maxRecDepth 100000 in
theorem bco_3 : lw_tbl[390]? = some (.code (bnm 3) (bcode 3) (bml 3) none) := rfl
set_option maxRecDepth 100000 in
theorem bco_4 : lw_tbl[296]? = some (.code (bnm 4) (bcode 4) (bml 4) none) := rfl
set_option maxRecDepth 100000 in
theorem bco_5 : lw_tbl[290]? = some (.code (bnm 5) (bcode 5) (bml 5) none) := rfl
set_option maxRecDepth 100000 in
theorem bco_6 : lw_tbl[159]? = some (.code (bnm 6) (bcode 6) (bml 6) none) := rfl
set_option maxRecDepth 100000 in
theorem bco_7 : lw_tbl[136]? = some (.code (bnm 7) (bcode 7) (bml 7) none) := rfl
set_option maxRecDepth 100000 in
theorem bco_8 : lw_tbl[339]? = some (.code (bnm 8) (bcode 8) (bml 8) none) := rfl
set_option maxRecDepth 100000 in
theorem bco_9 : lw_tbl[415]? = some (.code (bnm 9) (bcode 9) (bml 9) none) := rfl
set_option maxRecDepth 100000 in
theorem bco_10 : lw_tbl[142]? = some (.code (bnm 10) (bcode 10) (bml 10) none) := rfl
set_option maxRecDepth 100000 in
theorem bco_11 : lw_tbl[1227]? = some (.code (bnm 11) (bcode 11) (bml 11) none) := rfl
theorem bco_ok : ∀ c, c < 12 → lw_tbl[bpc c]? = some (.code (bnm c) (bcode c) (bml c) none) := xlt12 bco_0 bco_1 bco_2 bco_3 bco_4 bco_5 bco_6 bco_7 bco_8 bco_9 bco_10 bco_11
theorem bcw : ∀ c, c < 12 → Cond.code (bnm c) (bcode c) (bml c) none ∈ xws := fun c h => xin (bco_ok c h) rfl
theorem bob : Cond.code Lib.objectInit ⟨#[0xb1]⟩ 1 none ∈ xws ∧ Cond.instanceMethod Lib.objectInit ∈ xws := ⟨xin (p := 131) rfl rfl, xin (p := 130) (by decide +kernel) rfl⟩
theorem barw : Cond.arrayClass .int ∈ xws ∧ Cond.arrayClass .byte ∈ xws ∧ Cond.arrayClass .boolean ∈ xws ∧ Cond.arrayClass .long ∈ xws := ⟨xin (p := 251) (by decide +kernel) rfl, xin (p := 154) (by decide +kernel) rfl, xin (p := 436) (by decide +kernel) rfl, xin (p := 333) (by decide +kernel) rfl⟩
theorem barx : Cond.arrayOver (.object "ConsentDoors$Sets") ∈ lw_tbl ∧ Cond.arrayOver (.object "ConsentDoors$Prison") ∈ lw_tbl ∧ Cond.arrayOver (.object "ConsentDoors$Slot") ∈ lw_tbl := ⟨List.mem_of_getElem? (i := 335) (by decide +kernel), List.mem_of_getElem? (i := 409) (by decide +kernel), List.mem_of_getElem? (i := 411) (by decide +kernel)⟩
theorem blawl : Cond.methodLink (xCn 12) 9 (bnm 0) ∈ xws ∧ Cond.methodLink (xCn 12) 12 (bnm 11) ∈ xws := ⟨xin (p := 126) (by decide +kernel) rfl, xin (p := 1225) (by decide +kernel) rfl⟩
theorem blawn : Cond.classLink (xCn 12) 7 (xCn 0) ∈ xws ∧ Cond.classLink (xCn 12) 10 (xCn 11) ∈ xws := ⟨xin (p := 124) (by decide +kernel) rfl, xin (p := 1223) (by decide +kernel) rfl⟩
/-! the builder machine -/
abbrev bV : Type := Nat × Int
abbrev bE : Type := Nat × Nat × Nat × List (Nat × bV)
def bget : List (Nat × bV) → Nat → bV → bV
  | [], _, v => v
  | (i, w) :: u, j, v => if j = i then w else bget u j v
def bdef (c k : Nat) : bV := match (xft c k).1 with
  | 1 => (1, 0)
  | 3 => (2, 0)
  | _ => (0, 0)
def bokv (n : Nat) (v : bV) : Bool := Nat.ble v.1 2 || Nat.blt v.2.toNat n
def bokE (n : Nat) (e : bE) : Bool := e.2.2.2.all (fun p => bokv n p.2)
def bok (n k : Nat) (st : List bV) (L : List bE) : Bool := Nat.blt k n && (st.all (bokv n) && L.all (bokE n))
def bfind (T : List (Nat × Nat × Nat × Nat × Nat)) (c i : Nat) : Option (Nat × Nat × Nat × Nat × Nat) := T.find? (fun e => Nat.beq e.1 c && Nat.beq e.2.1 i)
/-- an array's sort, class -/
def barr : ArrayType → Option (Nat × Nat)
  | .int => some (1, 0)
  | .byte => some (1, 1)
  | .boolean => some (1, 2)
  | .long => some (2, 3)
  | _ => none
def bta : Nat → Option Nat
  | 8 => some 4
  | 6 => some 5
  | 9 => some 6
  | _ => none
def bfit (c k : Nat) (v : bV) : Bool := (Nat.beq v.1 3 && Nat.beq (xft c k).1 3) || (Nat.beq v.1 0 && Nat.beq (xft c k).1 0)
def bfn {α : Type} (n : Nat) (k : Nat → α) : α := match n with
  | 0 => k 0
  | m + 1 => k (m + 1)
theorem bfn_eq {α : Type} (n : Nat) (k : Nat → α) : bfn n k = k n := by cases n <;> rfl
def bfl {α : Type} : List bE → (List bE → α) → α
  | [], k => k []
  | e :: L, k => bfl L (fun L => k (e :: L))
theorem bfl_eq {α : Type} : ∀ (L : List bE) (k : List bE → α), bfl L k = k L
  | [], _ => rfl
  | e :: L, k => bfl_eq L (fun L => k (e :: L))
/-- one instruction -/
def bOne (go : Nat → Option Int → List bV → List bE → Nat → Nat → Option (List bE)) (call : Nat → Nat → List bE → Option (List bE)) (c k pc : Nat) (o : Option Int) (st : List bV) (L : List bE) (b1 b2 : Nat) (i : Instr) (n : Nat) : Option (List bE) := match i, n with
  | .aload_n j, 1 => if (j : Nat) = 0 then go (pc + 1) o ((3, (k : Int)) :: st) L b1 b2 else none
  | .iload_n j, 1 => match o with
    | some x => if (j : Nat) = 1 then go (pc + 1) o ((0, x) :: st) L b1 b2 else none
    | none => none
  | .istore_n j, 1 => match st with
    | (0, x) :: st2 => if (j : Nat) = 1 ∧ 1 < bml c then go (pc + 1) (some x) st2 L b1 b2 else none
    | _ => none
  | .dup, 1 => match st with
    | (3, x) :: st2 => go (pc + 1) o ((3, x) :: (3, x) :: st2) L b1 b2
    | _ => none
  | .iconst v, 1 => go (pc + 1) o ((0, v) :: st) L b1 b2
  | .bipush v, 2 => if -128 ≤ v ∧ v < 128 then go (pc + 2) o ((0, v) :: st) L b1 b2 else none
  | .sipush v, 3 => if -32768 ≤ v ∧ v < 32768 then go (pc + 3) o ((0, v) :: st) L b1 b2 else none
  | .iinc j v, 3 => match o with
    | some x => if j = 1 ∧ 1 < bml c then go (pc + 3) (some (x + v)) st L b1 b2 else none
    | none => none
  | .goto off, 3 => if 0 ≤ (pc : Int) + off then go ((pc : Int) + off).toNat o st L b1 b2 else none
  | .if_icmp cd off, 3 => match st with
    | (0, y) :: (0, x) :: st2 => if (-1000 ≤ x ∧ x < 1000) ∧ (-1000 ≤ y ∧ y < 1000) ∧ 0 ≤ (pc : Int) + off then
        match cd with
        | .ge => go (if x < y then pc + 3 else ((pc : Int) + off).toNat) o st2 L b1 b2
        | .gt => go (if y < x then ((pc : Int) + off).toNat else pc + 3) o st2 L b1 b2
        | _ => none
      else none
    | _ => none
  | .newarray t, 2 => match st with
    | (0, x) :: st2 => match barr t with
      | some (so, ty) => if (0 ≤ x ∧ x ≤ 20000) ∧ (1 ≤ b1 ∧ x.toNat ≤ b2) ∧ bok L.length k st2 L = true then bfn L.length (fun n => bfl (L ++ [(so, ty, x.toNat, [])]) (fun L => go (pc + 2) o ((3, (n : Int)) :: st2) L (b1 - 1) (b2 - x.toNat))) else none
      | none => none
    | _ => none
  | .anewarray j, 3 => match st with
    | (0, x) :: st2 => match bfind bNw c j with
      | some e => match bta e.2.2.1 with
        | some ty => if (0 ≤ x ∧ x ≤ 20000) ∧ (1 ≤ b1 ∧ x.toNat ≤ b2) ∧ bok L.length k st2 L = true then bfn L.length (fun n => bfl (L ++ [(3, ty, x.toNat, [])]) (fun L => go (pc + 3) o ((3, (n : Int)) :: st2) L (b1 - 1) (b2 - x.toNat))) else none
        | none => none
      | none => none
    | _ => none
  | .new j, 3 => match bfind bNw c j with
    | some e => if (1 ≤ b1 ∧ xcN e.2.2.1 ≤ b2) ∧ bok L.length k st L = true then bfn L.length (fun n => bfl (L ++ [(0, e.2.2.1, 0, [])]) (fun L => go (pc + 3) o ((3, (n : Int)) :: st) L (b1 - 1) (b2 - xcN e.2.2.1))) else none
    | none => none
  | .putfield j, 3 => match st with
    | v :: (3, a) :: st2 => match bfind bFL c j, L[a.toNat]? with
      | some e, some (0, c2, n2, u) => if c2 = c ∧ bfit c e.2.2.1 v = true then bfl (L.set a.toNat (0, c2, n2, (e.2.2.1, v) :: u)) (fun L => go (pc + 3) o st2 L b1 b2) else none
      | _, _ => none
    | _ => none
  | .getfield j, 3 => match st with
    | (3, a) :: st2 => match bfind bFL c j, L[a.toNat]? with
      | some e, some (0, c2, n2, u) => if c2 = c then go (pc + 3) o (bget u e.2.2.1 (bdef c2 e.2.2.1) :: st2) L b1 b2 else none
      | _, _ => none
    | _ => none
  | .aastore, 1 => match st with
    | (3, v) :: (0, x) :: (3, a) :: st2 => match L[a.toNat]?, L[v.toNat]? with
      | some (3, t, n2, u), some (0, c2, n3, u3) => if bta c2 = some t ∧ (0 ≤ x ∧ x < (n2 : Int) ∧ x < 1000) then bfl (L.set a.toNat (3, t, n2, (x.toNat, (3, v)) :: u)) (fun L => go (pc + 1) o st2 L b1 b2) else none
      | _, _ => none
    | _ => none
  | .iastore, 1 => match st with
    | (0, v) :: (0, x) :: (3, a) :: st2 => match L[a.toNat]? with
      | some (1, 0, n2, u) => if 0 ≤ x ∧ x < (n2 : Int) ∧ x < 1000 then bfl (L.set a.toNat (1, 0, n2, (x.toNat, (0, v)) :: u)) (fun L => go (pc + 1) o st2 L b1 b2) else none
      | _ => none
    | _ => none
  | .invokespecial j, 3 => match st with
    | (3, a) :: st2 => match bfind bOi c j with
      | some _ => match st2 with
        | [] => go (pc + 3) o [] L b1 b2
        | _ => none
      | none => match bfind bCt c j with
        | some e => if (bmc e.2.2.1 ≤ b1 ∧ bms e.2.2.1 ≤ b2) ∧ (bfr e.2.2.1 + 1 ≤ bfr c ∧ 8 + (bml e.2.2.1 + 11) + brl e.2.2.1 ≤ brl c) ∧ st2.length ≤ 4 ∧ bok L.length k st2 L = true then
            match call e.2.2.1 a.toNat L with
            | some L2 => if L.length ≤ L2.length then go (pc + 3) o st2 L2 (b1 - bmc e.2.2.1) (b2 - bms e.2.2.1) else none
            | none => none
          else none
        | none => none
    | _ => none
  | .return_, 1 => match st with
    | [] => some L
    | _ => none
  | _, _ => none
def bRun : Nat → Nat → Nat → Nat → Option Int → List bV → List bE → Nat → Nat → Option (List bE)
  | 0, _, _, _, _, _, _, _, _ => none
  | f + 1, c, k, pc, o, st, L, b1, b2 => match decode (bcode c) pc with
    | .ok (i, n) => bOne (fun pc o st L b1 b2 => bfn pc (fun pc => bfn b1 (fun b1 => bfn b2 (fun b2 => bRun f c k pc o st L b1 b2)))) (fun c2 a L => bRun f c2 a 0 none [] L (bmc c2) (bms c2)) c k pc o st L b1 b2 i n
    | .error _ => none
def bCtc (e : Nat × Nat × Nat × Nat × Nat) : Bool := decide (e.2.2.1 < 12) && ((Nat.beq e.2.2.2.1 2 && decide (lw_tbl[e.2.2.2.2]? = some (.methodLinkNest (xCn e.1) e.2.1 (bnm e.2.2.1) "ConsentDoors"))) || (Nat.beq e.2.2.2.1 0 && decide (lw_tbl[e.2.2.2.2]? = some (.methodLink (xCn e.1) e.2.1 (bnm e.2.2.1)))))
theorem bCt_all : bCt.all bCtc = true := by decide +kernel
theorem bOi_all : bOi.all (fun e => decide (lw_tbl[e.2.2.2.2]? = some (.methodLink (xCn e.1) e.2.1 Lib.objectInit))) = true := by decide +kernel
theorem bNw_all : bNw.all (fun e => decide (e.2.2.1 < 12) && decide (lw_tbl[e.2.2.2.2]? = some (.classLink (xCn e.1) e.2.1 (xCn e.2.2.1)))) = true := by decide +kernel
theorem bFL_all : bFL.all (fun e => decide (e.1 < 12) && (decide (e.2.2.1 < xcN e.1) && (decide ((xTt e.1 e.2.2.1).1 = xCn e.1) && decide (lw_tbl[e.2.2.2.2]? = some (.fieldLink (xCn e.1) e.2.1 (xCn e.1) (xTt e.1 e.2.2.1).2.1 (xTt e.1 e.2.2.1).2.2.1))))) = true := by decide +kernel
theorem bPs_all : (List.range 12).all (fun c => decide (lw_tbl[bpi c]? = some (.instanceMethod (bnm c))) && (decide (lw_tbl[bpn c]? = some (.initialized (xCn c))) && (decide (lw_tbl[bps c]? = some (.instantiable (xCn c) (xcN c))) && (decide ((bnm c).cls ≠ "java/lang/invoke/MethodHandle" ∧ (bnm c).cls ≠ "java/lang/invoke/VarHandle" ∧ (parseMethodDescriptor (bnm c).desc).map (fun d => d.parameters.length) = some 0) && plainName (bnm c).cls)))) = true := by decide +kernel
theorem bty_all : (List.range 12).all (fun c => (List.range (xcN c)).all (fun k => (decide ((xft c k).1 = 3) && (decide (defaultValue (xtyf c k) = .null) && (match xtyf c k with
  | .object _ => true
  | .array _ => true
  | _ => false))) || (decide ((xft c k).1 = 0) && decide (xtyf c k = .int)) || (decide ((xft c k).1 = 1) && decide (xtyf c k = .long)) || (decide ((xft c k).1 = 2) && decide (xtyf c k = .boolean)))) = true := by decide +kernel
end
