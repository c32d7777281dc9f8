/-! ===== SOUNDNESS, 4: the heap that a memory stands for ===== -/
noncomputable section
def xT0 : u_T := fun k => match k with
  | 0 => ("ConsentDoors", "reader", "LConsentDoors$Reader;", true)
  | 1 => ("ConsentDoors", "held", "LConsentDoors$Prison;", true)
  | 2 => ("ConsentDoors", "draft", "LConsentDoors$Prison;", true)
  | 3 => ("ConsentDoors", "outlook", "LConsentDoors$Outlook;", true)
  | 4 => ("ConsentDoors", "trial", "LConsentDoors$Outlook;", true)
  | 5 => ("ConsentDoors", "course", "LConsentDoors$Course;", true)
  | 6 => ("ConsentDoors", "trialCourse", "LConsentDoors$Course;", true)
  | 7 => ("ConsentDoors", "corridors", "LConsentDoors$Corridor;", true)
  | 8 => ("ConsentDoors", "inquiry", "LConsentDoors$Inquiry;", true)
  | 9 => ("ConsentDoors", "images", "[LConsentDoors$Prison;", true)
  | 10 => ("ConsentDoors", "kept", "[Z", true)
  | _ => ("ConsentDoors", "slots", "[LConsentDoors$Slot;", true)
def xTy0 : Nat → FieldType := fun k => match k with
  | 0 => (.object "ConsentDoors$Reader")
  | 1 => (.object "ConsentDoors$Prison")
  | 2 => (.object "ConsentDoors$Prison")
  | 3 => (.object "ConsentDoors$Outlook")
  | 4 => (.object "ConsentDoors$Outlook")
  | 5 => (.object "ConsentDoors$Course")
  | 6 => (.object "ConsentDoors$Course")
  | 7 => (.object "ConsentDoors$Corridor")
  | 8 => (.object "ConsentDoors$Inquiry")
  | 9 => (.array (.object "ConsentDoors$Prison"))
  | 10 => (.array .boolean)
  | _ => (.array (.object "ConsentDoors$Slot"))
theorem xnm0 : ∀ a, a < 12 → ∀ b, b < 12 → a ≠ b → (xT0 a).2.1 ≠ (xT0 b).2.1 := by decide +kernel
theorem xty0 : ∀ k, k < 12 → parseFieldDescriptor (xT0 k).2.2.1 = some (xTy0 k) := by decide +kernel
def xT1 : u_T := fun k => match k with
  | 0 => ("ConsentDoors$Corridor", "cost", "[I", true)
  | _ => ("ConsentDoors$Corridor", "price", "[I", true)
def xTy1 : Nat → FieldType := fun k => match k with
  | 0 => (.array .int)
  | _ => (.array .int)
theorem xnm1 : ∀ a, a < 2 → ∀ b, b < 2 → a ≠ b → (xT1 a).2.1 ≠ (xT1 b).2.1 := by decide +kernel
theorem xty1 : ∀ k, k < 2 → parseFieldDescriptor (xT1 k).2.2.1 = some (xTy1 k) := by decide +kernel
def xT2 : u_T := fun k => match k with
  | 0 => ("ConsentDoors$Course", "opened", "[I", true)
  | _ => ("ConsentDoors$Course", "goneBehind", "[I", true)
def xTy2 : Nat → FieldType := fun k => match k with
  | 0 => (.array .int)
  | _ => (.array .int)
theorem xnm2 : ∀ a, a < 2 → ∀ b, b < 2 → a ≠ b → (xT2 a).2.1 ≠ (xT2 b).2.1 := by decide +kernel
theorem xty2 : ∀ k, k < 2 → parseFieldDescriptor (xT2 k).2.2.1 = some (xTy2 k) := by decide +kernel
def xT3 : u_T := fun k => match k with
  | 0 => ("ConsentDoors$Inquiry", "found", "I", false)
  | 1 => ("ConsentDoors$Inquiry", "least", "I", false)
  | 2 => ("ConsentDoors$Inquiry", "inAll", "I", false)
  | _ => ("ConsentDoors$Inquiry", "inSome", "I", false)
def xTy3 : Nat → FieldType := fun k => match k with
  | 0 => .int
  | 1 => .int
  | 2 => .int
  | _ => .int
theorem xnm3 : ∀ a, a < 4 → ∀ b, b < 4 → a ≠ b → (xT3 a).2.1 ≠ (xT3 b).2.1 := by decide +kernel
theorem xty3 : ∀ k, k < 4 → parseFieldDescriptor (xT3 k).2.2.1 = some (xTy3 k) := by decide +kernel
def xT4 : u_T := fun k => match k with
  | 0 => ("ConsentDoors$Keys", "cells", "I", false)
  | 1 => ("ConsentDoors$Keys", "hours", "I", false)
  | 2 => ("ConsentDoors$Keys", "turnHours", "[I", true)
  | 3 => ("ConsentDoors$Keys", "openHours", "[I", true)
  | 4 => ("ConsentDoors$Keys", "neighbours", "[I", true)
  | 5 => ("ConsentDoors$Keys", "barring", "[I", true)
  | _ => ("ConsentDoors$Keys", "unbarred", "[J", true)
def xTy4 : Nat → FieldType := fun k => match k with
  | 0 => .int
  | 1 => .int
  | 2 => (.array .int)
  | 3 => (.array .int)
  | 4 => (.array .int)
  | 5 => (.array .int)
  | _ => (.array .long)
theorem xnm4 : ∀ a, a < 7 → ∀ b, b < 7 → a ≠ b → (xT4 a).2.1 ≠ (xT4 b).2.1 := by decide +kernel
theorem xty4 : ∀ k, k < 7 → parseFieldDescriptor (xT4 k).2.2.1 = some (xTy4 k) := by decide +kernel
def xT5 : u_T := fun k => match k with
  | 0 => ("ConsentDoors$Outlook", "keys", "LConsentDoors$Keys;", true)
  | 1 => ("ConsentDoors$Outlook", "reach", "[LConsentDoors$Sets;", true)
  | _ => ("ConsentDoors$Outlook", "winning", "[LConsentDoors$Sets;", true)
def xTy5 : Nat → FieldType := fun k => match k with
  | 0 => (.object "ConsentDoors$Keys")
  | 1 => (.array (.object "ConsentDoors$Sets"))
  | _ => (.array (.object "ConsentDoors$Sets"))
theorem xnm5 : ∀ a, a < 3 → ∀ b, b < 3 → a ≠ b → (xT5 a).2.1 ≠ (xT5 b).2.1 := by decide +kernel
theorem xty5 : ∀ k, k < 3 → parseFieldDescriptor (xT5 k).2.2.1 = some (xTy5 k) := by decide +kernel
def xT6 : u_T := fun k => match k with
  | 0 => ("ConsentDoors$Prison", "cells", "I", false)
  | 1 => ("ConsentDoors$Prison", "hours", "I", false)
  | 2 => ("ConsentDoors$Prison", "lines", "I", false)
  | 3 => ("ConsentDoors$Prison", "ring", "Z", false)
  | 4 => ("ConsentDoors$Prison", "loyal", "I", false)
  | 5 => ("ConsentDoors$Prison", "quarrels", "I", false)
  | 6 => ("ConsentDoors$Prison", "sleeps", "I", false)
  | 7 => ("ConsentDoors$Prison", "soups", "I", false)
  | 8 => ("ConsentDoors$Prison", "kind", "[I", true)
  | 9 => ("ConsentDoors$Prison", "number", "[I", true)
  | 10 => ("ConsentDoors$Prison", "temper", "[I", true)
  | 11 => ("ConsentDoors$Prison", "sleepsTold", "[I", true)
  | 12 => ("ConsentDoors$Prison", "sleepHours", "[I", true)
  | 13 => ("ConsentDoors$Prison", "told", "[I", true)
  | 14 => ("ConsentDoors$Prison", "soupBond", "[I", true)
  | 15 => ("ConsentDoors$Prison", "soupPoints", "[I", true)
  | 16 => ("ConsentDoors$Prison", "soupHour", "[I", true)
  | _ => ("ConsentDoors$Prison", "plan", "[I", true)
def xTy6 : Nat → FieldType := fun k => match k with
  | 0 => .int
  | 1 => .int
  | 2 => .int
  | 3 => .boolean
  | 4 => .int
  | 5 => .int
  | 6 => .int
  | 7 => .int
  | 8 => (.array .int)
  | 9 => (.array .int)
  | 10 => (.array .int)
  | 11 => (.array .int)
  | 12 => (.array .int)
  | 13 => (.array .int)
  | 14 => (.array .int)
  | 15 => (.array .int)
  | 16 => (.array .int)
  | _ => (.array .int)
theorem xnm6 : ∀ a, a < 18 → ∀ b, b < 18 → a ≠ b → (xT6 a).2.1 ≠ (xT6 b).2.1 := by decide +kernel
theorem xty6 : ∀ k, k < 18 → parseFieldDescriptor (xT6 k).2.2.1 = some (xTy6 k) := by decide +kernel
def xT7 : u_T := fun k => match k with
  | 0 => ("ConsentDoors$Reader", "tape", "LConsentDoors$Tape;", true)
  | 1 => ("ConsentDoors$Reader", "into", "LConsentDoors$Prison;", true)
  | 2 => ("ConsentDoors$Reader", "at", "I", false)
  | 3 => ("ConsentDoors$Reader", "next", "I", false)
  | 4 => ("ConsentDoors$Reader", "sort", "I", false)
  | 5 => ("ConsentDoors$Reader", "value", "I", false)
  | 6 => ("ConsentDoors$Reader", "cellsTold", "I", false)
  | 7 => ("ConsentDoors$Reader", "fault", "I", false)
  | _ => ("ConsentDoors$Reader", "place", "I", false)
def xTy7 : Nat → FieldType := fun k => match k with
  | 0 => (.object "ConsentDoors$Tape")
  | 1 => (.object "ConsentDoors$Prison")
  | 2 => .int
  | 3 => .int
  | 4 => .int
  | 5 => .int
  | 6 => .int
  | 7 => .int
  | _ => .int
theorem xnm7 : ∀ a, a < 9 → ∀ b, b < 9 → a ≠ b → (xT7 a).2.1 ≠ (xT7 b).2.1 := by decide +kernel
theorem xty7 : ∀ k, k < 9 → parseFieldDescriptor (xT7 k).2.2.1 = some (xTy7 k) := by decide +kernel
def xT8 : u_T := fun k => match k with
  | _ => ("ConsentDoors$Sets", "words", "[J", true)
def xTy8 : Nat → FieldType := fun k => match k with
  | _ => (.array .long)
theorem xnm8 : ∀ a, a < 1 → ∀ b, b < 1 → a ≠ b → (xT8 a).2.1 ≠ (xT8 b).2.1 := by decide +kernel
theorem xty8 : ∀ k, k < 1 → parseFieldDescriptor (xT8 k).2.2.1 = some (xTy8 k) := by decide +kernel
def xT9 : u_T := fun k => match k with
  | 0 => ("ConsentDoors$Slot", "hasRow", "Z", false)
  | 1 => ("ConsentDoors$Slot", "width", "I", false)
  | 2 => ("ConsentDoors$Slot", "size", "I", false)
  | _ => ("ConsentDoors$Slot", "numbers", "[J", true)
def xTy9 : Nat → FieldType := fun k => match k with
  | 0 => .boolean
  | 1 => .int
  | 2 => .int
  | _ => (.array .long)
theorem xnm9 : ∀ a, a < 4 → ∀ b, b < 4 → a ≠ b → (xT9 a).2.1 ≠ (xT9 b).2.1 := by decide +kernel
theorem xty9 : ∀ k, k < 4 → parseFieldDescriptor (xT9 k).2.2.1 = some (xTy9 k) := by decide +kernel
def xT10 : u_T := fun k => match k with
  | 0 => ("ConsentDoors$Tape", "bytes", "[B", true)
  | _ => ("ConsentDoors$Tape", "length", "I", false)
def xTy10 : Nat → FieldType := fun k => match k with
  | 0 => (.array .byte)
  | _ => .int
theorem xnm10 : ∀ a, a < 2 → ∀ b, b < 2 → a ≠ b → (xT10 a).2.1 ≠ (xT10 b).2.1 := by decide +kernel
theorem xty10 : ∀ k, k < 2 → parseFieldDescriptor (xT10 k).2.2.1 = some (xTy10 k) := by decide +kernel
def xT11 : u_T := fun k => match k with
  | 0 => ("ConsentDoorsModel", "thrown", "I", false)
  | 1 => ("ConsentDoorsModel", "width", "[I", true)
  | 2 => ("ConsentDoorsModel", "many", "[I", true)
  | 3 => ("ConsentDoorsModel", "cells", "[J", true)
  | 4 => ("ConsentDoorsModel", "moved", "[J", true)
  | 5 => ("ConsentDoorsModel", "tape", "[B", true)
  | 6 => ("ConsentDoorsModel", "taped", "I", false)
  | 7 => ("ConsentDoorsModel", "at", "I", false)
  | 8 => ("ConsentDoorsModel", "token", "I", false)
  | 9 => ("ConsentDoorsModel", "place", "I", false)
  | 10 => ("ConsentDoorsModel", "value", "I", false)
  | 11 => ("ConsentDoorsModel", "word", "J", false)
  | 12 => ("ConsentDoorsModel", "bad", "I", false)
  | 13 => ("ConsentDoorsModel", "badPlace", "I", false)
  | 14 => ("ConsentDoorsModel", "fault", "I", false)
  | 15 => ("ConsentDoorsModel", "faultPlace", "I", false)
  | 16 => ("ConsentDoorsModel", "lines", "[I", true)
  | 17 => ("ConsentDoorsModel", "has", "[I", true)
  | 18 => ("ConsentDoorsModel", "man", "[I", true)
  | 19 => ("ConsentDoorsModel", "sleeps", "[I", true)
  | 20 => ("ConsentDoorsModel", "soup", "[I", true)
  | 21 => ("ConsentDoorsModel", "plan", "[I", true)
  | 22 => ("ConsentDoorsModel", "isKept", "[Z", true)
  | 23 => ("ConsentDoorsModel", "noSleep", "Z", false)
  | 24 => ("ConsentDoorsModel", "allLike", "Z", false)
  | 25 => ("ConsentDoorsModel", "allFriendly", "Z", false)
  | 26 => ("ConsentDoorsModel", "mended", "I", false)
  | 27 => ("ConsentDoorsModel", "deafMore", "I", false)
  | 28 => ("ConsentDoorsModel", "loyalMore", "I", false)
  | 29 => ("ConsentDoorsModel", "refuse", "I", false)
  | 30 => ("ConsentDoorsModel", "moreCell", "I", false)
  | 31 => ("ConsentDoorsModel", "moreSide", "I", false)
  | 32 => ("ConsentDoorsModel", "morePoints", "I", false)
  | 33 => ("ConsentDoorsModel", "moreHour", "I", false)
  | 34 => ("ConsentDoorsModel", "drawnSleep", "[I", true)
  | 35 => ("ConsentDoorsModel", "isDrawn", "Z", false)
  | 36 => ("ConsentDoorsModel", "would", "[I", true)
  | 37 => ("ConsentDoorsModel", "comes", "[I", true)
  | 38 => ("ConsentDoorsModel", "outBehind", "[I", true)
  | 39 => ("ConsentDoorsModel", "can", "[Z", true)
  | 40 => ("ConsentDoorsModel", "final0", "[I", true)
  | 41 => ("ConsentDoorsModel", "cost", "[I", true)
  | 42 => ("ConsentDoorsModel", "refusedMany", "I", false)
  | 43 => ("ConsentDoorsModel", "refusedLeast", "I", false)
  | 44 => ("ConsentDoorsModel", "refusedAll", "I", false)
  | 45 => ("ConsentDoorsModel", "refusedSome", "I", false)
  | _ => ("ConsentDoorsModel", "drawnHours", "I", false)
def xTy11 : Nat → FieldType := fun k => match k with
  | 0 => .int
  | 1 => (.array .int)
  | 2 => (.array .int)
  | 3 => (.array .long)
  | 4 => (.array .long)
  | 5 => (.array .byte)
  | 6 => .int
  | 7 => .int
  | 8 => .int
  | 9 => .int
  | 10 => .int
  | 11 => .long
  | 12 => .int
  | 13 => .int
  | 14 => .int
  | 15 => .int
  | 16 => (.array .int)
  | 17 => (.array .int)
  | 18 => (.array .int)
  | 19 => (.array .int)
  | 20 => (.array .int)
  | 21 => (.array .int)
  | 22 => (.array .boolean)
  | 23 => .boolean
  | 24 => .boolean
  | 25 => .boolean
  | 26 => .int
  | 27 => .int
  | 28 => .int
  | 29 => .int
  | 30 => .int
  | 31 => .int
  | 32 => .int
  | 33 => .int
  | 34 => (.array .int)
  | 35 => .boolean
  | 36 => (.array .int)
  | 37 => (.array .int)
  | 38 => (.array .int)
  | 39 => (.array .boolean)
  | 40 => (.array .int)
  | 41 => (.array .int)
  | 42 => .int
  | 43 => .int
  | 44 => .int
  | 45 => .int
  | _ => .int
theorem xnm11 : ∀ a, a < 47 → ∀ b, b < 47 → a ≠ b → (xT11 a).2.1 ≠ (xT11 b).2.1 := by decide +kernel
theorem xty11 : ∀ k, k < 47 → parseFieldDescriptor (xT11 k).2.2.1 = some (xTy11 k) := by decide +kernel
abbrev xcl : List vw_C := [("ConsentDoors", xT0, 12), ("ConsentDoors$Corridor", xT1, 2), ("ConsentDoors$Course", xT2, 2), ("ConsentDoors$Inquiry", xT3, 4), ("ConsentDoors$Keys", xT4, 7), ("ConsentDoors$Outlook", xT5, 3), ("ConsentDoors$Prison", xT6, 18), ("ConsentDoors$Reader", xT7, 9), ("ConsentDoors$Sets", xT8, 1), ("ConsentDoors$Slot", xT9, 4), ("ConsentDoors$Tape", xT10, 2), ("ConsentDoorsModel", xT11, 47)]
def xCn (c : Nat) : String := match c with
  | 0 => "ConsentDoors"
  | 1 => "ConsentDoors$Corridor"
  | 2 => "ConsentDoors$Course"
  | 3 => "ConsentDoors$Inquiry"
  | 4 => "ConsentDoors$Keys"
  | 5 => "ConsentDoors$Outlook"
  | 6 => "ConsentDoors$Prison"
  | 7 => "ConsentDoors$Reader"
  | 8 => "ConsentDoors$Sets"
  | 9 => "ConsentDoors$Slot"
  | 10 => "ConsentDoors$Tape"
  | 11 => "ConsentDoorsModel"
  | 12 => "ConsentDoorsLaw"
  | 13 => "java/lang/Integer"
  | 14 => "java/lang/Long"
  | 15 => "java/lang/Math"
  | 16 => "java/util/Arrays"
  | _ => ""
/-- a field: 0 an int, 1 a long, 2 a boolean, 3 a reference; how far behind lies what it refers to -/
def xft (c k : Nat) : Nat × Int := match c with
  | 0 => match k with
    | 0 => (3, 1)
    | 1 => (3, 15)
    | 2 => (3, 26)
    | 3 => (3, 37)
    | 4 => (3, 146)
    | 5 => (3, 255)
    | 6 => (3, 258)
    | 7 => (3, 261)
    | 8 => (3, 264)
    | 9 => (3, 265)
    | 10 => (3, 266)
    | 11 => (3, 267)
    | _ => (0, 0)
  | 1 => match k with
    | 0 => (3, 1)
    | 1 => (3, 2)
    | _ => (0, 0)
  | 2 => match k with
    | 0 => (3, 1)
    | 1 => (3, 2)
    | _ => (0, 0)
  | 3 => match k with
    | 0 => (0, 0)
    | 1 => (0, 0)
    | 2 => (0, 0)
    | 3 => (0, 0)
    | _ => (0, 0)
  | 4 => match k with
    | 0 => (0, 0)
    | 1 => (0, 0)
    | 2 => (3, 1)
    | 3 => (3, 2)
    | 4 => (3, 3)
    | 5 => (3, 4)
    | 6 => (3, 5)
    | _ => (0, 0)
  | 5 => match k with
    | 0 => (3, 1)
    | 1 => (3, 7)
    | 2 => (3, 8)
    | _ => (0, 0)
  | 6 => match k with
    | 0 => (0, 0)
    | 1 => (0, 0)
    | 2 => (0, 0)
    | 3 => (2, 0)
    | 4 => (0, 0)
    | 5 => (0, 0)
    | 6 => (0, 0)
    | 7 => (0, 0)
    | 8 => (3, 1)
    | 9 => (3, 2)
    | 10 => (3, 3)
    | 11 => (3, 4)
    | 12 => (3, 5)
    | 13 => (3, 6)
    | 14 => (3, 7)
    | 15 => (3, 8)
    | 16 => (3, 9)
    | 17 => (3, 10)
    | _ => (0, 0)
  | 7 => match k with
    | 0 => (3, 1)
    | 1 => (3, 3)
    | 2 => (0, 0)
    | 3 => (0, 0)
    | 4 => (0, 0)
    | 5 => (0, 0)
    | 6 => (0, 0)
    | 7 => (0, 0)
    | 8 => (0, 0)
    | _ => (0, 0)
  | 8 => match k with
    | 0 => (3, 1)
    | _ => (0, 0)
  | 9 => match k with
    | 0 => (2, 0)
    | 1 => (0, 0)
    | 2 => (0, 0)
    | 3 => (3, 1)
    | _ => (0, 0)
  | 10 => match k with
    | 0 => (3, 1)
    | 1 => (0, 0)
    | _ => (0, 0)
  | 11 => match k with
    | 0 => (0, 0)
    | 1 => (3, 1)
    | 2 => (3, 2)
    | 3 => (3, 3)
    | 4 => (3, 4)
    | 5 => (3, 5)
    | 6 => (0, 0)
    | 7 => (0, 0)
    | 8 => (0, 0)
    | 9 => (0, 0)
    | 10 => (0, 0)
    | 11 => (1, 0)
    | 12 => (0, 0)
    | 13 => (0, 0)
    | 14 => (0, 0)
    | 15 => (0, 0)
    | 16 => (3, 6)
    | 17 => (3, 7)
    | 18 => (3, 8)
    | 19 => (3, 9)
    | 20 => (3, 10)
    | 21 => (3, 11)
    | 22 => (3, 12)
    | 23 => (2, 0)
    | 24 => (2, 0)
    | 25 => (2, 0)
    | 26 => (0, 0)
    | 27 => (0, 0)
    | 28 => (0, 0)
    | 29 => (0, 0)
    | 30 => (0, 0)
    | 31 => (0, 0)
    | 32 => (0, 0)
    | 33 => (0, 0)
    | 34 => (3, 13)
    | 35 => (2, 0)
    | 36 => (3, 14)
    | 37 => (3, 15)
    | 38 => (3, 16)
    | 39 => (3, 17)
    | 40 => (3, 18)
    | 41 => (3, 19)
    | 42 => (0, 0)
    | 43 => (0, 0)
    | 44 => (0, 0)
    | 45 => (0, 0)
    | 46 => (0, 0)
    | _ => (0, 0)
  | _ => (0, 0)
/-- a cell's place holds a long -/
def xlgK (k : Nat) (i : Int) : Bool := match xak k with
  | some (3, _) => true
  | some _ => false
  | none => decide (0 ≤ i) && ((xft k i.toNat).1 == 1)
abbrev xkd (a : Int) : Nat := xkn.getD a.toNat 999
/-- every number fits its place -/
def xrg (M : xM) : Prop := ∀ a i : Int, (xlgK (xkd a) i = true → x64 (M a i)) ∧ (xlgK (xkd a) i = false → x32 (M a i))
/-- the script -/
def xsc (L : Nat) (xs : Nat → Int32) (M : xM) : Prop := M 0 4000 = (L : Int) ∧ ∀ j : Nat, j < L → M 0 (j : Int) = (xs j).toInt
def xfv (d : xAd) (M : xM) (a : Int) (c k : Nat) : Value := match xft c k with
  | (0, _) => .int (Int32.ofInt (M a (k : Int)))
  | (1, _) => .long (Int64.ofInt (M a (k : Int)))
  | (2, _) => .int (Int32.ofInt (M a (k : Int)))
  | (_, off) => .ref (d.1 (a + off))
def xcN (c : Nat) : Nat := match xcl[c]? with
  | some q => q.2.2
  | none => 0
/-- the class of an array: 0 int, 1 byte, 2 boolean, 3 long, 4 Sets, 5 Prison, 6 Slot -/
def xrc (k : Nat) : Nat := match k with
  | 60 => 5
  | 61 => 6
  | _ => 4
def xentK (cA : Nat → ClassId) (d : xAd) (M : xM) (a : Int) (k : Nat) : va_E := match xak k with
  | some (3, n) => .inl (cA 3, n.toNat, .inr (.inl (fun j => Int64.ofInt (M a (j : Int)))))
  | some (t, n) => .inl (cA t, n.toNat, .inl (fun j => Int32.ofInt (M a (j : Int))))
  | none => match xrk k with
    | some (_, n, off, str) => .inl (cA (xrc k), n.toNat, .inr (.inr (.inr (.inr (fun j => some (d.1 (a + off + str * (j : Int))))))))
    | none => .inr (k, (List.range (xcN k)).map (xfv d M a k))
def xent (cA : Nat → ClassId) (d : xAd) (M : xM) (a : Int) : va_E := xentK cA d M a (xkd a)
def xwd (cA : Nat → ClassId) (d : xAd) (M : xM) : va_W := (List.range 329).map (fun j : Nat => (d.1 ((j : Int) + 1), xent cA d M ((j : Int) + 1)))
def xtys (cA : Nat → ClassId) : List (ClassId × FieldType) := [(cA 0, .int), (cA 1, .byte), (cA 2, .boolean), (cA 3, .long), (cA 4, .object "ConsentDoors$Sets"), (cA 5, .object "ConsentDoors$Prison"), (cA 6, .object "ConsentDoors$Slot")]
/-- the cells' addresses: apart, and all in A -/
def xap (A : Nat → Prop) (d : xAd) : Prop := (∀ a b : Int, 1 ≤ a → a ≤ 329 → 1 ≤ b → b ≤ 329 → d.1 a = d.1 b → a = b) ∧ ∀ a : Int, 1 ≤ a → a ≤ 329 → A (d.1 a)
theorem xwd_at {cA : Nat → ClassId} {d : xAd} {M : xM} {a : Int} (h1 : 1 ≤ a) (h2 : a ≤ 329) : (xwd cA d M)[(a - 1).toNat]? = some (d.1 a, xent cA d M a) := by
  unfold xwd
  rw [List.getElem?_map, List.getElem?_range (by omega)]
  have e : (((a - 1).toNat : Nat) : Int) + 1 = a := by omega
  simp only [Option.map_some, e]
theorem xwd_D {A : Nat → Prop} {cA : Nat → ClassId} {d : xAd} (h : xap A d) (M : xM) : va_D A (xwd cA d M) := by
  have key : ∀ (i : Nat) (p : Nat × va_E), (xwd cA d M)[i]? = some p → i < 329 ∧ p.1 = d.1 ((i : Int) + 1) := by
    intro i p hi
    unfold xwd at hi
    rw [List.getElem?_map] at hi
    by_cases hlt : i < 329
    · rw [List.getElem?_range hlt] at hi
      simp only [Option.map_some, Option.some.injEq] at hi
      exact ⟨hlt, by rw [← hi]⟩
    · rw [List.getElem?_eq_none (by simpa using hlt)] at hi
      cases hi
  refine ⟨fun i j p q hi hj hpq => ?_, fun k q hk => ?_⟩
  · obtain ⟨a1, a2⟩ := key i p hi
    obtain ⟨b1, b2⟩ := key j q hj
    rw [a2, b2] at hpq
    have := h.1 _ _ (by omega) (by omega) (by omega) (by omega) hpq
    omega
  · obtain ⟨a1, a2⟩ := key k q hk
    rw [a2]
    exact h.2 _ (by omega) (by omega)
theorem xwd_set {cA : Nat → ClassId} {d : xAd} {M M' : xM} {a : Int} (h1 : 1 ≤ a) (h2 : a ≤ 329) {E : va_E} (hE : E = xent cA d M' a) (ho : ∀ b : Int, b ≠ a → xent cA d M' b = xent cA d M b) : (xwd cA d M).set (a - 1).toNat (d.1 a, E) = xwd cA d M' := by
  subst hE
  apply List.ext_getElem?
  intro i
  rw [List.getElem?_set]
  unfold xwd
  simp only [List.length_map, List.length_range]
  split
  · next hi =>
    subst hi
    rw [if_pos (show (a - 1).toNat < 329 by omega), List.getElem?_map, List.getElem?_range (show (a - 1).toNat < 329 by omega)]
    have e : (((a - 1).toNat : Nat) : Int) + 1 = a := by omega
    simp only [Option.map_some, e]
  · next hi =>
    rw [List.getElem?_map, List.getElem?_map]
    by_cases hlt : i < 329
    · rw [List.getElem?_range hlt]
      simp only [Option.map_some]
      rw [ho _ (by omega)]
    · rw [List.getElem?_eq_none (by simpa using hlt)]
      rfl
theorem xwr_ne {M : xM} {a i v x : Int} (h : x ≠ a) : (fun y => xwr M a i v x y) = M x := by
  funext y
  unfold xwr
  rw [if_neg (fun q => h q.1)]
theorem xent_wr {cA : Nat → ClassId} {d : xAd} {M : xM} {a i v b : Int} (h : b ≠ a) : xent cA d (xwr M a i v) b = xent cA d M b := by
  have e : ∀ y, xwr M a i v b y = M b y := fun y => by unfold xwr; rw [if_neg (fun q => h q.1)]
  unfold xent xentK
  have ef : xfv d (xwr M a i v) b (xkd b) = xfv d M b (xkd b) := by
    funext k
    unfold xfv
    simp only [e]
  simp only [e, ef]
theorem xent_cpy {cA : Nat → ClassId} {d : xAd} {M : xM} {a i o j n b : Int} (h : b ≠ o) : xent cA d (xcpy M a i o j n) b = xent cA d M b := by
  have e : ∀ y, xcpy M a i o j n b y = M b y := fun y => by unfold xcpy; rw [if_neg (fun q => h q.1)]
  unfold xent xentK
  have ef : xfv d (xcpy M a i o j n) b (xkd b) = xfv d M b (xkd b) := by
    funext k
    unfold xfv
    simp only [e]
  simp only [e, ef]
theorem xval_cell {k : Nat} {a : Int} (h : xval k a) (h0 : k ≠ 50) (h1 : k ≠ 51) (h2 : k ≠ 52) : 1 ≤ a ∧ a ≤ 329 ∧ xkd a = k := by
  unfold xval at h
  rw [if_neg h0, if_neg h1, if_neg h2] at h
  exact h
theorem xadr_cell {d : xAd} {k : Nat} {a : Int} (h0 : k ≠ 50) (h1 : k ≠ 51) (h2 : k ≠ 52) : xadr d k a = d.1 a := by
  unfold xadr
  rw [if_neg h0, if_neg h1, if_neg h2]
theorem xrg_wr {M : xM} {a i v : Int} (h : xrg M) (h1 : xlgK (xkd a) i = true → x64 v) (h2 : xlgK (xkd a) i = false → x32 v) : xrg (xwr M a i v) := by
  intro x y
  unfold xwr
  by_cases hq : x = a ∧ y = i
  · obtain ⟨rfl, rfl⟩ := hq
    rw [if_pos ⟨rfl, rfl⟩]
    exact ⟨h1, h2⟩
  · rw [if_neg hq]
    exact h x y
theorem x32_64 {v : Int} (h : x32 v) : x64 v := ⟨by have := h.1; omega, by have := h.2; omega⟩
theorem xsc_wr {L : Nat} {xs : Nat → Int32} {M : xM} {a i v : Int} (h : xsc L xs M) (ha : 1 ≤ a) : xsc L xs (xwr M a i v) := by
  have e : ∀ y, xwr M a i v 0 y = M 0 y := fun y => by unfold xwr; rw [if_neg (fun q => by omega)]
  exact ⟨by rw [e]; exact h.1, fun j hj => by rw [e]; exact h.2 j hj⟩
theorem xsc_cpy {L : Nat} {xs : Nat → Int32} {M : xM} {a i o j n : Int} (h : xsc L xs M) (ha : 1 ≤ o) : xsc L xs (xcpy M a i o j n) := by
  have e : ∀ y, xcpy M a i o j n 0 y = M 0 y := fun y => by unfold xcpy; rw [if_neg (fun q => by omega)]
  exact ⟨by rw [e]; exact h.1, fun j hj => by rw [e]; exact h.2 j hj⟩
/-- what holds of the heap at a configuration -/
def xI (D : va_G) (cA : Nat → ClassId) (d : xAd) (A : Nat → Prop) (s : State) (L : Nat) (xs : Nat → Int32) (M : xM) (H : Heap) (locs : List Loc) : Prop :=
  va_P D xcl (xwd cA d M) H ∧ va_S A s.heap H locs ∧ xrg M ∧ xsc L xs M
end
