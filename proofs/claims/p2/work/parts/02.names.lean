/-! ===== BEGIN words of one list among another's, by their places ===== -/
theorem goodIn_r {big : List Cond} (ws : List Cond) (ps : List Nat) (hp : ws = ps.filterMap (fun i => big[i]?)) (h : ws.all goodWord = true) : GoodIn big ws := by
  intro w hw
  have h1 := List.all_eq_true.mp h w hw
  rw [hp] at hw
  obtain ⟨i, -, hi⟩ := List.mem_filterMap.mp hw
  have hm : w ∈ big := by first | exact List.mem_of_getElem? hi | exact List.getElem?_mem hi
  exact ⟨hm, good_of_word h1⟩
theorem goodIn_app {big a b : List Cond} (ha : GoodIn big a) (hb : GoodIn big b) : GoodIn big (a ++ b) := fun w h => (List.mem_append.mp h).elim (ha w) (hb w)
theorem goodIn_ca {big a b : List Cond} {c : Cond} (ha : GoodIn big (c :: a)) (hb : GoodIn big b) : GoodIn big (c :: (a ++ b)) := fun w h => (List.mem_cons.mp h).elim (fun e => ha w (List.mem_cons.mpr (Or.inl e))) (fun h => (List.mem_append.mp h).elim (fun h => ha w (List.mem_cons.mpr (Or.inr h))) (hb w))
theorem goodIn_sub {big ws : List Cond} (hm : ∀ w ∈ ws, w ∈ big) (h : ws.all goodWord = true) : GoodIn big ws := fun w hw => ⟨hm w hw, good_of_word (List.all_eq_true.mp h w hw)⟩
/-! ===== END ===== -/


def RX0 : String := "CellSlide$Changes"
def RX1 : String := "CellSlide$HeapText"
def RX2 : String := "CellSlide$Kinds"
def RX3 : String := "CellSlide$Picture"
def RX4 : String := "CellSlide$RunText"
def RX5 : String := "CellSlide$Runner"
def RX6 : String := "CellSlide$Sight"
def RX7 : String := "CellSlide$Slide"
def RX8 : String := "CellSlide$State"
def RX9 : String := "CellSlide$Survey"
def RX10 : String := "CellSlide$Tape"
def RX11 : String := "CellSlide"
def RX12 : String := "CellSlideModel"
def RJ7 : String := "java/util/Arrays"
def RL : String := "CellSlideLaw"
def TX0 : u_T := fun k => match k with
  | 0 => ("CellSlide$Changes", "kinds", "LCellSlide$Kinds;", true)
  | 1 => ("CellSlide$Changes", "slide", "LCellSlide$Slide;", true)
  | _ => ("CellSlide$Changes", "seed", "J", false)
def tyX0 : Nat → FieldType := fun k => match k with
  | 0 => .object "CellSlide$Kinds"
  | 1 => .object "CellSlide$Slide"
  | _ => .long
abbrev wsX00 : List Cond := u_ws RX0 TX0 3
theorem nmX0 : ∀ a, a < 3 → ∀ b, b < 3 → a ≠ b → (TX0 a).2.1 ≠ (TX0 b).2.1 := by decide +kernel
theorem tyX0_ok : ∀ k, k < 3 → parseFieldDescriptor (TX0 k).2.2.1 = some (tyX0 k) := by decide +kernel
def TX1 : u_T := fun k => match k with
  | 0 => ("CellSlide$HeapText", "tape", "LCellSlide$Tape;", true)
  | 1 => ("CellSlide$HeapText", "kinds", "LCellSlide$Kinds;", true)
  | 2 => ("CellSlide$HeapText", "state", "LCellSlide$State;", true)
  | 3 => ("CellSlide$HeapText", "cellNames", "[J", true)
  | 4 => ("CellSlide$HeapText", "cellBegins", "[I", true)
  | 5 => ("CellSlide$HeapText", "cellCount", "I", false)
  | 6 => ("CellSlide$HeapText", "statements", "I", false)
  | _ => ("CellSlide$HeapText", "item", "I", false)
def tyX1 : Nat → FieldType := fun k => match k with
  | 0 => .object "CellSlide$Tape"
  | 1 => .object "CellSlide$Kinds"
  | 2 => .object "CellSlide$State"
  | 3 => .array .long
  | 4 => .array .int
  | 5 => .int
  | 6 => .int
  | _ => .int
abbrev wsX10 : List Cond := u_ws RX1 TX1 8
theorem nmX1 : ∀ a, a < 8 → ∀ b, b < 8 → a ≠ b → (TX1 a).2.1 ≠ (TX1 b).2.1 := by decide +kernel
theorem tyX1_ok : ∀ k, k < 8 → parseFieldDescriptor (TX1 k).2.2.1 = some (tyX1 k) := by decide +kernel
def TX2 : u_T := fun k => match k with
  | 0 => ("CellSlide$Kinds", "count", "I", false)
  | 1 => ("CellSlide$Kinds", "names", "[J", true)
  | 2 => ("CellSlide$Kinds", "fields", "[I", true)
  | _ => ("CellSlide$Kinds", "sorts", "[I", true)
def tyX2 : Nat → FieldType := fun k => match k with
  | 0 => .int
  | 1 => .array .long
  | 2 => .array .int
  | _ => .array .int
abbrev wsX20 : List Cond := u_ws RX2 TX2 4
theorem nmX2 : ∀ a, a < 4 → ∀ b, b < 4 → a ≠ b → (TX2 a).2.1 ≠ (TX2 b).2.1 := by decide +kernel
theorem tyX2_ok : ∀ k, k < 4 → parseFieldDescriptor (TX2 k).2.2.1 = some (tyX2 k) := by decide +kernel
def TX3 : u_T := fun k => match k with
  | 0 => ("CellSlide$Picture", "kinds", "LCellSlide$Kinds;", true)
  | 1 => ("CellSlide$Picture", "bytes", "[I", true)
  | _ => ("CellSlide$Picture", "length", "I", false)
def tyX3 : Nat → FieldType := fun k => match k with
  | 0 => .object "CellSlide$Kinds"
  | 1 => .array .int
  | _ => .int
abbrev wsX30 : List Cond := u_ws RX3 TX3 3
theorem nmX3 : ∀ a, a < 3 → ∀ b, b < 3 → a ≠ b → (TX3 a).2.1 ≠ (TX3 b).2.1 := by decide +kernel
theorem tyX3_ok : ∀ k, k < 3 → parseFieldDescriptor (TX3 k).2.2.1 = some (tyX3 k) := by decide +kernel
def TX4 : u_T := fun k => match k with
  | 0 => ("CellSlide$RunText", "tape", "LCellSlide$Tape;", true)
  | 1 => ("CellSlide$RunText", "kinds", "LCellSlide$Kinds;", true)
  | 2 => ("CellSlide$RunText", "code", "[I", true)
  | 3 => ("CellSlide$RunText", "size", "I", false)
  | 4 => ("CellSlide$RunText", "open", "[I", true)
  | _ => ("CellSlide$RunText", "depth", "I", false)
def tyX4 : Nat → FieldType := fun k => match k with
  | 0 => .object "CellSlide$Tape"
  | 1 => .object "CellSlide$Kinds"
  | 2 => .array .int
  | 3 => .int
  | 4 => .array .int
  | _ => .int
abbrev wsX40 : List Cond := u_ws RX4 TX4 6
theorem nmX4 : ∀ a, a < 6 → ∀ b, b < 6 → a ≠ b → (TX4 a).2.1 ≠ (TX4 b).2.1 := by decide +kernel
theorem tyX4_ok : ∀ k, k < 6 → parseFieldDescriptor (TX4 k).2.2.1 = some (tyX4 k) := by decide +kernel
def TX5 : u_T := fun k => match k with
  | 0 => ("CellSlide$Runner", "state", "LCellSlide$State;", true)
  | 1 => ("CellSlide$Runner", "kinds", "LCellSlide$Kinds;", true)
  | 2 => ("CellSlide$Runner", "slide", "LCellSlide$Slide;", true)
  | 3 => ("CellSlide$Runner", "text", "LCellSlide$RunText;", true)
  | 4 => ("CellSlide$Runner", "code", "[I", true)
  | 5 => ("CellSlide$Runner", "roundsLeft", "[I", true)
  | 6 => ("CellSlide$Runner", "level", "I", false)
  | 7 => ("CellSlide$Runner", "at", "I", false)
  | 8 => ("CellSlide$Runner", "acts", "I", false)
  | 9 => ("CellSlide$Runner", "failure", "I", false)
  | _ => ("CellSlide$Runner", "failedAt", "I", false)
def tyX5 : Nat → FieldType := fun k => match k with
  | 0 => .object "CellSlide$State"
  | 1 => .object "CellSlide$Kinds"
  | 2 => .object "CellSlide$Slide"
  | 3 => .object "CellSlide$RunText"
  | 4 => .array .int
  | 5 => .array .int
  | 6 => .int
  | 7 => .int
  | 8 => .int
  | 9 => .int
  | _ => .int
abbrev wsX50 : List Cond := u_ws RX5 TX5 11
theorem nmX5 : ∀ a, a < 11 → ∀ b, b < 11 → a ≠ b → (TX5 a).2.1 ≠ (TX5 b).2.1 := by decide +kernel
theorem tyX5_ok : ∀ k, k < 11 → parseFieldDescriptor (TX5 k).2.2.1 = some (tyX5 k) := by decide +kernel
def TX6 : u_T := fun k => match k with
  | 0 => ("CellSlide$Sight", "slide", "LCellSlide$Slide;", true)
  | 1 => ("CellSlide$Sight", "ghost", "LCellSlide$State;", true)
  | 2 => ("CellSlide$Sight", "addresses", "[I", true)
  | 3 => ("CellSlide$Sight", "values", "[I", true)
  | 4 => ("CellSlide$Sight", "rows", "I", false)
  | 5 => ("CellSlide$Sight", "hits", "[I", true)
  | 6 => ("CellSlide$Sight", "hitCount", "I", false)
  | 7 => ("CellSlide$Sight", "telling", "I", false)
  | 8 => ("CellSlide$Sight", "mostLeft", "I", false)
  | 9 => ("CellSlide$Sight", "words", "[I", false)
  | _ => ("CellSlide$Sight", "alike", "[I", false)
def tyX6 : Nat → FieldType := fun k => match k with
  | 0 => .object "CellSlide$Slide"
  | 1 => .object "CellSlide$State"
  | 2 => .array .int
  | 3 => .array .int
  | 4 => .int
  | 5 => .array .int
  | 6 => .int
  | 7 => .int
  | 8 => .int
  | 9 => .array .int
  | _ => .array .int
abbrev wsX60 : List Cond := u_ws RX6 TX6 11
theorem nmX6 : ∀ a, a < 11 → ∀ b, b < 11 → a ≠ b → (TX6 a).2.1 ≠ (TX6 b).2.1 := by decide +kernel
theorem tyX6_ok : ∀ k, k < 11 → parseFieldDescriptor (TX6 k).2.2.1 = some (tyX6 k) := by decide +kernel
def TX7 : u_T := fun k => match k with
  | 0 => ("CellSlide$Slide", "kinds", "LCellSlide$Kinds;", true)
  | _ => ("CellSlide$Slide", "survey", "LCellSlide$Survey;", true)
def tyX7 : Nat → FieldType := fun k => match k with
  | 0 => .object "CellSlide$Kinds"
  | _ => .object "CellSlide$Survey"
abbrev wsX70 : List Cond := u_ws RX7 TX7 2
theorem nmX7 : ∀ a, a < 2 → ∀ b, b < 2 → a ≠ b → (TX7 a).2.1 ≠ (TX7 b).2.1 := by decide +kernel
theorem tyX7_ok : ∀ k, k < 2 → parseFieldDescriptor (TX7 k).2.2.1 = some (tyX7 k) := by decide +kernel
def TX8 : u_T := fun k => match k with
  | 0 => ("CellSlide$State", "words", "I", false)
  | 1 => ("CellSlide$State", "limit", "I", false)
  | 2 => ("CellSlide$State", "method", "I", false)
  | 3 => ("CellSlide$State", "held", "[I", true)
  | 4 => ("CellSlide$State", "going", "Z", false)
  | 5 => ("CellSlide$State", "done", "I", false)
  | 6 => ("CellSlide$State", "live", "[I", true)
  | 7 => ("CellSlide$State", "liveCount", "I", false)
  | 8 => ("CellSlide$State", "blocks", "I", false)
  | 9 => ("CellSlide$State", "cells", "I", false)
  | 10 => ("CellSlide$State", "clearedWeak", "I", false)
  | 11 => ("CellSlide$State", "ended", "I", false)
  | 12 => ("CellSlide$State", "keptCount", "I", false)
  | _ => ("CellSlide$State", "kept", "[I", true)
def tyX8 : Nat → FieldType := fun k => match k with
  | 0 => .int
  | 1 => .int
  | 2 => .int
  | 3 => .array .int
  | 4 => .boolean
  | 5 => .int
  | 6 => .array .int
  | 7 => .int
  | 8 => .int
  | 9 => .int
  | 10 => .int
  | 11 => .int
  | 12 => .int
  | _ => .array .int
abbrev wsX80 : List Cond := u_ws RX8 TX8 14
theorem nmX8 : ∀ a, a < 14 → ∀ b, b < 14 → a ≠ b → (TX8 a).2.1 ≠ (TX8 b).2.1 := by decide +kernel
theorem tyX8_ok : ∀ k, k < 14 → parseFieldDescriptor (TX8 k).2.2.1 = some (tyX8 k) := by decide +kernel
def TX9 : u_T := fun k => match k with
  | 0 => ("CellSlide$Survey", "kinds", "LCellSlide$Kinds;", true)
  | 1 => ("CellSlide$Survey", "begins", "[I", true)
  | 2 => ("CellSlide$Survey", "foundIndex", "[I", true)
  | 3 => ("CellSlide$Survey", "order", "[I", true)
  | 4 => ("CellSlide$Survey", "far", "[I", true)
  | 5 => ("CellSlide$Survey", "from", "[I", true)
  | 6 => ("CellSlide$Survey", "by", "[I", true)
  | 7 => ("CellSlide$Survey", "threads", "[I", true)
  | 8 => ("CellSlide$Survey", "count", "I", false)
  | 9 => ("CellSlide$Survey", "liveWords", "I", false)
  | _ => ("CellSlide$Survey", "without", "I", false)
def tyX9 : Nat → FieldType := fun k => match k with
  | 0 => .object "CellSlide$Kinds"
  | 1 => .array .int
  | 2 => .array .int
  | 3 => .array .int
  | 4 => .array .int
  | 5 => .array .int
  | 6 => .array .int
  | 7 => .array .int
  | 8 => .int
  | 9 => .int
  | _ => .int
abbrev wsX90 : List Cond := u_ws RX9 TX9 11
theorem nmX9 : ∀ a, a < 11 → ∀ b, b < 11 → a ≠ b → (TX9 a).2.1 ≠ (TX9 b).2.1 := by decide +kernel
theorem tyX9_ok : ∀ k, k < 11 → parseFieldDescriptor (TX9 k).2.2.1 = some (tyX9 k) := by decide +kernel
def TX10 : u_T := fun k => match k with
  | 0 => ("CellSlide$Tape", "bytes", "[I", true)
  | 1 => ("CellSlide$Tape", "length", "I", false)
  | 2 => ("CellSlide$Tape", "at", "I", false)
  | 3 => ("CellSlide$Tape", "tokenAt", "I", false)
  | 4 => ("CellSlide$Tape", "tokenEnd", "I", false)
  | 5 => ("CellSlide$Tape", "own", "I", false)
  | 6 => ("CellSlide$Tape", "name", "J", false)
  | 7 => ("CellSlide$Tape", "number", "I", false)
  | 8 => ("CellSlide$Tape", "fault", "I", false)
  | _ => ("CellSlide$Tape", "place", "I", false)
def tyX10 : Nat → FieldType := fun k => match k with
  | 0 => .array .int
  | 1 => .int
  | 2 => .int
  | 3 => .int
  | 4 => .int
  | 5 => .int
  | 6 => .long
  | 7 => .int
  | 8 => .int
  | _ => .int
abbrev wsX100 : List Cond := u_ws RX10 TX10 10
theorem nmX10 : ∀ a, a < 10 → ∀ b, b < 10 → a ≠ b → (TX10 a).2.1 ≠ (TX10 b).2.1 := by decide +kernel
theorem tyX10_ok : ∀ k, k < 10 → parseFieldDescriptor (TX10 k).2.2.1 = some (tyX10 k) := by decide +kernel
def TX11 : u_T := fun k => match k with
  | 0 => ("CellSlide", "tape", "LCellSlide$Tape;", true)
  | 1 => ("CellSlide", "kinds", "LCellSlide$Kinds;", true)
  | 2 => ("CellSlide", "draftKinds", "LCellSlide$Kinds;", true)
  | 3 => ("CellSlide", "state", "LCellSlide$State;", true)
  | 4 => ("CellSlide", "draft", "LCellSlide$State;", true)
  | 5 => ("CellSlide", "survey", "LCellSlide$Survey;", true)
  | 6 => ("CellSlide", "slide", "LCellSlide$Slide;", true)
  | 7 => ("CellSlide", "heapText", "LCellSlide$HeapText;", true)
  | 8 => ("CellSlide", "runText", "LCellSlide$RunText;", true)
  | 9 => ("CellSlide", "runner", "LCellSlide$Runner;", true)
  | 10 => ("CellSlide", "changes", "LCellSlide$Changes;", true)
  | 11 => ("CellSlide", "sight", "LCellSlide$Sight;", true)
  | 12 => ("CellSlide", "picture", "LCellSlide$Picture;", true)
  | 13 => ("CellSlide", "refused", "[I", true)
  | 14 => ("CellSlide", "past", "[LCellSlide$State;", true)
  | 15 => ("CellSlide", "pastCount", "I", false)
  | 16 => ("CellSlide", "pastNext", "I", false)
  | 17 => ("CellSlide", "remembered", "[I", true)
  | 18 => ("CellSlide", "rememberedLength", "I", false)
  | _ => ("CellSlide", "shapeNow", "[I", true)
def tyX11 : Nat → FieldType := fun k => match k with
  | 0 => .object "CellSlide$Tape"
  | 1 => .object "CellSlide$Kinds"
  | 2 => .object "CellSlide$Kinds"
  | 3 => .object "CellSlide$State"
  | 4 => .object "CellSlide$State"
  | 5 => .object "CellSlide$Survey"
  | 6 => .object "CellSlide$Slide"
  | 7 => .object "CellSlide$HeapText"
  | 8 => .object "CellSlide$RunText"
  | 9 => .object "CellSlide$Runner"
  | 10 => .object "CellSlide$Changes"
  | 11 => .object "CellSlide$Sight"
  | 12 => .object "CellSlide$Picture"
  | 13 => .array .int
  | 14 => .array (.object "CellSlide$State")
  | 15 => .int
  | 16 => .int
  | 17 => .array .int
  | 18 => .int
  | _ => .array .int
abbrev wsX110 : List Cond := u_ws RX11 TX11 20
theorem nmX11 : ∀ a, a < 20 → ∀ b, b < 20 → a ≠ b → (TX11 a).2.1 ≠ (TX11 b).2.1 := by decide +kernel
theorem tyX11_ok : ∀ k, k < 20 → parseFieldDescriptor (TX11 k).2.2.1 = some (tyX11 k) := by decide +kernel
def TX12 : u_T := fun k => match k with
  | 0 => ("CellSlideModel", "tape", "[I", true)
  | 1 => ("CellSlideModel", "taped", "I", false)
  | 2 => ("CellSlideModel", "at", "I", false)
  | 3 => ("CellSlideModel", "end", "I", false)
  | 4 => ("CellSlideModel", "ended", "I", false)
  | 5 => ("CellSlideModel", "bad", "I", false)
  | 6 => ("CellSlideModel", "badPlace", "I", false)
  | 7 => ("CellSlideModel", "fault", "I", false)
  | 8 => ("CellSlideModel", "faultPlace", "I", false)
  | 9 => ("CellSlideModel", "refused", "[I", true)
  | 10 => ("CellSlideModel", "heapWord", "[C", true)
  | 11 => ("CellSlideModel", "kindWord", "[C", true)
  | 12 => ("CellSlideModel", "cellWord", "[C", true)
  | 13 => ("CellSlideModel", "setWord", "[C", true)
  | 14 => ("CellSlideModel", "rootWord", "[C", true)
  | 15 => ("CellSlideModel", "methodWord", "[C", true)
  | 16 => ("CellSlideModel", "numWord", "[C", true)
  | 17 => ("CellSlideModel", "refWord", "[C", true)
  | 18 => ("CellSlideModel", "weakWord", "[C", true)
  | 19 => ("CellSlideModel", "nilWord", "[C", true)
  | 20 => ("CellSlideModel", "newWord", "[C", true)
  | 21 => ("CellSlideModel", "slideWord", "[C", true)
  | 22 => ("CellSlideModel", "repeatWord", "[C", true)
  | 23 => ("CellSlideModel", "whenWord", "[C", true)
  | 24 => ("CellSlideModel", "namePlace", "I", false)
  | 25 => ("CellSlideModel", "size", "I", false)
  | 26 => ("CellSlideModel", "size0", "I", false)
  | 27 => ("CellSlideModel", "kindMany", "I", false)
  | 28 => ("CellSlideModel", "kindMany0", "I", false)
  | 29 => ("CellSlideModel", "fields", "[I", true)
  | 30 => ("CellSlideModel", "sorts", "[I", true)
  | 31 => ("CellSlideModel", "kindName", "[I", true)
  | 32 => ("CellSlideModel", "cellName", "[I", true)
  | 33 => ("CellSlideModel", "cellFirst", "[I", true)
  | 34 => ("CellSlideModel", "cellNames", "I", false)
  | 35 => ("CellSlideModel", "now", "[I", true)
  | 36 => ("CellSlideModel", "laid", "[I", true)
  | 37 => ("CellSlideModel", "view", "[I", true)
  | 38 => ("CellSlideModel", "isTold", "Z", false)
  | 39 => ("CellSlideModel", "statements", "I", false)
  | 40 => ("CellSlideModel", "cellMany", "I", false)
  | 41 => ("CellSlideModel", "firstOf", "[I", true)
  | 42 => ("CellSlideModel", "cellOfWord", "[I", true)
  | 43 => ("CellSlideModel", "live", "[Z", true)
  | 44 => ("CellSlideModel", "liveMany", "I", false)
  | 45 => ("CellSlideModel", "liveAt", "[I", true)
  | 46 => ("CellSlideModel", "goesTo", "[I", true)
  | 47 => ("CellSlideModel", "blockMany", "I", false)
  | 48 => ("CellSlideModel", "blockAt", "[I", true)
  | 49 => ("CellSlideModel", "blockWords", "[I", true)
  | 50 => ("CellSlideModel", "weakGone", "I", false)
  | 51 => ("CellSlideModel", "far", "[I", true)
  | 52 => ("CellSlideModel", "near", "[I", true)
  | 53 => ("CellSlideModel", "foundMany", "I", false)
  | 54 => ("CellSlideModel", "foundRow", "[I", true)
  | 55 => ("CellSlideModel", "foundAs", "[I", true)
  | 56 => ("CellSlideModel", "isRemembered", "Z", false)
  | 57 => ("CellSlideModel", "shapeMany", "I", false)
  | 58 => ("CellSlideModel", "shapeMany0", "I", false)
  | 59 => ("CellSlideModel", "shape", "[I", true)
  | 60 => ("CellSlideModel", "shape0", "[I", true)
  | 61 => ("CellSlideModel", "rowMany", "I", false)
  | 62 => ("CellSlideModel", "rows", "[I", true)
  | 63 => ("CellSlideModel", "fits", "[Z", true)
  | 64 => ("CellSlideModel", "fitMany", "I", false)
  | 65 => ("CellSlideModel", "held", "[I", true)
  | 66 => ("CellSlideModel", "like", "[I", true)
  | 67 => ("CellSlideModel", "kept0", "[I", true)
  | 68 => ("CellSlideModel", "undoable", "I", false)
  | 69 => ("CellSlideModel", "newest", "I", false)
  | 70 => ("CellSlideModel", "seeded", "J", false)
  | 71 => ("CellSlideModel", "registerWord", "[C", true)
  | 72 => ("CellSlideModel", "opened", "I", false)
  | 73 => ("CellSlideModel", "failKind", "I", false)
  | 74 => ("CellSlideModel", "failPlace", "I", false)
  | 75 => ("CellSlideModel", "acts", "I", false)
  | 76 => ("CellSlideModel", "valueSort", "I", false)
  | 77 => ("CellSlideModel", "valueNumber", "I", false)
  | 78 => ("CellSlideModel", "frameMany", "I", false)
  | 79 => ("CellSlideModel", "framePlace", "[I", true)
  | 80 => ("CellSlideModel", "frameBody", "[I", true)
  | 81 => ("CellSlideModel", "frameLeft", "[I", true)
  | 82 => ("CellSlideModel", "octet", "[I", true)
  | _ => ("CellSlideModel", "octets", "I", false)
def tyX12 : Nat → FieldType := fun k => match k with
  | 0 => .array .int
  | 1 => .int
  | 2 => .int
  | 3 => .int
  | 4 => .int
  | 5 => .int
  | 6 => .int
  | 7 => .int
  | 8 => .int
  | 9 => .array .int
  | 10 => .array .char
  | 11 => .array .char
  | 12 => .array .char
  | 13 => .array .char
  | 14 => .array .char
  | 15 => .array .char
  | 16 => .array .char
  | 17 => .array .char
  | 18 => .array .char
  | 19 => .array .char
  | 20 => .array .char
  | 21 => .array .char
  | 22 => .array .char
  | 23 => .array .char
  | 24 => .int
  | 25 => .int
  | 26 => .int
  | 27 => .int
  | 28 => .int
  | 29 => .array .int
  | 30 => .array .int
  | 31 => .array .int
  | 32 => .array .int
  | 33 => .array .int
  | 34 => .int
  | 35 => .array .int
  | 36 => .array .int
  | 37 => .array .int
  | 38 => .boolean
  | 39 => .int
  | 40 => .int
  | 41 => .array .int
  | 42 => .array .int
  | 43 => .array .boolean
  | 44 => .int
  | 45 => .array .int
  | 46 => .array .int
  | 47 => .int
  | 48 => .array .int
  | 49 => .array .int
  | 50 => .int
  | 51 => .array .int
  | 52 => .array .int
  | 53 => .int
  | 54 => .array .int
  | 55 => .array .int
  | 56 => .boolean
  | 57 => .int
  | 58 => .int
  | 59 => .array .int
  | 60 => .array .int
  | 61 => .int
  | 62 => .array .int
  | 63 => .array .boolean
  | 64 => .int
  | 65 => .array .int
  | 66 => .array .int
  | 67 => .array .int
  | 68 => .int
  | 69 => .int
  | 70 => .long
  | 71 => .array .char
  | 72 => .int
  | 73 => .int
  | 74 => .int
  | 75 => .int
  | 76 => .int
  | 77 => .int
  | 78 => .int
  | 79 => .array .int
  | 80 => .array .int
  | 81 => .array .int
  | 82 => .array .int
  | _ => .int
abbrev wsX120 : List Cond := u_ws RX12 TX12 84
theorem nmX12 : ∀ a, a < 84 → ∀ b, b < 84 → a ≠ b → (TX12 a).2.1 ≠ (TX12 b).2.1 := by decide +kernel
theorem tyX12_ok : ∀ k, k < 84 → parseFieldDescriptor (TX12 k).2.2.1 = some (tyX12 k) := by decide +kernel
abbrev cX10_append : ByteArray := prog_12_method_2_code
def yX10_append : MethodName := ⟨RX10, "append", "(I)V"⟩
abbrev cX10_isDigit : ByteArray := prog_12_method_12_code
def yX10_isDigit : MethodName := ⟨RX10, "isDigit", "(I)Z"⟩
abbrev cX10_isLetter : ByteArray := prog_12_method_13_code
def yX10_isLetter : MethodName := ⟨RX10, "isLetter", "(I)Z"⟩
abbrev cX10_isName : ByteArray := prog_12_method_9_code
def yX10_isName : MethodName := ⟨RX10, "isName", "()Z"⟩
abbrev cX10_needsSign : ByteArray := prog_12_method_7_code
def yX10_needsSign : MethodName := ⟨RX10, "needsSign", "(I)Z"⟩
abbrev cX10_peek : ByteArray := prog_12_method_5_code
def yX10_peek : MethodName := ⟨RX10, "peek", "()I"⟩
abbrev cX10_register : ByteArray := prog_12_method_11_code
def yX10_register : MethodName := ⟨RX10, "register", "()I"⟩
abbrev cX10_rewind : ByteArray := prog_12_method_3_code
def yX10_rewind : MethodName := ⟨RX10, "rewind", "()V"⟩
abbrev cX10_takesNumber : ByteArray := prog_12_method_10_code
def yX10_takesNumber : MethodName := ⟨RX10, "takesNumber", "(II)Z"⟩
abbrev cX10_takesSign : ByteArray := prog_12_method_6_code
def yX10_takesSign : MethodName := ⟨RX10, "takesSign", "(I)Z"⟩
abbrev cX10_wrong : ByteArray := prog_12_method_4_code
def yX10_wrong : MethodName := ⟨RX10, "wrong", "(II)Z"⟩
abbrev vwCl : List vw_C := [(RX0, TX0, 3), (RX1, TX1, 8), (RX2, TX2, 4), (RX3, TX3, 3), (RX4, TX4, 6), (RX5, TX5, 11), (RX6, TX6, 11), (RX7, TX7, 2), (RX8, TX8, 14), (RX9, TX9, 11), (RX10, TX10, 10), (RX11, TX11, 20), (RX12, TX12, 84)]
