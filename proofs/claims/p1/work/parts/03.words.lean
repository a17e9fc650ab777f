def wE_0 : List Cond := [Cond.code yX10_init cX10_init 1 none, Cond.methodLink RX10 3 objectInit, Cond.instanceMethod objectInit, Cond.code objectInit ⟨#[0xb1]⟩ 1 none, Cond.arrayClass .int, Cond.fieldLink RX10 9 "CellSlide$Tape" "bytes" "[I", Cond.fieldLink RX10 15 "CellSlide$Tape" "length" "I", Cond.fieldLink RX10 19 "CellSlide$Tape" "at" "I", Cond.fieldLink RX10 22 "CellSlide$Tape" "tokenAt" "I", Cond.fieldLink RX10 25 "CellSlide$Tape" "tokenEnd" "I", Cond.fieldLink RX10 28 "CellSlide$Tape" "own" "I", Cond.fieldLink RX10 31 "CellSlide$Tape" "name" "J", Cond.fieldLink RX10 35 "CellSlide$Tape" "number" "I", Cond.fieldLink RX10 38 "CellSlide$Tape" "fault" "I", Cond.fieldLink RX10 41 "CellSlide$Tape" "place" "I", Cond.code yX2_init cX2_init 1 none, Cond.methodLink RX2 3 objectInit, Cond.fieldLink RX2 9 "CellSlide$Kinds" "count" "I", Cond.arrayClass .long, Cond.fieldLink RX2 15 "CellSlide$Kinds" "names" "[J", Cond.fieldLink RX2 19 "CellSlide$Kinds" "fields" "[I", Cond.fieldLink RX2 23 "CellSlide$Kinds" "sorts" "[I", Cond.code yX8_init cX8_init 1 none, Cond.methodLink RX8 3 objectInit]
def wE_1 : List Cond := [Cond.fieldLink RX8 9 "CellSlide$State" "words" "I", Cond.fieldLink RX8 15 "CellSlide$State" "limit" "I", Cond.fieldLink RX8 18 "CellSlide$State" "method" "I", Cond.fieldLink RX8 21 "CellSlide$State" "held" "[I", Cond.fieldLink RX8 25 "CellSlide$State" "going" "Z", Cond.fieldLink RX8 29 "CellSlide$State" "done" "I", Cond.fieldLink RX8 32 "CellSlide$State" "live" "[I", Cond.fieldLink RX8 35 "CellSlide$State" "liveCount" "I", Cond.fieldLink RX8 38 "CellSlide$State" "blocks" "I", Cond.fieldLink RX8 41 "CellSlide$State" "cells" "I", Cond.fieldLink RX8 44 "CellSlide$State" "clearedWeak" "I", Cond.fieldLink RX8 47 "CellSlide$State" "ended" "I", Cond.fieldLink RX8 50 "CellSlide$State" "keptCount" "I", Cond.fieldLink RX8 53 "CellSlide$State" "kept" "[I", Cond.code yX9_init cX9_init 2 none, Cond.methodLink RX9 3 objectInit, Cond.fieldLink RX9 9 "CellSlide$Survey" "begins" "[I", Cond.fieldLink RX9 15 "CellSlide$Survey" "foundIndex" "[I", Cond.fieldLink RX9 18 "CellSlide$Survey" "order" "[I", Cond.fieldLink RX9 21 "CellSlide$Survey" "far" "[I", Cond.fieldLink RX9 24 "CellSlide$Survey" "from" "[I", Cond.fieldLink RX9 27 "CellSlide$Survey" "by" "[I", Cond.fieldLink RX9 30 "CellSlide$Survey" "threads" "[I", Cond.fieldLink RX9 33 "CellSlide$Survey" "count" "I"]
def wE_2 : List Cond := [Cond.fieldLink RX9 37 "CellSlide$Survey" "liveWords" "I", Cond.fieldLink RX9 40 "CellSlide$Survey" "without" "I", Cond.fieldLink RX9 43 "CellSlide$Survey" "kinds" "LCellSlide$Kinds;", Cond.code yX7_init cX7_init 3 none, Cond.methodLink RX7 3 objectInit, Cond.fieldLink RX7 9 "CellSlide$Slide" "kinds" "LCellSlide$Kinds;", Cond.fieldLink RX7 15 "CellSlide$Slide" "survey" "LCellSlide$Survey;", Cond.code yX1_init cX1_init 4 none, Cond.methodLink RX1 3 objectInit, Cond.fieldLink RX1 9 "CellSlide$HeapText" "cellNames" "[J", Cond.fieldLink RX1 15 "CellSlide$HeapText" "cellBegins" "[I", Cond.fieldLink RX1 19 "CellSlide$HeapText" "cellCount" "I", Cond.fieldLink RX1 23 "CellSlide$HeapText" "statements" "I", Cond.fieldLink RX1 26 "CellSlide$HeapText" "item" "I", Cond.fieldLink RX1 29 "CellSlide$HeapText" "tape" "LCellSlide$Tape;", Cond.fieldLink RX1 33 "CellSlide$HeapText" "kinds" "LCellSlide$Kinds;", Cond.fieldLink RX1 37 "CellSlide$HeapText" "state" "LCellSlide$State;", Cond.code yX4_init cX4_init 3 none, Cond.methodLink RX4 3 objectInit, Cond.fieldLink RX4 11 "CellSlide$RunText" "code" "[I", Cond.fieldLink RX4 15 "CellSlide$RunText" "size" "I", Cond.fieldLink RX4 19 "CellSlide$RunText" "open" "[I", Cond.fieldLink RX4 22 "CellSlide$RunText" "depth" "I", Cond.fieldLink RX4 25 "CellSlide$RunText" "tape" "LCellSlide$Tape;"]
def wE_3 : List Cond := [Cond.fieldLink RX4 29 "CellSlide$RunText" "kinds" "LCellSlide$Kinds;", Cond.code yX0_init cX0_init 3 none, Cond.methodLink RX0 3 objectInit, Cond.fieldLink RX0 9 "CellSlide$Changes" "seed" "J", Cond.fieldLink RX0 15 "CellSlide$Changes" "kinds" "LCellSlide$Kinds;", Cond.fieldLink RX0 19 "CellSlide$Changes" "slide" "LCellSlide$Slide;", Cond.code yX3_init cX3_init 2 none, Cond.methodLink RX3 3 objectInit, Cond.fieldLink RX3 11 "CellSlide$Picture" "bytes" "[I", Cond.fieldLink RX3 15 "CellSlide$Picture" "length" "I", Cond.fieldLink RX3 19 "CellSlide$Picture" "kinds" "LCellSlide$Kinds;"]
def wA : List Cond := wE_0 ++ (wE_1 ++ (wE_2 ++ (wE_3 ++ (wsX00 ++ (wsX10 ++ (wsX20 ++ (wsX30 ++ (wsX40 ++ (wsX50 ++ (wsX60 ++ (wsX70 ++ (wsX80 ++ (wsX90 ++ (wsX100 ++ (wsX110 ++ (wsX120))))))))))))))))
theorem e_0 : ∀ w ∈ wE_0, w ∈ wA := fun _ h => (List.mem_append_left _ h)
theorem e_1 : ∀ w ∈ wE_1, w ∈ wA := fun _ h => (List.mem_append_right _ (List.mem_append_left _ h))
theorem e_2 : ∀ w ∈ wE_2, w ∈ wA := fun _ h => (List.mem_append_right _ (List.mem_append_right _ (List.mem_append_left _ h)))
theorem e_3 : ∀ w ∈ wE_3, w ∈ wA := fun _ h => (List.mem_append_right _ (List.mem_append_right _ (List.mem_append_right _ (List.mem_append_left _ h))))
theorem i_X0 : ∀ w ∈ wsX00, w ∈ wA := fun _ h => (List.mem_append_right _ (List.mem_append_right _ (List.mem_append_right _ (List.mem_append_right _ (List.mem_append_left _ h)))))
theorem i_X1 : ∀ w ∈ wsX10, w ∈ wA := fun _ h => (List.mem_append_right _ (List.mem_append_right _ (List.mem_append_right _ (List.mem_append_right _ (List.mem_append_right _ (List.mem_append_left _ h))))))
theorem i_X2 : ∀ w ∈ wsX20, w ∈ wA := fun _ h => (List.mem_append_right _ (List.mem_append_right _ (List.mem_append_right _ (List.mem_append_right _ (List.mem_append_right _ (List.mem_append_right _ (List.mem_append_left _ h)))))))
theorem i_X3 : ∀ w ∈ wsX30, w ∈ wA := fun _ h => (List.mem_append_right _ (List.mem_append_right _ (List.mem_append_right _ (List.mem_append_right _ (List.mem_append_right _ (List.mem_append_right _ (List.mem_append_right _ (List.mem_append_left _ h))))))))
theorem i_X4 : ∀ w ∈ wsX40, w ∈ wA := fun _ h => (List.mem_append_right _ (List.mem_append_right _ (List.mem_append_right _ (List.mem_append_right _ (List.mem_append_right _ (List.mem_append_right _ (List.mem_append_right _ (List.mem_append_right _ (List.mem_append_left _ h)))))))))
theorem i_X5 : ∀ w ∈ wsX50, w ∈ wA := fun _ h => (List.mem_append_right _ (List.mem_append_right _ (List.mem_append_right _ (List.mem_append_right _ (List.mem_append_right _ (List.mem_append_right _ (List.mem_append_right _ (List.mem_append_right _ (List.mem_append_right _ (List.mem_append_left _ h))))))))))
theorem i_X6 : ∀ w ∈ wsX60, w ∈ wA := fun _ h => (List.mem_append_right _ (List.mem_append_right _ (List.mem_append_right _ (List.mem_append_right _ (List.mem_append_right _ (List.mem_append_right _ (List.mem_append_right _ (List.mem_append_right _ (List.mem_append_right _ (List.mem_append_right _ (List.mem_append_left _ h)))))))))))
theorem i_X7 : ∀ w ∈ wsX70, w ∈ wA := fun _ h => (List.mem_append_right _ (List.mem_append_right _ (List.mem_append_right _ (List.mem_append_right _ (List.mem_append_right _ (List.mem_append_right _ (List.mem_append_right _ (List.mem_append_right _ (List.mem_append_right _ (List.mem_append_right _ (List.mem_append_right _ (List.mem_append_left _ h))))))))))))
theorem i_X8 : ∀ w ∈ wsX80, w ∈ wA := fun _ h => (List.mem_append_right _ (List.mem_append_right _ (List.mem_append_right _ (List.mem_append_right _ (List.mem_append_right _ (List.mem_append_right _ (List.mem_append_right _ (List.mem_append_right _ (List.mem_append_right _ (List.mem_append_right _ (List.mem_append_right _ (List.mem_append_right _ (List.mem_append_left _ h)))))))))))))
theorem i_X9 : ∀ w ∈ wsX90, w ∈ wA := fun _ h => (List.mem_append_right _ (List.mem_append_right _ (List.mem_append_right _ (List.mem_append_right _ (List.mem_append_right _ (List.mem_append_right _ (List.mem_append_right _ (List.mem_append_right _ (List.mem_append_right _ (List.mem_append_right _ (List.mem_append_right _ (List.mem_append_right _ (List.mem_append_right _ (List.mem_append_left _ h))))))))))))))
theorem i_X10 : ∀ w ∈ wsX100, w ∈ wA := fun _ h => (List.mem_append_right _ (List.mem_append_right _ (List.mem_append_right _ (List.mem_append_right _ (List.mem_append_right _ (List.mem_append_right _ (List.mem_append_right _ (List.mem_append_right _ (List.mem_append_right _ (List.mem_append_right _ (List.mem_append_right _ (List.mem_append_right _ (List.mem_append_right _ (List.mem_append_right _ (List.mem_append_left _ h)))))))))))))))
theorem i_X11 : ∀ w ∈ wsX110, w ∈ wA := fun _ h => (List.mem_append_right _ (List.mem_append_right _ (List.mem_append_right _ (List.mem_append_right _ (List.mem_append_right _ (List.mem_append_right _ (List.mem_append_right _ (List.mem_append_right _ (List.mem_append_right _ (List.mem_append_right _ (List.mem_append_right _ (List.mem_append_right _ (List.mem_append_right _ (List.mem_append_right _ (List.mem_append_right _ (List.mem_append_left _ h))))))))))))))))
theorem i_X12 : ∀ w ∈ wsX120, w ∈ wA := fun _ h => (List.mem_append_right _ (List.mem_append_right _ (List.mem_append_right _ (List.mem_append_right _ (List.mem_append_right _ (List.mem_append_right _ (List.mem_append_right _ (List.mem_append_right _ (List.mem_append_right _ (List.mem_append_right _ (List.mem_append_right _ (List.mem_append_right _ (List.mem_append_right _ (List.mem_append_right _ (List.mem_append_right _ (List.mem_append_right _ h))))))))))))))))
theorem q_0 : Cond.code yX10_init cX10_init 1 none ∈ wA := e_0 _ (List.mem_of_getElem? (i := 0) rfl)
theorem q_1 : Cond.methodLink RX10 3 objectInit ∈ wA := e_0 _ (List.mem_of_getElem? (i := 1) rfl)
theorem q_2 : Cond.instanceMethod objectInit ∈ wA := e_0 _ (List.mem_of_getElem? (i := 2) rfl)
theorem q_3 : Cond.code objectInit ⟨#[0xb1]⟩ 1 none ∈ wA := e_0 _ (List.mem_of_getElem? (i := 3) rfl)
theorem q_4 : Cond.arrayClass .int ∈ wA := e_0 _ (List.mem_of_getElem? (i := 4) rfl)
theorem q_5 : Cond.fieldLink RX10 9 "CellSlide$Tape" "bytes" "[I" ∈ wA := e_0 _ (List.mem_of_getElem? (i := 5) rfl)
theorem q_6 : Cond.fieldLink RX10 15 "CellSlide$Tape" "length" "I" ∈ wA := e_0 _ (List.mem_of_getElem? (i := 6) rfl)
theorem q_7 : Cond.fieldLink RX10 19 "CellSlide$Tape" "at" "I" ∈ wA := e_0 _ (List.mem_of_getElem? (i := 7) rfl)
theorem q_8 : Cond.fieldLink RX10 22 "CellSlide$Tape" "tokenAt" "I" ∈ wA := e_0 _ (List.mem_of_getElem? (i := 8) rfl)
theorem q_9 : Cond.fieldLink RX10 25 "CellSlide$Tape" "tokenEnd" "I" ∈ wA := e_0 _ (List.mem_of_getElem? (i := 9) rfl)
theorem q_10 : Cond.fieldLink RX10 28 "CellSlide$Tape" "own" "I" ∈ wA := e_0 _ (List.mem_of_getElem? (i := 10) rfl)
theorem q_11 : Cond.fieldLink RX10 31 "CellSlide$Tape" "name" "J" ∈ wA := e_0 _ (List.mem_of_getElem? (i := 11) rfl)
theorem q_12 : Cond.fieldLink RX10 35 "CellSlide$Tape" "number" "I" ∈ wA := e_0 _ (List.mem_of_getElem? (i := 12) rfl)
theorem q_13 : Cond.fieldLink RX10 38 "CellSlide$Tape" "fault" "I" ∈ wA := e_0 _ (List.mem_of_getElem? (i := 13) rfl)
theorem q_14 : Cond.fieldLink RX10 41 "CellSlide$Tape" "place" "I" ∈ wA := e_0 _ (List.mem_of_getElem? (i := 14) rfl)
theorem q_15 : Cond.code yX2_init cX2_init 1 none ∈ wA := e_0 _ (List.mem_of_getElem? (i := 15) rfl)
theorem q_16 : Cond.methodLink RX2 3 objectInit ∈ wA := e_0 _ (List.mem_of_getElem? (i := 16) rfl)
theorem q_17 : Cond.fieldLink RX2 9 "CellSlide$Kinds" "count" "I" ∈ wA := e_0 _ (List.mem_of_getElem? (i := 17) rfl)
theorem q_18 : Cond.arrayClass .long ∈ wA := e_0 _ (List.mem_of_getElem? (i := 18) rfl)
theorem q_19 : Cond.fieldLink RX2 15 "CellSlide$Kinds" "names" "[J" ∈ wA := e_0 _ (List.mem_of_getElem? (i := 19) rfl)
theorem q_20 : Cond.fieldLink RX2 19 "CellSlide$Kinds" "fields" "[I" ∈ wA := e_0 _ (List.mem_of_getElem? (i := 20) rfl)
theorem q_21 : Cond.fieldLink RX2 23 "CellSlide$Kinds" "sorts" "[I" ∈ wA := e_0 _ (List.mem_of_getElem? (i := 21) rfl)
theorem q_22 : Cond.code yX8_init cX8_init 1 none ∈ wA := e_0 _ (List.mem_of_getElem? (i := 22) rfl)
theorem q_23 : Cond.methodLink RX8 3 objectInit ∈ wA := e_0 _ (List.mem_of_getElem? (i := 23) rfl)
theorem q_24 : Cond.fieldLink RX8 9 "CellSlide$State" "words" "I" ∈ wA := e_1 _ (List.mem_of_getElem? (i := 0) rfl)
theorem q_25 : Cond.fieldLink RX8 15 "CellSlide$State" "limit" "I" ∈ wA := e_1 _ (List.mem_of_getElem? (i := 1) rfl)
theorem q_26 : Cond.fieldLink RX8 18 "CellSlide$State" "method" "I" ∈ wA := e_1 _ (List.mem_of_getElem? (i := 2) rfl)
theorem q_27 : Cond.fieldLink RX8 21 "CellSlide$State" "held" "[I" ∈ wA := e_1 _ (List.mem_of_getElem? (i := 3) rfl)
theorem q_28 : Cond.fieldLink RX8 25 "CellSlide$State" "going" "Z" ∈ wA := e_1 _ (List.mem_of_getElem? (i := 4) rfl)
theorem q_29 : Cond.fieldLink RX8 29 "CellSlide$State" "done" "I" ∈ wA := e_1 _ (List.mem_of_getElem? (i := 5) rfl)
theorem q_30 : Cond.fieldLink RX8 32 "CellSlide$State" "live" "[I" ∈ wA := e_1 _ (List.mem_of_getElem? (i := 6) rfl)
theorem q_31 : Cond.fieldLink RX8 35 "CellSlide$State" "liveCount" "I" ∈ wA := e_1 _ (List.mem_of_getElem? (i := 7) rfl)
theorem q_32 : Cond.fieldLink RX8 38 "CellSlide$State" "blocks" "I" ∈ wA := e_1 _ (List.mem_of_getElem? (i := 8) rfl)
theorem q_33 : Cond.fieldLink RX8 41 "CellSlide$State" "cells" "I" ∈ wA := e_1 _ (List.mem_of_getElem? (i := 9) rfl)
theorem q_34 : Cond.fieldLink RX8 44 "CellSlide$State" "clearedWeak" "I" ∈ wA := e_1 _ (List.mem_of_getElem? (i := 10) rfl)
theorem q_35 : Cond.fieldLink RX8 47 "CellSlide$State" "ended" "I" ∈ wA := e_1 _ (List.mem_of_getElem? (i := 11) rfl)
theorem q_36 : Cond.fieldLink RX8 50 "CellSlide$State" "keptCount" "I" ∈ wA := e_1 _ (List.mem_of_getElem? (i := 12) rfl)
theorem q_37 : Cond.fieldLink RX8 53 "CellSlide$State" "kept" "[I" ∈ wA := e_1 _ (List.mem_of_getElem? (i := 13) rfl)
theorem q_38 : Cond.code yX9_init cX9_init 2 none ∈ wA := e_1 _ (List.mem_of_getElem? (i := 14) rfl)
theorem q_39 : Cond.methodLink RX9 3 objectInit ∈ wA := e_1 _ (List.mem_of_getElem? (i := 15) rfl)
theorem q_40 : Cond.fieldLink RX9 9 "CellSlide$Survey" "begins" "[I" ∈ wA := e_1 _ (List.mem_of_getElem? (i := 16) rfl)
theorem q_41 : Cond.fieldLink RX9 15 "CellSlide$Survey" "foundIndex" "[I" ∈ wA := e_1 _ (List.mem_of_getElem? (i := 17) rfl)
theorem q_42 : Cond.fieldLink RX9 18 "CellSlide$Survey" "order" "[I" ∈ wA := e_1 _ (List.mem_of_getElem? (i := 18) rfl)
theorem q_43 : Cond.fieldLink RX9 21 "CellSlide$Survey" "far" "[I" ∈ wA := e_1 _ (List.mem_of_getElem? (i := 19) rfl)
theorem q_44 : Cond.fieldLink RX9 24 "CellSlide$Survey" "from" "[I" ∈ wA := e_1 _ (List.mem_of_getElem? (i := 20) rfl)
theorem q_45 : Cond.fieldLink RX9 27 "CellSlide$Survey" "by" "[I" ∈ wA := e_1 _ (List.mem_of_getElem? (i := 21) rfl)
theorem q_46 : Cond.fieldLink RX9 30 "CellSlide$Survey" "threads" "[I" ∈ wA := e_1 _ (List.mem_of_getElem? (i := 22) rfl)
theorem q_47 : Cond.fieldLink RX9 33 "CellSlide$Survey" "count" "I" ∈ wA := e_1 _ (List.mem_of_getElem? (i := 23) rfl)
theorem q_48 : Cond.fieldLink RX9 37 "CellSlide$Survey" "liveWords" "I" ∈ wA := e_2 _ (List.mem_of_getElem? (i := 0) rfl)
theorem q_49 : Cond.fieldLink RX9 40 "CellSlide$Survey" "without" "I" ∈ wA := e_2 _ (List.mem_of_getElem? (i := 1) rfl)
theorem q_50 : Cond.fieldLink RX9 43 "CellSlide$Survey" "kinds" "LCellSlide$Kinds;" ∈ wA := e_2 _ (List.mem_of_getElem? (i := 2) rfl)
theorem q_51 : Cond.code yX7_init cX7_init 3 none ∈ wA := e_2 _ (List.mem_of_getElem? (i := 3) rfl)
theorem q_52 : Cond.methodLink RX7 3 objectInit ∈ wA := e_2 _ (List.mem_of_getElem? (i := 4) rfl)
theorem q_53 : Cond.fieldLink RX7 9 "CellSlide$Slide" "kinds" "LCellSlide$Kinds;" ∈ wA := e_2 _ (List.mem_of_getElem? (i := 5) rfl)
theorem q_54 : Cond.fieldLink RX7 15 "CellSlide$Slide" "survey" "LCellSlide$Survey;" ∈ wA := e_2 _ (List.mem_of_getElem? (i := 6) rfl)
theorem q_55 : Cond.code yX1_init cX1_init 4 none ∈ wA := e_2 _ (List.mem_of_getElem? (i := 7) rfl)
theorem q_56 : Cond.methodLink RX1 3 objectInit ∈ wA := e_2 _ (List.mem_of_getElem? (i := 8) rfl)
theorem q_57 : Cond.fieldLink RX1 9 "CellSlide$HeapText" "cellNames" "[J" ∈ wA := e_2 _ (List.mem_of_getElem? (i := 9) rfl)
theorem q_58 : Cond.fieldLink RX1 15 "CellSlide$HeapText" "cellBegins" "[I" ∈ wA := e_2 _ (List.mem_of_getElem? (i := 10) rfl)
theorem q_59 : Cond.fieldLink RX1 19 "CellSlide$HeapText" "cellCount" "I" ∈ wA := e_2 _ (List.mem_of_getElem? (i := 11) rfl)
theorem q_60 : Cond.fieldLink RX1 23 "CellSlide$HeapText" "statements" "I" ∈ wA := e_2 _ (List.mem_of_getElem? (i := 12) rfl)
theorem q_61 : Cond.fieldLink RX1 26 "CellSlide$HeapText" "item" "I" ∈ wA := e_2 _ (List.mem_of_getElem? (i := 13) rfl)
theorem q_62 : Cond.fieldLink RX1 29 "CellSlide$HeapText" "tape" "LCellSlide$Tape;" ∈ wA := e_2 _ (List.mem_of_getElem? (i := 14) rfl)
theorem q_63 : Cond.fieldLink RX1 33 "CellSlide$HeapText" "kinds" "LCellSlide$Kinds;" ∈ wA := e_2 _ (List.mem_of_getElem? (i := 15) rfl)
theorem q_64 : Cond.fieldLink RX1 37 "CellSlide$HeapText" "state" "LCellSlide$State;" ∈ wA := e_2 _ (List.mem_of_getElem? (i := 16) rfl)
theorem q_65 : Cond.code yX4_init cX4_init 3 none ∈ wA := e_2 _ (List.mem_of_getElem? (i := 17) rfl)
theorem q_66 : Cond.methodLink RX4 3 objectInit ∈ wA := e_2 _ (List.mem_of_getElem? (i := 18) rfl)
theorem q_67 : Cond.fieldLink RX4 11 "CellSlide$RunText" "code" "[I" ∈ wA := e_2 _ (List.mem_of_getElem? (i := 19) rfl)
theorem q_68 : Cond.fieldLink RX4 15 "CellSlide$RunText" "size" "I" ∈ wA := e_2 _ (List.mem_of_getElem? (i := 20) rfl)
theorem q_69 : Cond.fieldLink RX4 19 "CellSlide$RunText" "open" "[I" ∈ wA := e_2 _ (List.mem_of_getElem? (i := 21) rfl)
theorem q_70 : Cond.fieldLink RX4 22 "CellSlide$RunText" "depth" "I" ∈ wA := e_2 _ (List.mem_of_getElem? (i := 22) rfl)
theorem q_71 : Cond.fieldLink RX4 25 "CellSlide$RunText" "tape" "LCellSlide$Tape;" ∈ wA := e_2 _ (List.mem_of_getElem? (i := 23) rfl)
theorem q_72 : Cond.fieldLink RX4 29 "CellSlide$RunText" "kinds" "LCellSlide$Kinds;" ∈ wA := e_3 _ (List.mem_of_getElem? (i := 0) rfl)
theorem q_73 : Cond.code yX0_init cX0_init 3 none ∈ wA := e_3 _ (List.mem_of_getElem? (i := 1) rfl)
theorem q_74 : Cond.methodLink RX0 3 objectInit ∈ wA := e_3 _ (List.mem_of_getElem? (i := 2) rfl)
theorem q_75 : Cond.fieldLink RX0 9 "CellSlide$Changes" "seed" "J" ∈ wA := e_3 _ (List.mem_of_getElem? (i := 3) rfl)
theorem q_76 : Cond.fieldLink RX0 15 "CellSlide$Changes" "kinds" "LCellSlide$Kinds;" ∈ wA := e_3 _ (List.mem_of_getElem? (i := 4) rfl)
theorem q_77 : Cond.fieldLink RX0 19 "CellSlide$Changes" "slide" "LCellSlide$Slide;" ∈ wA := e_3 _ (List.mem_of_getElem? (i := 5) rfl)
theorem q_78 : Cond.code yX3_init cX3_init 2 none ∈ wA := e_3 _ (List.mem_of_getElem? (i := 6) rfl)
theorem q_79 : Cond.methodLink RX3 3 objectInit ∈ wA := e_3 _ (List.mem_of_getElem? (i := 7) rfl)
theorem q_80 : Cond.fieldLink RX3 11 "CellSlide$Picture" "bytes" "[I" ∈ wA := e_3 _ (List.mem_of_getElem? (i := 8) rfl)
theorem q_81 : Cond.fieldLink RX3 15 "CellSlide$Picture" "length" "I" ∈ wA := e_3 _ (List.mem_of_getElem? (i := 9) rfl)
theorem q_82 : Cond.fieldLink RX3 19 "CellSlide$Picture" "kinds" "LCellSlide$Kinds;" ∈ wA := e_3 _ (List.mem_of_getElem? (i := 10) rfl)
set_option maxRecDepth 20000 in
theorem ein_0 : GoodIn lw_tbl wE_0 := goodIn_r _ [208, 209, 202, 203, 258, 210, 213, 217, 220, 223, 224, 227, 230, 233, 235, 263, 264, 265, 290, 270, 272, 279, 295, 296] (by decide +kernel) (by decide +kernel)
set_option maxRecDepth 20000 in
theorem ein_1 : GoodIn lw_tbl wE_1 := goodIn_r _ [297, 303, 310, 315, 320, 324, 327, 330, 333, 336, 339, 341, 343, 345, 380, 381, 383, 385, 386, 388, 390, 391, 392, 394] (by decide +kernel) (by decide +kernel)
set_option maxRecDepth 20000 in
theorem ein_2 : GoodIn lw_tbl wE_2 := goodIn_r _ [396, 398, 382, 426, 427, 428, 429, 439, 440, 444, 445, 446, 447, 449, 441, 442, 443, 471, 472, 475, 477, 479, 480, 473] (by decide +kernel) (by decide +kernel)
set_option maxRecDepth 20000 in
theorem ein_3 : GoodIn lw_tbl wE_3 := goodIn_r _ [474, 540, 541, 544, 542, 543, 604, 605, 607, 609, 606] (by decide +kernel) (by decide +kernel)
set_option maxRecDepth 20000 in
theorem xin_0 : GoodIn lw_tbl wsX00 := goodIn_r _ [546, 548, 550] (by decide +kernel) (by decide +kernel)
set_option maxRecDepth 20000 in
theorem xin_1 : GoodIn lw_tbl wsX10 := goodIn_r _ [450, 452, 454, 456, 458, 460, 462, 464] (by decide +kernel) (by decide +kernel)
set_option maxRecDepth 20000 in
theorem xin_2 : GoodIn lw_tbl wsX20 := goodIn_r _ [281, 283, 285, 287] (by decide +kernel) (by decide +kernel)
set_option maxRecDepth 20000 in
theorem xin_3 : GoodIn lw_tbl wsX30 := goodIn_r _ [611, 613, 615] (by decide +kernel) (by decide +kernel)
set_option maxRecDepth 20000 in
theorem xin_4 : GoodIn lw_tbl wsX40 := goodIn_r _ [481, 483, 485, 487, 489, 491] (by decide +kernel) (by decide +kernel)
set_option maxRecDepth 20000 in
theorem xin_5 : GoodIn lw_tbl wsX50 := goodIn_r _ [513, 515, 517, 519, 521, 523, 525, 527, 529, 531, 533] (by decide +kernel) (by decide +kernel)
set_option maxRecDepth 20000 in
theorem xin_6 : GoodIn lw_tbl wsX60 := goodIn_r _ [577, 579, 581, 583, 585, 587, 589, 591, 593, 595, 597] (by decide +kernel) (by decide +kernel)
set_option maxRecDepth 20000 in
theorem xin_7 : GoodIn lw_tbl wsX70 := goodIn_r _ [430, 432] (by decide +kernel) (by decide +kernel)
set_option maxRecDepth 20000 in
theorem xin_8 : GoodIn lw_tbl wsX80 := goodIn_r _ [347, 349, 351, 353, 355, 357, 359, 361, 363, 365, 367, 369, 371, 373] (by decide +kernel) (by decide +kernel)
set_option maxRecDepth 20000 in
theorem xin_9 : GoodIn lw_tbl wsX90 := goodIn_r _ [399, 401, 403, 405, 407, 409, 411, 413, 415, 417, 419] (by decide +kernel) (by decide +kernel)
set_option maxRecDepth 20000 in
theorem xin_10 : GoodIn lw_tbl wsX100 := goodIn_r _ [237, 239, 241, 243, 245, 247, 249, 251, 253, 255] (by decide +kernel) (by decide +kernel)
set_option maxRecDepth 20000 in
theorem xin_11 : GoodIn lw_tbl wsX110 := goodIn_r _ [639, 641, 643, 645, 647, 649, 651, 653, 655, 657, 659, 661, 663, 665, 667, 669, 671, 673, 675, 677] (by decide +kernel) (by decide +kernel)
set_option maxRecDepth 20000 in
theorem xin_12 : GoodIn lw_tbl wsX120 := goodIn_r _ [1574, 1576, 1578, 1580, 1582, 1584, 1586, 1588, 1590, 1592, 1594, 1596, 1598, 1600, 1602, 1604, 1606, 1608, 1610, 1612, 1614, 1616, 1618, 1620, 1622, 1624, 1626, 1628, 1630, 1632, 1634, 1636, 1638, 1640, 1642, 1644, 1646, 1648, 1650, 1652, 1654, 1656, 1658, 1660, 1662, 1664, 1666, 1668, 1670, 1672, 1674, 1676, 1678, 1680, 1682, 1684, 1686, 1688, 1690, 1692, 1694, 1696, 1698, 1700, 1702, 1704, 1706, 1708, 1710, 1712, 1714, 1716, 1718, 1720, 1722, 1724, 1726, 1728, 1730, 1732, 1734, 1736, 1738, 1740] (by decide +kernel) (by decide +kernel)
theorem wA_in : GoodIn lw_tbl wA := goodIn_app ein_0 (goodIn_app ein_1 (goodIn_app ein_2 (goodIn_app ein_3 (goodIn_app xin_0 (goodIn_app xin_1 (goodIn_app xin_2 (goodIn_app xin_3 (goodIn_app xin_4 (goodIn_app xin_5 (goodIn_app xin_6 (goodIn_app xin_7 (goodIn_app xin_8 (goodIn_app xin_9 (goodIn_app xin_10 (goodIn_app xin_11 (xin_12))))))))))))))))
theorem wA_good : GoodIn wA wA := fun w h => ⟨h, (wA_in w h).2⟩
theorem gk {k : Cond} (hk : k ∈ wA) : GoodIn wA (k :: wA) := fun w hw => (List.mem_cons.mp hw).elim (fun e => by rw [e]; exact wA_good k hk) (fun h => wA_good w h)
theorem gV {own C : String} {idx : Nat} {y : MethodName} {k : Cond} (h1 : Cond.methodLink own idx y ∈ wA) (h2 : Cond.instanceMethod y ∈ wA) (h3 : Cond.selects C y y ∈ wA) (h4 : Cond.initialized C ∈ wA) (hk : k ∈ wA) : GoodIn wA (wsV own idx C y (k :: wA)) := by
  intro w hw
  rcases List.mem_append.mp hw with h | h
  · simp only [List.mem_cons, List.not_mem_nil, or_false] at h
    rcases h with rfl | rfl | rfl | rfl
    · exact wA_good _ h1
    · exact wA_good _ h2
    · exact wA_good _ h3
    · exact wA_good _ h4
  · exact gk hk w h
theorem gS {own : String} {idx : Nat} {y : MethodName} {k : Cond} (h1 : Cond.methodLink own idx y ∈ wA) (h2 : Cond.static y ∈ wA) (h4 : Cond.initialized y.cls ∈ wA) (hk : k ∈ wA) : GoodIn wA (va_wsS own idx y (k :: wA)) := by
  intro w hw
  rcases List.mem_append.mp hw with h | h
  · simp only [List.mem_cons, List.not_mem_nil, or_false] at h
    rcases h with rfl | rfl | rfl
    · exact wA_good _ h1
    · exact wA_good _ h2
    · exact wA_good _ h4
  · exact gk hk w h
theorem vpi {i : Int32} {n : Nat} (h : (!(decide (i < 0)) && decide (i.toNatClampNeg < n)) = true) : vp_in i n := by
  simp only [Bool.and_eq_true, Bool.not_eq_true', decide_eq_false_iff_not, decide_eq_true_eq] at h
  exact fun q => q.elim h.1 (fun q => absurd h.2 (Nat.not_lt.mpr q))
