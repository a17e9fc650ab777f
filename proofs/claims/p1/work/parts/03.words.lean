def wE_0 : List Cond := [Cond.code yX10_init cX10_init 1 none, Cond.methodLink RX10 3 objectInit, Cond.instanceMethod objectInit, Cond.code objectInit ⟨#[0xb1]⟩ 1 none, Cond.arrayClass .int, Cond.fieldLink RX10 9 "CellSlide$Tape" "bytes" "[I", Cond.fieldLink RX10 15 "CellSlide$Tape" "length" "I", Cond.fieldLink RX10 19 "CellSlide$Tape" "at" "I", Cond.fieldLink RX10 22 "CellSlide$Tape" "tokenAt" "I", Cond.fieldLink RX10 25 "CellSlide$Tape" "tokenEnd" "I", Cond.fieldLink RX10 28 "CellSlide$Tape" "own" "I", Cond.fieldLink RX10 31 "CellSlide$Tape" "name" "J", Cond.fieldLink RX10 35 "CellSlide$Tape" "number" "I", Cond.fieldLink RX10 38 "CellSlide$Tape" "fault" "I", Cond.fieldLink RX10 41 "CellSlide$Tape" "place" "I", Cond.code yX2_init cX2_init 1 none, Cond.methodLink RX2 3 objectInit, Cond.fieldLink RX2 9 "CellSlide$Kinds" "count" "I", Cond.arrayClass .long, Cond.fieldLink RX2 15 "CellSlide$Kinds" "names" "[J", Cond.fieldLink RX2 19 "CellSlide$Kinds" "fields" "[I", Cond.fieldLink RX2 23 "CellSlide$Kinds" "sorts" "[I", Cond.code yX8_init cX8_init 1 none, Cond.methodLink RX8 3 objectInit]
def wE_1 : List Cond := [Cond.fieldLink RX8 9 "CellSlide$State" "words" "I", Cond.fieldLink RX8 15 "CellSlide$State" "limit" "I", Cond.fieldLink RX8 18 "CellSlide$State" "method" "I", Cond.fieldLink RX8 21 "CellSlide$State" "held" "[I", Cond.fieldLink RX8 25 "CellSlide$State" "going" "Z", Cond.fieldLink RX8 29 "CellSlide$State" "done" "I", Cond.fieldLink RX8 32 "CellSlide$State" "live" "[I", Cond.fieldLink RX8 35 "CellSlide$State" "liveCount" "I", Cond.fieldLink RX8 38 "CellSlide$State" "blocks" "I", Cond.fieldLink RX8 41 "CellSlide$State" "cells" "I", Cond.fieldLink RX8 44 "CellSlide$State" "clearedWeak" "I", Cond.fieldLink RX8 47 "CellSlide$State" "ended" "I", Cond.fieldLink RX8 50 "CellSlide$State" "keptCount" "I", Cond.fieldLink RX8 53 "CellSlide$State" "kept" "[I", Cond.code yX9_init cX9_init 2 none, Cond.methodLink RX9 3 objectInit, Cond.fieldLink RX9 9 "CellSlide$Survey" "begins" "[I", Cond.fieldLink RX9 15 "CellSlide$Survey" "foundIndex" "[I", Cond.fieldLink RX9 18 "CellSlide$Survey" "order" "[I", Cond.fieldLink RX9 21 "CellSlide$Survey" "far" "[I", Cond.fieldLink RX9 24 "CellSlide$Survey" "from" "[I", Cond.fieldLink RX9 27 "CellSlide$Survey" "by" "[I", Cond.fieldLink RX9 30 "CellSlide$Survey" "threads" "[I", Cond.fieldLink RX9 33 "CellSlide$Survey" "count" "I"]
def wE_2 : List Cond := [Cond.fieldLink RX9 37 "CellSlide$Survey" "liveWords" "I", Cond.fieldLink RX9 40 "CellSlide$Survey" "without" "I", Cond.fieldLink RX9 43 "CellSlide$Survey" "kinds" "LCellSlide$Kinds;", Cond.code yX7_init cX7_init 3 none, Cond.methodLink RX7 3 objectInit, Cond.fieldLink RX7 9 "CellSlide$Slide" "kinds" "LCellSlide$Kinds;", Cond.fieldLink RX7 15 "CellSlide$Slide" "survey" "LCellSlide$Survey;", Cond.code yX1_init cX1_init 4 none, Cond.methodLink RX1 3 objectInit, Cond.fieldLink RX1 9 "CellSlide$HeapText" "cellNames" "[J", Cond.fieldLink RX1 15 "CellSlide$HeapText" "cellBegins" "[I", Cond.fieldLink RX1 19 "CellSlide$HeapText" "cellCount" "I", Cond.fieldLink RX1 23 "CellSlide$HeapText" "statements" "I", Cond.fieldLink RX1 26 "CellSlide$HeapText" "item" "I", Cond.fieldLink RX1 29 "CellSlide$HeapText" "tape" "LCellSlide$Tape;", Cond.fieldLink RX1 33 "CellSlide$HeapText" "kinds" "LCellSlide$Kinds;", Cond.fieldLink RX1 37 "CellSlide$HeapText" "state" "LCellSlide$State;", Cond.code yX4_init cX4_init 3 none, Cond.methodLink RX4 3 objectInit, Cond.fieldLink RX4 11 "CellSlide$RunText" "code" "[I", Cond.fieldLink RX4 15 "CellSlide$RunText" "size" "I", Cond.fieldLink RX4 19 "CellSlide$RunText" "open" "[I", Cond.fieldLink RX4 22 "CellSlide$RunText" "depth" "I", Cond.fieldLink RX4 25 "CellSlide$RunText" "tape" "LCellSlide$Tape;"]
def wE_3 : List Cond := [Cond.fieldLink RX4 29 "CellSlide$RunText" "kinds" "LCellSlide$Kinds;", Cond.code yX0_init cX0_init 3 none, Cond.methodLink RX0 3 objectInit, Cond.fieldLink RX0 9 "CellSlide$Changes" "seed" "J", Cond.fieldLink RX0 15 "CellSlide$Changes" "kinds" "LCellSlide$Kinds;", Cond.fieldLink RX0 19 "CellSlide$Changes" "slide" "LCellSlide$Slide;", Cond.code yX3_init cX3_init 2 none, Cond.methodLink RX3 3 objectInit, Cond.fieldLink RX3 11 "CellSlide$Picture" "bytes" "[I", Cond.fieldLink RX3 15 "CellSlide$Picture" "length" "I", Cond.fieldLink RX3 19 "CellSlide$Picture" "kinds" "LCellSlide$Kinds;", Cond.code yX5_init cX5_init 5 none, Cond.methodLink RX5 3 objectInit, Cond.fieldLink RX5 11 "CellSlide$Runner" "roundsLeft" "[I", Cond.fieldLink RX5 17 "CellSlide$Runner" "level" "I", Cond.fieldLink RX5 21 "CellSlide$Runner" "at" "I", Cond.fieldLink RX5 24 "CellSlide$Runner" "acts" "I", Cond.fieldLink RX5 27 "CellSlide$Runner" "failure" "I", Cond.fieldLink RX5 30 "CellSlide$Runner" "failedAt" "I", Cond.fieldLink RX5 33 "CellSlide$Runner" "state" "LCellSlide$State;", Cond.fieldLink RX5 37 "CellSlide$Runner" "kinds" "LCellSlide$Kinds;", Cond.fieldLink RX5 41 "CellSlide$Runner" "slide" "LCellSlide$Slide;", Cond.fieldLink RX5 45 "CellSlide$Runner" "text" "LCellSlide$RunText;", Cond.fieldLink RX5 49 "CellSlide$RunText" "code" "[I"]
def wE_4 : List Cond := [Cond.fieldLink RX5 52 "CellSlide$Runner" "code" "[I", Cond.code yX6_init cX6_init 2 none, Cond.methodLink RX6 3 objectInit, Cond.classLink RX6 9 RX8, Cond.instantiable RX8 14, Cond.initialized RX8, Cond.instanceMethod yX8_init, Cond.fieldLink RX6 12 "CellSlide$Sight" "ghost" "LCellSlide$State;", Cond.fieldLink RX6 18 "CellSlide$Sight" "addresses" "[I", Cond.fieldLink RX6 22 "CellSlide$Sight" "values" "[I", Cond.fieldLink RX6 25 "CellSlide$Sight" "rows" "I", Cond.fieldLink RX6 29 "CellSlide$Sight" "hits" "[I", Cond.fieldLink RX6 32 "CellSlide$Sight" "hitCount" "I", Cond.fieldLink RX6 35 "CellSlide$Sight" "telling" "I", Cond.fieldLink RX6 38 "CellSlide$Sight" "mostLeft" "I", Cond.fieldLink RX6 41 "CellSlide$Sight" "words" "[I", Cond.fieldLink RX6 44 "CellSlide$Sight" "alike" "[I", Cond.fieldLink RX6 47 "CellSlide$Sight" "slide" "LCellSlide$Slide;", Cond.code yX11_init cX11_init 2 none, Cond.methodLink RX11 3 objectInit, Cond.classLink RX11 9 RX10, Cond.instantiable RX10 10, Cond.initialized RX10, Cond.instanceMethod yX10_init]
def wE_5 : List Cond := [Cond.fieldLink RX11 12 "CellSlide" "tape" "LCellSlide$Tape;", Cond.classLink RX11 16 RX2, Cond.instantiable RX2 4, Cond.initialized RX2, Cond.instanceMethod yX2_init, Cond.fieldLink RX11 19 "CellSlide" "kinds" "LCellSlide$Kinds;", Cond.fieldLink RX11 23 "CellSlide" "draftKinds" "LCellSlide$Kinds;", Cond.classLink RX11 26 RX8, Cond.fieldLink RX11 29 "CellSlide" "state" "LCellSlide$State;", Cond.fieldLink RX11 33 "CellSlide" "draft" "LCellSlide$State;", Cond.classLink RX11 36 RX9, Cond.instantiable RX9 11, Cond.initialized RX9, Cond.methodLink RX11 38 yX9_init, Cond.instanceMethod yX9_init, Cond.fieldLink RX11 41 "CellSlide" "survey" "LCellSlide$Survey;", Cond.classLink RX11 45 RX7, Cond.instantiable RX7 2, Cond.initialized RX7, Cond.methodLink RX11 47 yX7_init, Cond.instanceMethod yX7_init, Cond.fieldLink RX11 50 "CellSlide" "slide" "LCellSlide$Slide;", Cond.classLink RX11 54 RX1, Cond.instantiable RX1 8]
def wE_6 : List Cond := [Cond.initialized RX1, Cond.methodLink RX11 56 yX1_init, Cond.instanceMethod yX1_init, Cond.fieldLink RX11 59 "CellSlide" "heapText" "LCellSlide$HeapText;", Cond.classLink RX11 63 RX4, Cond.instantiable RX4 6, Cond.initialized RX4, Cond.methodLink RX11 65 yX4_init, Cond.instanceMethod yX4_init, Cond.fieldLink RX11 68 "CellSlide" "runText" "LCellSlide$RunText;", Cond.classLink RX11 72 RX5, Cond.instantiable RX5 11, Cond.initialized RX5, Cond.methodLink RX11 74 yX5_init, Cond.instanceMethod yX5_init, Cond.fieldLink RX11 77 "CellSlide" "runner" "LCellSlide$Runner;", Cond.classLink RX11 81 RX0, Cond.instantiable RX0 3, Cond.initialized RX0, Cond.methodLink RX11 83 yX0_init, Cond.instanceMethod yX0_init, Cond.fieldLink RX11 86 "CellSlide" "changes" "LCellSlide$Changes;", Cond.classLink RX11 90 RX6, Cond.instantiable RX6 11]
def wE_7 : List Cond := [Cond.initialized RX6, Cond.methodLink RX11 92 yX6_init, Cond.instanceMethod yX6_init, Cond.fieldLink RX11 95 "CellSlide" "sight" "LCellSlide$Sight;", Cond.classLink RX11 99 RX3, Cond.instantiable RX3 3, Cond.initialized RX3, Cond.methodLink RX11 101 yX3_init, Cond.instanceMethod yX3_init, Cond.fieldLink RX11 102 "CellSlide" "picture" "LCellSlide$Picture;", Cond.fieldLink RX11 106 "CellSlide" "refused" "[I", Cond.fieldLink RX11 110 "CellSlide" "past" "[LCellSlide$State;", Cond.fieldLink RX11 114 "CellSlide" "pastCount" "I", Cond.fieldLink RX11 118 "CellSlide" "pastNext" "I", Cond.fieldLink RX11 121 "CellSlide" "remembered" "[I", Cond.fieldLink RX11 124 "CellSlide" "rememberedLength" "I", Cond.fieldLink RX11 127 "CellSlide" "shapeNow" "[I", Cond.code yX12_init cX12_init 1 none, Cond.methodLink RX12 1 objectInit, Cond.fieldLink RX12 7 "CellSlideModel" "tape" "[I", Cond.fieldLink RX12 13 "CellSlideModel" "faultPlace" "I", Cond.fieldLink RX12 17 "CellSlideModel" "refused" "[I", Cond.arrayClass .char, Cond.fieldLink RX12 20 "CellSlideModel" "heapWord" "[C"]
def wE_8 : List Cond := [Cond.fieldLink RX12 24 "CellSlideModel" "kindWord" "[C", Cond.fieldLink RX12 27 "CellSlideModel" "cellWord" "[C", Cond.fieldLink RX12 30 "CellSlideModel" "setWord" "[C", Cond.fieldLink RX12 33 "CellSlideModel" "rootWord" "[C", Cond.fieldLink RX12 36 "CellSlideModel" "methodWord" "[C", Cond.fieldLink RX12 39 "CellSlideModel" "numWord" "[C", Cond.fieldLink RX12 42 "CellSlideModel" "refWord" "[C", Cond.fieldLink RX12 45 "CellSlideModel" "weakWord" "[C", Cond.fieldLink RX12 48 "CellSlideModel" "nilWord" "[C", Cond.fieldLink RX12 51 "CellSlideModel" "newWord" "[C", Cond.fieldLink RX12 54 "CellSlideModel" "slideWord" "[C", Cond.fieldLink RX12 57 "CellSlideModel" "repeatWord" "[C", Cond.fieldLink RX12 60 "CellSlideModel" "whenWord" "[C", Cond.fieldLink RX12 63 "CellSlideModel" "fields" "[I", Cond.fieldLink RX12 66 "CellSlideModel" "sorts" "[I", Cond.fieldLink RX12 69 "CellSlideModel" "kindName" "[I", Cond.fieldLink RX12 72 "CellSlideModel" "cellName" "[I", Cond.fieldLink RX12 75 "CellSlideModel" "cellFirst" "[I", Cond.fieldLink RX12 78 "CellSlideModel" "now" "[I", Cond.fieldLink RX12 81 "CellSlideModel" "laid" "[I", Cond.fieldLink RX12 84 "CellSlideModel" "view" "[I", Cond.fieldLink RX12 87 "CellSlideModel" "firstOf" "[I", Cond.fieldLink RX12 90 "CellSlideModel" "cellOfWord" "[I", Cond.arrayClass .boolean]
def wE_9 : List Cond := [Cond.fieldLink RX12 93 "CellSlideModel" "live" "[Z", Cond.fieldLink RX12 97 "CellSlideModel" "liveAt" "[I", Cond.fieldLink RX12 100 "CellSlideModel" "goesTo" "[I", Cond.fieldLink RX12 103 "CellSlideModel" "blockAt" "[I", Cond.fieldLink RX12 106 "CellSlideModel" "blockWords" "[I", Cond.fieldLink RX12 109 "CellSlideModel" "far" "[I", Cond.fieldLink RX12 112 "CellSlideModel" "near" "[I", Cond.fieldLink RX12 115 "CellSlideModel" "foundRow" "[I", Cond.fieldLink RX12 118 "CellSlideModel" "foundAs" "[I", Cond.fieldLink RX12 121 "CellSlideModel" "shape" "[I", Cond.fieldLink RX12 124 "CellSlideModel" "shape0" "[I", Cond.fieldLink RX12 127 "CellSlideModel" "rows" "[I", Cond.fieldLink RX12 130 "CellSlideModel" "fits" "[Z", Cond.constant RX12 133 (53120), Cond.fieldLink RX12 134 "CellSlideModel" "held" "[I", Cond.fieldLink RX12 137 "CellSlideModel" "like" "[I", Cond.fieldLink RX12 140 "CellSlideModel" "kept0" "[I", Cond.fieldLink RX12 143 "CellSlideModel" "seeded" "J", Cond.fieldLink RX12 147 "CellSlideModel" "registerWord" "[C", Cond.fieldLink RX12 150 "CellSlideModel" "failPlace" "I", Cond.fieldLink RX12 153 "CellSlideModel" "framePlace" "[I", Cond.fieldLink RX12 156 "CellSlideModel" "frameBody" "[I", Cond.fieldLink RX12 159 "CellSlideModel" "frameLeft" "[I", Cond.fieldLink RX12 162 "CellSlideModel" "octet" "[I"]
def wE_10 : List Cond := [Cond.code yJ7_fill_53178 cJ7_fill_53178 4 none, Cond.code yJ7_fill_fda19 cJ7_fill_fda19 5 none, Cond.code yJ7_rangeCheck_23922 cJ7_rangeCheck_23922 3 none, Cond.methodLink RJ7 13 yJ7_rangeCheck_23922, Cond.static yJ7_rangeCheck_23922, Cond.initialized RJ7, Cond.code yX11_feed cX11_feed 6 (some .int), Cond.fieldLink RX11 130 "CellSlide$Tape" "length" "I", Cond.code yX10_append cX10_append 3 none, Cond.methodLink RX11 137 yX10_append, Cond.instanceMethod yX10_append, Cond.selects RX10 yX10_append yX10_append, Cond.code yX11_end cX11_end 2 (some .boolean), Cond.code yX11_deny cX11_deny 2 (some .boolean), Cond.methodLink RX11 141 yX11_deny, Cond.instanceMethod yX11_deny, Cond.selects RX11 yX11_deny yX11_deny, Cond.initialized RX11, Cond.code yX11_heap cX11_heap 2 (some .int), Cond.code yX1_readHeap cX1_readHeap 1 (some .boolean), Cond.code yX10_rewind cX10_rewind 1 none, Cond.methodLink RX1 41 yX10_rewind, Cond.instanceMethod yX10_rewind, Cond.selects RX10 yX10_rewind yX10_rewind]
def wE_11 : List Cond := [Cond.fieldLink RX1 46 "CellSlide$Kinds" "count" "I", Cond.code yX8_clear cX8_clear 2 none, Cond.methodLink RX8 62 yJ7_fill_53178, Cond.static yJ7_fill_53178, Cond.methodLink RX8 68 yJ7_fill_fda19, Cond.static yJ7_fill_fda19, Cond.methodLink RX1 51 yX8_clear, Cond.instanceMethod yX8_clear, Cond.selects RX8 yX8_clear yX8_clear, Cond.code yX10_peek cX10_peek 1 (some .int), Cond.methodLink RX1 57 yX10_peek, Cond.instanceMethod yX10_peek, Cond.selects RX10 yX10_peek yX10_peek, Cond.fieldLink RX1 61 "CellSlide$Tape" "at" "I", Cond.code yX10_wrong cX10_wrong 3 (some .boolean), Cond.methodLink RX1 64 yX10_wrong, Cond.instanceMethod yX10_wrong, Cond.selects RX10 yX10_wrong yX10_wrong, Cond.methodLink RX11 145 yX1_readHeap, Cond.instanceMethod yX1_readHeap, Cond.selects RX1 yX1_readHeap yX1_readHeap, Cond.code yX11_refuse cX11_refuse 2 (some .int), Cond.methodLink RX11 133 yX11_refuse, Cond.instanceMethod yX11_refuse]
def wE_12 : List Cond := [Cond.selects RX11 yX11_refuse yX11_refuse, Cond.code yX11_fault cX11_fault 2 (some .int), Cond.fieldLink RX11 164 "CellSlide$Tape" "fault" "I", Cond.fieldLink RX11 167 "CellSlide$Tape" "place" "I", Cond.code yX11_has cX11_has 2 (some .int), Cond.fieldLink RX11 170 "CellSlide$State" "words" "I", Cond.fieldLink RX11 173 "CellSlide$State" "limit" "I", Cond.fieldLink RX11 176 "CellSlide$State" "going" "Z", Cond.code yX2_countCells cX2_countCells 4 (some .int), Cond.fieldLink RX2 32 "CellSlide$State" "limit" "I", Cond.fieldLink RX2 37 "CellSlide$State" "words" "I", Cond.methodLink RX11 183 yX2_countCells, Cond.instanceMethod yX2_countCells, Cond.selects RX2 yX2_countCells yX2_countCells, Cond.fieldLink RX11 187 "CellSlide$Kinds" "count" "I", Cond.fieldLink RX11 190 "CellSlide$State" "method" "I", Cond.fieldLink RX11 193 "CellSlide$State" "ended" "I", Cond.fieldLink RX11 196 "CellSlide$State" "keptCount" "I", Cond.fieldLink RX11 158 "CellSlide$Sight" "rows" "I", Cond.code yX11_word cX11_word 4 (some .int), Cond.constant RX11 199 (-1000000), Cond.code yX11_stage cX11_stage 2 (some .int), Cond.code yX11_kept cX11_kept 3 (some .int), Cond.code yX11_cell cX11_cell 5 (some .int)]
def wE_13 : List Cond := [Cond.code yX11_ready cX11_ready 1 (some .boolean), Cond.methodLink RX11 224 yX11_ready, Cond.instanceMethod yX11_ready, Cond.selects RX11 yX11_ready yX11_ready, Cond.code yX11_cellOf cX11_cellOf 2 (some .int), Cond.code yX11_inCell cX11_inCell 2 (some .boolean), Cond.code yX11_inHeap cX11_inHeap 2 (some .boolean), Cond.methodLink RX11 249 yX11_inHeap, Cond.instanceMethod yX11_inHeap, Cond.selects RX11 yX11_inHeap yX11_inHeap, Cond.methodLink RX11 237 yX11_inCell, Cond.instanceMethod yX11_inCell, Cond.selects RX11 yX11_inCell yX11_inCell, Cond.code yX11_goes cX11_goes 2 (some .int), Cond.code yX11_comes cX11_comes 3 (some .int), Cond.code yX11_block cX11_block 4 (some .int), Cond.code yX11_chain cX11_chain 3 (some .int), Cond.code yX11_isLive cX11_isLive 2 (some .boolean), Cond.methodLink RX11 234 yX11_isLive, Cond.instanceMethod yX11_isLive, Cond.selects RX11 yX11_isLive yX11_isLive, Cond.code yX11_longest cX11_longest 4 (some .int), Cond.code yX11_steps cX11_steps 2 (some .int), Cond.code yX11_room cX11_room 4 (some .int)]
def wE_14 : List Cond := [Cond.code yX11_far cX11_far 2 (some .int), Cond.code yX11_way cX11_way 3 (some .int), Cond.code yX11_keeps cX11_keeps 2 (some .int), Cond.code yX11_retains cX11_retains 2 (some .int), Cond.code yX11_best cX11_best 6 (some .int), Cond.code yX11_found cX11_found 2 (some .int), Cond.code yX11_remember cX11_remember 1 (some .int), Cond.code yX11_alike cX11_alike 2 (some .int), Cond.code yX11_see cX11_see 2 (some .int), Cond.code yX11_then cX11_then 2 (some .int), Cond.code yX11_tells cX11_tells 2 (some .int), Cond.code yX11_run cX11_run 2 (some .int), Cond.code yX11_failed cX11_failed 2 (some .int), Cond.fieldLink RX11 353 "CellSlide$Runner" "failure" "I", Cond.fieldLink RX11 356 "CellSlide$Runner" "failedAt" "I", Cond.code yX11_collect cX11_collect 1 (some .int), Cond.code yX11_begin cX11_begin 1 (some .int), Cond.code yX11_step cX11_step 3 (some .int), Cond.code yX11_method cX11_method 2 (some .boolean), Cond.code yX11_chance cX11_chance 4 (some .int), Cond.code yX11_undo cX11_undo 1 (some .boolean), Cond.code yX11_seed cX11_seed 2 (some .boolean), Cond.fieldLink RX11 368 "CellSlide$Changes" "seed" "J", Cond.code yX11_image cX11_image 1 (some .int)]
def wE_15 : List Cond := [Cond.code yX11_octet cX11_octet 2 (some .int), Cond.fieldLink RX11 375 "CellSlide$Picture" "length" "I", Cond.code yX11_on cX11_on 2 (some .boolean), Cond.code yX11_status cX11_status 2 (some .int), Cond.code yX12_isIn cX12_isIn 6 (some .boolean), Cond.code yX12_feed cX12_feed 8 (some .int), Cond.fieldLink RX12 165 "CellSlideModel" "taped" "I", Cond.code yX12_end cX12_end 2 (some .boolean), Cond.code yX12_isRefused cX12_isRefused 2 (some .boolean), Cond.methodLink RX12 172 yX12_isRefused, Cond.instanceMethod yX12_isRefused, Cond.selects RX12 yX12_isRefused yX12_isRefused, Cond.initialized RX12, Cond.code yX12_heap cX12_heap 2 (some .int), Cond.code yX12_begins cX12_begins 1 none, Cond.fieldLink RX12 185 "CellSlideModel" "end" "I", Cond.fieldLink RX12 188 "CellSlideModel" "at" "I", Cond.fieldLink RX12 191 "CellSlideModel" "ended" "I", Cond.fieldLink RX12 194 "CellSlideModel" "bad" "I", Cond.fieldLink RX12 197 "CellSlideModel" "badPlace" "I", Cond.methodLink RX12 309 yX12_begins, Cond.instanceMethod yX12_begins, Cond.selects RX12 yX12_begins yX12_begins, Cond.fieldLink RX12 251 "CellSlideModel" "kindMany0" "I"]
def wE_16 : List Cond := [Cond.fieldLink RX12 254 "CellSlideModel" "cellNames" "I", Cond.code yX12_holds cX12_holds 4 none, Cond.code yX12_cellAt cX12_cellAt 1 (some .int), Cond.methodLink RX12 237 yX12_cellAt, Cond.static yX12_cellAt, Cond.methodLink RX12 247 yX12_holds, Cond.static yX12_holds, Cond.code yX12_asks cX12_asks 2 none, Cond.code yX12_takes cX12_takes 2 (some .boolean), Cond.code yX12_isHere cX12_isHere 4 (some .boolean), Cond.code yX12_look cX12_look 1 (some .int), Cond.methodLink RX12 200 yX12_look, Cond.instanceMethod yX12_look, Cond.selects RX12 yX12_look yX12_look, Cond.code yX12_isLetter cX12_isLetter 1 (some .boolean), Cond.methodLink RX12 204 yX12_isLetter, Cond.static yX12_isLetter, Cond.methodLink RX12 207 yX12_isHere, Cond.instanceMethod yX12_isHere, Cond.selects RX12 yX12_isHere yX12_isHere, Cond.methodLink RX12 211 yX12_takes, Cond.instanceMethod yX12_takes, Cond.selects RX12 yX12_takes yX12_takes, Cond.code yX12_fail cX12_fail 3 none]
def wE_17 : List Cond := [Cond.methodLink RX12 214 yX12_fail, Cond.instanceMethod yX12_fail, Cond.selects RX12 yX12_fail yX12_fail, Cond.methodLink RX12 269 yX12_asks, Cond.instanceMethod yX12_asks, Cond.selects RX12 yX12_asks yX12_asks, Cond.code yX12_number cX12_number 5 (some .int), Cond.methodLink RX12 276 yX12_number, Cond.instanceMethod yX12_number, Cond.selects RX12 yX12_number yX12_number, Cond.fieldLink RX12 312 "CellSlideModel" "size0" "I", Cond.code yX12_asksSign cX12_asksSign 2 none, Cond.methodLink RX12 290 yX12_asksSign, Cond.instanceMethod yX12_asksSign, Cond.selects RX12 yX12_asksSign yX12_asksSign, Cond.fieldLink RX12 297 "CellSlideModel" "statements" "I", Cond.fieldLink RX12 182 "CellSlideModel" "fault" "I", Cond.code yX12_refuses cX12_refuses 2 (some .int), Cond.methodLink RX12 168 yX12_refuses, Cond.instanceMethod yX12_refuses, Cond.selects RX12 yX12_refuses yX12_refuses, Cond.code yX12_fault cX12_fault 2 (some .int), Cond.code yX12_has cX12_has 2 (some .int), Cond.fieldLink RX12 325 "CellSlideModel" "size" "I"]
def wE_18 : List Cond := [Cond.code yX12_laysCells cX12_laysCells 4 none, Cond.fieldLink RX12 343 "CellSlideModel" "cellMany" "I", Cond.methodLink RX12 381 yX12_laysCells, Cond.instanceMethod yX12_laysCells, Cond.selects RX12 yX12_laysCells yX12_laysCells, Cond.fieldLink RX12 328 "CellSlideModel" "kindMany" "I", Cond.fieldLink RX12 334 "CellSlideModel" "rowMany" "I", Cond.fieldLink RX12 331 "CellSlideModel" "undoable" "I", Cond.fieldLink RX12 337 "CellSlideModel" "isRemembered" "Z", Cond.code yX12_word cX12_word 3 (some .int), Cond.fieldLink RX12 321 "CellSlideModel" "isTold" "Z", Cond.constant RX12 414 (-1000000), Cond.code yX12_stage cX12_stage 3 (some .int), Cond.code yX12_kept cX12_kept 3 (some .int), Cond.methodLink RX12 178 yX12_isIn, Cond.static yX12_isIn, Cond.code yX12_cell cX12_cell 3 (some .int), Cond.code yX12_isAsked cX12_isAsked 1 (some .boolean), Cond.methodLink RX12 452 yX12_isAsked, Cond.instanceMethod yX12_isAsked, Cond.selects RX12 yX12_isAsked yX12_isAsked, Cond.code yX12_cellOf cX12_cellOf 2 (some .int), Cond.code yX12_isAskedOf cX12_isAskedOf 2 (some .boolean), Cond.methodLink RX12 455 yX12_isAskedOf]
def wE_19 : List Cond := [Cond.instanceMethod yX12_isAskedOf, Cond.selects RX12 yX12_isAskedOf yX12_isAskedOf, Cond.code yX12_goes cX12_goes 2 (some .int), Cond.code yX12_comes cX12_comes 3 (some .int), Cond.code yX12_block cX12_block 3 (some .int), Cond.code yX12_chain cX12_chain 3 (some .int), Cond.code yX12_longest cX12_longest 5 (some .int), Cond.code yX12_steps cX12_steps 2 (some .int), Cond.code yX12_room cX12_room 3 (some .int), Cond.code yX12_far cX12_far 2 (some .int), Cond.code yX12_way cX12_way 7 (some .int), Cond.code yX12_keeps cX12_keeps 2 (some .int), Cond.code yX12_retains cX12_retains 2 (some .int), Cond.code yX12_best cX12_best 4 (some .int), Cond.code yX12_found cX12_found 2 (some .int), Cond.code yX12_remember cX12_remember 2 (some .int), Cond.code yX12_alike cX12_alike 2 (some .int), Cond.code yX12_see cX12_see 4 (some .int), Cond.code yX12_then cX12_then 4 (some .int), Cond.code yX12_tells cX12_tells 6 (some .int), Cond.code yX12_run cX12_run 1 (some .int), Cond.code yX12_isStill cX12_isStill 1 (some .boolean), Cond.methodLink RX12 541 yX12_isStill, Cond.instanceMethod yX12_isStill]
def wE_20 : List Cond := [Cond.selects RX12 yX12_isStill yX12_isStill, Cond.code yX12_failed cX12_failed 2 (some .int), Cond.fieldLink RX12 340 "CellSlideModel" "failKind" "I", Cond.code yX12_collect cX12_collect 1 (some .int), Cond.code yX12_begin cX12_begin 1 (some .int), Cond.code yX12_step cX12_step 3 (some .int), Cond.code yX12_method cX12_method 2 (some .boolean), Cond.code yX12_chance cX12_chance 4 (some .int), Cond.code yX12_undo cX12_undo 2 (some .boolean), Cond.code yX12_seed cX12_seed 2 (some .boolean), Cond.code yX12_image cX12_image 2 (some .int), Cond.code yX12_octet cX12_octet 2 (some .int), Cond.fieldLink RX12 667 "CellSlideModel" "octets" "I", Cond.code yX12_on cX12_on 3 (some .boolean), Cond.code yX12_isImage cX12_isImage 3 (some .boolean), Cond.methodLink RX12 688 yX12_isImage, Cond.instanceMethod yX12_isImage, Cond.selects RX12 yX12_isImage yX12_isImage, Cond.code yX12_status cX12_status 2 (some .int), Cond.constantLong RX12 176 (6), Cond.methodLink RL 13 yX11_feed, Cond.instanceMethod yX11_feed, Cond.selects RX11 yX11_feed yX11_feed, Cond.methodLink RL 17 yX12_feed]
def wE_21 : List Cond := [Cond.instanceMethod yX12_feed, Cond.selects RX12 yX12_feed yX12_feed, Cond.methodLink RL 18 yX11_end, Cond.instanceMethod yX11_end, Cond.selects RX11 yX11_end yX11_end, Cond.methodLink RL 22 yX12_end, Cond.instanceMethod yX12_end, Cond.selects RX12 yX12_end yX12_end, Cond.methodLink RL 23 yX11_heap, Cond.instanceMethod yX11_heap, Cond.selects RX11 yX11_heap yX11_heap, Cond.methodLink RL 27 yX12_heap, Cond.instanceMethod yX12_heap, Cond.selects RX12 yX12_heap yX12_heap, Cond.methodLink RL 28 yX11_fault, Cond.instanceMethod yX11_fault, Cond.selects RX11 yX11_fault yX11_fault, Cond.methodLink RL 32 yX12_fault, Cond.instanceMethod yX12_fault, Cond.selects RX12 yX12_fault yX12_fault, Cond.methodLink RL 33 yX11_has, Cond.instanceMethod yX11_has, Cond.selects RX11 yX11_has yX11_has, Cond.methodLink RL 36 yX12_has]
def wE_22 : List Cond := [Cond.instanceMethod yX12_has, Cond.selects RX12 yX12_has yX12_has, Cond.methodLink RL 37 yX11_word, Cond.instanceMethod yX11_word, Cond.selects RX11 yX11_word yX11_word, Cond.methodLink RL 41 yX12_word, Cond.instanceMethod yX12_word, Cond.selects RX12 yX12_word yX12_word, Cond.methodLink RL 42 yX11_stage, Cond.instanceMethod yX11_stage, Cond.selects RX11 yX11_stage yX11_stage, Cond.methodLink RL 45 yX12_stage, Cond.instanceMethod yX12_stage, Cond.selects RX12 yX12_stage yX12_stage, Cond.methodLink RL 46 yX11_kept, Cond.instanceMethod yX11_kept, Cond.selects RX11 yX11_kept yX11_kept, Cond.methodLink RL 49 yX12_kept, Cond.instanceMethod yX12_kept, Cond.selects RX12 yX12_kept yX12_kept, Cond.methodLink RL 50 yX11_cell, Cond.instanceMethod yX11_cell, Cond.selects RX11 yX11_cell yX11_cell, Cond.methodLink RL 53 yX12_cell]
def wE_23 : List Cond := [Cond.instanceMethod yX12_cell, Cond.selects RX12 yX12_cell yX12_cell, Cond.methodLink RL 54 yX11_cellOf, Cond.instanceMethod yX11_cellOf, Cond.selects RX11 yX11_cellOf yX11_cellOf, Cond.methodLink RL 57 yX12_cellOf, Cond.instanceMethod yX12_cellOf, Cond.selects RX12 yX12_cellOf yX12_cellOf, Cond.methodLink RL 58 yX11_goes, Cond.instanceMethod yX11_goes, Cond.selects RX11 yX11_goes yX11_goes, Cond.methodLink RL 61 yX12_goes, Cond.instanceMethod yX12_goes, Cond.selects RX12 yX12_goes yX12_goes, Cond.methodLink RL 62 yX11_comes, Cond.instanceMethod yX11_comes, Cond.selects RX11 yX11_comes yX11_comes, Cond.methodLink RL 65 yX12_comes, Cond.instanceMethod yX12_comes, Cond.selects RX12 yX12_comes yX12_comes, Cond.methodLink RL 66 yX11_block, Cond.instanceMethod yX11_block, Cond.selects RX11 yX11_block yX11_block, Cond.methodLink RL 69 yX12_block]
def wE_24 : List Cond := [Cond.instanceMethod yX12_block, Cond.selects RX12 yX12_block yX12_block, Cond.methodLink RL 70 yX11_chain, Cond.instanceMethod yX11_chain, Cond.selects RX11 yX11_chain yX11_chain, Cond.methodLink RL 73 yX12_chain, Cond.instanceMethod yX12_chain, Cond.selects RX12 yX12_chain yX12_chain, Cond.methodLink RL 74 yX11_longest, Cond.instanceMethod yX11_longest, Cond.selects RX11 yX11_longest yX11_longest, Cond.methodLink RL 77 yX12_longest, Cond.instanceMethod yX12_longest, Cond.selects RX12 yX12_longest yX12_longest, Cond.methodLink RL 78 yX11_steps, Cond.instanceMethod yX11_steps, Cond.selects RX11 yX11_steps yX11_steps, Cond.methodLink RL 81 yX12_steps, Cond.instanceMethod yX12_steps, Cond.selects RX12 yX12_steps yX12_steps, Cond.methodLink RL 82 yX11_room, Cond.instanceMethod yX11_room, Cond.selects RX11 yX11_room yX11_room, Cond.methodLink RL 85 yX12_room]
def wE_25 : List Cond := [Cond.instanceMethod yX12_room, Cond.selects RX12 yX12_room yX12_room, Cond.methodLink RL 86 yX11_far, Cond.instanceMethod yX11_far, Cond.selects RX11 yX11_far yX11_far, Cond.methodLink RL 89 yX12_far, Cond.instanceMethod yX12_far, Cond.selects RX12 yX12_far yX12_far, Cond.methodLink RL 90 yX11_way, Cond.instanceMethod yX11_way, Cond.selects RX11 yX11_way yX11_way, Cond.methodLink RL 93 yX12_way, Cond.instanceMethod yX12_way, Cond.selects RX12 yX12_way yX12_way, Cond.methodLink RL 94 yX11_keeps, Cond.instanceMethod yX11_keeps, Cond.selects RX11 yX11_keeps yX11_keeps, Cond.methodLink RL 97 yX12_keeps, Cond.instanceMethod yX12_keeps, Cond.selects RX12 yX12_keeps yX12_keeps, Cond.methodLink RL 98 yX11_retains, Cond.instanceMethod yX11_retains, Cond.selects RX11 yX11_retains yX11_retains, Cond.methodLink RL 101 yX12_retains]
def wE_26 : List Cond := [Cond.instanceMethod yX12_retains, Cond.selects RX12 yX12_retains yX12_retains, Cond.methodLink RL 102 yX11_best, Cond.instanceMethod yX11_best, Cond.selects RX11 yX11_best yX11_best, Cond.methodLink RL 105 yX12_best, Cond.instanceMethod yX12_best, Cond.selects RX12 yX12_best yX12_best, Cond.methodLink RL 106 yX11_found, Cond.instanceMethod yX11_found, Cond.selects RX11 yX11_found yX11_found, Cond.methodLink RL 109 yX12_found, Cond.instanceMethod yX12_found, Cond.selects RX12 yX12_found yX12_found, Cond.methodLink RL 110 yX11_remember, Cond.instanceMethod yX11_remember, Cond.selects RX11 yX11_remember yX11_remember, Cond.methodLink RL 113 yX12_remember, Cond.instanceMethod yX12_remember, Cond.selects RX12 yX12_remember yX12_remember, Cond.methodLink RL 114 yX11_alike, Cond.instanceMethod yX11_alike, Cond.selects RX11 yX11_alike yX11_alike, Cond.methodLink RL 117 yX12_alike]
def wE_27 : List Cond := [Cond.instanceMethod yX12_alike, Cond.selects RX12 yX12_alike yX12_alike, Cond.methodLink RL 118 yX11_see, Cond.instanceMethod yX11_see, Cond.selects RX11 yX11_see yX11_see, Cond.methodLink RL 121 yX12_see, Cond.instanceMethod yX12_see, Cond.selects RX12 yX12_see yX12_see, Cond.methodLink RL 122 yX11_then, Cond.instanceMethod yX11_then, Cond.selects RX11 yX11_then yX11_then, Cond.methodLink RL 125 yX12_then, Cond.instanceMethod yX12_then, Cond.selects RX12 yX12_then yX12_then, Cond.methodLink RL 126 yX11_tells, Cond.instanceMethod yX11_tells, Cond.selects RX11 yX11_tells yX11_tells, Cond.methodLink RL 129 yX12_tells, Cond.instanceMethod yX12_tells, Cond.selects RX12 yX12_tells yX12_tells, Cond.methodLink RL 130 yX11_run, Cond.instanceMethod yX11_run, Cond.selects RX11 yX11_run yX11_run, Cond.methodLink RL 133 yX12_run]
def wE_28 : List Cond := [Cond.instanceMethod yX12_run, Cond.selects RX12 yX12_run yX12_run, Cond.methodLink RL 134 yX11_failed, Cond.instanceMethod yX11_failed, Cond.selects RX11 yX11_failed yX11_failed, Cond.methodLink RL 137 yX12_failed, Cond.instanceMethod yX12_failed, Cond.selects RX12 yX12_failed yX12_failed, Cond.methodLink RL 138 yX11_collect, Cond.instanceMethod yX11_collect, Cond.selects RX11 yX11_collect yX11_collect, Cond.methodLink RL 141 yX12_collect, Cond.instanceMethod yX12_collect, Cond.selects RX12 yX12_collect yX12_collect, Cond.methodLink RL 142 yX11_begin, Cond.instanceMethod yX11_begin, Cond.selects RX11 yX11_begin yX11_begin, Cond.methodLink RL 145 yX12_begin, Cond.instanceMethod yX12_begin, Cond.selects RX12 yX12_begin yX12_begin, Cond.methodLink RL 146 yX11_step, Cond.instanceMethod yX11_step, Cond.selects RX11 yX11_step yX11_step, Cond.methodLink RL 149 yX12_step]
def wE_29 : List Cond := [Cond.instanceMethod yX12_step, Cond.selects RX12 yX12_step yX12_step, Cond.methodLink RL 150 yX11_method, Cond.instanceMethod yX11_method, Cond.selects RX11 yX11_method yX11_method, Cond.methodLink RL 153 yX12_method, Cond.instanceMethod yX12_method, Cond.selects RX12 yX12_method yX12_method, Cond.methodLink RL 154 yX11_chance, Cond.instanceMethod yX11_chance, Cond.selects RX11 yX11_chance yX11_chance, Cond.methodLink RL 157 yX12_chance, Cond.instanceMethod yX12_chance, Cond.selects RX12 yX12_chance yX12_chance, Cond.methodLink RL 158 yX11_undo, Cond.instanceMethod yX11_undo, Cond.selects RX11 yX11_undo yX11_undo, Cond.methodLink RL 162 yX12_undo, Cond.instanceMethod yX12_undo, Cond.selects RX12 yX12_undo yX12_undo, Cond.methodLink RL 163 yX11_seed, Cond.instanceMethod yX11_seed, Cond.selects RX11 yX11_seed yX11_seed, Cond.methodLink RL 166 yX12_seed]
def wE_30 : List Cond := [Cond.instanceMethod yX12_seed, Cond.selects RX12 yX12_seed yX12_seed, Cond.methodLink RL 167 yX11_image, Cond.instanceMethod yX11_image, Cond.selects RX11 yX11_image yX11_image, Cond.methodLink RL 170 yX12_image, Cond.instanceMethod yX12_image, Cond.selects RX12 yX12_image yX12_image, Cond.methodLink RL 171 yX11_octet, Cond.instanceMethod yX11_octet, Cond.selects RX11 yX11_octet yX11_octet, Cond.methodLink RL 174 yX12_octet, Cond.instanceMethod yX12_octet, Cond.selects RX12 yX12_octet yX12_octet, Cond.methodLink RL 175 yX11_on, Cond.instanceMethod yX11_on, Cond.selects RX11 yX11_on yX11_on, Cond.methodLink RL 178 yX12_on, Cond.instanceMethod yX12_on, Cond.selects RX12 yX12_on yX12_on, Cond.methodLink RL 179 yX11_status, Cond.instanceMethod yX11_status, Cond.selects RX11 yX11_status yX11_status, Cond.methodLink RL 182 yX12_status]
def wE_31 : List Cond := [Cond.instanceMethod yX12_status, Cond.selects RX12 yX12_status yX12_status, Cond.classLink RL 7 RX11, Cond.instantiable RX11 20, Cond.methodLink RL 9 yX11_init, Cond.instanceMethod yX11_init, Cond.classLink RL 10 RX12, Cond.instantiable RX12 84, Cond.methodLink RL 12 yX12_init, Cond.instanceMethod yX12_init]
def wA : List Cond := wE_0 ++ (wE_1 ++ (wE_2 ++ (wE_3 ++ (wE_4 ++ (wE_5 ++ (wE_6 ++ (wE_7 ++ (wE_8 ++ (wE_9 ++ (wE_10 ++ (wE_11 ++ (wE_12 ++ (wE_13 ++ (wE_14 ++ (wE_15 ++ (wE_16 ++ (wE_17 ++ (wE_18 ++ (wE_19 ++ (wE_20 ++ (wE_21 ++ (wE_22 ++ (wE_23 ++ (wE_24 ++ (wE_25 ++ (wE_26 ++ (wE_27 ++ (wE_28 ++ (wE_29 ++ (wE_30 ++ (wE_31 ++ (wsX00 ++ (wsX10 ++ (wsX20 ++ (wsX30 ++ (wsX40 ++ (wsX50 ++ (wsX60 ++ (wsX70 ++ (wsX80 ++ (wsX90 ++ (wsX100 ++ (wsX110 ++ (wsX120))))))))))))))))))))))))))))))))))))))))))))
theorem e_0 : ∀ w ∈ wE_0, w ∈ wA := fun _ h => (List.mem_append_left _ h)
theorem e_1 : ∀ w ∈ wE_1, w ∈ wA := fun _ h => (List.mem_append_right _ (List.mem_append_left _ h))
theorem e_2 : ∀ w ∈ wE_2, w ∈ wA := fun _ h => (List.mem_append_right _ (List.mem_append_right _ (List.mem_append_left _ h)))
theorem e_3 : ∀ w ∈ wE_3, w ∈ wA := fun _ h => (List.mem_append_right _ (List.mem_append_right _ (List.mem_append_right _ (List.mem_append_left _ h))))
theorem e_4 : ∀ w ∈ wE_4, w ∈ wA := fun _ h => (List.mem_append_right _ (List.mem_append_right _ (List.mem_append_right _ (List.mem_append_right _ (List.mem_append_left _ h)))))
theorem e_5 : ∀ w ∈ wE_5, w ∈ wA := fun _ h => (List.mem_append_right _ (List.mem_append_right _ (List.mem_append_right _ (List.mem_append_right _ (List.mem_append_right _ (List.mem_append_left _ h))))))
theorem e_6 : ∀ w ∈ wE_6, w ∈ wA := fun _ h => (List.mem_append_right _ (List.mem_append_right _ (List.mem_append_right _ (List.mem_append_right _ (List.mem_append_right _ (List.mem_append_right _ (List.mem_append_left _ h)))))))
theorem e_7 : ∀ w ∈ wE_7, w ∈ wA := fun _ h => (List.mem_append_right _ (List.mem_append_right _ (List.mem_append_right _ (List.mem_append_right _ (List.mem_append_right _ (List.mem_append_right _ (List.mem_append_right _ (List.mem_append_left _ h))))))))
theorem e_8 : ∀ w ∈ wE_8, w ∈ wA := fun _ h => (List.mem_append_right _ (List.mem_append_right _ (List.mem_append_right _ (List.mem_append_right _ (List.mem_append_right _ (List.mem_append_right _ (List.mem_append_right _ (List.mem_append_right _ (List.mem_append_left _ h)))))))))
theorem e_9 : ∀ w ∈ wE_9, w ∈ wA := fun _ h => (List.mem_append_right _ (List.mem_append_right _ (List.mem_append_right _ (List.mem_append_right _ (List.mem_append_right _ (List.mem_append_right _ (List.mem_append_right _ (List.mem_append_right _ (List.mem_append_right _ (List.mem_append_left _ h))))))))))
theorem e_10 : ∀ w ∈ wE_10, w ∈ wA := fun _ h => (List.mem_append_right _ (List.mem_append_right _ (List.mem_append_right _ (List.mem_append_right _ (List.mem_append_right _ (List.mem_append_right _ (List.mem_append_right _ (List.mem_append_right _ (List.mem_append_right _ (List.mem_append_right _ (List.mem_append_left _ h)))))))))))
theorem e_11 : ∀ w ∈ wE_11, w ∈ wA := fun _ h => (List.mem_append_right _ (List.mem_append_right _ (List.mem_append_right _ (List.mem_append_right _ (List.mem_append_right _ (List.mem_append_right _ (List.mem_append_right _ (List.mem_append_right _ (List.mem_append_right _ (List.mem_append_right _ (List.mem_append_right _ (List.mem_append_left _ h))))))))))))
theorem e_12 : ∀ w ∈ wE_12, w ∈ wA := fun _ h => (List.mem_append_right _ (List.mem_append_right _ (List.mem_append_right _ (List.mem_append_right _ (List.mem_append_right _ (List.mem_append_right _ (List.mem_append_right _ (List.mem_append_right _ (List.mem_append_right _ (List.mem_append_right _ (List.mem_append_right _ (List.mem_append_right _ (List.mem_append_left _ h)))))))))))))
theorem e_13 : ∀ w ∈ wE_13, w ∈ wA := fun _ h => (List.mem_append_right _ (List.mem_append_right _ (List.mem_append_right _ (List.mem_append_right _ (List.mem_append_right _ (List.mem_append_right _ (List.mem_append_right _ (List.mem_append_right _ (List.mem_append_right _ (List.mem_append_right _ (List.mem_append_right _ (List.mem_append_right _ (List.mem_append_right _ (List.mem_append_left _ h))))))))))))))
theorem e_14 : ∀ w ∈ wE_14, w ∈ wA := fun _ h => (List.mem_append_right _ (List.mem_append_right _ (List.mem_append_right _ (List.mem_append_right _ (List.mem_append_right _ (List.mem_append_right _ (List.mem_append_right _ (List.mem_append_right _ (List.mem_append_right _ (List.mem_append_right _ (List.mem_append_right _ (List.mem_append_right _ (List.mem_append_right _ (List.mem_append_right _ (List.mem_append_left _ h)))))))))))))))
theorem e_15 : ∀ w ∈ wE_15, w ∈ wA := fun _ h => (List.mem_append_right _ (List.mem_append_right _ (List.mem_append_right _ (List.mem_append_right _ (List.mem_append_right _ (List.mem_append_right _ (List.mem_append_right _ (List.mem_append_right _ (List.mem_append_right _ (List.mem_append_right _ (List.mem_append_right _ (List.mem_append_right _ (List.mem_append_right _ (List.mem_append_right _ (List.mem_append_right _ (List.mem_append_left _ h))))))))))))))))
theorem e_16 : ∀ w ∈ wE_16, w ∈ wA := fun _ h => (List.mem_append_right _ (List.mem_append_right _ (List.mem_append_right _ (List.mem_append_right _ (List.mem_append_right _ (List.mem_append_right _ (List.mem_append_right _ (List.mem_append_right _ (List.mem_append_right _ (List.mem_append_right _ (List.mem_append_right _ (List.mem_append_right _ (List.mem_append_right _ (List.mem_append_right _ (List.mem_append_right _ (List.mem_append_right _ (List.mem_append_left _ h)))))))))))))))))
theorem e_17 : ∀ w ∈ wE_17, w ∈ wA := fun _ h => (List.mem_append_right _ (List.mem_append_right _ (List.mem_append_right _ (List.mem_append_right _ (List.mem_append_right _ (List.mem_append_right _ (List.mem_append_right _ (List.mem_append_right _ (List.mem_append_right _ (List.mem_append_right _ (List.mem_append_right _ (List.mem_append_right _ (List.mem_append_right _ (List.mem_append_right _ (List.mem_append_right _ (List.mem_append_right _ (List.mem_append_right _ (List.mem_append_left _ h))))))))))))))))))
theorem e_18 : ∀ w ∈ wE_18, w ∈ wA := fun _ h => (List.mem_append_right _ (List.mem_append_right _ (List.mem_append_right _ (List.mem_append_right _ (List.mem_append_right _ (List.mem_append_right _ (List.mem_append_right _ (List.mem_append_right _ (List.mem_append_right _ (List.mem_append_right _ (List.mem_append_right _ (List.mem_append_right _ (List.mem_append_right _ (List.mem_append_right _ (List.mem_append_right _ (List.mem_append_right _ (List.mem_append_right _ (List.mem_append_right _ (List.mem_append_left _ h)))))))))))))))))))
theorem e_19 : ∀ w ∈ wE_19, w ∈ wA := fun _ h => (List.mem_append_right _ (List.mem_append_right _ (List.mem_append_right _ (List.mem_append_right _ (List.mem_append_right _ (List.mem_append_right _ (List.mem_append_right _ (List.mem_append_right _ (List.mem_append_right _ (List.mem_append_right _ (List.mem_append_right _ (List.mem_append_right _ (List.mem_append_right _ (List.mem_append_right _ (List.mem_append_right _ (List.mem_append_right _ (List.mem_append_right _ (List.mem_append_right _ (List.mem_append_right _ (List.mem_append_left _ h))))))))))))))))))))
theorem e_20 : ∀ w ∈ wE_20, w ∈ wA := fun _ h => (List.mem_append_right _ (List.mem_append_right _ (List.mem_append_right _ (List.mem_append_right _ (List.mem_append_right _ (List.mem_append_right _ (List.mem_append_right _ (List.mem_append_right _ (List.mem_append_right _ (List.mem_append_right _ (List.mem_append_right _ (List.mem_append_right _ (List.mem_append_right _ (List.mem_append_right _ (List.mem_append_right _ (List.mem_append_right _ (List.mem_append_right _ (List.mem_append_right _ (List.mem_append_right _ (List.mem_append_right _ (List.mem_append_left _ h)))))))))))))))))))))
theorem e_21 : ∀ w ∈ wE_21, w ∈ wA := fun _ h => (List.mem_append_right _ (List.mem_append_right _ (List.mem_append_right _ (List.mem_append_right _ (List.mem_append_right _ (List.mem_append_right _ (List.mem_append_right _ (List.mem_append_right _ (List.mem_append_right _ (List.mem_append_right _ (List.mem_append_right _ (List.mem_append_right _ (List.mem_append_right _ (List.mem_append_right _ (List.mem_append_right _ (List.mem_append_right _ (List.mem_append_right _ (List.mem_append_right _ (List.mem_append_right _ (List.mem_append_right _ (List.mem_append_right _ (List.mem_append_left _ h))))))))))))))))))))))
theorem e_22 : ∀ w ∈ wE_22, w ∈ wA := fun _ h => (List.mem_append_right _ (List.mem_append_right _ (List.mem_append_right _ (List.mem_append_right _ (List.mem_append_right _ (List.mem_append_right _ (List.mem_append_right _ (List.mem_append_right _ (List.mem_append_right _ (List.mem_append_right _ (List.mem_append_right _ (List.mem_append_right _ (List.mem_append_right _ (List.mem_append_right _ (List.mem_append_right _ (List.mem_append_right _ (List.mem_append_right _ (List.mem_append_right _ (List.mem_append_right _ (List.mem_append_right _ (List.mem_append_right _ (List.mem_append_right _ (List.mem_append_left _ h)))))))))))))))))))))))
theorem e_23 : ∀ w ∈ wE_23, w ∈ wA := fun _ h => (List.mem_append_right _ (List.mem_append_right _ (List.mem_append_right _ (List.mem_append_right _ (List.mem_append_right _ (List.mem_append_right _ (List.mem_append_right _ (List.mem_append_right _ (List.mem_append_right _ (List.mem_append_right _ (List.mem_append_right _ (List.mem_append_right _ (List.mem_append_right _ (List.mem_append_right _ (List.mem_append_right _ (List.mem_append_right _ (List.mem_append_right _ (List.mem_append_right _ (List.mem_append_right _ (List.mem_append_right _ (List.mem_append_right _ (List.mem_append_right _ (List.mem_append_right _ (List.mem_append_left _ h))))))))))))))))))))))))
theorem e_24 : ∀ w ∈ wE_24, w ∈ wA := fun _ h => (List.mem_append_right _ (List.mem_append_right _ (List.mem_append_right _ (List.mem_append_right _ (List.mem_append_right _ (List.mem_append_right _ (List.mem_append_right _ (List.mem_append_right _ (List.mem_append_right _ (List.mem_append_right _ (List.mem_append_right _ (List.mem_append_right _ (List.mem_append_right _ (List.mem_append_right _ (List.mem_append_right _ (List.mem_append_right _ (List.mem_append_right _ (List.mem_append_right _ (List.mem_append_right _ (List.mem_append_right _ (List.mem_append_right _ (List.mem_append_right _ (List.mem_append_right _ (List.mem_append_right _ (List.mem_append_left _ h)))))))))))))))))))))))))
theorem e_25 : ∀ w ∈ wE_25, w ∈ wA := fun _ h => (List.mem_append_right _ (List.mem_append_right _ (List.mem_append_right _ (List.mem_append_right _ (List.mem_append_right _ (List.mem_append_right _ (List.mem_append_right _ (List.mem_append_right _ (List.mem_append_right _ (List.mem_append_right _ (List.mem_append_right _ (List.mem_append_right _ (List.mem_append_right _ (List.mem_append_right _ (List.mem_append_right _ (List.mem_append_right _ (List.mem_append_right _ (List.mem_append_right _ (List.mem_append_right _ (List.mem_append_right _ (List.mem_append_right _ (List.mem_append_right _ (List.mem_append_right _ (List.mem_append_right _ (List.mem_append_right _ (List.mem_append_left _ h))))))))))))))))))))))))))
theorem e_26 : ∀ w ∈ wE_26, w ∈ wA := fun _ h => (List.mem_append_right _ (List.mem_append_right _ (List.mem_append_right _ (List.mem_append_right _ (List.mem_append_right _ (List.mem_append_right _ (List.mem_append_right _ (List.mem_append_right _ (List.mem_append_right _ (List.mem_append_right _ (List.mem_append_right _ (List.mem_append_right _ (List.mem_append_right _ (List.mem_append_right _ (List.mem_append_right _ (List.mem_append_right _ (List.mem_append_right _ (List.mem_append_right _ (List.mem_append_right _ (List.mem_append_right _ (List.mem_append_right _ (List.mem_append_right _ (List.mem_append_right _ (List.mem_append_right _ (List.mem_append_right _ (List.mem_append_right _ (List.mem_append_left _ h)))))))))))))))))))))))))))
theorem e_27 : ∀ w ∈ wE_27, w ∈ wA := fun _ h => (List.mem_append_right _ (List.mem_append_right _ (List.mem_append_right _ (List.mem_append_right _ (List.mem_append_right _ (List.mem_append_right _ (List.mem_append_right _ (List.mem_append_right _ (List.mem_append_right _ (List.mem_append_right _ (List.mem_append_right _ (List.mem_append_right _ (List.mem_append_right _ (List.mem_append_right _ (List.mem_append_right _ (List.mem_append_right _ (List.mem_append_right _ (List.mem_append_right _ (List.mem_append_right _ (List.mem_append_right _ (List.mem_append_right _ (List.mem_append_right _ (List.mem_append_right _ (List.mem_append_right _ (List.mem_append_right _ (List.mem_append_right _ (List.mem_append_right _ (List.mem_append_left _ h))))))))))))))))))))))))))))
theorem e_28 : ∀ w ∈ wE_28, w ∈ wA := fun _ h => (List.mem_append_right _ (List.mem_append_right _ (List.mem_append_right _ (List.mem_append_right _ (List.mem_append_right _ (List.mem_append_right _ (List.mem_append_right _ (List.mem_append_right _ (List.mem_append_right _ (List.mem_append_right _ (List.mem_append_right _ (List.mem_append_right _ (List.mem_append_right _ (List.mem_append_right _ (List.mem_append_right _ (List.mem_append_right _ (List.mem_append_right _ (List.mem_append_right _ (List.mem_append_right _ (List.mem_append_right _ (List.mem_append_right _ (List.mem_append_right _ (List.mem_append_right _ (List.mem_append_right _ (List.mem_append_right _ (List.mem_append_right _ (List.mem_append_right _ (List.mem_append_right _ (List.mem_append_left _ h)))))))))))))))))))))))))))))
theorem e_29 : ∀ w ∈ wE_29, w ∈ wA := fun _ h => (List.mem_append_right _ (List.mem_append_right _ (List.mem_append_right _ (List.mem_append_right _ (List.mem_append_right _ (List.mem_append_right _ (List.mem_append_right _ (List.mem_append_right _ (List.mem_append_right _ (List.mem_append_right _ (List.mem_append_right _ (List.mem_append_right _ (List.mem_append_right _ (List.mem_append_right _ (List.mem_append_right _ (List.mem_append_right _ (List.mem_append_right _ (List.mem_append_right _ (List.mem_append_right _ (List.mem_append_right _ (List.mem_append_right _ (List.mem_append_right _ (List.mem_append_right _ (List.mem_append_right _ (List.mem_append_right _ (List.mem_append_right _ (List.mem_append_right _ (List.mem_append_right _ (List.mem_append_right _ (List.mem_append_left _ h))))))))))))))))))))))))))))))
theorem e_30 : ∀ w ∈ wE_30, w ∈ wA := fun _ h => (List.mem_append_right _ (List.mem_append_right _ (List.mem_append_right _ (List.mem_append_right _ (List.mem_append_right _ (List.mem_append_right _ (List.mem_append_right _ (List.mem_append_right _ (List.mem_append_right _ (List.mem_append_right _ (List.mem_append_right _ (List.mem_append_right _ (List.mem_append_right _ (List.mem_append_right _ (List.mem_append_right _ (List.mem_append_right _ (List.mem_append_right _ (List.mem_append_right _ (List.mem_append_right _ (List.mem_append_right _ (List.mem_append_right _ (List.mem_append_right _ (List.mem_append_right _ (List.mem_append_right _ (List.mem_append_right _ (List.mem_append_right _ (List.mem_append_right _ (List.mem_append_right _ (List.mem_append_right _ (List.mem_append_right _ (List.mem_append_left _ h)))))))))))))))))))))))))))))))
theorem e_31 : ∀ w ∈ wE_31, w ∈ wA := fun _ h => (List.mem_append_right _ (List.mem_append_right _ (List.mem_append_right _ (List.mem_append_right _ (List.mem_append_right _ (List.mem_append_right _ (List.mem_append_right _ (List.mem_append_right _ (List.mem_append_right _ (List.mem_append_right _ (List.mem_append_right _ (List.mem_append_right _ (List.mem_append_right _ (List.mem_append_right _ (List.mem_append_right _ (List.mem_append_right _ (List.mem_append_right _ (List.mem_append_right _ (List.mem_append_right _ (List.mem_append_right _ (List.mem_append_right _ (List.mem_append_right _ (List.mem_append_right _ (List.mem_append_right _ (List.mem_append_right _ (List.mem_append_right _ (List.mem_append_right _ (List.mem_append_right _ (List.mem_append_right _ (List.mem_append_right _ (List.mem_append_right _ (List.mem_append_left _ h))))))))))))))))))))))))))))))))
theorem i_X0 : ∀ w ∈ wsX00, w ∈ wA := fun _ h => (List.mem_append_right _ (List.mem_append_right _ (List.mem_append_right _ (List.mem_append_right _ (List.mem_append_right _ (List.mem_append_right _ (List.mem_append_right _ (List.mem_append_right _ (List.mem_append_right _ (List.mem_append_right _ (List.mem_append_right _ (List.mem_append_right _ (List.mem_append_right _ (List.mem_append_right _ (List.mem_append_right _ (List.mem_append_right _ (List.mem_append_right _ (List.mem_append_right _ (List.mem_append_right _ (List.mem_append_right _ (List.mem_append_right _ (List.mem_append_right _ (List.mem_append_right _ (List.mem_append_right _ (List.mem_append_right _ (List.mem_append_right _ (List.mem_append_right _ (List.mem_append_right _ (List.mem_append_right _ (List.mem_append_right _ (List.mem_append_right _ (List.mem_append_right _ (List.mem_append_left _ h)))))))))))))))))))))))))))))))))
theorem i_X1 : ∀ w ∈ wsX10, w ∈ wA := fun _ h => (List.mem_append_right _ (List.mem_append_right _ (List.mem_append_right _ (List.mem_append_right _ (List.mem_append_right _ (List.mem_append_right _ (List.mem_append_right _ (List.mem_append_right _ (List.mem_append_right _ (List.mem_append_right _ (List.mem_append_right _ (List.mem_append_right _ (List.mem_append_right _ (List.mem_append_right _ (List.mem_append_right _ (List.mem_append_right _ (List.mem_append_right _ (List.mem_append_right _ (List.mem_append_right _ (List.mem_append_right _ (List.mem_append_right _ (List.mem_append_right _ (List.mem_append_right _ (List.mem_append_right _ (List.mem_append_right _ (List.mem_append_right _ (List.mem_append_right _ (List.mem_append_right _ (List.mem_append_right _ (List.mem_append_right _ (List.mem_append_right _ (List.mem_append_right _ (List.mem_append_right _ (List.mem_append_left _ h))))))))))))))))))))))))))))))))))
theorem i_X2 : ∀ w ∈ wsX20, w ∈ wA := fun _ h => (List.mem_append_right _ (List.mem_append_right _ (List.mem_append_right _ (List.mem_append_right _ (List.mem_append_right _ (List.mem_append_right _ (List.mem_append_right _ (List.mem_append_right _ (List.mem_append_right _ (List.mem_append_right _ (List.mem_append_right _ (List.mem_append_right _ (List.mem_append_right _ (List.mem_append_right _ (List.mem_append_right _ (List.mem_append_right _ (List.mem_append_right _ (List.mem_append_right _ (List.mem_append_right _ (List.mem_append_right _ (List.mem_append_right _ (List.mem_append_right _ (List.mem_append_right _ (List.mem_append_right _ (List.mem_append_right _ (List.mem_append_right _ (List.mem_append_right _ (List.mem_append_right _ (List.mem_append_right _ (List.mem_append_right _ (List.mem_append_right _ (List.mem_append_right _ (List.mem_append_right _ (List.mem_append_right _ (List.mem_append_left _ h)))))))))))))))))))))))))))))))))))
theorem i_X3 : ∀ w ∈ wsX30, w ∈ wA := fun _ h => (List.mem_append_right _ (List.mem_append_right _ (List.mem_append_right _ (List.mem_append_right _ (List.mem_append_right _ (List.mem_append_right _ (List.mem_append_right _ (List.mem_append_right _ (List.mem_append_right _ (List.mem_append_right _ (List.mem_append_right _ (List.mem_append_right _ (List.mem_append_right _ (List.mem_append_right _ (List.mem_append_right _ (List.mem_append_right _ (List.mem_append_right _ (List.mem_append_right _ (List.mem_append_right _ (List.mem_append_right _ (List.mem_append_right _ (List.mem_append_right _ (List.mem_append_right _ (List.mem_append_right _ (List.mem_append_right _ (List.mem_append_right _ (List.mem_append_right _ (List.mem_append_right _ (List.mem_append_right _ (List.mem_append_right _ (List.mem_append_right _ (List.mem_append_right _ (List.mem_append_right _ (List.mem_append_right _ (List.mem_append_right _ (List.mem_append_left _ h))))))))))))))))))))))))))))))))))))
theorem i_X4 : ∀ w ∈ wsX40, w ∈ wA := fun _ h => (List.mem_append_right _ (List.mem_append_right _ (List.mem_append_right _ (List.mem_append_right _ (List.mem_append_right _ (List.mem_append_right _ (List.mem_append_right _ (List.mem_append_right _ (List.mem_append_right _ (List.mem_append_right _ (List.mem_append_right _ (List.mem_append_right _ (List.mem_append_right _ (List.mem_append_right _ (List.mem_append_right _ (List.mem_append_right _ (List.mem_append_right _ (List.mem_append_right _ (List.mem_append_right _ (List.mem_append_right _ (List.mem_append_right _ (List.mem_append_right _ (List.mem_append_right _ (List.mem_append_right _ (List.mem_append_right _ (List.mem_append_right _ (List.mem_append_right _ (List.mem_append_right _ (List.mem_append_right _ (List.mem_append_right _ (List.mem_append_right _ (List.mem_append_right _ (List.mem_append_right _ (List.mem_append_right _ (List.mem_append_right _ (List.mem_append_right _ (List.mem_append_left _ h)))))))))))))))))))))))))))))))))))))
theorem i_X5 : ∀ w ∈ wsX50, w ∈ wA := fun _ h => (List.mem_append_right _ (List.mem_append_right _ (List.mem_append_right _ (List.mem_append_right _ (List.mem_append_right _ (List.mem_append_right _ (List.mem_append_right _ (List.mem_append_right _ (List.mem_append_right _ (List.mem_append_right _ (List.mem_append_right _ (List.mem_append_right _ (List.mem_append_right _ (List.mem_append_right _ (List.mem_append_right _ (List.mem_append_right _ (List.mem_append_right _ (List.mem_append_right _ (List.mem_append_right _ (List.mem_append_right _ (List.mem_append_right _ (List.mem_append_right _ (List.mem_append_right _ (List.mem_append_right _ (List.mem_append_right _ (List.mem_append_right _ (List.mem_append_right _ (List.mem_append_right _ (List.mem_append_right _ (List.mem_append_right _ (List.mem_append_right _ (List.mem_append_right _ (List.mem_append_right _ (List.mem_append_right _ (List.mem_append_right _ (List.mem_append_right _ (List.mem_append_right _ (List.mem_append_left _ h))))))))))))))))))))))))))))))))))))))
theorem i_X6 : ∀ w ∈ wsX60, w ∈ wA := fun _ h => (List.mem_append_right _ (List.mem_append_right _ (List.mem_append_right _ (List.mem_append_right _ (List.mem_append_right _ (List.mem_append_right _ (List.mem_append_right _ (List.mem_append_right _ (List.mem_append_right _ (List.mem_append_right _ (List.mem_append_right _ (List.mem_append_right _ (List.mem_append_right _ (List.mem_append_right _ (List.mem_append_right _ (List.mem_append_right _ (List.mem_append_right _ (List.mem_append_right _ (List.mem_append_right _ (List.mem_append_right _ (List.mem_append_right _ (List.mem_append_right _ (List.mem_append_right _ (List.mem_append_right _ (List.mem_append_right _ (List.mem_append_right _ (List.mem_append_right _ (List.mem_append_right _ (List.mem_append_right _ (List.mem_append_right _ (List.mem_append_right _ (List.mem_append_right _ (List.mem_append_right _ (List.mem_append_right _ (List.mem_append_right _ (List.mem_append_right _ (List.mem_append_right _ (List.mem_append_right _ (List.mem_append_left _ h)))))))))))))))))))))))))))))))))))))))
theorem i_X7 : ∀ w ∈ wsX70, w ∈ wA := fun _ h => (List.mem_append_right _ (List.mem_append_right _ (List.mem_append_right _ (List.mem_append_right _ (List.mem_append_right _ (List.mem_append_right _ (List.mem_append_right _ (List.mem_append_right _ (List.mem_append_right _ (List.mem_append_right _ (List.mem_append_right _ (List.mem_append_right _ (List.mem_append_right _ (List.mem_append_right _ (List.mem_append_right _ (List.mem_append_right _ (List.mem_append_right _ (List.mem_append_right _ (List.mem_append_right _ (List.mem_append_right _ (List.mem_append_right _ (List.mem_append_right _ (List.mem_append_right _ (List.mem_append_right _ (List.mem_append_right _ (List.mem_append_right _ (List.mem_append_right _ (List.mem_append_right _ (List.mem_append_right _ (List.mem_append_right _ (List.mem_append_right _ (List.mem_append_right _ (List.mem_append_right _ (List.mem_append_right _ (List.mem_append_right _ (List.mem_append_right _ (List.mem_append_right _ (List.mem_append_right _ (List.mem_append_right _ (List.mem_append_left _ h))))))))))))))))))))))))))))))))))))))))
theorem i_X8 : ∀ w ∈ wsX80, w ∈ wA := fun _ h => (List.mem_append_right _ (List.mem_append_right _ (List.mem_append_right _ (List.mem_append_right _ (List.mem_append_right _ (List.mem_append_right _ (List.mem_append_right _ (List.mem_append_right _ (List.mem_append_right _ (List.mem_append_right _ (List.mem_append_right _ (List.mem_append_right _ (List.mem_append_right _ (List.mem_append_right _ (List.mem_append_right _ (List.mem_append_right _ (List.mem_append_right _ (List.mem_append_right _ (List.mem_append_right _ (List.mem_append_right _ (List.mem_append_right _ (List.mem_append_right _ (List.mem_append_right _ (List.mem_append_right _ (List.mem_append_right _ (List.mem_append_right _ (List.mem_append_right _ (List.mem_append_right _ (List.mem_append_right _ (List.mem_append_right _ (List.mem_append_right _ (List.mem_append_right _ (List.mem_append_right _ (List.mem_append_right _ (List.mem_append_right _ (List.mem_append_right _ (List.mem_append_right _ (List.mem_append_right _ (List.mem_append_right _ (List.mem_append_right _ (List.mem_append_left _ h)))))))))))))))))))))))))))))))))))))))))
theorem i_X9 : ∀ w ∈ wsX90, w ∈ wA := fun _ h => (List.mem_append_right _ (List.mem_append_right _ (List.mem_append_right _ (List.mem_append_right _ (List.mem_append_right _ (List.mem_append_right _ (List.mem_append_right _ (List.mem_append_right _ (List.mem_append_right _ (List.mem_append_right _ (List.mem_append_right _ (List.mem_append_right _ (List.mem_append_right _ (List.mem_append_right _ (List.mem_append_right _ (List.mem_append_right _ (List.mem_append_right _ (List.mem_append_right _ (List.mem_append_right _ (List.mem_append_right _ (List.mem_append_right _ (List.mem_append_right _ (List.mem_append_right _ (List.mem_append_right _ (List.mem_append_right _ (List.mem_append_right _ (List.mem_append_right _ (List.mem_append_right _ (List.mem_append_right _ (List.mem_append_right _ (List.mem_append_right _ (List.mem_append_right _ (List.mem_append_right _ (List.mem_append_right _ (List.mem_append_right _ (List.mem_append_right _ (List.mem_append_right _ (List.mem_append_right _ (List.mem_append_right _ (List.mem_append_right _ (List.mem_append_right _ (List.mem_append_left _ h))))))))))))))))))))))))))))))))))))))))))
theorem i_X10 : ∀ w ∈ wsX100, w ∈ wA := fun _ h => (List.mem_append_right _ (List.mem_append_right _ (List.mem_append_right _ (List.mem_append_right _ (List.mem_append_right _ (List.mem_append_right _ (List.mem_append_right _ (List.mem_append_right _ (List.mem_append_right _ (List.mem_append_right _ (List.mem_append_right _ (List.mem_append_right _ (List.mem_append_right _ (List.mem_append_right _ (List.mem_append_right _ (List.mem_append_right _ (List.mem_append_right _ (List.mem_append_right _ (List.mem_append_right _ (List.mem_append_right _ (List.mem_append_right _ (List.mem_append_right _ (List.mem_append_right _ (List.mem_append_right _ (List.mem_append_right _ (List.mem_append_right _ (List.mem_append_right _ (List.mem_append_right _ (List.mem_append_right _ (List.mem_append_right _ (List.mem_append_right _ (List.mem_append_right _ (List.mem_append_right _ (List.mem_append_right _ (List.mem_append_right _ (List.mem_append_right _ (List.mem_append_right _ (List.mem_append_right _ (List.mem_append_right _ (List.mem_append_right _ (List.mem_append_right _ (List.mem_append_right _ (List.mem_append_left _ h)))))))))))))))))))))))))))))))))))))))))))
theorem i_X11 : ∀ w ∈ wsX110, w ∈ wA := fun _ h => (List.mem_append_right _ (List.mem_append_right _ (List.mem_append_right _ (List.mem_append_right _ (List.mem_append_right _ (List.mem_append_right _ (List.mem_append_right _ (List.mem_append_right _ (List.mem_append_right _ (List.mem_append_right _ (List.mem_append_right _ (List.mem_append_right _ (List.mem_append_right _ (List.mem_append_right _ (List.mem_append_right _ (List.mem_append_right _ (List.mem_append_right _ (List.mem_append_right _ (List.mem_append_right _ (List.mem_append_right _ (List.mem_append_right _ (List.mem_append_right _ (List.mem_append_right _ (List.mem_append_right _ (List.mem_append_right _ (List.mem_append_right _ (List.mem_append_right _ (List.mem_append_right _ (List.mem_append_right _ (List.mem_append_right _ (List.mem_append_right _ (List.mem_append_right _ (List.mem_append_right _ (List.mem_append_right _ (List.mem_append_right _ (List.mem_append_right _ (List.mem_append_right _ (List.mem_append_right _ (List.mem_append_right _ (List.mem_append_right _ (List.mem_append_right _ (List.mem_append_right _ (List.mem_append_right _ (List.mem_append_left _ h))))))))))))))))))))))))))))))))))))))))))))
theorem i_X12 : ∀ w ∈ wsX120, w ∈ wA := fun _ h => (List.mem_append_right _ (List.mem_append_right _ (List.mem_append_right _ (List.mem_append_right _ (List.mem_append_right _ (List.mem_append_right _ (List.mem_append_right _ (List.mem_append_right _ (List.mem_append_right _ (List.mem_append_right _ (List.mem_append_right _ (List.mem_append_right _ (List.mem_append_right _ (List.mem_append_right _ (List.mem_append_right _ (List.mem_append_right _ (List.mem_append_right _ (List.mem_append_right _ (List.mem_append_right _ (List.mem_append_right _ (List.mem_append_right _ (List.mem_append_right _ (List.mem_append_right _ (List.mem_append_right _ (List.mem_append_right _ (List.mem_append_right _ (List.mem_append_right _ (List.mem_append_right _ (List.mem_append_right _ (List.mem_append_right _ (List.mem_append_right _ (List.mem_append_right _ (List.mem_append_right _ (List.mem_append_right _ (List.mem_append_right _ (List.mem_append_right _ (List.mem_append_right _ (List.mem_append_right _ (List.mem_append_right _ (List.mem_append_right _ (List.mem_append_right _ (List.mem_append_right _ (List.mem_append_right _ (List.mem_append_right _ h))))))))))))))))))))))))))))))))))))))))))))
theorem q_0 : Cond.code yX10_init cX10_init 1 none ∈ wA := e_0 _ (List.mem_of_getElem? (i := 0) rfl)
theorem q_1 : Cond.methodLink RX10 3 objectInit ∈ wA := e_0 _ (List.mem_of_getElem? (i := 1) rfl)
theorem q_2 : Cond.instanceMethod objectInit ∈ wA := e_0 _ (List.mem_of_getElem? (i := 2) rfl)
theorem q_3 : Cond.code objectInit ⟨#[0xb1]⟩ 1 none ∈ wA := e_0 _ (List.mem_of_getElem? (i := 3) rfl)
theorem q_4 : Cond.arrayClass .int ∈ wA := e_0 _ (List.mem_of_getElem? (i := 4) rfl)
theorem q_5 : Cond.fieldLink RX10 9 "CellSlide$Tape" "bytes" "[I" ∈ wA := e_0 _ (List.mem_of_getElem? (i := 5) rfl)
theorem q_6 : Cond.fieldLink RX10 15 "CellSlide$Tape" "length" "I" ∈ wA := e_0 _ (List.mem_of_getElem? (i := 6) rfl)
theorem q_7 : Cond.fieldLink RX10 19 "CellSlide$Tape" "at" "I" ∈ wA := e_0 _ (List.mem_of_getElem? (i := 7) rfl)
theorem q_8 : Cond.fieldLink RX10 22 "CellSlide$Tape" "tokenAt" "I" ∈ wA := e_0 _ (List.mem_of_getElem? (i := 8) rfl)
theorem q_9 : Cond.fieldLink RX10 25 "CellSlide$Tape" "tokenEnd" "I" ∈ wA := e_0 _ (List.mem_of_getElem? (i := 9) rfl)
theorem q_10 : Cond.fieldLink RX10 28 "CellSlide$Tape" "own" "I" ∈ wA := e_0 _ (List.mem_of_getElem? (i := 10) rfl)
theorem q_11 : Cond.fieldLink RX10 31 "CellSlide$Tape" "name" "J" ∈ wA := e_0 _ (List.mem_of_getElem? (i := 11) rfl)
theorem q_12 : Cond.fieldLink RX10 35 "CellSlide$Tape" "number" "I" ∈ wA := e_0 _ (List.mem_of_getElem? (i := 12) rfl)
theorem q_13 : Cond.fieldLink RX10 38 "CellSlide$Tape" "fault" "I" ∈ wA := e_0 _ (List.mem_of_getElem? (i := 13) rfl)
theorem q_14 : Cond.fieldLink RX10 41 "CellSlide$Tape" "place" "I" ∈ wA := e_0 _ (List.mem_of_getElem? (i := 14) rfl)
theorem q_15 : Cond.code yX2_init cX2_init 1 none ∈ wA := e_0 _ (List.mem_of_getElem? (i := 15) rfl)
theorem q_16 : Cond.methodLink RX2 3 objectInit ∈ wA := e_0 _ (List.mem_of_getElem? (i := 16) rfl)
theorem q_17 : Cond.fieldLink RX2 9 "CellSlide$Kinds" "count" "I" ∈ wA := e_0 _ (List.mem_of_getElem? (i := 17) rfl)
theorem q_18 : Cond.arrayClass .long ∈ wA := e_0 _ (List.mem_of_getElem? (i := 18) rfl)
theorem q_19 : Cond.fieldLink RX2 15 "CellSlide$Kinds" "names" "[J" ∈ wA := e_0 _ (List.mem_of_getElem? (i := 19) rfl)
theorem q_20 : Cond.fieldLink RX2 19 "CellSlide$Kinds" "fields" "[I" ∈ wA := e_0 _ (List.mem_of_getElem? (i := 20) rfl)
theorem q_21 : Cond.fieldLink RX2 23 "CellSlide$Kinds" "sorts" "[I" ∈ wA := e_0 _ (List.mem_of_getElem? (i := 21) rfl)
theorem q_22 : Cond.code yX8_init cX8_init 1 none ∈ wA := e_0 _ (List.mem_of_getElem? (i := 22) rfl)
theorem q_23 : Cond.methodLink RX8 3 objectInit ∈ wA := e_0 _ (List.mem_of_getElem? (i := 23) rfl)
theorem q_24 : Cond.fieldLink RX8 9 "CellSlide$State" "words" "I" ∈ wA := e_1 _ (List.mem_of_getElem? (i := 0) rfl)
theorem q_25 : Cond.fieldLink RX8 15 "CellSlide$State" "limit" "I" ∈ wA := e_1 _ (List.mem_of_getElem? (i := 1) rfl)
theorem q_26 : Cond.fieldLink RX8 18 "CellSlide$State" "method" "I" ∈ wA := e_1 _ (List.mem_of_getElem? (i := 2) rfl)
theorem q_27 : Cond.fieldLink RX8 21 "CellSlide$State" "held" "[I" ∈ wA := e_1 _ (List.mem_of_getElem? (i := 3) rfl)
theorem q_28 : Cond.fieldLink RX8 25 "CellSlide$State" "going" "Z" ∈ wA := e_1 _ (List.mem_of_getElem? (i := 4) rfl)
theorem q_29 : Cond.fieldLink RX8 29 "CellSlide$State" "done" "I" ∈ wA := e_1 _ (List.mem_of_getElem? (i := 5) rfl)
theorem q_30 : Cond.fieldLink RX8 32 "CellSlide$State" "live" "[I" ∈ wA := e_1 _ (List.mem_of_getElem? (i := 6) rfl)
theorem q_31 : Cond.fieldLink RX8 35 "CellSlide$State" "liveCount" "I" ∈ wA := e_1 _ (List.mem_of_getElem? (i := 7) rfl)
theorem q_32 : Cond.fieldLink RX8 38 "CellSlide$State" "blocks" "I" ∈ wA := e_1 _ (List.mem_of_getElem? (i := 8) rfl)
theorem q_33 : Cond.fieldLink RX8 41 "CellSlide$State" "cells" "I" ∈ wA := e_1 _ (List.mem_of_getElem? (i := 9) rfl)
theorem q_34 : Cond.fieldLink RX8 44 "CellSlide$State" "clearedWeak" "I" ∈ wA := e_1 _ (List.mem_of_getElem? (i := 10) rfl)
theorem q_35 : Cond.fieldLink RX8 47 "CellSlide$State" "ended" "I" ∈ wA := e_1 _ (List.mem_of_getElem? (i := 11) rfl)
theorem q_36 : Cond.fieldLink RX8 50 "CellSlide$State" "keptCount" "I" ∈ wA := e_1 _ (List.mem_of_getElem? (i := 12) rfl)
theorem q_37 : Cond.fieldLink RX8 53 "CellSlide$State" "kept" "[I" ∈ wA := e_1 _ (List.mem_of_getElem? (i := 13) rfl)
theorem q_38 : Cond.code yX9_init cX9_init 2 none ∈ wA := e_1 _ (List.mem_of_getElem? (i := 14) rfl)
theorem q_39 : Cond.methodLink RX9 3 objectInit ∈ wA := e_1 _ (List.mem_of_getElem? (i := 15) rfl)
theorem q_40 : Cond.fieldLink RX9 9 "CellSlide$Survey" "begins" "[I" ∈ wA := e_1 _ (List.mem_of_getElem? (i := 16) rfl)
theorem q_41 : Cond.fieldLink RX9 15 "CellSlide$Survey" "foundIndex" "[I" ∈ wA := e_1 _ (List.mem_of_getElem? (i := 17) rfl)
theorem q_42 : Cond.fieldLink RX9 18 "CellSlide$Survey" "order" "[I" ∈ wA := e_1 _ (List.mem_of_getElem? (i := 18) rfl)
theorem q_43 : Cond.fieldLink RX9 21 "CellSlide$Survey" "far" "[I" ∈ wA := e_1 _ (List.mem_of_getElem? (i := 19) rfl)
theorem q_44 : Cond.fieldLink RX9 24 "CellSlide$Survey" "from" "[I" ∈ wA := e_1 _ (List.mem_of_getElem? (i := 20) rfl)
theorem q_45 : Cond.fieldLink RX9 27 "CellSlide$Survey" "by" "[I" ∈ wA := e_1 _ (List.mem_of_getElem? (i := 21) rfl)
theorem q_46 : Cond.fieldLink RX9 30 "CellSlide$Survey" "threads" "[I" ∈ wA := e_1 _ (List.mem_of_getElem? (i := 22) rfl)
theorem q_47 : Cond.fieldLink RX9 33 "CellSlide$Survey" "count" "I" ∈ wA := e_1 _ (List.mem_of_getElem? (i := 23) rfl)
theorem q_48 : Cond.fieldLink RX9 37 "CellSlide$Survey" "liveWords" "I" ∈ wA := e_2 _ (List.mem_of_getElem? (i := 0) rfl)
theorem q_49 : Cond.fieldLink RX9 40 "CellSlide$Survey" "without" "I" ∈ wA := e_2 _ (List.mem_of_getElem? (i := 1) rfl)
theorem q_50 : Cond.fieldLink RX9 43 "CellSlide$Survey" "kinds" "LCellSlide$Kinds;" ∈ wA := e_2 _ (List.mem_of_getElem? (i := 2) rfl)
theorem q_51 : Cond.code yX7_init cX7_init 3 none ∈ wA := e_2 _ (List.mem_of_getElem? (i := 3) rfl)
theorem q_52 : Cond.methodLink RX7 3 objectInit ∈ wA := e_2 _ (List.mem_of_getElem? (i := 4) rfl)
theorem q_53 : Cond.fieldLink RX7 9 "CellSlide$Slide" "kinds" "LCellSlide$Kinds;" ∈ wA := e_2 _ (List.mem_of_getElem? (i := 5) rfl)
theorem q_54 : Cond.fieldLink RX7 15 "CellSlide$Slide" "survey" "LCellSlide$Survey;" ∈ wA := e_2 _ (List.mem_of_getElem? (i := 6) rfl)
theorem q_55 : Cond.code yX1_init cX1_init 4 none ∈ wA := e_2 _ (List.mem_of_getElem? (i := 7) rfl)
theorem q_56 : Cond.methodLink RX1 3 objectInit ∈ wA := e_2 _ (List.mem_of_getElem? (i := 8) rfl)
theorem q_57 : Cond.fieldLink RX1 9 "CellSlide$HeapText" "cellNames" "[J" ∈ wA := e_2 _ (List.mem_of_getElem? (i := 9) rfl)
theorem q_58 : Cond.fieldLink RX1 15 "CellSlide$HeapText" "cellBegins" "[I" ∈ wA := e_2 _ (List.mem_of_getElem? (i := 10) rfl)
theorem q_59 : Cond.fieldLink RX1 19 "CellSlide$HeapText" "cellCount" "I" ∈ wA := e_2 _ (List.mem_of_getElem? (i := 11) rfl)
theorem q_60 : Cond.fieldLink RX1 23 "CellSlide$HeapText" "statements" "I" ∈ wA := e_2 _ (List.mem_of_getElem? (i := 12) rfl)
theorem q_61 : Cond.fieldLink RX1 26 "CellSlide$HeapText" "item" "I" ∈ wA := e_2 _ (List.mem_of_getElem? (i := 13) rfl)
theorem q_62 : Cond.fieldLink RX1 29 "CellSlide$HeapText" "tape" "LCellSlide$Tape;" ∈ wA := e_2 _ (List.mem_of_getElem? (i := 14) rfl)
theorem q_63 : Cond.fieldLink RX1 33 "CellSlide$HeapText" "kinds" "LCellSlide$Kinds;" ∈ wA := e_2 _ (List.mem_of_getElem? (i := 15) rfl)
theorem q_64 : Cond.fieldLink RX1 37 "CellSlide$HeapText" "state" "LCellSlide$State;" ∈ wA := e_2 _ (List.mem_of_getElem? (i := 16) rfl)
theorem q_65 : Cond.code yX4_init cX4_init 3 none ∈ wA := e_2 _ (List.mem_of_getElem? (i := 17) rfl)
theorem q_66 : Cond.methodLink RX4 3 objectInit ∈ wA := e_2 _ (List.mem_of_getElem? (i := 18) rfl)
theorem q_67 : Cond.fieldLink RX4 11 "CellSlide$RunText" "code" "[I" ∈ wA := e_2 _ (List.mem_of_getElem? (i := 19) rfl)
theorem q_68 : Cond.fieldLink RX4 15 "CellSlide$RunText" "size" "I" ∈ wA := e_2 _ (List.mem_of_getElem? (i := 20) rfl)
theorem q_69 : Cond.fieldLink RX4 19 "CellSlide$RunText" "open" "[I" ∈ wA := e_2 _ (List.mem_of_getElem? (i := 21) rfl)
theorem q_70 : Cond.fieldLink RX4 22 "CellSlide$RunText" "depth" "I" ∈ wA := e_2 _ (List.mem_of_getElem? (i := 22) rfl)
theorem q_71 : Cond.fieldLink RX4 25 "CellSlide$RunText" "tape" "LCellSlide$Tape;" ∈ wA := e_2 _ (List.mem_of_getElem? (i := 23) rfl)
theorem q_72 : Cond.fieldLink RX4 29 "CellSlide$RunText" "kinds" "LCellSlide$Kinds;" ∈ wA := e_3 _ (List.mem_of_getElem? (i := 0) rfl)
theorem q_73 : Cond.code yX0_init cX0_init 3 none ∈ wA := e_3 _ (List.mem_of_getElem? (i := 1) rfl)
theorem q_74 : Cond.methodLink RX0 3 objectInit ∈ wA := e_3 _ (List.mem_of_getElem? (i := 2) rfl)
theorem q_75 : Cond.fieldLink RX0 9 "CellSlide$Changes" "seed" "J" ∈ wA := e_3 _ (List.mem_of_getElem? (i := 3) rfl)
theorem q_76 : Cond.fieldLink RX0 15 "CellSlide$Changes" "kinds" "LCellSlide$Kinds;" ∈ wA := e_3 _ (List.mem_of_getElem? (i := 4) rfl)
theorem q_77 : Cond.fieldLink RX0 19 "CellSlide$Changes" "slide" "LCellSlide$Slide;" ∈ wA := e_3 _ (List.mem_of_getElem? (i := 5) rfl)
theorem q_78 : Cond.code yX3_init cX3_init 2 none ∈ wA := e_3 _ (List.mem_of_getElem? (i := 6) rfl)
theorem q_79 : Cond.methodLink RX3 3 objectInit ∈ wA := e_3 _ (List.mem_of_getElem? (i := 7) rfl)
theorem q_80 : Cond.fieldLink RX3 11 "CellSlide$Picture" "bytes" "[I" ∈ wA := e_3 _ (List.mem_of_getElem? (i := 8) rfl)
theorem q_81 : Cond.fieldLink RX3 15 "CellSlide$Picture" "length" "I" ∈ wA := e_3 _ (List.mem_of_getElem? (i := 9) rfl)
theorem q_82 : Cond.fieldLink RX3 19 "CellSlide$Picture" "kinds" "LCellSlide$Kinds;" ∈ wA := e_3 _ (List.mem_of_getElem? (i := 10) rfl)
theorem q_83 : Cond.code yX5_init cX5_init 5 none ∈ wA := e_3 _ (List.mem_of_getElem? (i := 11) rfl)
theorem q_84 : Cond.methodLink RX5 3 objectInit ∈ wA := e_3 _ (List.mem_of_getElem? (i := 12) rfl)
theorem q_85 : Cond.fieldLink RX5 11 "CellSlide$Runner" "roundsLeft" "[I" ∈ wA := e_3 _ (List.mem_of_getElem? (i := 13) rfl)
theorem q_86 : Cond.fieldLink RX5 17 "CellSlide$Runner" "level" "I" ∈ wA := e_3 _ (List.mem_of_getElem? (i := 14) rfl)
theorem q_87 : Cond.fieldLink RX5 21 "CellSlide$Runner" "at" "I" ∈ wA := e_3 _ (List.mem_of_getElem? (i := 15) rfl)
theorem q_88 : Cond.fieldLink RX5 24 "CellSlide$Runner" "acts" "I" ∈ wA := e_3 _ (List.mem_of_getElem? (i := 16) rfl)
theorem q_89 : Cond.fieldLink RX5 27 "CellSlide$Runner" "failure" "I" ∈ wA := e_3 _ (List.mem_of_getElem? (i := 17) rfl)
theorem q_90 : Cond.fieldLink RX5 30 "CellSlide$Runner" "failedAt" "I" ∈ wA := e_3 _ (List.mem_of_getElem? (i := 18) rfl)
theorem q_91 : Cond.fieldLink RX5 33 "CellSlide$Runner" "state" "LCellSlide$State;" ∈ wA := e_3 _ (List.mem_of_getElem? (i := 19) rfl)
theorem q_92 : Cond.fieldLink RX5 37 "CellSlide$Runner" "kinds" "LCellSlide$Kinds;" ∈ wA := e_3 _ (List.mem_of_getElem? (i := 20) rfl)
theorem q_93 : Cond.fieldLink RX5 41 "CellSlide$Runner" "slide" "LCellSlide$Slide;" ∈ wA := e_3 _ (List.mem_of_getElem? (i := 21) rfl)
theorem q_94 : Cond.fieldLink RX5 45 "CellSlide$Runner" "text" "LCellSlide$RunText;" ∈ wA := e_3 _ (List.mem_of_getElem? (i := 22) rfl)
theorem q_95 : Cond.fieldLink RX5 49 "CellSlide$RunText" "code" "[I" ∈ wA := e_3 _ (List.mem_of_getElem? (i := 23) rfl)
theorem q_96 : Cond.fieldLink RX5 52 "CellSlide$Runner" "code" "[I" ∈ wA := e_4 _ (List.mem_of_getElem? (i := 0) rfl)
theorem q_97 : Cond.code yX6_init cX6_init 2 none ∈ wA := e_4 _ (List.mem_of_getElem? (i := 1) rfl)
theorem q_98 : Cond.methodLink RX6 3 objectInit ∈ wA := e_4 _ (List.mem_of_getElem? (i := 2) rfl)
theorem q_99 : Cond.classLink RX6 9 RX8 ∈ wA := e_4 _ (List.mem_of_getElem? (i := 3) rfl)
theorem q_100 : Cond.instantiable RX8 14 ∈ wA := e_4 _ (List.mem_of_getElem? (i := 4) rfl)
theorem q_101 : Cond.initialized RX8 ∈ wA := e_4 _ (List.mem_of_getElem? (i := 5) rfl)
theorem q_102 : Cond.instanceMethod yX8_init ∈ wA := e_4 _ (List.mem_of_getElem? (i := 6) rfl)
theorem q_103 : Cond.fieldLink RX6 12 "CellSlide$Sight" "ghost" "LCellSlide$State;" ∈ wA := e_4 _ (List.mem_of_getElem? (i := 7) rfl)
theorem q_104 : Cond.fieldLink RX6 18 "CellSlide$Sight" "addresses" "[I" ∈ wA := e_4 _ (List.mem_of_getElem? (i := 8) rfl)
theorem q_105 : Cond.fieldLink RX6 22 "CellSlide$Sight" "values" "[I" ∈ wA := e_4 _ (List.mem_of_getElem? (i := 9) rfl)
theorem q_106 : Cond.fieldLink RX6 25 "CellSlide$Sight" "rows" "I" ∈ wA := e_4 _ (List.mem_of_getElem? (i := 10) rfl)
theorem q_107 : Cond.fieldLink RX6 29 "CellSlide$Sight" "hits" "[I" ∈ wA := e_4 _ (List.mem_of_getElem? (i := 11) rfl)
theorem q_108 : Cond.fieldLink RX6 32 "CellSlide$Sight" "hitCount" "I" ∈ wA := e_4 _ (List.mem_of_getElem? (i := 12) rfl)
theorem q_109 : Cond.fieldLink RX6 35 "CellSlide$Sight" "telling" "I" ∈ wA := e_4 _ (List.mem_of_getElem? (i := 13) rfl)
theorem q_110 : Cond.fieldLink RX6 38 "CellSlide$Sight" "mostLeft" "I" ∈ wA := e_4 _ (List.mem_of_getElem? (i := 14) rfl)
theorem q_111 : Cond.fieldLink RX6 41 "CellSlide$Sight" "words" "[I" ∈ wA := e_4 _ (List.mem_of_getElem? (i := 15) rfl)
theorem q_112 : Cond.fieldLink RX6 44 "CellSlide$Sight" "alike" "[I" ∈ wA := e_4 _ (List.mem_of_getElem? (i := 16) rfl)
theorem q_113 : Cond.fieldLink RX6 47 "CellSlide$Sight" "slide" "LCellSlide$Slide;" ∈ wA := e_4 _ (List.mem_of_getElem? (i := 17) rfl)
theorem q_114 : Cond.code yX11_init cX11_init 2 none ∈ wA := e_4 _ (List.mem_of_getElem? (i := 18) rfl)
theorem q_115 : Cond.methodLink RX11 3 objectInit ∈ wA := e_4 _ (List.mem_of_getElem? (i := 19) rfl)
theorem q_116 : Cond.classLink RX11 9 RX10 ∈ wA := e_4 _ (List.mem_of_getElem? (i := 20) rfl)
theorem q_117 : Cond.instantiable RX10 10 ∈ wA := e_4 _ (List.mem_of_getElem? (i := 21) rfl)
theorem q_118 : Cond.initialized RX10 ∈ wA := e_4 _ (List.mem_of_getElem? (i := 22) rfl)
theorem q_119 : Cond.instanceMethod yX10_init ∈ wA := e_4 _ (List.mem_of_getElem? (i := 23) rfl)
theorem q_120 : Cond.fieldLink RX11 12 "CellSlide" "tape" "LCellSlide$Tape;" ∈ wA := e_5 _ (List.mem_of_getElem? (i := 0) rfl)
theorem q_121 : Cond.classLink RX11 16 RX2 ∈ wA := e_5 _ (List.mem_of_getElem? (i := 1) rfl)
theorem q_122 : Cond.instantiable RX2 4 ∈ wA := e_5 _ (List.mem_of_getElem? (i := 2) rfl)
theorem q_123 : Cond.initialized RX2 ∈ wA := e_5 _ (List.mem_of_getElem? (i := 3) rfl)
theorem q_124 : Cond.instanceMethod yX2_init ∈ wA := e_5 _ (List.mem_of_getElem? (i := 4) rfl)
theorem q_125 : Cond.fieldLink RX11 19 "CellSlide" "kinds" "LCellSlide$Kinds;" ∈ wA := e_5 _ (List.mem_of_getElem? (i := 5) rfl)
theorem q_126 : Cond.fieldLink RX11 23 "CellSlide" "draftKinds" "LCellSlide$Kinds;" ∈ wA := e_5 _ (List.mem_of_getElem? (i := 6) rfl)
theorem q_127 : Cond.classLink RX11 26 RX8 ∈ wA := e_5 _ (List.mem_of_getElem? (i := 7) rfl)
theorem q_128 : Cond.fieldLink RX11 29 "CellSlide" "state" "LCellSlide$State;" ∈ wA := e_5 _ (List.mem_of_getElem? (i := 8) rfl)
theorem q_129 : Cond.fieldLink RX11 33 "CellSlide" "draft" "LCellSlide$State;" ∈ wA := e_5 _ (List.mem_of_getElem? (i := 9) rfl)
theorem q_130 : Cond.classLink RX11 36 RX9 ∈ wA := e_5 _ (List.mem_of_getElem? (i := 10) rfl)
theorem q_131 : Cond.instantiable RX9 11 ∈ wA := e_5 _ (List.mem_of_getElem? (i := 11) rfl)
theorem q_132 : Cond.initialized RX9 ∈ wA := e_5 _ (List.mem_of_getElem? (i := 12) rfl)
theorem q_133 : Cond.methodLink RX11 38 yX9_init ∈ wA := e_5 _ (List.mem_of_getElem? (i := 13) rfl)
theorem q_134 : Cond.instanceMethod yX9_init ∈ wA := e_5 _ (List.mem_of_getElem? (i := 14) rfl)
theorem q_135 : Cond.fieldLink RX11 41 "CellSlide" "survey" "LCellSlide$Survey;" ∈ wA := e_5 _ (List.mem_of_getElem? (i := 15) rfl)
theorem q_136 : Cond.classLink RX11 45 RX7 ∈ wA := e_5 _ (List.mem_of_getElem? (i := 16) rfl)
theorem q_137 : Cond.instantiable RX7 2 ∈ wA := e_5 _ (List.mem_of_getElem? (i := 17) rfl)
theorem q_138 : Cond.initialized RX7 ∈ wA := e_5 _ (List.mem_of_getElem? (i := 18) rfl)
theorem q_139 : Cond.methodLink RX11 47 yX7_init ∈ wA := e_5 _ (List.mem_of_getElem? (i := 19) rfl)
theorem q_140 : Cond.instanceMethod yX7_init ∈ wA := e_5 _ (List.mem_of_getElem? (i := 20) rfl)
theorem q_141 : Cond.fieldLink RX11 50 "CellSlide" "slide" "LCellSlide$Slide;" ∈ wA := e_5 _ (List.mem_of_getElem? (i := 21) rfl)
theorem q_142 : Cond.classLink RX11 54 RX1 ∈ wA := e_5 _ (List.mem_of_getElem? (i := 22) rfl)
theorem q_143 : Cond.instantiable RX1 8 ∈ wA := e_5 _ (List.mem_of_getElem? (i := 23) rfl)
theorem q_144 : Cond.initialized RX1 ∈ wA := e_6 _ (List.mem_of_getElem? (i := 0) rfl)
theorem q_145 : Cond.methodLink RX11 56 yX1_init ∈ wA := e_6 _ (List.mem_of_getElem? (i := 1) rfl)
theorem q_146 : Cond.instanceMethod yX1_init ∈ wA := e_6 _ (List.mem_of_getElem? (i := 2) rfl)
theorem q_147 : Cond.fieldLink RX11 59 "CellSlide" "heapText" "LCellSlide$HeapText;" ∈ wA := e_6 _ (List.mem_of_getElem? (i := 3) rfl)
theorem q_148 : Cond.classLink RX11 63 RX4 ∈ wA := e_6 _ (List.mem_of_getElem? (i := 4) rfl)
theorem q_149 : Cond.instantiable RX4 6 ∈ wA := e_6 _ (List.mem_of_getElem? (i := 5) rfl)
theorem q_150 : Cond.initialized RX4 ∈ wA := e_6 _ (List.mem_of_getElem? (i := 6) rfl)
theorem q_151 : Cond.methodLink RX11 65 yX4_init ∈ wA := e_6 _ (List.mem_of_getElem? (i := 7) rfl)
theorem q_152 : Cond.instanceMethod yX4_init ∈ wA := e_6 _ (List.mem_of_getElem? (i := 8) rfl)
theorem q_153 : Cond.fieldLink RX11 68 "CellSlide" "runText" "LCellSlide$RunText;" ∈ wA := e_6 _ (List.mem_of_getElem? (i := 9) rfl)
theorem q_154 : Cond.classLink RX11 72 RX5 ∈ wA := e_6 _ (List.mem_of_getElem? (i := 10) rfl)
theorem q_155 : Cond.instantiable RX5 11 ∈ wA := e_6 _ (List.mem_of_getElem? (i := 11) rfl)
theorem q_156 : Cond.initialized RX5 ∈ wA := e_6 _ (List.mem_of_getElem? (i := 12) rfl)
theorem q_157 : Cond.methodLink RX11 74 yX5_init ∈ wA := e_6 _ (List.mem_of_getElem? (i := 13) rfl)
theorem q_158 : Cond.instanceMethod yX5_init ∈ wA := e_6 _ (List.mem_of_getElem? (i := 14) rfl)
theorem q_159 : Cond.fieldLink RX11 77 "CellSlide" "runner" "LCellSlide$Runner;" ∈ wA := e_6 _ (List.mem_of_getElem? (i := 15) rfl)
theorem q_160 : Cond.classLink RX11 81 RX0 ∈ wA := e_6 _ (List.mem_of_getElem? (i := 16) rfl)
theorem q_161 : Cond.instantiable RX0 3 ∈ wA := e_6 _ (List.mem_of_getElem? (i := 17) rfl)
theorem q_162 : Cond.initialized RX0 ∈ wA := e_6 _ (List.mem_of_getElem? (i := 18) rfl)
theorem q_163 : Cond.methodLink RX11 83 yX0_init ∈ wA := e_6 _ (List.mem_of_getElem? (i := 19) rfl)
theorem q_164 : Cond.instanceMethod yX0_init ∈ wA := e_6 _ (List.mem_of_getElem? (i := 20) rfl)
theorem q_165 : Cond.fieldLink RX11 86 "CellSlide" "changes" "LCellSlide$Changes;" ∈ wA := e_6 _ (List.mem_of_getElem? (i := 21) rfl)
theorem q_166 : Cond.classLink RX11 90 RX6 ∈ wA := e_6 _ (List.mem_of_getElem? (i := 22) rfl)
theorem q_167 : Cond.instantiable RX6 11 ∈ wA := e_6 _ (List.mem_of_getElem? (i := 23) rfl)
theorem q_168 : Cond.initialized RX6 ∈ wA := e_7 _ (List.mem_of_getElem? (i := 0) rfl)
theorem q_169 : Cond.methodLink RX11 92 yX6_init ∈ wA := e_7 _ (List.mem_of_getElem? (i := 1) rfl)
theorem q_170 : Cond.instanceMethod yX6_init ∈ wA := e_7 _ (List.mem_of_getElem? (i := 2) rfl)
theorem q_171 : Cond.fieldLink RX11 95 "CellSlide" "sight" "LCellSlide$Sight;" ∈ wA := e_7 _ (List.mem_of_getElem? (i := 3) rfl)
theorem q_172 : Cond.classLink RX11 99 RX3 ∈ wA := e_7 _ (List.mem_of_getElem? (i := 4) rfl)
theorem q_173 : Cond.instantiable RX3 3 ∈ wA := e_7 _ (List.mem_of_getElem? (i := 5) rfl)
theorem q_174 : Cond.initialized RX3 ∈ wA := e_7 _ (List.mem_of_getElem? (i := 6) rfl)
theorem q_175 : Cond.methodLink RX11 101 yX3_init ∈ wA := e_7 _ (List.mem_of_getElem? (i := 7) rfl)
theorem q_176 : Cond.instanceMethod yX3_init ∈ wA := e_7 _ (List.mem_of_getElem? (i := 8) rfl)
theorem q_177 : Cond.fieldLink RX11 102 "CellSlide" "picture" "LCellSlide$Picture;" ∈ wA := e_7 _ (List.mem_of_getElem? (i := 9) rfl)
theorem q_178 : Cond.fieldLink RX11 106 "CellSlide" "refused" "[I" ∈ wA := e_7 _ (List.mem_of_getElem? (i := 10) rfl)
theorem q_179 : Cond.fieldLink RX11 110 "CellSlide" "past" "[LCellSlide$State;" ∈ wA := e_7 _ (List.mem_of_getElem? (i := 11) rfl)
theorem q_180 : Cond.fieldLink RX11 114 "CellSlide" "pastCount" "I" ∈ wA := e_7 _ (List.mem_of_getElem? (i := 12) rfl)
theorem q_181 : Cond.fieldLink RX11 118 "CellSlide" "pastNext" "I" ∈ wA := e_7 _ (List.mem_of_getElem? (i := 13) rfl)
theorem q_182 : Cond.fieldLink RX11 121 "CellSlide" "remembered" "[I" ∈ wA := e_7 _ (List.mem_of_getElem? (i := 14) rfl)
theorem q_183 : Cond.fieldLink RX11 124 "CellSlide" "rememberedLength" "I" ∈ wA := e_7 _ (List.mem_of_getElem? (i := 15) rfl)
theorem q_184 : Cond.fieldLink RX11 127 "CellSlide" "shapeNow" "[I" ∈ wA := e_7 _ (List.mem_of_getElem? (i := 16) rfl)
theorem q_185 : Cond.code yX12_init cX12_init 1 none ∈ wA := e_7 _ (List.mem_of_getElem? (i := 17) rfl)
theorem q_186 : Cond.methodLink RX12 1 objectInit ∈ wA := e_7 _ (List.mem_of_getElem? (i := 18) rfl)
theorem q_187 : Cond.fieldLink RX12 7 "CellSlideModel" "tape" "[I" ∈ wA := e_7 _ (List.mem_of_getElem? (i := 19) rfl)
theorem q_188 : Cond.fieldLink RX12 13 "CellSlideModel" "faultPlace" "I" ∈ wA := e_7 _ (List.mem_of_getElem? (i := 20) rfl)
theorem q_189 : Cond.fieldLink RX12 17 "CellSlideModel" "refused" "[I" ∈ wA := e_7 _ (List.mem_of_getElem? (i := 21) rfl)
theorem q_190 : Cond.arrayClass .char ∈ wA := e_7 _ (List.mem_of_getElem? (i := 22) rfl)
theorem q_191 : Cond.fieldLink RX12 20 "CellSlideModel" "heapWord" "[C" ∈ wA := e_7 _ (List.mem_of_getElem? (i := 23) rfl)
theorem q_192 : Cond.fieldLink RX12 24 "CellSlideModel" "kindWord" "[C" ∈ wA := e_8 _ (List.mem_of_getElem? (i := 0) rfl)
theorem q_193 : Cond.fieldLink RX12 27 "CellSlideModel" "cellWord" "[C" ∈ wA := e_8 _ (List.mem_of_getElem? (i := 1) rfl)
theorem q_194 : Cond.fieldLink RX12 30 "CellSlideModel" "setWord" "[C" ∈ wA := e_8 _ (List.mem_of_getElem? (i := 2) rfl)
theorem q_195 : Cond.fieldLink RX12 33 "CellSlideModel" "rootWord" "[C" ∈ wA := e_8 _ (List.mem_of_getElem? (i := 3) rfl)
theorem q_196 : Cond.fieldLink RX12 36 "CellSlideModel" "methodWord" "[C" ∈ wA := e_8 _ (List.mem_of_getElem? (i := 4) rfl)
theorem q_197 : Cond.fieldLink RX12 39 "CellSlideModel" "numWord" "[C" ∈ wA := e_8 _ (List.mem_of_getElem? (i := 5) rfl)
theorem q_198 : Cond.fieldLink RX12 42 "CellSlideModel" "refWord" "[C" ∈ wA := e_8 _ (List.mem_of_getElem? (i := 6) rfl)
theorem q_199 : Cond.fieldLink RX12 45 "CellSlideModel" "weakWord" "[C" ∈ wA := e_8 _ (List.mem_of_getElem? (i := 7) rfl)
theorem q_200 : Cond.fieldLink RX12 48 "CellSlideModel" "nilWord" "[C" ∈ wA := e_8 _ (List.mem_of_getElem? (i := 8) rfl)
theorem q_201 : Cond.fieldLink RX12 51 "CellSlideModel" "newWord" "[C" ∈ wA := e_8 _ (List.mem_of_getElem? (i := 9) rfl)
theorem q_202 : Cond.fieldLink RX12 54 "CellSlideModel" "slideWord" "[C" ∈ wA := e_8 _ (List.mem_of_getElem? (i := 10) rfl)
theorem q_203 : Cond.fieldLink RX12 57 "CellSlideModel" "repeatWord" "[C" ∈ wA := e_8 _ (List.mem_of_getElem? (i := 11) rfl)
theorem q_204 : Cond.fieldLink RX12 60 "CellSlideModel" "whenWord" "[C" ∈ wA := e_8 _ (List.mem_of_getElem? (i := 12) rfl)
theorem q_205 : Cond.fieldLink RX12 63 "CellSlideModel" "fields" "[I" ∈ wA := e_8 _ (List.mem_of_getElem? (i := 13) rfl)
theorem q_206 : Cond.fieldLink RX12 66 "CellSlideModel" "sorts" "[I" ∈ wA := e_8 _ (List.mem_of_getElem? (i := 14) rfl)
theorem q_207 : Cond.fieldLink RX12 69 "CellSlideModel" "kindName" "[I" ∈ wA := e_8 _ (List.mem_of_getElem? (i := 15) rfl)
theorem q_208 : Cond.fieldLink RX12 72 "CellSlideModel" "cellName" "[I" ∈ wA := e_8 _ (List.mem_of_getElem? (i := 16) rfl)
theorem q_209 : Cond.fieldLink RX12 75 "CellSlideModel" "cellFirst" "[I" ∈ wA := e_8 _ (List.mem_of_getElem? (i := 17) rfl)
theorem q_210 : Cond.fieldLink RX12 78 "CellSlideModel" "now" "[I" ∈ wA := e_8 _ (List.mem_of_getElem? (i := 18) rfl)
theorem q_211 : Cond.fieldLink RX12 81 "CellSlideModel" "laid" "[I" ∈ wA := e_8 _ (List.mem_of_getElem? (i := 19) rfl)
theorem q_212 : Cond.fieldLink RX12 84 "CellSlideModel" "view" "[I" ∈ wA := e_8 _ (List.mem_of_getElem? (i := 20) rfl)
theorem q_213 : Cond.fieldLink RX12 87 "CellSlideModel" "firstOf" "[I" ∈ wA := e_8 _ (List.mem_of_getElem? (i := 21) rfl)
theorem q_214 : Cond.fieldLink RX12 90 "CellSlideModel" "cellOfWord" "[I" ∈ wA := e_8 _ (List.mem_of_getElem? (i := 22) rfl)
theorem q_215 : Cond.arrayClass .boolean ∈ wA := e_8 _ (List.mem_of_getElem? (i := 23) rfl)
theorem q_216 : Cond.fieldLink RX12 93 "CellSlideModel" "live" "[Z" ∈ wA := e_9 _ (List.mem_of_getElem? (i := 0) rfl)
theorem q_217 : Cond.fieldLink RX12 97 "CellSlideModel" "liveAt" "[I" ∈ wA := e_9 _ (List.mem_of_getElem? (i := 1) rfl)
theorem q_218 : Cond.fieldLink RX12 100 "CellSlideModel" "goesTo" "[I" ∈ wA := e_9 _ (List.mem_of_getElem? (i := 2) rfl)
theorem q_219 : Cond.fieldLink RX12 103 "CellSlideModel" "blockAt" "[I" ∈ wA := e_9 _ (List.mem_of_getElem? (i := 3) rfl)
theorem q_220 : Cond.fieldLink RX12 106 "CellSlideModel" "blockWords" "[I" ∈ wA := e_9 _ (List.mem_of_getElem? (i := 4) rfl)
theorem q_221 : Cond.fieldLink RX12 109 "CellSlideModel" "far" "[I" ∈ wA := e_9 _ (List.mem_of_getElem? (i := 5) rfl)
theorem q_222 : Cond.fieldLink RX12 112 "CellSlideModel" "near" "[I" ∈ wA := e_9 _ (List.mem_of_getElem? (i := 6) rfl)
theorem q_223 : Cond.fieldLink RX12 115 "CellSlideModel" "foundRow" "[I" ∈ wA := e_9 _ (List.mem_of_getElem? (i := 7) rfl)
theorem q_224 : Cond.fieldLink RX12 118 "CellSlideModel" "foundAs" "[I" ∈ wA := e_9 _ (List.mem_of_getElem? (i := 8) rfl)
theorem q_225 : Cond.fieldLink RX12 121 "CellSlideModel" "shape" "[I" ∈ wA := e_9 _ (List.mem_of_getElem? (i := 9) rfl)
theorem q_226 : Cond.fieldLink RX12 124 "CellSlideModel" "shape0" "[I" ∈ wA := e_9 _ (List.mem_of_getElem? (i := 10) rfl)
theorem q_227 : Cond.fieldLink RX12 127 "CellSlideModel" "rows" "[I" ∈ wA := e_9 _ (List.mem_of_getElem? (i := 11) rfl)
theorem q_228 : Cond.fieldLink RX12 130 "CellSlideModel" "fits" "[Z" ∈ wA := e_9 _ (List.mem_of_getElem? (i := 12) rfl)
theorem q_229 : Cond.constant RX12 133 (53120) ∈ wA := e_9 _ (List.mem_of_getElem? (i := 13) rfl)
theorem q_230 : Cond.fieldLink RX12 134 "CellSlideModel" "held" "[I" ∈ wA := e_9 _ (List.mem_of_getElem? (i := 14) rfl)
theorem q_231 : Cond.fieldLink RX12 137 "CellSlideModel" "like" "[I" ∈ wA := e_9 _ (List.mem_of_getElem? (i := 15) rfl)
theorem q_232 : Cond.fieldLink RX12 140 "CellSlideModel" "kept0" "[I" ∈ wA := e_9 _ (List.mem_of_getElem? (i := 16) rfl)
theorem q_233 : Cond.fieldLink RX12 143 "CellSlideModel" "seeded" "J" ∈ wA := e_9 _ (List.mem_of_getElem? (i := 17) rfl)
theorem q_234 : Cond.fieldLink RX12 147 "CellSlideModel" "registerWord" "[C" ∈ wA := e_9 _ (List.mem_of_getElem? (i := 18) rfl)
theorem q_235 : Cond.fieldLink RX12 150 "CellSlideModel" "failPlace" "I" ∈ wA := e_9 _ (List.mem_of_getElem? (i := 19) rfl)
theorem q_236 : Cond.fieldLink RX12 153 "CellSlideModel" "framePlace" "[I" ∈ wA := e_9 _ (List.mem_of_getElem? (i := 20) rfl)
theorem q_237 : Cond.fieldLink RX12 156 "CellSlideModel" "frameBody" "[I" ∈ wA := e_9 _ (List.mem_of_getElem? (i := 21) rfl)
theorem q_238 : Cond.fieldLink RX12 159 "CellSlideModel" "frameLeft" "[I" ∈ wA := e_9 _ (List.mem_of_getElem? (i := 22) rfl)
theorem q_239 : Cond.fieldLink RX12 162 "CellSlideModel" "octet" "[I" ∈ wA := e_9 _ (List.mem_of_getElem? (i := 23) rfl)
theorem q_240 : Cond.code yJ7_fill_53178 cJ7_fill_53178 4 none ∈ wA := e_10 _ (List.mem_of_getElem? (i := 0) rfl)
theorem q_241 : Cond.code yJ7_fill_fda19 cJ7_fill_fda19 5 none ∈ wA := e_10 _ (List.mem_of_getElem? (i := 1) rfl)
theorem q_242 : Cond.code yJ7_rangeCheck_23922 cJ7_rangeCheck_23922 3 none ∈ wA := e_10 _ (List.mem_of_getElem? (i := 2) rfl)
theorem q_243 : Cond.methodLink RJ7 13 yJ7_rangeCheck_23922 ∈ wA := e_10 _ (List.mem_of_getElem? (i := 3) rfl)
theorem q_244 : Cond.static yJ7_rangeCheck_23922 ∈ wA := e_10 _ (List.mem_of_getElem? (i := 4) rfl)
theorem q_245 : Cond.initialized RJ7 ∈ wA := e_10 _ (List.mem_of_getElem? (i := 5) rfl)
theorem q_246 : Cond.code yX11_feed cX11_feed 6 (some .int) ∈ wA := e_10 _ (List.mem_of_getElem? (i := 6) rfl)
theorem q_247 : Cond.fieldLink RX11 130 "CellSlide$Tape" "length" "I" ∈ wA := e_10 _ (List.mem_of_getElem? (i := 7) rfl)
theorem q_248 : Cond.code yX10_append cX10_append 3 none ∈ wA := e_10 _ (List.mem_of_getElem? (i := 8) rfl)
theorem q_249 : Cond.methodLink RX11 137 yX10_append ∈ wA := e_10 _ (List.mem_of_getElem? (i := 9) rfl)
theorem q_250 : Cond.instanceMethod yX10_append ∈ wA := e_10 _ (List.mem_of_getElem? (i := 10) rfl)
theorem q_251 : Cond.selects RX10 yX10_append yX10_append ∈ wA := e_10 _ (List.mem_of_getElem? (i := 11) rfl)
theorem q_252 : Cond.code yX11_end cX11_end 2 (some .boolean) ∈ wA := e_10 _ (List.mem_of_getElem? (i := 12) rfl)
theorem q_253 : Cond.code yX11_deny cX11_deny 2 (some .boolean) ∈ wA := e_10 _ (List.mem_of_getElem? (i := 13) rfl)
theorem q_254 : Cond.methodLink RX11 141 yX11_deny ∈ wA := e_10 _ (List.mem_of_getElem? (i := 14) rfl)
theorem q_255 : Cond.instanceMethod yX11_deny ∈ wA := e_10 _ (List.mem_of_getElem? (i := 15) rfl)
theorem q_256 : Cond.selects RX11 yX11_deny yX11_deny ∈ wA := e_10 _ (List.mem_of_getElem? (i := 16) rfl)
theorem q_257 : Cond.initialized RX11 ∈ wA := e_10 _ (List.mem_of_getElem? (i := 17) rfl)
theorem q_258 : Cond.code yX11_heap cX11_heap 2 (some .int) ∈ wA := e_10 _ (List.mem_of_getElem? (i := 18) rfl)
theorem q_259 : Cond.code yX1_readHeap cX1_readHeap 1 (some .boolean) ∈ wA := e_10 _ (List.mem_of_getElem? (i := 19) rfl)
theorem q_260 : Cond.code yX10_rewind cX10_rewind 1 none ∈ wA := e_10 _ (List.mem_of_getElem? (i := 20) rfl)
theorem q_261 : Cond.methodLink RX1 41 yX10_rewind ∈ wA := e_10 _ (List.mem_of_getElem? (i := 21) rfl)
theorem q_262 : Cond.instanceMethod yX10_rewind ∈ wA := e_10 _ (List.mem_of_getElem? (i := 22) rfl)
theorem q_263 : Cond.selects RX10 yX10_rewind yX10_rewind ∈ wA := e_10 _ (List.mem_of_getElem? (i := 23) rfl)
theorem q_264 : Cond.fieldLink RX1 46 "CellSlide$Kinds" "count" "I" ∈ wA := e_11 _ (List.mem_of_getElem? (i := 0) rfl)
theorem q_265 : Cond.code yX8_clear cX8_clear 2 none ∈ wA := e_11 _ (List.mem_of_getElem? (i := 1) rfl)
theorem q_266 : Cond.methodLink RX8 62 yJ7_fill_53178 ∈ wA := e_11 _ (List.mem_of_getElem? (i := 2) rfl)
theorem q_267 : Cond.static yJ7_fill_53178 ∈ wA := e_11 _ (List.mem_of_getElem? (i := 3) rfl)
theorem q_268 : Cond.methodLink RX8 68 yJ7_fill_fda19 ∈ wA := e_11 _ (List.mem_of_getElem? (i := 4) rfl)
theorem q_269 : Cond.static yJ7_fill_fda19 ∈ wA := e_11 _ (List.mem_of_getElem? (i := 5) rfl)
theorem q_270 : Cond.methodLink RX1 51 yX8_clear ∈ wA := e_11 _ (List.mem_of_getElem? (i := 6) rfl)
theorem q_271 : Cond.instanceMethod yX8_clear ∈ wA := e_11 _ (List.mem_of_getElem? (i := 7) rfl)
theorem q_272 : Cond.selects RX8 yX8_clear yX8_clear ∈ wA := e_11 _ (List.mem_of_getElem? (i := 8) rfl)
theorem q_273 : Cond.code yX10_peek cX10_peek 1 (some .int) ∈ wA := e_11 _ (List.mem_of_getElem? (i := 9) rfl)
theorem q_274 : Cond.methodLink RX1 57 yX10_peek ∈ wA := e_11 _ (List.mem_of_getElem? (i := 10) rfl)
theorem q_275 : Cond.instanceMethod yX10_peek ∈ wA := e_11 _ (List.mem_of_getElem? (i := 11) rfl)
theorem q_276 : Cond.selects RX10 yX10_peek yX10_peek ∈ wA := e_11 _ (List.mem_of_getElem? (i := 12) rfl)
theorem q_277 : Cond.fieldLink RX1 61 "CellSlide$Tape" "at" "I" ∈ wA := e_11 _ (List.mem_of_getElem? (i := 13) rfl)
theorem q_278 : Cond.code yX10_wrong cX10_wrong 3 (some .boolean) ∈ wA := e_11 _ (List.mem_of_getElem? (i := 14) rfl)
theorem q_279 : Cond.methodLink RX1 64 yX10_wrong ∈ wA := e_11 _ (List.mem_of_getElem? (i := 15) rfl)
theorem q_280 : Cond.instanceMethod yX10_wrong ∈ wA := e_11 _ (List.mem_of_getElem? (i := 16) rfl)
theorem q_281 : Cond.selects RX10 yX10_wrong yX10_wrong ∈ wA := e_11 _ (List.mem_of_getElem? (i := 17) rfl)
theorem q_282 : Cond.methodLink RX11 145 yX1_readHeap ∈ wA := e_11 _ (List.mem_of_getElem? (i := 18) rfl)
theorem q_283 : Cond.instanceMethod yX1_readHeap ∈ wA := e_11 _ (List.mem_of_getElem? (i := 19) rfl)
theorem q_284 : Cond.selects RX1 yX1_readHeap yX1_readHeap ∈ wA := e_11 _ (List.mem_of_getElem? (i := 20) rfl)
theorem q_285 : Cond.code yX11_refuse cX11_refuse 2 (some .int) ∈ wA := e_11 _ (List.mem_of_getElem? (i := 21) rfl)
theorem q_286 : Cond.methodLink RX11 133 yX11_refuse ∈ wA := e_11 _ (List.mem_of_getElem? (i := 22) rfl)
theorem q_287 : Cond.instanceMethod yX11_refuse ∈ wA := e_11 _ (List.mem_of_getElem? (i := 23) rfl)
theorem q_288 : Cond.selects RX11 yX11_refuse yX11_refuse ∈ wA := e_12 _ (List.mem_of_getElem? (i := 0) rfl)
theorem q_289 : Cond.code yX11_fault cX11_fault 2 (some .int) ∈ wA := e_12 _ (List.mem_of_getElem? (i := 1) rfl)
theorem q_290 : Cond.fieldLink RX11 164 "CellSlide$Tape" "fault" "I" ∈ wA := e_12 _ (List.mem_of_getElem? (i := 2) rfl)
theorem q_291 : Cond.fieldLink RX11 167 "CellSlide$Tape" "place" "I" ∈ wA := e_12 _ (List.mem_of_getElem? (i := 3) rfl)
theorem q_292 : Cond.code yX11_has cX11_has 2 (some .int) ∈ wA := e_12 _ (List.mem_of_getElem? (i := 4) rfl)
theorem q_293 : Cond.fieldLink RX11 170 "CellSlide$State" "words" "I" ∈ wA := e_12 _ (List.mem_of_getElem? (i := 5) rfl)
theorem q_294 : Cond.fieldLink RX11 173 "CellSlide$State" "limit" "I" ∈ wA := e_12 _ (List.mem_of_getElem? (i := 6) rfl)
theorem q_295 : Cond.fieldLink RX11 176 "CellSlide$State" "going" "Z" ∈ wA := e_12 _ (List.mem_of_getElem? (i := 7) rfl)
theorem q_296 : Cond.code yX2_countCells cX2_countCells 4 (some .int) ∈ wA := e_12 _ (List.mem_of_getElem? (i := 8) rfl)
theorem q_297 : Cond.fieldLink RX2 32 "CellSlide$State" "limit" "I" ∈ wA := e_12 _ (List.mem_of_getElem? (i := 9) rfl)
theorem q_298 : Cond.fieldLink RX2 37 "CellSlide$State" "words" "I" ∈ wA := e_12 _ (List.mem_of_getElem? (i := 10) rfl)
theorem q_299 : Cond.methodLink RX11 183 yX2_countCells ∈ wA := e_12 _ (List.mem_of_getElem? (i := 11) rfl)
theorem q_300 : Cond.instanceMethod yX2_countCells ∈ wA := e_12 _ (List.mem_of_getElem? (i := 12) rfl)
theorem q_301 : Cond.selects RX2 yX2_countCells yX2_countCells ∈ wA := e_12 _ (List.mem_of_getElem? (i := 13) rfl)
theorem q_302 : Cond.fieldLink RX11 187 "CellSlide$Kinds" "count" "I" ∈ wA := e_12 _ (List.mem_of_getElem? (i := 14) rfl)
theorem q_303 : Cond.fieldLink RX11 190 "CellSlide$State" "method" "I" ∈ wA := e_12 _ (List.mem_of_getElem? (i := 15) rfl)
theorem q_304 : Cond.fieldLink RX11 193 "CellSlide$State" "ended" "I" ∈ wA := e_12 _ (List.mem_of_getElem? (i := 16) rfl)
theorem q_305 : Cond.fieldLink RX11 196 "CellSlide$State" "keptCount" "I" ∈ wA := e_12 _ (List.mem_of_getElem? (i := 17) rfl)
theorem q_306 : Cond.fieldLink RX11 158 "CellSlide$Sight" "rows" "I" ∈ wA := e_12 _ (List.mem_of_getElem? (i := 18) rfl)
theorem q_307 : Cond.code yX11_word cX11_word 4 (some .int) ∈ wA := e_12 _ (List.mem_of_getElem? (i := 19) rfl)
theorem q_308 : Cond.constant RX11 199 (-1000000) ∈ wA := e_12 _ (List.mem_of_getElem? (i := 20) rfl)
theorem q_309 : Cond.code yX11_stage cX11_stage 2 (some .int) ∈ wA := e_12 _ (List.mem_of_getElem? (i := 21) rfl)
theorem q_310 : Cond.code yX11_kept cX11_kept 3 (some .int) ∈ wA := e_12 _ (List.mem_of_getElem? (i := 22) rfl)
theorem q_311 : Cond.code yX11_cell cX11_cell 5 (some .int) ∈ wA := e_12 _ (List.mem_of_getElem? (i := 23) rfl)
theorem q_312 : Cond.code yX11_ready cX11_ready 1 (some .boolean) ∈ wA := e_13 _ (List.mem_of_getElem? (i := 0) rfl)
theorem q_313 : Cond.methodLink RX11 224 yX11_ready ∈ wA := e_13 _ (List.mem_of_getElem? (i := 1) rfl)
theorem q_314 : Cond.instanceMethod yX11_ready ∈ wA := e_13 _ (List.mem_of_getElem? (i := 2) rfl)
theorem q_315 : Cond.selects RX11 yX11_ready yX11_ready ∈ wA := e_13 _ (List.mem_of_getElem? (i := 3) rfl)
theorem q_316 : Cond.code yX11_cellOf cX11_cellOf 2 (some .int) ∈ wA := e_13 _ (List.mem_of_getElem? (i := 4) rfl)
theorem q_317 : Cond.code yX11_inCell cX11_inCell 2 (some .boolean) ∈ wA := e_13 _ (List.mem_of_getElem? (i := 5) rfl)
theorem q_318 : Cond.code yX11_inHeap cX11_inHeap 2 (some .boolean) ∈ wA := e_13 _ (List.mem_of_getElem? (i := 6) rfl)
theorem q_319 : Cond.methodLink RX11 249 yX11_inHeap ∈ wA := e_13 _ (List.mem_of_getElem? (i := 7) rfl)
theorem q_320 : Cond.instanceMethod yX11_inHeap ∈ wA := e_13 _ (List.mem_of_getElem? (i := 8) rfl)
theorem q_321 : Cond.selects RX11 yX11_inHeap yX11_inHeap ∈ wA := e_13 _ (List.mem_of_getElem? (i := 9) rfl)
theorem q_322 : Cond.methodLink RX11 237 yX11_inCell ∈ wA := e_13 _ (List.mem_of_getElem? (i := 10) rfl)
theorem q_323 : Cond.instanceMethod yX11_inCell ∈ wA := e_13 _ (List.mem_of_getElem? (i := 11) rfl)
theorem q_324 : Cond.selects RX11 yX11_inCell yX11_inCell ∈ wA := e_13 _ (List.mem_of_getElem? (i := 12) rfl)
theorem q_325 : Cond.code yX11_goes cX11_goes 2 (some .int) ∈ wA := e_13 _ (List.mem_of_getElem? (i := 13) rfl)
theorem q_326 : Cond.code yX11_comes cX11_comes 3 (some .int) ∈ wA := e_13 _ (List.mem_of_getElem? (i := 14) rfl)
theorem q_327 : Cond.code yX11_block cX11_block 4 (some .int) ∈ wA := e_13 _ (List.mem_of_getElem? (i := 15) rfl)
theorem q_328 : Cond.code yX11_chain cX11_chain 3 (some .int) ∈ wA := e_13 _ (List.mem_of_getElem? (i := 16) rfl)
theorem q_329 : Cond.code yX11_isLive cX11_isLive 2 (some .boolean) ∈ wA := e_13 _ (List.mem_of_getElem? (i := 17) rfl)
theorem q_330 : Cond.methodLink RX11 234 yX11_isLive ∈ wA := e_13 _ (List.mem_of_getElem? (i := 18) rfl)
theorem q_331 : Cond.instanceMethod yX11_isLive ∈ wA := e_13 _ (List.mem_of_getElem? (i := 19) rfl)
theorem q_332 : Cond.selects RX11 yX11_isLive yX11_isLive ∈ wA := e_13 _ (List.mem_of_getElem? (i := 20) rfl)
theorem q_333 : Cond.code yX11_longest cX11_longest 4 (some .int) ∈ wA := e_13 _ (List.mem_of_getElem? (i := 21) rfl)
theorem q_334 : Cond.code yX11_steps cX11_steps 2 (some .int) ∈ wA := e_13 _ (List.mem_of_getElem? (i := 22) rfl)
theorem q_335 : Cond.code yX11_room cX11_room 4 (some .int) ∈ wA := e_13 _ (List.mem_of_getElem? (i := 23) rfl)
theorem q_336 : Cond.code yX11_far cX11_far 2 (some .int) ∈ wA := e_14 _ (List.mem_of_getElem? (i := 0) rfl)
theorem q_337 : Cond.code yX11_way cX11_way 3 (some .int) ∈ wA := e_14 _ (List.mem_of_getElem? (i := 1) rfl)
theorem q_338 : Cond.code yX11_keeps cX11_keeps 2 (some .int) ∈ wA := e_14 _ (List.mem_of_getElem? (i := 2) rfl)
theorem q_339 : Cond.code yX11_retains cX11_retains 2 (some .int) ∈ wA := e_14 _ (List.mem_of_getElem? (i := 3) rfl)
theorem q_340 : Cond.code yX11_best cX11_best 6 (some .int) ∈ wA := e_14 _ (List.mem_of_getElem? (i := 4) rfl)
theorem q_341 : Cond.code yX11_found cX11_found 2 (some .int) ∈ wA := e_14 _ (List.mem_of_getElem? (i := 5) rfl)
theorem q_342 : Cond.code yX11_remember cX11_remember 1 (some .int) ∈ wA := e_14 _ (List.mem_of_getElem? (i := 6) rfl)
theorem q_343 : Cond.code yX11_alike cX11_alike 2 (some .int) ∈ wA := e_14 _ (List.mem_of_getElem? (i := 7) rfl)
theorem q_344 : Cond.code yX11_see cX11_see 2 (some .int) ∈ wA := e_14 _ (List.mem_of_getElem? (i := 8) rfl)
theorem q_345 : Cond.code yX11_then cX11_then 2 (some .int) ∈ wA := e_14 _ (List.mem_of_getElem? (i := 9) rfl)
theorem q_346 : Cond.code yX11_tells cX11_tells 2 (some .int) ∈ wA := e_14 _ (List.mem_of_getElem? (i := 10) rfl)
theorem q_347 : Cond.code yX11_run cX11_run 2 (some .int) ∈ wA := e_14 _ (List.mem_of_getElem? (i := 11) rfl)
theorem q_348 : Cond.code yX11_failed cX11_failed 2 (some .int) ∈ wA := e_14 _ (List.mem_of_getElem? (i := 12) rfl)
theorem q_349 : Cond.fieldLink RX11 353 "CellSlide$Runner" "failure" "I" ∈ wA := e_14 _ (List.mem_of_getElem? (i := 13) rfl)
theorem q_350 : Cond.fieldLink RX11 356 "CellSlide$Runner" "failedAt" "I" ∈ wA := e_14 _ (List.mem_of_getElem? (i := 14) rfl)
theorem q_351 : Cond.code yX11_collect cX11_collect 1 (some .int) ∈ wA := e_14 _ (List.mem_of_getElem? (i := 15) rfl)
theorem q_352 : Cond.code yX11_begin cX11_begin 1 (some .int) ∈ wA := e_14 _ (List.mem_of_getElem? (i := 16) rfl)
theorem q_353 : Cond.code yX11_step cX11_step 3 (some .int) ∈ wA := e_14 _ (List.mem_of_getElem? (i := 17) rfl)
theorem q_354 : Cond.code yX11_method cX11_method 2 (some .boolean) ∈ wA := e_14 _ (List.mem_of_getElem? (i := 18) rfl)
theorem q_355 : Cond.code yX11_chance cX11_chance 4 (some .int) ∈ wA := e_14 _ (List.mem_of_getElem? (i := 19) rfl)
theorem q_356 : Cond.code yX11_undo cX11_undo 1 (some .boolean) ∈ wA := e_14 _ (List.mem_of_getElem? (i := 20) rfl)
theorem q_357 : Cond.code yX11_seed cX11_seed 2 (some .boolean) ∈ wA := e_14 _ (List.mem_of_getElem? (i := 21) rfl)
theorem q_358 : Cond.fieldLink RX11 368 "CellSlide$Changes" "seed" "J" ∈ wA := e_14 _ (List.mem_of_getElem? (i := 22) rfl)
theorem q_359 : Cond.code yX11_image cX11_image 1 (some .int) ∈ wA := e_14 _ (List.mem_of_getElem? (i := 23) rfl)
theorem q_360 : Cond.code yX11_octet cX11_octet 2 (some .int) ∈ wA := e_15 _ (List.mem_of_getElem? (i := 0) rfl)
theorem q_361 : Cond.fieldLink RX11 375 "CellSlide$Picture" "length" "I" ∈ wA := e_15 _ (List.mem_of_getElem? (i := 1) rfl)
theorem q_362 : Cond.code yX11_on cX11_on 2 (some .boolean) ∈ wA := e_15 _ (List.mem_of_getElem? (i := 2) rfl)
theorem q_363 : Cond.code yX11_status cX11_status 2 (some .int) ∈ wA := e_15 _ (List.mem_of_getElem? (i := 3) rfl)
theorem q_364 : Cond.code yX12_isIn cX12_isIn 6 (some .boolean) ∈ wA := e_15 _ (List.mem_of_getElem? (i := 4) rfl)
theorem q_365 : Cond.code yX12_feed cX12_feed 8 (some .int) ∈ wA := e_15 _ (List.mem_of_getElem? (i := 5) rfl)
theorem q_366 : Cond.fieldLink RX12 165 "CellSlideModel" "taped" "I" ∈ wA := e_15 _ (List.mem_of_getElem? (i := 6) rfl)
theorem q_367 : Cond.code yX12_end cX12_end 2 (some .boolean) ∈ wA := e_15 _ (List.mem_of_getElem? (i := 7) rfl)
theorem q_368 : Cond.code yX12_isRefused cX12_isRefused 2 (some .boolean) ∈ wA := e_15 _ (List.mem_of_getElem? (i := 8) rfl)
theorem q_369 : Cond.methodLink RX12 172 yX12_isRefused ∈ wA := e_15 _ (List.mem_of_getElem? (i := 9) rfl)
theorem q_370 : Cond.instanceMethod yX12_isRefused ∈ wA := e_15 _ (List.mem_of_getElem? (i := 10) rfl)
theorem q_371 : Cond.selects RX12 yX12_isRefused yX12_isRefused ∈ wA := e_15 _ (List.mem_of_getElem? (i := 11) rfl)
theorem q_372 : Cond.initialized RX12 ∈ wA := e_15 _ (List.mem_of_getElem? (i := 12) rfl)
theorem q_373 : Cond.code yX12_heap cX12_heap 2 (some .int) ∈ wA := e_15 _ (List.mem_of_getElem? (i := 13) rfl)
theorem q_374 : Cond.code yX12_begins cX12_begins 1 none ∈ wA := e_15 _ (List.mem_of_getElem? (i := 14) rfl)
theorem q_375 : Cond.fieldLink RX12 185 "CellSlideModel" "end" "I" ∈ wA := e_15 _ (List.mem_of_getElem? (i := 15) rfl)
theorem q_376 : Cond.fieldLink RX12 188 "CellSlideModel" "at" "I" ∈ wA := e_15 _ (List.mem_of_getElem? (i := 16) rfl)
theorem q_377 : Cond.fieldLink RX12 191 "CellSlideModel" "ended" "I" ∈ wA := e_15 _ (List.mem_of_getElem? (i := 17) rfl)
theorem q_378 : Cond.fieldLink RX12 194 "CellSlideModel" "bad" "I" ∈ wA := e_15 _ (List.mem_of_getElem? (i := 18) rfl)
theorem q_379 : Cond.fieldLink RX12 197 "CellSlideModel" "badPlace" "I" ∈ wA := e_15 _ (List.mem_of_getElem? (i := 19) rfl)
theorem q_380 : Cond.methodLink RX12 309 yX12_begins ∈ wA := e_15 _ (List.mem_of_getElem? (i := 20) rfl)
theorem q_381 : Cond.instanceMethod yX12_begins ∈ wA := e_15 _ (List.mem_of_getElem? (i := 21) rfl)
theorem q_382 : Cond.selects RX12 yX12_begins yX12_begins ∈ wA := e_15 _ (List.mem_of_getElem? (i := 22) rfl)
theorem q_383 : Cond.fieldLink RX12 251 "CellSlideModel" "kindMany0" "I" ∈ wA := e_15 _ (List.mem_of_getElem? (i := 23) rfl)
theorem q_384 : Cond.fieldLink RX12 254 "CellSlideModel" "cellNames" "I" ∈ wA := e_16 _ (List.mem_of_getElem? (i := 0) rfl)
theorem q_385 : Cond.code yX12_holds cX12_holds 4 none ∈ wA := e_16 _ (List.mem_of_getElem? (i := 1) rfl)
theorem q_386 : Cond.code yX12_cellAt cX12_cellAt 1 (some .int) ∈ wA := e_16 _ (List.mem_of_getElem? (i := 2) rfl)
theorem q_387 : Cond.methodLink RX12 237 yX12_cellAt ∈ wA := e_16 _ (List.mem_of_getElem? (i := 3) rfl)
theorem q_388 : Cond.static yX12_cellAt ∈ wA := e_16 _ (List.mem_of_getElem? (i := 4) rfl)
theorem q_389 : Cond.methodLink RX12 247 yX12_holds ∈ wA := e_16 _ (List.mem_of_getElem? (i := 5) rfl)
theorem q_390 : Cond.static yX12_holds ∈ wA := e_16 _ (List.mem_of_getElem? (i := 6) rfl)
theorem q_391 : Cond.code yX12_asks cX12_asks 2 none ∈ wA := e_16 _ (List.mem_of_getElem? (i := 7) rfl)
theorem q_392 : Cond.code yX12_takes cX12_takes 2 (some .boolean) ∈ wA := e_16 _ (List.mem_of_getElem? (i := 8) rfl)
theorem q_393 : Cond.code yX12_isHere cX12_isHere 4 (some .boolean) ∈ wA := e_16 _ (List.mem_of_getElem? (i := 9) rfl)
theorem q_394 : Cond.code yX12_look cX12_look 1 (some .int) ∈ wA := e_16 _ (List.mem_of_getElem? (i := 10) rfl)
theorem q_395 : Cond.methodLink RX12 200 yX12_look ∈ wA := e_16 _ (List.mem_of_getElem? (i := 11) rfl)
theorem q_396 : Cond.instanceMethod yX12_look ∈ wA := e_16 _ (List.mem_of_getElem? (i := 12) rfl)
theorem q_397 : Cond.selects RX12 yX12_look yX12_look ∈ wA := e_16 _ (List.mem_of_getElem? (i := 13) rfl)
theorem q_398 : Cond.code yX12_isLetter cX12_isLetter 1 (some .boolean) ∈ wA := e_16 _ (List.mem_of_getElem? (i := 14) rfl)
theorem q_399 : Cond.methodLink RX12 204 yX12_isLetter ∈ wA := e_16 _ (List.mem_of_getElem? (i := 15) rfl)
theorem q_400 : Cond.static yX12_isLetter ∈ wA := e_16 _ (List.mem_of_getElem? (i := 16) rfl)
theorem q_401 : Cond.methodLink RX12 207 yX12_isHere ∈ wA := e_16 _ (List.mem_of_getElem? (i := 17) rfl)
theorem q_402 : Cond.instanceMethod yX12_isHere ∈ wA := e_16 _ (List.mem_of_getElem? (i := 18) rfl)
theorem q_403 : Cond.selects RX12 yX12_isHere yX12_isHere ∈ wA := e_16 _ (List.mem_of_getElem? (i := 19) rfl)
theorem q_404 : Cond.methodLink RX12 211 yX12_takes ∈ wA := e_16 _ (List.mem_of_getElem? (i := 20) rfl)
theorem q_405 : Cond.instanceMethod yX12_takes ∈ wA := e_16 _ (List.mem_of_getElem? (i := 21) rfl)
theorem q_406 : Cond.selects RX12 yX12_takes yX12_takes ∈ wA := e_16 _ (List.mem_of_getElem? (i := 22) rfl)
theorem q_407 : Cond.code yX12_fail cX12_fail 3 none ∈ wA := e_16 _ (List.mem_of_getElem? (i := 23) rfl)
theorem q_408 : Cond.methodLink RX12 214 yX12_fail ∈ wA := e_17 _ (List.mem_of_getElem? (i := 0) rfl)
theorem q_409 : Cond.instanceMethod yX12_fail ∈ wA := e_17 _ (List.mem_of_getElem? (i := 1) rfl)
theorem q_410 : Cond.selects RX12 yX12_fail yX12_fail ∈ wA := e_17 _ (List.mem_of_getElem? (i := 2) rfl)
theorem q_411 : Cond.methodLink RX12 269 yX12_asks ∈ wA := e_17 _ (List.mem_of_getElem? (i := 3) rfl)
theorem q_412 : Cond.instanceMethod yX12_asks ∈ wA := e_17 _ (List.mem_of_getElem? (i := 4) rfl)
theorem q_413 : Cond.selects RX12 yX12_asks yX12_asks ∈ wA := e_17 _ (List.mem_of_getElem? (i := 5) rfl)
theorem q_414 : Cond.code yX12_number cX12_number 5 (some .int) ∈ wA := e_17 _ (List.mem_of_getElem? (i := 6) rfl)
theorem q_415 : Cond.methodLink RX12 276 yX12_number ∈ wA := e_17 _ (List.mem_of_getElem? (i := 7) rfl)
theorem q_416 : Cond.instanceMethod yX12_number ∈ wA := e_17 _ (List.mem_of_getElem? (i := 8) rfl)
theorem q_417 : Cond.selects RX12 yX12_number yX12_number ∈ wA := e_17 _ (List.mem_of_getElem? (i := 9) rfl)
theorem q_418 : Cond.fieldLink RX12 312 "CellSlideModel" "size0" "I" ∈ wA := e_17 _ (List.mem_of_getElem? (i := 10) rfl)
theorem q_419 : Cond.code yX12_asksSign cX12_asksSign 2 none ∈ wA := e_17 _ (List.mem_of_getElem? (i := 11) rfl)
theorem q_420 : Cond.methodLink RX12 290 yX12_asksSign ∈ wA := e_17 _ (List.mem_of_getElem? (i := 12) rfl)
theorem q_421 : Cond.instanceMethod yX12_asksSign ∈ wA := e_17 _ (List.mem_of_getElem? (i := 13) rfl)
theorem q_422 : Cond.selects RX12 yX12_asksSign yX12_asksSign ∈ wA := e_17 _ (List.mem_of_getElem? (i := 14) rfl)
theorem q_423 : Cond.fieldLink RX12 297 "CellSlideModel" "statements" "I" ∈ wA := e_17 _ (List.mem_of_getElem? (i := 15) rfl)
theorem q_424 : Cond.fieldLink RX12 182 "CellSlideModel" "fault" "I" ∈ wA := e_17 _ (List.mem_of_getElem? (i := 16) rfl)
theorem q_425 : Cond.code yX12_refuses cX12_refuses 2 (some .int) ∈ wA := e_17 _ (List.mem_of_getElem? (i := 17) rfl)
theorem q_426 : Cond.methodLink RX12 168 yX12_refuses ∈ wA := e_17 _ (List.mem_of_getElem? (i := 18) rfl)
theorem q_427 : Cond.instanceMethod yX12_refuses ∈ wA := e_17 _ (List.mem_of_getElem? (i := 19) rfl)
theorem q_428 : Cond.selects RX12 yX12_refuses yX12_refuses ∈ wA := e_17 _ (List.mem_of_getElem? (i := 20) rfl)
theorem q_429 : Cond.code yX12_fault cX12_fault 2 (some .int) ∈ wA := e_17 _ (List.mem_of_getElem? (i := 21) rfl)
theorem q_430 : Cond.code yX12_has cX12_has 2 (some .int) ∈ wA := e_17 _ (List.mem_of_getElem? (i := 22) rfl)
theorem q_431 : Cond.fieldLink RX12 325 "CellSlideModel" "size" "I" ∈ wA := e_17 _ (List.mem_of_getElem? (i := 23) rfl)
theorem q_432 : Cond.code yX12_laysCells cX12_laysCells 4 none ∈ wA := e_18 _ (List.mem_of_getElem? (i := 0) rfl)
theorem q_433 : Cond.fieldLink RX12 343 "CellSlideModel" "cellMany" "I" ∈ wA := e_18 _ (List.mem_of_getElem? (i := 1) rfl)
theorem q_434 : Cond.methodLink RX12 381 yX12_laysCells ∈ wA := e_18 _ (List.mem_of_getElem? (i := 2) rfl)
theorem q_435 : Cond.instanceMethod yX12_laysCells ∈ wA := e_18 _ (List.mem_of_getElem? (i := 3) rfl)
theorem q_436 : Cond.selects RX12 yX12_laysCells yX12_laysCells ∈ wA := e_18 _ (List.mem_of_getElem? (i := 4) rfl)
theorem q_437 : Cond.fieldLink RX12 328 "CellSlideModel" "kindMany" "I" ∈ wA := e_18 _ (List.mem_of_getElem? (i := 5) rfl)
theorem q_438 : Cond.fieldLink RX12 334 "CellSlideModel" "rowMany" "I" ∈ wA := e_18 _ (List.mem_of_getElem? (i := 6) rfl)
theorem q_439 : Cond.fieldLink RX12 331 "CellSlideModel" "undoable" "I" ∈ wA := e_18 _ (List.mem_of_getElem? (i := 7) rfl)
theorem q_440 : Cond.fieldLink RX12 337 "CellSlideModel" "isRemembered" "Z" ∈ wA := e_18 _ (List.mem_of_getElem? (i := 8) rfl)
theorem q_441 : Cond.code yX12_word cX12_word 3 (some .int) ∈ wA := e_18 _ (List.mem_of_getElem? (i := 9) rfl)
theorem q_442 : Cond.fieldLink RX12 321 "CellSlideModel" "isTold" "Z" ∈ wA := e_18 _ (List.mem_of_getElem? (i := 10) rfl)
theorem q_443 : Cond.constant RX12 414 (-1000000) ∈ wA := e_18 _ (List.mem_of_getElem? (i := 11) rfl)
theorem q_444 : Cond.code yX12_stage cX12_stage 3 (some .int) ∈ wA := e_18 _ (List.mem_of_getElem? (i := 12) rfl)
theorem q_445 : Cond.code yX12_kept cX12_kept 3 (some .int) ∈ wA := e_18 _ (List.mem_of_getElem? (i := 13) rfl)
theorem q_446 : Cond.methodLink RX12 178 yX12_isIn ∈ wA := e_18 _ (List.mem_of_getElem? (i := 14) rfl)
theorem q_447 : Cond.static yX12_isIn ∈ wA := e_18 _ (List.mem_of_getElem? (i := 15) rfl)
theorem q_448 : Cond.code yX12_cell cX12_cell 3 (some .int) ∈ wA := e_18 _ (List.mem_of_getElem? (i := 16) rfl)
theorem q_449 : Cond.code yX12_isAsked cX12_isAsked 1 (some .boolean) ∈ wA := e_18 _ (List.mem_of_getElem? (i := 17) rfl)
theorem q_450 : Cond.methodLink RX12 452 yX12_isAsked ∈ wA := e_18 _ (List.mem_of_getElem? (i := 18) rfl)
theorem q_451 : Cond.instanceMethod yX12_isAsked ∈ wA := e_18 _ (List.mem_of_getElem? (i := 19) rfl)
theorem q_452 : Cond.selects RX12 yX12_isAsked yX12_isAsked ∈ wA := e_18 _ (List.mem_of_getElem? (i := 20) rfl)
theorem q_453 : Cond.code yX12_cellOf cX12_cellOf 2 (some .int) ∈ wA := e_18 _ (List.mem_of_getElem? (i := 21) rfl)
theorem q_454 : Cond.code yX12_isAskedOf cX12_isAskedOf 2 (some .boolean) ∈ wA := e_18 _ (List.mem_of_getElem? (i := 22) rfl)
theorem q_455 : Cond.methodLink RX12 455 yX12_isAskedOf ∈ wA := e_18 _ (List.mem_of_getElem? (i := 23) rfl)
theorem q_456 : Cond.instanceMethod yX12_isAskedOf ∈ wA := e_19 _ (List.mem_of_getElem? (i := 0) rfl)
theorem q_457 : Cond.selects RX12 yX12_isAskedOf yX12_isAskedOf ∈ wA := e_19 _ (List.mem_of_getElem? (i := 1) rfl)
theorem q_458 : Cond.code yX12_goes cX12_goes 2 (some .int) ∈ wA := e_19 _ (List.mem_of_getElem? (i := 2) rfl)
theorem q_459 : Cond.code yX12_comes cX12_comes 3 (some .int) ∈ wA := e_19 _ (List.mem_of_getElem? (i := 3) rfl)
theorem q_460 : Cond.code yX12_block cX12_block 3 (some .int) ∈ wA := e_19 _ (List.mem_of_getElem? (i := 4) rfl)
theorem q_461 : Cond.code yX12_chain cX12_chain 3 (some .int) ∈ wA := e_19 _ (List.mem_of_getElem? (i := 5) rfl)
theorem q_462 : Cond.code yX12_longest cX12_longest 5 (some .int) ∈ wA := e_19 _ (List.mem_of_getElem? (i := 6) rfl)
theorem q_463 : Cond.code yX12_steps cX12_steps 2 (some .int) ∈ wA := e_19 _ (List.mem_of_getElem? (i := 7) rfl)
theorem q_464 : Cond.code yX12_room cX12_room 3 (some .int) ∈ wA := e_19 _ (List.mem_of_getElem? (i := 8) rfl)
theorem q_465 : Cond.code yX12_far cX12_far 2 (some .int) ∈ wA := e_19 _ (List.mem_of_getElem? (i := 9) rfl)
theorem q_466 : Cond.code yX12_way cX12_way 7 (some .int) ∈ wA := e_19 _ (List.mem_of_getElem? (i := 10) rfl)
theorem q_467 : Cond.code yX12_keeps cX12_keeps 2 (some .int) ∈ wA := e_19 _ (List.mem_of_getElem? (i := 11) rfl)
theorem q_468 : Cond.code yX12_retains cX12_retains 2 (some .int) ∈ wA := e_19 _ (List.mem_of_getElem? (i := 12) rfl)
theorem q_469 : Cond.code yX12_best cX12_best 4 (some .int) ∈ wA := e_19 _ (List.mem_of_getElem? (i := 13) rfl)
theorem q_470 : Cond.code yX12_found cX12_found 2 (some .int) ∈ wA := e_19 _ (List.mem_of_getElem? (i := 14) rfl)
theorem q_471 : Cond.code yX12_remember cX12_remember 2 (some .int) ∈ wA := e_19 _ (List.mem_of_getElem? (i := 15) rfl)
theorem q_472 : Cond.code yX12_alike cX12_alike 2 (some .int) ∈ wA := e_19 _ (List.mem_of_getElem? (i := 16) rfl)
theorem q_473 : Cond.code yX12_see cX12_see 4 (some .int) ∈ wA := e_19 _ (List.mem_of_getElem? (i := 17) rfl)
theorem q_474 : Cond.code yX12_then cX12_then 4 (some .int) ∈ wA := e_19 _ (List.mem_of_getElem? (i := 18) rfl)
theorem q_475 : Cond.code yX12_tells cX12_tells 6 (some .int) ∈ wA := e_19 _ (List.mem_of_getElem? (i := 19) rfl)
theorem q_476 : Cond.code yX12_run cX12_run 1 (some .int) ∈ wA := e_19 _ (List.mem_of_getElem? (i := 20) rfl)
theorem q_477 : Cond.code yX12_isStill cX12_isStill 1 (some .boolean) ∈ wA := e_19 _ (List.mem_of_getElem? (i := 21) rfl)
theorem q_478 : Cond.methodLink RX12 541 yX12_isStill ∈ wA := e_19 _ (List.mem_of_getElem? (i := 22) rfl)
theorem q_479 : Cond.instanceMethod yX12_isStill ∈ wA := e_19 _ (List.mem_of_getElem? (i := 23) rfl)
theorem q_480 : Cond.selects RX12 yX12_isStill yX12_isStill ∈ wA := e_20 _ (List.mem_of_getElem? (i := 0) rfl)
theorem q_481 : Cond.code yX12_failed cX12_failed 2 (some .int) ∈ wA := e_20 _ (List.mem_of_getElem? (i := 1) rfl)
theorem q_482 : Cond.fieldLink RX12 340 "CellSlideModel" "failKind" "I" ∈ wA := e_20 _ (List.mem_of_getElem? (i := 2) rfl)
theorem q_483 : Cond.code yX12_collect cX12_collect 1 (some .int) ∈ wA := e_20 _ (List.mem_of_getElem? (i := 3) rfl)
theorem q_484 : Cond.code yX12_begin cX12_begin 1 (some .int) ∈ wA := e_20 _ (List.mem_of_getElem? (i := 4) rfl)
theorem q_485 : Cond.code yX12_step cX12_step 3 (some .int) ∈ wA := e_20 _ (List.mem_of_getElem? (i := 5) rfl)
theorem q_486 : Cond.code yX12_method cX12_method 2 (some .boolean) ∈ wA := e_20 _ (List.mem_of_getElem? (i := 6) rfl)
theorem q_487 : Cond.code yX12_chance cX12_chance 4 (some .int) ∈ wA := e_20 _ (List.mem_of_getElem? (i := 7) rfl)
theorem q_488 : Cond.code yX12_undo cX12_undo 2 (some .boolean) ∈ wA := e_20 _ (List.mem_of_getElem? (i := 8) rfl)
theorem q_489 : Cond.code yX12_seed cX12_seed 2 (some .boolean) ∈ wA := e_20 _ (List.mem_of_getElem? (i := 9) rfl)
theorem q_490 : Cond.code yX12_image cX12_image 2 (some .int) ∈ wA := e_20 _ (List.mem_of_getElem? (i := 10) rfl)
theorem q_491 : Cond.code yX12_octet cX12_octet 2 (some .int) ∈ wA := e_20 _ (List.mem_of_getElem? (i := 11) rfl)
theorem q_492 : Cond.fieldLink RX12 667 "CellSlideModel" "octets" "I" ∈ wA := e_20 _ (List.mem_of_getElem? (i := 12) rfl)
theorem q_493 : Cond.code yX12_on cX12_on 3 (some .boolean) ∈ wA := e_20 _ (List.mem_of_getElem? (i := 13) rfl)
theorem q_494 : Cond.code yX12_isImage cX12_isImage 3 (some .boolean) ∈ wA := e_20 _ (List.mem_of_getElem? (i := 14) rfl)
theorem q_495 : Cond.methodLink RX12 688 yX12_isImage ∈ wA := e_20 _ (List.mem_of_getElem? (i := 15) rfl)
theorem q_496 : Cond.instanceMethod yX12_isImage ∈ wA := e_20 _ (List.mem_of_getElem? (i := 16) rfl)
theorem q_497 : Cond.selects RX12 yX12_isImage yX12_isImage ∈ wA := e_20 _ (List.mem_of_getElem? (i := 17) rfl)
theorem q_498 : Cond.code yX12_status cX12_status 2 (some .int) ∈ wA := e_20 _ (List.mem_of_getElem? (i := 18) rfl)
theorem q_499 : Cond.constantLong RX12 176 (6) ∈ wA := e_20 _ (List.mem_of_getElem? (i := 19) rfl)
theorem q_500 : Cond.methodLink RL 13 yX11_feed ∈ wA := e_20 _ (List.mem_of_getElem? (i := 20) rfl)
theorem q_501 : Cond.instanceMethod yX11_feed ∈ wA := e_20 _ (List.mem_of_getElem? (i := 21) rfl)
theorem q_502 : Cond.selects RX11 yX11_feed yX11_feed ∈ wA := e_20 _ (List.mem_of_getElem? (i := 22) rfl)
theorem q_503 : Cond.methodLink RL 17 yX12_feed ∈ wA := e_20 _ (List.mem_of_getElem? (i := 23) rfl)
theorem q_504 : Cond.instanceMethod yX12_feed ∈ wA := e_21 _ (List.mem_of_getElem? (i := 0) rfl)
theorem q_505 : Cond.selects RX12 yX12_feed yX12_feed ∈ wA := e_21 _ (List.mem_of_getElem? (i := 1) rfl)
theorem q_506 : Cond.methodLink RL 18 yX11_end ∈ wA := e_21 _ (List.mem_of_getElem? (i := 2) rfl)
theorem q_507 : Cond.instanceMethod yX11_end ∈ wA := e_21 _ (List.mem_of_getElem? (i := 3) rfl)
theorem q_508 : Cond.selects RX11 yX11_end yX11_end ∈ wA := e_21 _ (List.mem_of_getElem? (i := 4) rfl)
theorem q_509 : Cond.methodLink RL 22 yX12_end ∈ wA := e_21 _ (List.mem_of_getElem? (i := 5) rfl)
theorem q_510 : Cond.instanceMethod yX12_end ∈ wA := e_21 _ (List.mem_of_getElem? (i := 6) rfl)
theorem q_511 : Cond.selects RX12 yX12_end yX12_end ∈ wA := e_21 _ (List.mem_of_getElem? (i := 7) rfl)
theorem q_512 : Cond.methodLink RL 23 yX11_heap ∈ wA := e_21 _ (List.mem_of_getElem? (i := 8) rfl)
theorem q_513 : Cond.instanceMethod yX11_heap ∈ wA := e_21 _ (List.mem_of_getElem? (i := 9) rfl)
theorem q_514 : Cond.selects RX11 yX11_heap yX11_heap ∈ wA := e_21 _ (List.mem_of_getElem? (i := 10) rfl)
theorem q_515 : Cond.methodLink RL 27 yX12_heap ∈ wA := e_21 _ (List.mem_of_getElem? (i := 11) rfl)
theorem q_516 : Cond.instanceMethod yX12_heap ∈ wA := e_21 _ (List.mem_of_getElem? (i := 12) rfl)
theorem q_517 : Cond.selects RX12 yX12_heap yX12_heap ∈ wA := e_21 _ (List.mem_of_getElem? (i := 13) rfl)
theorem q_518 : Cond.methodLink RL 28 yX11_fault ∈ wA := e_21 _ (List.mem_of_getElem? (i := 14) rfl)
theorem q_519 : Cond.instanceMethod yX11_fault ∈ wA := e_21 _ (List.mem_of_getElem? (i := 15) rfl)
theorem q_520 : Cond.selects RX11 yX11_fault yX11_fault ∈ wA := e_21 _ (List.mem_of_getElem? (i := 16) rfl)
theorem q_521 : Cond.methodLink RL 32 yX12_fault ∈ wA := e_21 _ (List.mem_of_getElem? (i := 17) rfl)
theorem q_522 : Cond.instanceMethod yX12_fault ∈ wA := e_21 _ (List.mem_of_getElem? (i := 18) rfl)
theorem q_523 : Cond.selects RX12 yX12_fault yX12_fault ∈ wA := e_21 _ (List.mem_of_getElem? (i := 19) rfl)
theorem q_524 : Cond.methodLink RL 33 yX11_has ∈ wA := e_21 _ (List.mem_of_getElem? (i := 20) rfl)
theorem q_525 : Cond.instanceMethod yX11_has ∈ wA := e_21 _ (List.mem_of_getElem? (i := 21) rfl)
theorem q_526 : Cond.selects RX11 yX11_has yX11_has ∈ wA := e_21 _ (List.mem_of_getElem? (i := 22) rfl)
theorem q_527 : Cond.methodLink RL 36 yX12_has ∈ wA := e_21 _ (List.mem_of_getElem? (i := 23) rfl)
theorem q_528 : Cond.instanceMethod yX12_has ∈ wA := e_22 _ (List.mem_of_getElem? (i := 0) rfl)
theorem q_529 : Cond.selects RX12 yX12_has yX12_has ∈ wA := e_22 _ (List.mem_of_getElem? (i := 1) rfl)
theorem q_530 : Cond.methodLink RL 37 yX11_word ∈ wA := e_22 _ (List.mem_of_getElem? (i := 2) rfl)
theorem q_531 : Cond.instanceMethod yX11_word ∈ wA := e_22 _ (List.mem_of_getElem? (i := 3) rfl)
theorem q_532 : Cond.selects RX11 yX11_word yX11_word ∈ wA := e_22 _ (List.mem_of_getElem? (i := 4) rfl)
theorem q_533 : Cond.methodLink RL 41 yX12_word ∈ wA := e_22 _ (List.mem_of_getElem? (i := 5) rfl)
theorem q_534 : Cond.instanceMethod yX12_word ∈ wA := e_22 _ (List.mem_of_getElem? (i := 6) rfl)
theorem q_535 : Cond.selects RX12 yX12_word yX12_word ∈ wA := e_22 _ (List.mem_of_getElem? (i := 7) rfl)
theorem q_536 : Cond.methodLink RL 42 yX11_stage ∈ wA := e_22 _ (List.mem_of_getElem? (i := 8) rfl)
theorem q_537 : Cond.instanceMethod yX11_stage ∈ wA := e_22 _ (List.mem_of_getElem? (i := 9) rfl)
theorem q_538 : Cond.selects RX11 yX11_stage yX11_stage ∈ wA := e_22 _ (List.mem_of_getElem? (i := 10) rfl)
theorem q_539 : Cond.methodLink RL 45 yX12_stage ∈ wA := e_22 _ (List.mem_of_getElem? (i := 11) rfl)
theorem q_540 : Cond.instanceMethod yX12_stage ∈ wA := e_22 _ (List.mem_of_getElem? (i := 12) rfl)
theorem q_541 : Cond.selects RX12 yX12_stage yX12_stage ∈ wA := e_22 _ (List.mem_of_getElem? (i := 13) rfl)
theorem q_542 : Cond.methodLink RL 46 yX11_kept ∈ wA := e_22 _ (List.mem_of_getElem? (i := 14) rfl)
theorem q_543 : Cond.instanceMethod yX11_kept ∈ wA := e_22 _ (List.mem_of_getElem? (i := 15) rfl)
theorem q_544 : Cond.selects RX11 yX11_kept yX11_kept ∈ wA := e_22 _ (List.mem_of_getElem? (i := 16) rfl)
theorem q_545 : Cond.methodLink RL 49 yX12_kept ∈ wA := e_22 _ (List.mem_of_getElem? (i := 17) rfl)
theorem q_546 : Cond.instanceMethod yX12_kept ∈ wA := e_22 _ (List.mem_of_getElem? (i := 18) rfl)
theorem q_547 : Cond.selects RX12 yX12_kept yX12_kept ∈ wA := e_22 _ (List.mem_of_getElem? (i := 19) rfl)
theorem q_548 : Cond.methodLink RL 50 yX11_cell ∈ wA := e_22 _ (List.mem_of_getElem? (i := 20) rfl)
theorem q_549 : Cond.instanceMethod yX11_cell ∈ wA := e_22 _ (List.mem_of_getElem? (i := 21) rfl)
theorem q_550 : Cond.selects RX11 yX11_cell yX11_cell ∈ wA := e_22 _ (List.mem_of_getElem? (i := 22) rfl)
theorem q_551 : Cond.methodLink RL 53 yX12_cell ∈ wA := e_22 _ (List.mem_of_getElem? (i := 23) rfl)
theorem q_552 : Cond.instanceMethod yX12_cell ∈ wA := e_23 _ (List.mem_of_getElem? (i := 0) rfl)
theorem q_553 : Cond.selects RX12 yX12_cell yX12_cell ∈ wA := e_23 _ (List.mem_of_getElem? (i := 1) rfl)
theorem q_554 : Cond.methodLink RL 54 yX11_cellOf ∈ wA := e_23 _ (List.mem_of_getElem? (i := 2) rfl)
theorem q_555 : Cond.instanceMethod yX11_cellOf ∈ wA := e_23 _ (List.mem_of_getElem? (i := 3) rfl)
theorem q_556 : Cond.selects RX11 yX11_cellOf yX11_cellOf ∈ wA := e_23 _ (List.mem_of_getElem? (i := 4) rfl)
theorem q_557 : Cond.methodLink RL 57 yX12_cellOf ∈ wA := e_23 _ (List.mem_of_getElem? (i := 5) rfl)
theorem q_558 : Cond.instanceMethod yX12_cellOf ∈ wA := e_23 _ (List.mem_of_getElem? (i := 6) rfl)
theorem q_559 : Cond.selects RX12 yX12_cellOf yX12_cellOf ∈ wA := e_23 _ (List.mem_of_getElem? (i := 7) rfl)
theorem q_560 : Cond.methodLink RL 58 yX11_goes ∈ wA := e_23 _ (List.mem_of_getElem? (i := 8) rfl)
theorem q_561 : Cond.instanceMethod yX11_goes ∈ wA := e_23 _ (List.mem_of_getElem? (i := 9) rfl)
theorem q_562 : Cond.selects RX11 yX11_goes yX11_goes ∈ wA := e_23 _ (List.mem_of_getElem? (i := 10) rfl)
theorem q_563 : Cond.methodLink RL 61 yX12_goes ∈ wA := e_23 _ (List.mem_of_getElem? (i := 11) rfl)
theorem q_564 : Cond.instanceMethod yX12_goes ∈ wA := e_23 _ (List.mem_of_getElem? (i := 12) rfl)
theorem q_565 : Cond.selects RX12 yX12_goes yX12_goes ∈ wA := e_23 _ (List.mem_of_getElem? (i := 13) rfl)
theorem q_566 : Cond.methodLink RL 62 yX11_comes ∈ wA := e_23 _ (List.mem_of_getElem? (i := 14) rfl)
theorem q_567 : Cond.instanceMethod yX11_comes ∈ wA := e_23 _ (List.mem_of_getElem? (i := 15) rfl)
theorem q_568 : Cond.selects RX11 yX11_comes yX11_comes ∈ wA := e_23 _ (List.mem_of_getElem? (i := 16) rfl)
theorem q_569 : Cond.methodLink RL 65 yX12_comes ∈ wA := e_23 _ (List.mem_of_getElem? (i := 17) rfl)
theorem q_570 : Cond.instanceMethod yX12_comes ∈ wA := e_23 _ (List.mem_of_getElem? (i := 18) rfl)
theorem q_571 : Cond.selects RX12 yX12_comes yX12_comes ∈ wA := e_23 _ (List.mem_of_getElem? (i := 19) rfl)
theorem q_572 : Cond.methodLink RL 66 yX11_block ∈ wA := e_23 _ (List.mem_of_getElem? (i := 20) rfl)
theorem q_573 : Cond.instanceMethod yX11_block ∈ wA := e_23 _ (List.mem_of_getElem? (i := 21) rfl)
theorem q_574 : Cond.selects RX11 yX11_block yX11_block ∈ wA := e_23 _ (List.mem_of_getElem? (i := 22) rfl)
theorem q_575 : Cond.methodLink RL 69 yX12_block ∈ wA := e_23 _ (List.mem_of_getElem? (i := 23) rfl)
theorem q_576 : Cond.instanceMethod yX12_block ∈ wA := e_24 _ (List.mem_of_getElem? (i := 0) rfl)
theorem q_577 : Cond.selects RX12 yX12_block yX12_block ∈ wA := e_24 _ (List.mem_of_getElem? (i := 1) rfl)
theorem q_578 : Cond.methodLink RL 70 yX11_chain ∈ wA := e_24 _ (List.mem_of_getElem? (i := 2) rfl)
theorem q_579 : Cond.instanceMethod yX11_chain ∈ wA := e_24 _ (List.mem_of_getElem? (i := 3) rfl)
theorem q_580 : Cond.selects RX11 yX11_chain yX11_chain ∈ wA := e_24 _ (List.mem_of_getElem? (i := 4) rfl)
theorem q_581 : Cond.methodLink RL 73 yX12_chain ∈ wA := e_24 _ (List.mem_of_getElem? (i := 5) rfl)
theorem q_582 : Cond.instanceMethod yX12_chain ∈ wA := e_24 _ (List.mem_of_getElem? (i := 6) rfl)
theorem q_583 : Cond.selects RX12 yX12_chain yX12_chain ∈ wA := e_24 _ (List.mem_of_getElem? (i := 7) rfl)
theorem q_584 : Cond.methodLink RL 74 yX11_longest ∈ wA := e_24 _ (List.mem_of_getElem? (i := 8) rfl)
theorem q_585 : Cond.instanceMethod yX11_longest ∈ wA := e_24 _ (List.mem_of_getElem? (i := 9) rfl)
theorem q_586 : Cond.selects RX11 yX11_longest yX11_longest ∈ wA := e_24 _ (List.mem_of_getElem? (i := 10) rfl)
theorem q_587 : Cond.methodLink RL 77 yX12_longest ∈ wA := e_24 _ (List.mem_of_getElem? (i := 11) rfl)
theorem q_588 : Cond.instanceMethod yX12_longest ∈ wA := e_24 _ (List.mem_of_getElem? (i := 12) rfl)
theorem q_589 : Cond.selects RX12 yX12_longest yX12_longest ∈ wA := e_24 _ (List.mem_of_getElem? (i := 13) rfl)
theorem q_590 : Cond.methodLink RL 78 yX11_steps ∈ wA := e_24 _ (List.mem_of_getElem? (i := 14) rfl)
theorem q_591 : Cond.instanceMethod yX11_steps ∈ wA := e_24 _ (List.mem_of_getElem? (i := 15) rfl)
theorem q_592 : Cond.selects RX11 yX11_steps yX11_steps ∈ wA := e_24 _ (List.mem_of_getElem? (i := 16) rfl)
theorem q_593 : Cond.methodLink RL 81 yX12_steps ∈ wA := e_24 _ (List.mem_of_getElem? (i := 17) rfl)
theorem q_594 : Cond.instanceMethod yX12_steps ∈ wA := e_24 _ (List.mem_of_getElem? (i := 18) rfl)
theorem q_595 : Cond.selects RX12 yX12_steps yX12_steps ∈ wA := e_24 _ (List.mem_of_getElem? (i := 19) rfl)
theorem q_596 : Cond.methodLink RL 82 yX11_room ∈ wA := e_24 _ (List.mem_of_getElem? (i := 20) rfl)
theorem q_597 : Cond.instanceMethod yX11_room ∈ wA := e_24 _ (List.mem_of_getElem? (i := 21) rfl)
theorem q_598 : Cond.selects RX11 yX11_room yX11_room ∈ wA := e_24 _ (List.mem_of_getElem? (i := 22) rfl)
theorem q_599 : Cond.methodLink RL 85 yX12_room ∈ wA := e_24 _ (List.mem_of_getElem? (i := 23) rfl)
theorem q_600 : Cond.instanceMethod yX12_room ∈ wA := e_25 _ (List.mem_of_getElem? (i := 0) rfl)
theorem q_601 : Cond.selects RX12 yX12_room yX12_room ∈ wA := e_25 _ (List.mem_of_getElem? (i := 1) rfl)
theorem q_602 : Cond.methodLink RL 86 yX11_far ∈ wA := e_25 _ (List.mem_of_getElem? (i := 2) rfl)
theorem q_603 : Cond.instanceMethod yX11_far ∈ wA := e_25 _ (List.mem_of_getElem? (i := 3) rfl)
theorem q_604 : Cond.selects RX11 yX11_far yX11_far ∈ wA := e_25 _ (List.mem_of_getElem? (i := 4) rfl)
theorem q_605 : Cond.methodLink RL 89 yX12_far ∈ wA := e_25 _ (List.mem_of_getElem? (i := 5) rfl)
theorem q_606 : Cond.instanceMethod yX12_far ∈ wA := e_25 _ (List.mem_of_getElem? (i := 6) rfl)
theorem q_607 : Cond.selects RX12 yX12_far yX12_far ∈ wA := e_25 _ (List.mem_of_getElem? (i := 7) rfl)
theorem q_608 : Cond.methodLink RL 90 yX11_way ∈ wA := e_25 _ (List.mem_of_getElem? (i := 8) rfl)
theorem q_609 : Cond.instanceMethod yX11_way ∈ wA := e_25 _ (List.mem_of_getElem? (i := 9) rfl)
theorem q_610 : Cond.selects RX11 yX11_way yX11_way ∈ wA := e_25 _ (List.mem_of_getElem? (i := 10) rfl)
theorem q_611 : Cond.methodLink RL 93 yX12_way ∈ wA := e_25 _ (List.mem_of_getElem? (i := 11) rfl)
theorem q_612 : Cond.instanceMethod yX12_way ∈ wA := e_25 _ (List.mem_of_getElem? (i := 12) rfl)
theorem q_613 : Cond.selects RX12 yX12_way yX12_way ∈ wA := e_25 _ (List.mem_of_getElem? (i := 13) rfl)
theorem q_614 : Cond.methodLink RL 94 yX11_keeps ∈ wA := e_25 _ (List.mem_of_getElem? (i := 14) rfl)
theorem q_615 : Cond.instanceMethod yX11_keeps ∈ wA := e_25 _ (List.mem_of_getElem? (i := 15) rfl)
theorem q_616 : Cond.selects RX11 yX11_keeps yX11_keeps ∈ wA := e_25 _ (List.mem_of_getElem? (i := 16) rfl)
theorem q_617 : Cond.methodLink RL 97 yX12_keeps ∈ wA := e_25 _ (List.mem_of_getElem? (i := 17) rfl)
theorem q_618 : Cond.instanceMethod yX12_keeps ∈ wA := e_25 _ (List.mem_of_getElem? (i := 18) rfl)
theorem q_619 : Cond.selects RX12 yX12_keeps yX12_keeps ∈ wA := e_25 _ (List.mem_of_getElem? (i := 19) rfl)
theorem q_620 : Cond.methodLink RL 98 yX11_retains ∈ wA := e_25 _ (List.mem_of_getElem? (i := 20) rfl)
theorem q_621 : Cond.instanceMethod yX11_retains ∈ wA := e_25 _ (List.mem_of_getElem? (i := 21) rfl)
theorem q_622 : Cond.selects RX11 yX11_retains yX11_retains ∈ wA := e_25 _ (List.mem_of_getElem? (i := 22) rfl)
theorem q_623 : Cond.methodLink RL 101 yX12_retains ∈ wA := e_25 _ (List.mem_of_getElem? (i := 23) rfl)
theorem q_624 : Cond.instanceMethod yX12_retains ∈ wA := e_26 _ (List.mem_of_getElem? (i := 0) rfl)
theorem q_625 : Cond.selects RX12 yX12_retains yX12_retains ∈ wA := e_26 _ (List.mem_of_getElem? (i := 1) rfl)
theorem q_626 : Cond.methodLink RL 102 yX11_best ∈ wA := e_26 _ (List.mem_of_getElem? (i := 2) rfl)
theorem q_627 : Cond.instanceMethod yX11_best ∈ wA := e_26 _ (List.mem_of_getElem? (i := 3) rfl)
theorem q_628 : Cond.selects RX11 yX11_best yX11_best ∈ wA := e_26 _ (List.mem_of_getElem? (i := 4) rfl)
theorem q_629 : Cond.methodLink RL 105 yX12_best ∈ wA := e_26 _ (List.mem_of_getElem? (i := 5) rfl)
theorem q_630 : Cond.instanceMethod yX12_best ∈ wA := e_26 _ (List.mem_of_getElem? (i := 6) rfl)
theorem q_631 : Cond.selects RX12 yX12_best yX12_best ∈ wA := e_26 _ (List.mem_of_getElem? (i := 7) rfl)
theorem q_632 : Cond.methodLink RL 106 yX11_found ∈ wA := e_26 _ (List.mem_of_getElem? (i := 8) rfl)
theorem q_633 : Cond.instanceMethod yX11_found ∈ wA := e_26 _ (List.mem_of_getElem? (i := 9) rfl)
theorem q_634 : Cond.selects RX11 yX11_found yX11_found ∈ wA := e_26 _ (List.mem_of_getElem? (i := 10) rfl)
theorem q_635 : Cond.methodLink RL 109 yX12_found ∈ wA := e_26 _ (List.mem_of_getElem? (i := 11) rfl)
theorem q_636 : Cond.instanceMethod yX12_found ∈ wA := e_26 _ (List.mem_of_getElem? (i := 12) rfl)
theorem q_637 : Cond.selects RX12 yX12_found yX12_found ∈ wA := e_26 _ (List.mem_of_getElem? (i := 13) rfl)
theorem q_638 : Cond.methodLink RL 110 yX11_remember ∈ wA := e_26 _ (List.mem_of_getElem? (i := 14) rfl)
theorem q_639 : Cond.instanceMethod yX11_remember ∈ wA := e_26 _ (List.mem_of_getElem? (i := 15) rfl)
theorem q_640 : Cond.selects RX11 yX11_remember yX11_remember ∈ wA := e_26 _ (List.mem_of_getElem? (i := 16) rfl)
theorem q_641 : Cond.methodLink RL 113 yX12_remember ∈ wA := e_26 _ (List.mem_of_getElem? (i := 17) rfl)
theorem q_642 : Cond.instanceMethod yX12_remember ∈ wA := e_26 _ (List.mem_of_getElem? (i := 18) rfl)
theorem q_643 : Cond.selects RX12 yX12_remember yX12_remember ∈ wA := e_26 _ (List.mem_of_getElem? (i := 19) rfl)
theorem q_644 : Cond.methodLink RL 114 yX11_alike ∈ wA := e_26 _ (List.mem_of_getElem? (i := 20) rfl)
theorem q_645 : Cond.instanceMethod yX11_alike ∈ wA := e_26 _ (List.mem_of_getElem? (i := 21) rfl)
theorem q_646 : Cond.selects RX11 yX11_alike yX11_alike ∈ wA := e_26 _ (List.mem_of_getElem? (i := 22) rfl)
theorem q_647 : Cond.methodLink RL 117 yX12_alike ∈ wA := e_26 _ (List.mem_of_getElem? (i := 23) rfl)
theorem q_648 : Cond.instanceMethod yX12_alike ∈ wA := e_27 _ (List.mem_of_getElem? (i := 0) rfl)
theorem q_649 : Cond.selects RX12 yX12_alike yX12_alike ∈ wA := e_27 _ (List.mem_of_getElem? (i := 1) rfl)
theorem q_650 : Cond.methodLink RL 118 yX11_see ∈ wA := e_27 _ (List.mem_of_getElem? (i := 2) rfl)
theorem q_651 : Cond.instanceMethod yX11_see ∈ wA := e_27 _ (List.mem_of_getElem? (i := 3) rfl)
theorem q_652 : Cond.selects RX11 yX11_see yX11_see ∈ wA := e_27 _ (List.mem_of_getElem? (i := 4) rfl)
theorem q_653 : Cond.methodLink RL 121 yX12_see ∈ wA := e_27 _ (List.mem_of_getElem? (i := 5) rfl)
theorem q_654 : Cond.instanceMethod yX12_see ∈ wA := e_27 _ (List.mem_of_getElem? (i := 6) rfl)
theorem q_655 : Cond.selects RX12 yX12_see yX12_see ∈ wA := e_27 _ (List.mem_of_getElem? (i := 7) rfl)
theorem q_656 : Cond.methodLink RL 122 yX11_then ∈ wA := e_27 _ (List.mem_of_getElem? (i := 8) rfl)
theorem q_657 : Cond.instanceMethod yX11_then ∈ wA := e_27 _ (List.mem_of_getElem? (i := 9) rfl)
theorem q_658 : Cond.selects RX11 yX11_then yX11_then ∈ wA := e_27 _ (List.mem_of_getElem? (i := 10) rfl)
theorem q_659 : Cond.methodLink RL 125 yX12_then ∈ wA := e_27 _ (List.mem_of_getElem? (i := 11) rfl)
theorem q_660 : Cond.instanceMethod yX12_then ∈ wA := e_27 _ (List.mem_of_getElem? (i := 12) rfl)
theorem q_661 : Cond.selects RX12 yX12_then yX12_then ∈ wA := e_27 _ (List.mem_of_getElem? (i := 13) rfl)
theorem q_662 : Cond.methodLink RL 126 yX11_tells ∈ wA := e_27 _ (List.mem_of_getElem? (i := 14) rfl)
theorem q_663 : Cond.instanceMethod yX11_tells ∈ wA := e_27 _ (List.mem_of_getElem? (i := 15) rfl)
theorem q_664 : Cond.selects RX11 yX11_tells yX11_tells ∈ wA := e_27 _ (List.mem_of_getElem? (i := 16) rfl)
theorem q_665 : Cond.methodLink RL 129 yX12_tells ∈ wA := e_27 _ (List.mem_of_getElem? (i := 17) rfl)
theorem q_666 : Cond.instanceMethod yX12_tells ∈ wA := e_27 _ (List.mem_of_getElem? (i := 18) rfl)
theorem q_667 : Cond.selects RX12 yX12_tells yX12_tells ∈ wA := e_27 _ (List.mem_of_getElem? (i := 19) rfl)
theorem q_668 : Cond.methodLink RL 130 yX11_run ∈ wA := e_27 _ (List.mem_of_getElem? (i := 20) rfl)
theorem q_669 : Cond.instanceMethod yX11_run ∈ wA := e_27 _ (List.mem_of_getElem? (i := 21) rfl)
theorem q_670 : Cond.selects RX11 yX11_run yX11_run ∈ wA := e_27 _ (List.mem_of_getElem? (i := 22) rfl)
theorem q_671 : Cond.methodLink RL 133 yX12_run ∈ wA := e_27 _ (List.mem_of_getElem? (i := 23) rfl)
theorem q_672 : Cond.instanceMethod yX12_run ∈ wA := e_28 _ (List.mem_of_getElem? (i := 0) rfl)
theorem q_673 : Cond.selects RX12 yX12_run yX12_run ∈ wA := e_28 _ (List.mem_of_getElem? (i := 1) rfl)
theorem q_674 : Cond.methodLink RL 134 yX11_failed ∈ wA := e_28 _ (List.mem_of_getElem? (i := 2) rfl)
theorem q_675 : Cond.instanceMethod yX11_failed ∈ wA := e_28 _ (List.mem_of_getElem? (i := 3) rfl)
theorem q_676 : Cond.selects RX11 yX11_failed yX11_failed ∈ wA := e_28 _ (List.mem_of_getElem? (i := 4) rfl)
theorem q_677 : Cond.methodLink RL 137 yX12_failed ∈ wA := e_28 _ (List.mem_of_getElem? (i := 5) rfl)
theorem q_678 : Cond.instanceMethod yX12_failed ∈ wA := e_28 _ (List.mem_of_getElem? (i := 6) rfl)
theorem q_679 : Cond.selects RX12 yX12_failed yX12_failed ∈ wA := e_28 _ (List.mem_of_getElem? (i := 7) rfl)
theorem q_680 : Cond.methodLink RL 138 yX11_collect ∈ wA := e_28 _ (List.mem_of_getElem? (i := 8) rfl)
theorem q_681 : Cond.instanceMethod yX11_collect ∈ wA := e_28 _ (List.mem_of_getElem? (i := 9) rfl)
theorem q_682 : Cond.selects RX11 yX11_collect yX11_collect ∈ wA := e_28 _ (List.mem_of_getElem? (i := 10) rfl)
theorem q_683 : Cond.methodLink RL 141 yX12_collect ∈ wA := e_28 _ (List.mem_of_getElem? (i := 11) rfl)
theorem q_684 : Cond.instanceMethod yX12_collect ∈ wA := e_28 _ (List.mem_of_getElem? (i := 12) rfl)
theorem q_685 : Cond.selects RX12 yX12_collect yX12_collect ∈ wA := e_28 _ (List.mem_of_getElem? (i := 13) rfl)
theorem q_686 : Cond.methodLink RL 142 yX11_begin ∈ wA := e_28 _ (List.mem_of_getElem? (i := 14) rfl)
theorem q_687 : Cond.instanceMethod yX11_begin ∈ wA := e_28 _ (List.mem_of_getElem? (i := 15) rfl)
theorem q_688 : Cond.selects RX11 yX11_begin yX11_begin ∈ wA := e_28 _ (List.mem_of_getElem? (i := 16) rfl)
theorem q_689 : Cond.methodLink RL 145 yX12_begin ∈ wA := e_28 _ (List.mem_of_getElem? (i := 17) rfl)
theorem q_690 : Cond.instanceMethod yX12_begin ∈ wA := e_28 _ (List.mem_of_getElem? (i := 18) rfl)
theorem q_691 : Cond.selects RX12 yX12_begin yX12_begin ∈ wA := e_28 _ (List.mem_of_getElem? (i := 19) rfl)
theorem q_692 : Cond.methodLink RL 146 yX11_step ∈ wA := e_28 _ (List.mem_of_getElem? (i := 20) rfl)
theorem q_693 : Cond.instanceMethod yX11_step ∈ wA := e_28 _ (List.mem_of_getElem? (i := 21) rfl)
theorem q_694 : Cond.selects RX11 yX11_step yX11_step ∈ wA := e_28 _ (List.mem_of_getElem? (i := 22) rfl)
theorem q_695 : Cond.methodLink RL 149 yX12_step ∈ wA := e_28 _ (List.mem_of_getElem? (i := 23) rfl)
theorem q_696 : Cond.instanceMethod yX12_step ∈ wA := e_29 _ (List.mem_of_getElem? (i := 0) rfl)
theorem q_697 : Cond.selects RX12 yX12_step yX12_step ∈ wA := e_29 _ (List.mem_of_getElem? (i := 1) rfl)
theorem q_698 : Cond.methodLink RL 150 yX11_method ∈ wA := e_29 _ (List.mem_of_getElem? (i := 2) rfl)
theorem q_699 : Cond.instanceMethod yX11_method ∈ wA := e_29 _ (List.mem_of_getElem? (i := 3) rfl)
theorem q_700 : Cond.selects RX11 yX11_method yX11_method ∈ wA := e_29 _ (List.mem_of_getElem? (i := 4) rfl)
theorem q_701 : Cond.methodLink RL 153 yX12_method ∈ wA := e_29 _ (List.mem_of_getElem? (i := 5) rfl)
theorem q_702 : Cond.instanceMethod yX12_method ∈ wA := e_29 _ (List.mem_of_getElem? (i := 6) rfl)
theorem q_703 : Cond.selects RX12 yX12_method yX12_method ∈ wA := e_29 _ (List.mem_of_getElem? (i := 7) rfl)
theorem q_704 : Cond.methodLink RL 154 yX11_chance ∈ wA := e_29 _ (List.mem_of_getElem? (i := 8) rfl)
theorem q_705 : Cond.instanceMethod yX11_chance ∈ wA := e_29 _ (List.mem_of_getElem? (i := 9) rfl)
theorem q_706 : Cond.selects RX11 yX11_chance yX11_chance ∈ wA := e_29 _ (List.mem_of_getElem? (i := 10) rfl)
theorem q_707 : Cond.methodLink RL 157 yX12_chance ∈ wA := e_29 _ (List.mem_of_getElem? (i := 11) rfl)
theorem q_708 : Cond.instanceMethod yX12_chance ∈ wA := e_29 _ (List.mem_of_getElem? (i := 12) rfl)
theorem q_709 : Cond.selects RX12 yX12_chance yX12_chance ∈ wA := e_29 _ (List.mem_of_getElem? (i := 13) rfl)
theorem q_710 : Cond.methodLink RL 158 yX11_undo ∈ wA := e_29 _ (List.mem_of_getElem? (i := 14) rfl)
theorem q_711 : Cond.instanceMethod yX11_undo ∈ wA := e_29 _ (List.mem_of_getElem? (i := 15) rfl)
theorem q_712 : Cond.selects RX11 yX11_undo yX11_undo ∈ wA := e_29 _ (List.mem_of_getElem? (i := 16) rfl)
theorem q_713 : Cond.methodLink RL 162 yX12_undo ∈ wA := e_29 _ (List.mem_of_getElem? (i := 17) rfl)
theorem q_714 : Cond.instanceMethod yX12_undo ∈ wA := e_29 _ (List.mem_of_getElem? (i := 18) rfl)
theorem q_715 : Cond.selects RX12 yX12_undo yX12_undo ∈ wA := e_29 _ (List.mem_of_getElem? (i := 19) rfl)
theorem q_716 : Cond.methodLink RL 163 yX11_seed ∈ wA := e_29 _ (List.mem_of_getElem? (i := 20) rfl)
theorem q_717 : Cond.instanceMethod yX11_seed ∈ wA := e_29 _ (List.mem_of_getElem? (i := 21) rfl)
theorem q_718 : Cond.selects RX11 yX11_seed yX11_seed ∈ wA := e_29 _ (List.mem_of_getElem? (i := 22) rfl)
theorem q_719 : Cond.methodLink RL 166 yX12_seed ∈ wA := e_29 _ (List.mem_of_getElem? (i := 23) rfl)
theorem q_720 : Cond.instanceMethod yX12_seed ∈ wA := e_30 _ (List.mem_of_getElem? (i := 0) rfl)
theorem q_721 : Cond.selects RX12 yX12_seed yX12_seed ∈ wA := e_30 _ (List.mem_of_getElem? (i := 1) rfl)
theorem q_722 : Cond.methodLink RL 167 yX11_image ∈ wA := e_30 _ (List.mem_of_getElem? (i := 2) rfl)
theorem q_723 : Cond.instanceMethod yX11_image ∈ wA := e_30 _ (List.mem_of_getElem? (i := 3) rfl)
theorem q_724 : Cond.selects RX11 yX11_image yX11_image ∈ wA := e_30 _ (List.mem_of_getElem? (i := 4) rfl)
theorem q_725 : Cond.methodLink RL 170 yX12_image ∈ wA := e_30 _ (List.mem_of_getElem? (i := 5) rfl)
theorem q_726 : Cond.instanceMethod yX12_image ∈ wA := e_30 _ (List.mem_of_getElem? (i := 6) rfl)
theorem q_727 : Cond.selects RX12 yX12_image yX12_image ∈ wA := e_30 _ (List.mem_of_getElem? (i := 7) rfl)
theorem q_728 : Cond.methodLink RL 171 yX11_octet ∈ wA := e_30 _ (List.mem_of_getElem? (i := 8) rfl)
theorem q_729 : Cond.instanceMethod yX11_octet ∈ wA := e_30 _ (List.mem_of_getElem? (i := 9) rfl)
theorem q_730 : Cond.selects RX11 yX11_octet yX11_octet ∈ wA := e_30 _ (List.mem_of_getElem? (i := 10) rfl)
theorem q_731 : Cond.methodLink RL 174 yX12_octet ∈ wA := e_30 _ (List.mem_of_getElem? (i := 11) rfl)
theorem q_732 : Cond.instanceMethod yX12_octet ∈ wA := e_30 _ (List.mem_of_getElem? (i := 12) rfl)
theorem q_733 : Cond.selects RX12 yX12_octet yX12_octet ∈ wA := e_30 _ (List.mem_of_getElem? (i := 13) rfl)
theorem q_734 : Cond.methodLink RL 175 yX11_on ∈ wA := e_30 _ (List.mem_of_getElem? (i := 14) rfl)
theorem q_735 : Cond.instanceMethod yX11_on ∈ wA := e_30 _ (List.mem_of_getElem? (i := 15) rfl)
theorem q_736 : Cond.selects RX11 yX11_on yX11_on ∈ wA := e_30 _ (List.mem_of_getElem? (i := 16) rfl)
theorem q_737 : Cond.methodLink RL 178 yX12_on ∈ wA := e_30 _ (List.mem_of_getElem? (i := 17) rfl)
theorem q_738 : Cond.instanceMethod yX12_on ∈ wA := e_30 _ (List.mem_of_getElem? (i := 18) rfl)
theorem q_739 : Cond.selects RX12 yX12_on yX12_on ∈ wA := e_30 _ (List.mem_of_getElem? (i := 19) rfl)
theorem q_740 : Cond.methodLink RL 179 yX11_status ∈ wA := e_30 _ (List.mem_of_getElem? (i := 20) rfl)
theorem q_741 : Cond.instanceMethod yX11_status ∈ wA := e_30 _ (List.mem_of_getElem? (i := 21) rfl)
theorem q_742 : Cond.selects RX11 yX11_status yX11_status ∈ wA := e_30 _ (List.mem_of_getElem? (i := 22) rfl)
theorem q_743 : Cond.methodLink RL 182 yX12_status ∈ wA := e_30 _ (List.mem_of_getElem? (i := 23) rfl)
theorem q_744 : Cond.instanceMethod yX12_status ∈ wA := e_31 _ (List.mem_of_getElem? (i := 0) rfl)
theorem q_745 : Cond.selects RX12 yX12_status yX12_status ∈ wA := e_31 _ (List.mem_of_getElem? (i := 1) rfl)
theorem q_746 : Cond.classLink RL 7 RX11 ∈ wA := e_31 _ (List.mem_of_getElem? (i := 2) rfl)
theorem q_747 : Cond.instantiable RX11 20 ∈ wA := e_31 _ (List.mem_of_getElem? (i := 3) rfl)
theorem q_748 : Cond.methodLink RL 9 yX11_init ∈ wA := e_31 _ (List.mem_of_getElem? (i := 4) rfl)
theorem q_749 : Cond.instanceMethod yX11_init ∈ wA := e_31 _ (List.mem_of_getElem? (i := 5) rfl)
theorem q_750 : Cond.classLink RL 10 RX12 ∈ wA := e_31 _ (List.mem_of_getElem? (i := 6) rfl)
theorem q_751 : Cond.instantiable RX12 84 ∈ wA := e_31 _ (List.mem_of_getElem? (i := 7) rfl)
theorem q_752 : Cond.methodLink RL 12 yX12_init ∈ wA := e_31 _ (List.mem_of_getElem? (i := 8) rfl)
theorem q_753 : Cond.instanceMethod yX12_init ∈ wA := e_31 _ (List.mem_of_getElem? (i := 9) rfl)
set_option maxRecDepth 20000 in
theorem ein_0 : GoodIn lw_tbl wE_0 := goodIn_r _ [208, 209, 202, 203, 258, 210, 213, 217, 220, 223, 224, 227, 230, 233, 235, 263, 264, 265, 290, 270, 272, 279, 295, 296] (by decide +kernel) (by decide +kernel)
set_option maxRecDepth 20000 in
theorem ein_1 : GoodIn lw_tbl wE_1 := goodIn_r _ [297, 303, 310, 315, 320, 324, 327, 330, 333, 336, 339, 341, 343, 345, 380, 381, 383, 385, 386, 388, 390, 391, 392, 394] (by decide +kernel) (by decide +kernel)
set_option maxRecDepth 20000 in
theorem ein_2 : GoodIn lw_tbl wE_2 := goodIn_r _ [396, 398, 382, 426, 427, 428, 429, 439, 440, 444, 445, 446, 447, 449, 441, 442, 443, 471, 472, 475, 477, 479, 480, 473] (by decide +kernel) (by decide +kernel)
set_option maxRecDepth 20000 in
theorem ein_3 : GoodIn lw_tbl wE_3 := goodIn_r _ [474, 540, 541, 544, 542, 543, 604, 605, 607, 609, 606, 498, 499, 505, 506, 507, 508, 509, 511, 500, 501, 502, 503, 476] (by decide +kernel) (by decide +kernel)
set_option maxRecDepth 20000 in
theorem ein_4 : GoodIn lw_tbl wE_4 := goodIn_r _ [504, 557, 558, 559, 292, 179, 294, 562, 563, 564, 565, 567, 569, 571, 573, 575, 576, 561, 200, 201, 204, 205, 177, 207] (by decide +kernel) (by decide +kernel)
set_option maxRecDepth 20000 in
theorem ein_5 : GoodIn lw_tbl wE_5 := goodIn_r _ [619, 259, 260, 178, 262, 620, 621, 291, 622, 623, 376, 377, 180, 378, 379, 624, 422, 423, 181, 424, 425, 625, 435, 436] (by decide +kernel) (by decide +kernel)
set_option maxRecDepth 20000 in
theorem ein_6 : GoodIn lw_tbl wE_6 := goodIn_r _ [182, 437, 438, 626, 467, 468, 183, 469, 470, 627, 494, 495, 184, 496, 497, 628, 536, 537, 185, 538, 539, 629, 553, 554] (by decide +kernel) (by decide +kernel)
set_option maxRecDepth 20000 in
theorem ein_7 : GoodIn lw_tbl wE_7 := goodIn_r _ [186, 555, 556, 630, 600, 601, 187, 602, 603, 631, 632, 633, 634, 635, 636, 637, 638, 1487, 1488, 1490, 1498, 1499, 1743, 1500] (by decide +kernel) (by decide +kernel)
set_option maxRecDepth 20000 in
theorem ein_8 : GoodIn lw_tbl wE_8 := goodIn_r _ [1501, 1502, 1503, 1504, 1505, 1506, 1507, 1508, 1509, 1510, 1511, 1512, 1513, 1519, 1520, 1521, 1522, 1523, 1525, 1526, 1527, 1531, 1532, 1744] (by decide +kernel) (by decide +kernel)
set_option maxRecDepth 20000 in
theorem ein_9 : GoodIn lw_tbl wE_9 := goodIn_r _ [1533, 1535, 1536, 1538, 1539, 1541, 1542, 1544, 1545, 1549, 1550, 1552, 1553, 1489, 1555, 1556, 1557, 1560, 1561, 1564, 1569, 1570, 1571, 1572] (by decide +kernel) (by decide +kernel)
set_option maxRecDepth 20000 in
theorem ein_10 : GoodIn lw_tbl wE_10 := goodIn_r _ [718, 721, 724, 722, 723, 189, 683, 215, 691, 688, 689, 690, 695, 699, 696, 698, 1, 176, 703, 707, 711, 708, 709, 710] (by decide +kernel) (by decide +kernel)
set_option maxRecDepth 20000 in
theorem ein_11 : GoodIn lw_tbl wE_11 := goodIn_r _ [266, 715, 716, 717, 719, 720, 712, 713, 714, 728, 725, 726, 727, 218, 732, 729, 730, 731, 704, 705, 706, 687, 684, 686] (by decide +kernel) (by decide +kernel)
set_option maxRecDepth 20000 in
theorem ein_12 : GoodIn lw_tbl wE_12 := goodIn_r _ [0, 906, 234, 236, 910, 302, 308, 323, 914, 307, 301, 911, 912, 913, 268, 313, 342, 344, 566, 920, 921, 932, 958, 962] (by decide +kernel) (by decide +kernel)
set_option maxRecDepth 20000 in
theorem ein_13 : GoodIn lw_tbl wE_13 := goodIn_r _ [966, 963, 965, 14, 1008, 979, 983, 980, 982, 17, 976, 978, 16, 1016, 1030, 1034, 1047, 975, 972, 974, 15, 1057, 1064, 1069] (by decide +kernel) (by decide +kernel)
set_option maxRecDepth 20000 in
theorem ein_14 : GoodIn lw_tbl wE_14 := goodIn_r _ [1073, 1081, 1089, 1098, 1102, 1106, 1110, 1124, 1128, 1145, 1207, 1220, 1370, 510, 512, 1374, 1379, 1383, 1388, 1392, 1428, 1432, 545, 1436] (by decide +kernel) (by decide +kernel)
set_option maxRecDepth 20000 in
theorem ein_15 : GoodIn lw_tbl wE_15 := goodIn_r _ [1453, 610, 1457, 1482, 1768, 1748, 1491, 1756, 1760, 1757, 1759, 60, 188, 1776, 1780, 1493, 1492, 1494, 1495, 1496, 1777, 1779, 61, 1518] (by decide +kernel) (by decide +kernel)
set_option maxRecDepth 20000 in
theorem ein_16 : GoodIn lw_tbl wE_16 := goodIn_r _ [1524, 1783, 1786, 1784, 1785, 1781, 1782, 1790, 1794, 1798, 1802, 1799, 1801, 65, 1805, 1803, 1804, 1795, 1797, 64, 1791, 1793, 63, 1809] (by decide +kernel) (by decide +kernel)
set_option maxRecDepth 20000 in
theorem ein_17 : GoodIn lw_tbl wE_17 := goodIn_r _ [1806, 1808, 66, 1787, 1789, 62, 1813, 1810, 1812, 67, 1516, 1824, 1821, 1823, 69, 1529, 1497, 1752, 1749, 1751, 59, 1772, 1894, 1515] (by decide +kernel) (by decide +kernel)
set_option maxRecDepth 20000 in
theorem ein_18 : GoodIn lw_tbl wE_18 := goodIn_r _ [1898, 1530, 1895, 1897, 85, 1517, 1551, 1558, 1546, 1910, 1528, 1912, 2025, 2030, 1766, 1767, 2034, 2038, 2035, 2037, 113, 2042, 2046, 2043] (by decide +kernel) (by decide +kernel)
set_option maxRecDepth 20000 in
theorem ein_19 : GoodIn lw_tbl wE_19 := goodIn_r _ [2045, 114, 2050, 2054, 2058, 2062, 2070, 2074, 2078, 2082, 2094, 2110, 2123, 2127, 2131, 2143, 2159, 2163, 2182, 2198, 2276, 2214, 2211, 2213] (by decide +kernel) (by decide +kernel)
set_option maxRecDepth 20000 in
theorem ein_20 : GoodIn lw_tbl wE_20 := goodIn_r _ [135, 2380, 1563, 2210, 2230, 2234, 2239, 2247, 2206, 2243, 2384, 2399, 1573, 2403, 2407, 2404, 2406, 171, 1764, 1765, 680, 681, 682, 1745] (by decide +kernel) (by decide +kernel)
set_option maxRecDepth 20000 in
theorem ein_21 : GoodIn lw_tbl wE_21 := goodIn_r _ [1746, 1747, 692, 693, 694, 1753, 1754, 1755, 700, 701, 702, 1773, 1774, 1775, 903, 904, 905, 1769, 1770, 1771, 907, 908, 909, 1891] (by decide +kernel) (by decide +kernel)
set_option maxRecDepth 20000 in
theorem ein_22 : GoodIn lw_tbl wE_22 := goodIn_r _ [1892, 1893, 917, 918, 919, 1907, 1908, 1909, 929, 930, 931, 2022, 2023, 2024, 955, 956, 957, 2027, 2028, 2029, 959, 960, 961, 2031] (by decide +kernel) (by decide +kernel)
set_option maxRecDepth 20000 in
theorem ein_23 : GoodIn lw_tbl wE_23 := goodIn_r _ [2032, 2033, 1005, 1006, 1007, 2039, 2040, 2041, 1013, 1014, 1015, 2047, 2048, 2049, 1027, 1028, 1029, 2051, 2052, 2053, 1031, 1032, 1033, 2055] (by decide +kernel) (by decide +kernel)
set_option maxRecDepth 20000 in
theorem ein_24 : GoodIn lw_tbl wE_24 := goodIn_r _ [2056, 2057, 1044, 1045, 1046, 2059, 2060, 2061, 1054, 1055, 1056, 2067, 2068, 2069, 1061, 1062, 1063, 2071, 2072, 2073, 1066, 1067, 1068, 2075] (by decide +kernel) (by decide +kernel)
set_option maxRecDepth 20000 in
theorem ein_25 : GoodIn lw_tbl wE_25 := goodIn_r _ [2076, 2077, 1070, 1071, 1072, 2079, 2080, 2081, 1078, 1079, 1080, 2091, 2092, 2093, 1086, 1087, 1088, 2107, 2108, 2109, 1095, 1096, 1097, 2120] (by decide +kernel) (by decide +kernel)
set_option maxRecDepth 20000 in
theorem ein_26 : GoodIn lw_tbl wE_26 := goodIn_r _ [2121, 2122, 1099, 1100, 1101, 2124, 2125, 2126, 1103, 1104, 1105, 2128, 2129, 2130, 1107, 1108, 1109, 2140, 2141, 2142, 1121, 1122, 1123, 2156] (by decide +kernel) (by decide +kernel)
set_option maxRecDepth 20000 in
theorem ein_27 : GoodIn lw_tbl wE_27 := goodIn_r _ [2157, 2158, 1125, 1126, 1127, 2160, 2161, 2162, 1142, 1143, 1144, 2179, 2180, 2181, 1204, 1205, 1206, 2195, 2196, 2197, 1217, 1218, 1219, 2273] (by decide +kernel) (by decide +kernel)
set_option maxRecDepth 20000 in
theorem ein_28 : GoodIn lw_tbl wE_28 := goodIn_r _ [2274, 2275, 1367, 1368, 1369, 2377, 2378, 2379, 1371, 1372, 1373, 2207, 2208, 2209, 1376, 1377, 1378, 2227, 2228, 2229, 1380, 1381, 1382, 2231] (by decide +kernel) (by decide +kernel)
set_option maxRecDepth 20000 in
theorem ein_29 : GoodIn lw_tbl wE_29 := goodIn_r _ [2232, 2233, 1385, 1386, 1387, 2236, 2237, 2238, 1389, 1390, 1391, 2244, 2245, 2246, 1425, 1426, 1427, 2203, 2204, 2205, 1429, 1430, 1431, 2240] (by decide +kernel) (by decide +kernel)
set_option maxRecDepth 20000 in
theorem ein_30 : GoodIn lw_tbl wE_30 := goodIn_r _ [2241, 2242, 1433, 1434, 1435, 2381, 2382, 2383, 1450, 1451, 1452, 2396, 2397, 2398, 1454, 1455, 1456, 2400, 2401, 2402, 1479, 1480, 1481, 1761] (by decide +kernel) (by decide +kernel)
set_option maxRecDepth 20000 in
theorem ein_31 : GoodIn lw_tbl wE_31 := goodIn_r _ [1762, 1763, 196, 197, 198, 199, 1483, 1484, 1485, 1486] (by decide +kernel) (by decide +kernel)
set_option maxRecDepth 20000 in
theorem xin_0 : GoodIn lw_tbl wsX00 := goodIn_r _ [546, 548, 550] (by decide +kernel) (by decide +kernel)
set_option maxRecDepth 20000 in
theorem xin_1 : GoodIn lw_tbl wsX10 := goodIn_r _ [450, 452, 454, 456, 458, 460, 462, 464] (by decide +kernel) (by decide +kernel)
set_option maxRecDepth 20000 in
theorem xin_2 : GoodIn lw_tbl wsX20 := goodIn_r _ [281, 283, 285, 287] (by decide +kernel) (by decide +kernel)
set_option maxRecDepth 20000 in
theorem xin_3 : GoodIn lw_tbl wsX30 := goodIn_r _ [611, 613, 615] (by decide +kernel) (by decide +kernel)
set_option maxRecDepth 20000 in
theorem xin_4 : GoodIn lw_tbl wsX40 := goodIn_r _ [481, 483, 485, 487, 489, 491] (by decide +kernel) (by decide +kernel)
set_option maxRecDepth 20000 in
theorem xin_5 : GoodIn lw_tbl wsX50 := goodIn_r _ [513, 515, 517, 519, 521, 523, 525, 527, 529, 531, 533] (by decide +kernel) (by decide +kernel)
set_option maxRecDepth 20000 in
theorem xin_6 : GoodIn lw_tbl wsX60 := goodIn_r _ [577, 579, 581, 583, 585, 587, 589, 591, 593, 595, 597] (by decide +kernel) (by decide +kernel)
set_option maxRecDepth 20000 in
theorem xin_7 : GoodIn lw_tbl wsX70 := goodIn_r _ [430, 432] (by decide +kernel) (by decide +kernel)
set_option maxRecDepth 20000 in
theorem xin_8 : GoodIn lw_tbl wsX80 := goodIn_r _ [347, 349, 351, 353, 355, 357, 359, 361, 363, 365, 367, 369, 371, 373] (by decide +kernel) (by decide +kernel)
set_option maxRecDepth 20000 in
theorem xin_9 : GoodIn lw_tbl wsX90 := goodIn_r _ [399, 401, 403, 405, 407, 409, 411, 413, 415, 417, 419] (by decide +kernel) (by decide +kernel)
set_option maxRecDepth 20000 in
theorem xin_10 : GoodIn lw_tbl wsX100 := goodIn_r _ [237, 239, 241, 243, 245, 247, 249, 251, 253, 255] (by decide +kernel) (by decide +kernel)
set_option maxRecDepth 20000 in
theorem xin_11 : GoodIn lw_tbl wsX110 := goodIn_r _ [639, 641, 643, 645, 647, 649, 651, 653, 655, 657, 659, 661, 663, 665, 667, 669, 671, 673, 675, 677] (by decide +kernel) (by decide +kernel)
set_option maxRecDepth 20000 in
theorem xin_12 : GoodIn lw_tbl wsX120 := goodIn_r _ [1574, 1576, 1578, 1580, 1582, 1584, 1586, 1588, 1590, 1592, 1594, 1596, 1598, 1600, 1602, 1604, 1606, 1608, 1610, 1612, 1614, 1616, 1618, 1620, 1622, 1624, 1626, 1628, 1630, 1632, 1634, 1636, 1638, 1640, 1642, 1644, 1646, 1648, 1650, 1652, 1654, 1656, 1658, 1660, 1662, 1664, 1666, 1668, 1670, 1672, 1674, 1676, 1678, 1680, 1682, 1684, 1686, 1688, 1690, 1692, 1694, 1696, 1698, 1700, 1702, 1704, 1706, 1708, 1710, 1712, 1714, 1716, 1718, 1720, 1722, 1724, 1726, 1728, 1730, 1732, 1734, 1736, 1738, 1740] (by decide +kernel) (by decide +kernel)
theorem wA_in : GoodIn lw_tbl wA := goodIn_app ein_0 (goodIn_app ein_1 (goodIn_app ein_2 (goodIn_app ein_3 (goodIn_app ein_4 (goodIn_app ein_5 (goodIn_app ein_6 (goodIn_app ein_7 (goodIn_app ein_8 (goodIn_app ein_9 (goodIn_app ein_10 (goodIn_app ein_11 (goodIn_app ein_12 (goodIn_app ein_13 (goodIn_app ein_14 (goodIn_app ein_15 (goodIn_app ein_16 (goodIn_app ein_17 (goodIn_app ein_18 (goodIn_app ein_19 (goodIn_app ein_20 (goodIn_app ein_21 (goodIn_app ein_22 (goodIn_app ein_23 (goodIn_app ein_24 (goodIn_app ein_25 (goodIn_app ein_26 (goodIn_app ein_27 (goodIn_app ein_28 (goodIn_app ein_29 (goodIn_app ein_30 (goodIn_app ein_31 (goodIn_app xin_0 (goodIn_app xin_1 (goodIn_app xin_2 (goodIn_app xin_3 (goodIn_app xin_4 (goodIn_app xin_5 (goodIn_app xin_6 (goodIn_app xin_7 (goodIn_app xin_8 (goodIn_app xin_9 (goodIn_app xin_10 (goodIn_app xin_11 (xin_12))))))))))))))))))))))))))))))))))))))))))))
theorem wA_good : GoodIn wA wA := fun w h => ⟨h, (wA_in w h).2⟩
theorem gk {k : Cond} (hk : k ∈ wA) : GoodIn wA (k :: wA) := fun w hw => (List.mem_cons.mp hw).elim (fun e => by rw [e]; exact wA_good k hk) (fun h => wA_good w h)
theorem gV {own C : String} {idx : Nat} {y : MethodName} {k : Cond} (h1 : Cond.methodLink own idx y ∈ wA) (h2 : Cond.instanceMethod y ∈ wA) (h3 : Cond.selects C y y ∈ wA) (h4 : Cond.initialized C ∈ wA) (hk : k ∈ wA) : GoodIn wA (wsV own idx C y (k :: wA)) := by
  intro w hw
  rcases List.mem_append.mp hw with h | h
  · simp only [List.mem_cons, List.not_mem_nil, or_false] at h
    rcases h with rfl | rfl | rfl | rfl
    · exact wA_good _ h1
    · exact wA_good _ h2
    · exact wA_good _ h3
    · exact wA_good _ h4
  · exact gk hk w h
theorem gS {own : String} {idx : Nat} {y : MethodName} {k : Cond} (h1 : Cond.methodLink own idx y ∈ wA) (h2 : Cond.static y ∈ wA) (h4 : Cond.initialized y.cls ∈ wA) (hk : k ∈ wA) : GoodIn wA (va_wsS own idx y (k :: wA)) := by
  intro w hw
  rcases List.mem_append.mp hw with h | h
  · simp only [List.mem_cons, List.not_mem_nil, or_false] at h
    rcases h with rfl | rfl | rfl
    · exact wA_good _ h1
    · exact wA_good _ h2
    · exact wA_good _ h4
  · exact gk hk w h
theorem vpi {i : Int32} {n : Nat} (h : (!(decide (i < 0)) && decide (i.toNatClampNeg < n)) = true) : vp_in i n := by
  simp only [Bool.and_eq_true, Bool.not_eq_true', decide_eq_false_iff_not, decide_eq_true_eq] at h
  exact fun q => q.elim h.1 (fun q => absurd h.2 (Nat.not_lt.mpr q))
theorem mds_yX8_init : yX8_init.cls ≠ "java/lang/invoke/MethodHandle" ∧ yX8_init.cls ≠ "java/lang/invoke/VarHandle" ∧ (parseMethodDescriptor yX8_init.desc).map (fun d => d.parameters.length) = some 0 := by decide +kernel
theorem mds_yX10_init : yX10_init.cls ≠ "java/lang/invoke/MethodHandle" ∧ yX10_init.cls ≠ "java/lang/invoke/VarHandle" ∧ (parseMethodDescriptor yX10_init.desc).map (fun d => d.parameters.length) = some 0 := by decide +kernel
theorem mds_yX2_init : yX2_init.cls ≠ "java/lang/invoke/MethodHandle" ∧ yX2_init.cls ≠ "java/lang/invoke/VarHandle" ∧ (parseMethodDescriptor yX2_init.desc).map (fun d => d.parameters.length) = some 0 := by decide +kernel
theorem mds_yX9_init : yX9_init.cls ≠ "java/lang/invoke/MethodHandle" ∧ yX9_init.cls ≠ "java/lang/invoke/VarHandle" ∧ (parseMethodDescriptor yX9_init.desc).map (fun d => d.parameters.length) = some 1 := by decide +kernel
theorem mds_yX7_init : yX7_init.cls ≠ "java/lang/invoke/MethodHandle" ∧ yX7_init.cls ≠ "java/lang/invoke/VarHandle" ∧ (parseMethodDescriptor yX7_init.desc).map (fun d => d.parameters.length) = some 2 := by decide +kernel
theorem mds_yX1_init : yX1_init.cls ≠ "java/lang/invoke/MethodHandle" ∧ yX1_init.cls ≠ "java/lang/invoke/VarHandle" ∧ (parseMethodDescriptor yX1_init.desc).map (fun d => d.parameters.length) = some 3 := by decide +kernel
theorem mds_yX4_init : yX4_init.cls ≠ "java/lang/invoke/MethodHandle" ∧ yX4_init.cls ≠ "java/lang/invoke/VarHandle" ∧ (parseMethodDescriptor yX4_init.desc).map (fun d => d.parameters.length) = some 2 := by decide +kernel
theorem mds_yX5_init : yX5_init.cls ≠ "java/lang/invoke/MethodHandle" ∧ yX5_init.cls ≠ "java/lang/invoke/VarHandle" ∧ (parseMethodDescriptor yX5_init.desc).map (fun d => d.parameters.length) = some 4 := by decide +kernel
theorem mds_yX0_init : yX0_init.cls ≠ "java/lang/invoke/MethodHandle" ∧ yX0_init.cls ≠ "java/lang/invoke/VarHandle" ∧ (parseMethodDescriptor yX0_init.desc).map (fun d => d.parameters.length) = some 2 := by decide +kernel
theorem mds_yX6_init : yX6_init.cls ≠ "java/lang/invoke/MethodHandle" ∧ yX6_init.cls ≠ "java/lang/invoke/VarHandle" ∧ (parseMethodDescriptor yX6_init.desc).map (fun d => d.parameters.length) = some 1 := by decide +kernel
theorem mds_yX3_init : yX3_init.cls ≠ "java/lang/invoke/MethodHandle" ∧ yX3_init.cls ≠ "java/lang/invoke/VarHandle" ∧ (parseMethodDescriptor yX3_init.desc).map (fun d => d.parameters.length) = some 1 := by decide +kernel
theorem mds_yJ7_rangeCheck_23922 : yJ7_rangeCheck_23922.cls ≠ "java/lang/invoke/MethodHandle" ∧ yJ7_rangeCheck_23922.cls ≠ "java/lang/invoke/VarHandle" ∧ (parseMethodDescriptor yJ7_rangeCheck_23922.desc).map (fun d => d.parameters.length) = some 3 := by decide +kernel
theorem mdv_yX10_append : yX10_append.cls = RX10 ∧ yX10_append.cls ≠ "java/lang/invoke/MethodHandle" ∧ yX10_append.cls ≠ "java/lang/invoke/VarHandle" ∧ (parseMethodDescriptor yX10_append.desc).map (fun d => d.parameters.length) = some 1 := by decide +kernel
theorem mdv_yX11_deny : yX11_deny.cls = RX11 ∧ yX11_deny.cls ≠ "java/lang/invoke/MethodHandle" ∧ yX11_deny.cls ≠ "java/lang/invoke/VarHandle" ∧ (parseMethodDescriptor yX11_deny.desc).map (fun d => d.parameters.length) = some 1 := by decide +kernel
theorem mdv_yX10_rewind : yX10_rewind.cls = RX10 ∧ yX10_rewind.cls ≠ "java/lang/invoke/MethodHandle" ∧ yX10_rewind.cls ≠ "java/lang/invoke/VarHandle" ∧ (parseMethodDescriptor yX10_rewind.desc).map (fun d => d.parameters.length) = some 0 := by decide +kernel
theorem mds_yJ7_fill_53178 : yJ7_fill_53178.cls ≠ "java/lang/invoke/MethodHandle" ∧ yJ7_fill_53178.cls ≠ "java/lang/invoke/VarHandle" ∧ (parseMethodDescriptor yJ7_fill_53178.desc).map (fun d => d.parameters.length) = some 2 := by decide +kernel
theorem mds_yJ7_fill_fda19 : yJ7_fill_fda19.cls ≠ "java/lang/invoke/MethodHandle" ∧ yJ7_fill_fda19.cls ≠ "java/lang/invoke/VarHandle" ∧ (parseMethodDescriptor yJ7_fill_fda19.desc).map (fun d => d.parameters.length) = some 4 := by decide +kernel
theorem mdv_yX8_clear : yX8_clear.cls = RX8 ∧ yX8_clear.cls ≠ "java/lang/invoke/MethodHandle" ∧ yX8_clear.cls ≠ "java/lang/invoke/VarHandle" ∧ (parseMethodDescriptor yX8_clear.desc).map (fun d => d.parameters.length) = some 1 := by decide +kernel
theorem mdv_yX10_peek : yX10_peek.cls = RX10 ∧ yX10_peek.cls ≠ "java/lang/invoke/MethodHandle" ∧ yX10_peek.cls ≠ "java/lang/invoke/VarHandle" ∧ (parseMethodDescriptor yX10_peek.desc).map (fun d => d.parameters.length) = some 0 := by decide +kernel
theorem mdv_yX10_wrong : yX10_wrong.cls = RX10 ∧ yX10_wrong.cls ≠ "java/lang/invoke/MethodHandle" ∧ yX10_wrong.cls ≠ "java/lang/invoke/VarHandle" ∧ (parseMethodDescriptor yX10_wrong.desc).map (fun d => d.parameters.length) = some 2 := by decide +kernel
theorem mdv_yX1_readHeap : yX1_readHeap.cls = RX1 ∧ yX1_readHeap.cls ≠ "java/lang/invoke/MethodHandle" ∧ yX1_readHeap.cls ≠ "java/lang/invoke/VarHandle" ∧ (parseMethodDescriptor yX1_readHeap.desc).map (fun d => d.parameters.length) = some 0 := by decide +kernel
theorem mdv_yX11_refuse : yX11_refuse.cls = RX11 ∧ yX11_refuse.cls ≠ "java/lang/invoke/MethodHandle" ∧ yX11_refuse.cls ≠ "java/lang/invoke/VarHandle" ∧ (parseMethodDescriptor yX11_refuse.desc).map (fun d => d.parameters.length) = some 1 := by decide +kernel
theorem mdv_yX2_countCells : yX2_countCells.cls = RX2 ∧ yX2_countCells.cls ≠ "java/lang/invoke/MethodHandle" ∧ yX2_countCells.cls ≠ "java/lang/invoke/VarHandle" ∧ (parseMethodDescriptor yX2_countCells.desc).map (fun d => d.parameters.length) = some 1 := by decide +kernel
theorem mdv_yX11_ready : yX11_ready.cls = RX11 ∧ yX11_ready.cls ≠ "java/lang/invoke/MethodHandle" ∧ yX11_ready.cls ≠ "java/lang/invoke/VarHandle" ∧ (parseMethodDescriptor yX11_ready.desc).map (fun d => d.parameters.length) = some 0 := by decide +kernel
theorem mdv_yX11_inHeap : yX11_inHeap.cls = RX11 ∧ yX11_inHeap.cls ≠ "java/lang/invoke/MethodHandle" ∧ yX11_inHeap.cls ≠ "java/lang/invoke/VarHandle" ∧ (parseMethodDescriptor yX11_inHeap.desc).map (fun d => d.parameters.length) = some 1 := by decide +kernel
theorem mdv_yX11_inCell : yX11_inCell.cls = RX11 ∧ yX11_inCell.cls ≠ "java/lang/invoke/MethodHandle" ∧ yX11_inCell.cls ≠ "java/lang/invoke/VarHandle" ∧ (parseMethodDescriptor yX11_inCell.desc).map (fun d => d.parameters.length) = some 1 := by decide +kernel
theorem mdv_yX11_isLive : yX11_isLive.cls = RX11 ∧ yX11_isLive.cls ≠ "java/lang/invoke/MethodHandle" ∧ yX11_isLive.cls ≠ "java/lang/invoke/VarHandle" ∧ (parseMethodDescriptor yX11_isLive.desc).map (fun d => d.parameters.length) = some 1 := by decide +kernel
theorem mdv_yX12_isRefused : yX12_isRefused.cls = RX12 ∧ yX12_isRefused.cls ≠ "java/lang/invoke/MethodHandle" ∧ yX12_isRefused.cls ≠ "java/lang/invoke/VarHandle" ∧ (parseMethodDescriptor yX12_isRefused.desc).map (fun d => d.parameters.length) = some 1 := by decide +kernel
theorem mdv_yX12_begins : yX12_begins.cls = RX12 ∧ yX12_begins.cls ≠ "java/lang/invoke/MethodHandle" ∧ yX12_begins.cls ≠ "java/lang/invoke/VarHandle" ∧ (parseMethodDescriptor yX12_begins.desc).map (fun d => d.parameters.length) = some 0 := by decide +kernel
theorem mds_yX12_cellAt : yX12_cellAt.cls ≠ "java/lang/invoke/MethodHandle" ∧ yX12_cellAt.cls ≠ "java/lang/invoke/VarHandle" ∧ (parseMethodDescriptor yX12_cellAt.desc).map (fun d => d.parameters.length) = some 1 := by decide +kernel
theorem mds_yX12_holds : yX12_holds.cls ≠ "java/lang/invoke/MethodHandle" ∧ yX12_holds.cls ≠ "java/lang/invoke/VarHandle" ∧ (parseMethodDescriptor yX12_holds.desc).map (fun d => d.parameters.length) = some 4 := by decide +kernel
theorem mdv_yX12_look : yX12_look.cls = RX12 ∧ yX12_look.cls ≠ "java/lang/invoke/MethodHandle" ∧ yX12_look.cls ≠ "java/lang/invoke/VarHandle" ∧ (parseMethodDescriptor yX12_look.desc).map (fun d => d.parameters.length) = some 0 := by decide +kernel
theorem mds_yX12_isLetter : yX12_isLetter.cls ≠ "java/lang/invoke/MethodHandle" ∧ yX12_isLetter.cls ≠ "java/lang/invoke/VarHandle" ∧ (parseMethodDescriptor yX12_isLetter.desc).map (fun d => d.parameters.length) = some 1 := by decide +kernel
theorem mdv_yX12_isHere : yX12_isHere.cls = RX12 ∧ yX12_isHere.cls ≠ "java/lang/invoke/MethodHandle" ∧ yX12_isHere.cls ≠ "java/lang/invoke/VarHandle" ∧ (parseMethodDescriptor yX12_isHere.desc).map (fun d => d.parameters.length) = some 1 := by decide +kernel
theorem mdv_yX12_takes : yX12_takes.cls = RX12 ∧ yX12_takes.cls ≠ "java/lang/invoke/MethodHandle" ∧ yX12_takes.cls ≠ "java/lang/invoke/VarHandle" ∧ (parseMethodDescriptor yX12_takes.desc).map (fun d => d.parameters.length) = some 1 := by decide +kernel
theorem mdv_yX12_fail : yX12_fail.cls = RX12 ∧ yX12_fail.cls ≠ "java/lang/invoke/MethodHandle" ∧ yX12_fail.cls ≠ "java/lang/invoke/VarHandle" ∧ (parseMethodDescriptor yX12_fail.desc).map (fun d => d.parameters.length) = some 2 := by decide +kernel
theorem mdv_yX12_asks : yX12_asks.cls = RX12 ∧ yX12_asks.cls ≠ "java/lang/invoke/MethodHandle" ∧ yX12_asks.cls ≠ "java/lang/invoke/VarHandle" ∧ (parseMethodDescriptor yX12_asks.desc).map (fun d => d.parameters.length) = some 1 := by decide +kernel
theorem mdv_yX12_number : yX12_number.cls = RX12 ∧ yX12_number.cls ≠ "java/lang/invoke/MethodHandle" ∧ yX12_number.cls ≠ "java/lang/invoke/VarHandle" ∧ (parseMethodDescriptor yX12_number.desc).map (fun d => d.parameters.length) = some 2 := by decide +kernel
theorem mdv_yX12_asksSign : yX12_asksSign.cls = RX12 ∧ yX12_asksSign.cls ≠ "java/lang/invoke/MethodHandle" ∧ yX12_asksSign.cls ≠ "java/lang/invoke/VarHandle" ∧ (parseMethodDescriptor yX12_asksSign.desc).map (fun d => d.parameters.length) = some 1 := by decide +kernel
theorem mdv_yX12_refuses : yX12_refuses.cls = RX12 ∧ yX12_refuses.cls ≠ "java/lang/invoke/MethodHandle" ∧ yX12_refuses.cls ≠ "java/lang/invoke/VarHandle" ∧ (parseMethodDescriptor yX12_refuses.desc).map (fun d => d.parameters.length) = some 1 := by decide +kernel
theorem mdv_yX12_laysCells : yX12_laysCells.cls = RX12 ∧ yX12_laysCells.cls ≠ "java/lang/invoke/MethodHandle" ∧ yX12_laysCells.cls ≠ "java/lang/invoke/VarHandle" ∧ (parseMethodDescriptor yX12_laysCells.desc).map (fun d => d.parameters.length) = some 0 := by decide +kernel
theorem mds_yX12_isIn : yX12_isIn.cls ≠ "java/lang/invoke/MethodHandle" ∧ yX12_isIn.cls ≠ "java/lang/invoke/VarHandle" ∧ (parseMethodDescriptor yX12_isIn.desc).map (fun d => d.parameters.length) = some 3 := by decide +kernel
theorem mdv_yX12_isAsked : yX12_isAsked.cls = RX12 ∧ yX12_isAsked.cls ≠ "java/lang/invoke/MethodHandle" ∧ yX12_isAsked.cls ≠ "java/lang/invoke/VarHandle" ∧ (parseMethodDescriptor yX12_isAsked.desc).map (fun d => d.parameters.length) = some 0 := by decide +kernel
theorem mdv_yX12_isAskedOf : yX12_isAskedOf.cls = RX12 ∧ yX12_isAskedOf.cls ≠ "java/lang/invoke/MethodHandle" ∧ yX12_isAskedOf.cls ≠ "java/lang/invoke/VarHandle" ∧ (parseMethodDescriptor yX12_isAskedOf.desc).map (fun d => d.parameters.length) = some 1 := by decide +kernel
theorem mdv_yX12_isStill : yX12_isStill.cls = RX12 ∧ yX12_isStill.cls ≠ "java/lang/invoke/MethodHandle" ∧ yX12_isStill.cls ≠ "java/lang/invoke/VarHandle" ∧ (parseMethodDescriptor yX12_isStill.desc).map (fun d => d.parameters.length) = some 0 := by decide +kernel
theorem mdv_yX12_isImage : yX12_isImage.cls = RX12 ∧ yX12_isImage.cls ≠ "java/lang/invoke/MethodHandle" ∧ yX12_isImage.cls ≠ "java/lang/invoke/VarHandle" ∧ (parseMethodDescriptor yX12_isImage.desc).map (fun d => d.parameters.length) = some 1 := by decide +kernel
theorem mdv_yX11_feed : yX11_feed.cls = RX11 ∧ yX11_feed.cls ≠ "java/lang/invoke/MethodHandle" ∧ yX11_feed.cls ≠ "java/lang/invoke/VarHandle" ∧ (parseMethodDescriptor yX11_feed.desc).map (fun d => d.parameters.length) = some 5 := by decide +kernel
theorem mdv_yX12_feed : yX12_feed.cls = RX12 ∧ yX12_feed.cls ≠ "java/lang/invoke/MethodHandle" ∧ yX12_feed.cls ≠ "java/lang/invoke/VarHandle" ∧ (parseMethodDescriptor yX12_feed.desc).map (fun d => d.parameters.length) = some 5 := by decide +kernel
theorem mdv_yX11_end : yX11_end.cls = RX11 ∧ yX11_end.cls ≠ "java/lang/invoke/MethodHandle" ∧ yX11_end.cls ≠ "java/lang/invoke/VarHandle" ∧ (parseMethodDescriptor yX11_end.desc).map (fun d => d.parameters.length) = some 1 := by decide +kernel
theorem mdv_yX12_end : yX12_end.cls = RX12 ∧ yX12_end.cls ≠ "java/lang/invoke/MethodHandle" ∧ yX12_end.cls ≠ "java/lang/invoke/VarHandle" ∧ (parseMethodDescriptor yX12_end.desc).map (fun d => d.parameters.length) = some 1 := by decide +kernel
theorem mdv_yX11_heap : yX11_heap.cls = RX11 ∧ yX11_heap.cls ≠ "java/lang/invoke/MethodHandle" ∧ yX11_heap.cls ≠ "java/lang/invoke/VarHandle" ∧ (parseMethodDescriptor yX11_heap.desc).map (fun d => d.parameters.length) = some 0 := by decide +kernel
theorem mdv_yX12_heap : yX12_heap.cls = RX12 ∧ yX12_heap.cls ≠ "java/lang/invoke/MethodHandle" ∧ yX12_heap.cls ≠ "java/lang/invoke/VarHandle" ∧ (parseMethodDescriptor yX12_heap.desc).map (fun d => d.parameters.length) = some 0 := by decide +kernel
theorem mdv_yX11_fault : yX11_fault.cls = RX11 ∧ yX11_fault.cls ≠ "java/lang/invoke/MethodHandle" ∧ yX11_fault.cls ≠ "java/lang/invoke/VarHandle" ∧ (parseMethodDescriptor yX11_fault.desc).map (fun d => d.parameters.length) = some 1 := by decide +kernel
theorem mdv_yX12_fault : yX12_fault.cls = RX12 ∧ yX12_fault.cls ≠ "java/lang/invoke/MethodHandle" ∧ yX12_fault.cls ≠ "java/lang/invoke/VarHandle" ∧ (parseMethodDescriptor yX12_fault.desc).map (fun d => d.parameters.length) = some 1 := by decide +kernel
theorem mdv_yX11_has : yX11_has.cls = RX11 ∧ yX11_has.cls ≠ "java/lang/invoke/MethodHandle" ∧ yX11_has.cls ≠ "java/lang/invoke/VarHandle" ∧ (parseMethodDescriptor yX11_has.desc).map (fun d => d.parameters.length) = some 1 := by decide +kernel
theorem mdv_yX12_has : yX12_has.cls = RX12 ∧ yX12_has.cls ≠ "java/lang/invoke/MethodHandle" ∧ yX12_has.cls ≠ "java/lang/invoke/VarHandle" ∧ (parseMethodDescriptor yX12_has.desc).map (fun d => d.parameters.length) = some 1 := by decide +kernel
theorem mdv_yX11_word : yX11_word.cls = RX11 ∧ yX11_word.cls ≠ "java/lang/invoke/MethodHandle" ∧ yX11_word.cls ≠ "java/lang/invoke/VarHandle" ∧ (parseMethodDescriptor yX11_word.desc).map (fun d => d.parameters.length) = some 2 := by decide +kernel
theorem mdv_yX12_word : yX12_word.cls = RX12 ∧ yX12_word.cls ≠ "java/lang/invoke/MethodHandle" ∧ yX12_word.cls ≠ "java/lang/invoke/VarHandle" ∧ (parseMethodDescriptor yX12_word.desc).map (fun d => d.parameters.length) = some 2 := by decide +kernel
theorem mdv_yX11_stage : yX11_stage.cls = RX11 ∧ yX11_stage.cls ≠ "java/lang/invoke/MethodHandle" ∧ yX11_stage.cls ≠ "java/lang/invoke/VarHandle" ∧ (parseMethodDescriptor yX11_stage.desc).map (fun d => d.parameters.length) = some 1 := by decide +kernel
theorem mdv_yX12_stage : yX12_stage.cls = RX12 ∧ yX12_stage.cls ≠ "java/lang/invoke/MethodHandle" ∧ yX12_stage.cls ≠ "java/lang/invoke/VarHandle" ∧ (parseMethodDescriptor yX12_stage.desc).map (fun d => d.parameters.length) = some 1 := by decide +kernel
theorem mdv_yX11_kept : yX11_kept.cls = RX11 ∧ yX11_kept.cls ≠ "java/lang/invoke/MethodHandle" ∧ yX11_kept.cls ≠ "java/lang/invoke/VarHandle" ∧ (parseMethodDescriptor yX11_kept.desc).map (fun d => d.parameters.length) = some 2 := by decide +kernel
theorem mdv_yX12_kept : yX12_kept.cls = RX12 ∧ yX12_kept.cls ≠ "java/lang/invoke/MethodHandle" ∧ yX12_kept.cls ≠ "java/lang/invoke/VarHandle" ∧ (parseMethodDescriptor yX12_kept.desc).map (fun d => d.parameters.length) = some 2 := by decide +kernel
theorem mdv_yX11_cell : yX11_cell.cls = RX11 ∧ yX11_cell.cls ≠ "java/lang/invoke/MethodHandle" ∧ yX11_cell.cls ≠ "java/lang/invoke/VarHandle" ∧ (parseMethodDescriptor yX11_cell.desc).map (fun d => d.parameters.length) = some 2 := by decide +kernel
theorem mdv_yX12_cell : yX12_cell.cls = RX12 ∧ yX12_cell.cls ≠ "java/lang/invoke/MethodHandle" ∧ yX12_cell.cls ≠ "java/lang/invoke/VarHandle" ∧ (parseMethodDescriptor yX12_cell.desc).map (fun d => d.parameters.length) = some 2 := by decide +kernel
theorem mdv_yX11_cellOf : yX11_cellOf.cls = RX11 ∧ yX11_cellOf.cls ≠ "java/lang/invoke/MethodHandle" ∧ yX11_cellOf.cls ≠ "java/lang/invoke/VarHandle" ∧ (parseMethodDescriptor yX11_cellOf.desc).map (fun d => d.parameters.length) = some 1 := by decide +kernel
theorem mdv_yX12_cellOf : yX12_cellOf.cls = RX12 ∧ yX12_cellOf.cls ≠ "java/lang/invoke/MethodHandle" ∧ yX12_cellOf.cls ≠ "java/lang/invoke/VarHandle" ∧ (parseMethodDescriptor yX12_cellOf.desc).map (fun d => d.parameters.length) = some 1 := by decide +kernel
theorem mdv_yX11_goes : yX11_goes.cls = RX11 ∧ yX11_goes.cls ≠ "java/lang/invoke/MethodHandle" ∧ yX11_goes.cls ≠ "java/lang/invoke/VarHandle" ∧ (parseMethodDescriptor yX11_goes.desc).map (fun d => d.parameters.length) = some 1 := by decide +kernel
theorem mdv_yX12_goes : yX12_goes.cls = RX12 ∧ yX12_goes.cls ≠ "java/lang/invoke/MethodHandle" ∧ yX12_goes.cls ≠ "java/lang/invoke/VarHandle" ∧ (parseMethodDescriptor yX12_goes.desc).map (fun d => d.parameters.length) = some 1 := by decide +kernel
theorem mdv_yX11_comes : yX11_comes.cls = RX11 ∧ yX11_comes.cls ≠ "java/lang/invoke/MethodHandle" ∧ yX11_comes.cls ≠ "java/lang/invoke/VarHandle" ∧ (parseMethodDescriptor yX11_comes.desc).map (fun d => d.parameters.length) = some 1 := by decide +kernel
theorem mdv_yX12_comes : yX12_comes.cls = RX12 ∧ yX12_comes.cls ≠ "java/lang/invoke/MethodHandle" ∧ yX12_comes.cls ≠ "java/lang/invoke/VarHandle" ∧ (parseMethodDescriptor yX12_comes.desc).map (fun d => d.parameters.length) = some 1 := by decide +kernel
theorem mdv_yX11_block : yX11_block.cls = RX11 ∧ yX11_block.cls ≠ "java/lang/invoke/MethodHandle" ∧ yX11_block.cls ≠ "java/lang/invoke/VarHandle" ∧ (parseMethodDescriptor yX11_block.desc).map (fun d => d.parameters.length) = some 2 := by decide +kernel
theorem mdv_yX12_block : yX12_block.cls = RX12 ∧ yX12_block.cls ≠ "java/lang/invoke/MethodHandle" ∧ yX12_block.cls ≠ "java/lang/invoke/VarHandle" ∧ (parseMethodDescriptor yX12_block.desc).map (fun d => d.parameters.length) = some 2 := by decide +kernel
theorem mdv_yX11_chain : yX11_chain.cls = RX11 ∧ yX11_chain.cls ≠ "java/lang/invoke/MethodHandle" ∧ yX11_chain.cls ≠ "java/lang/invoke/VarHandle" ∧ (parseMethodDescriptor yX11_chain.desc).map (fun d => d.parameters.length) = some 2 := by decide +kernel
theorem mdv_yX12_chain : yX12_chain.cls = RX12 ∧ yX12_chain.cls ≠ "java/lang/invoke/MethodHandle" ∧ yX12_chain.cls ≠ "java/lang/invoke/VarHandle" ∧ (parseMethodDescriptor yX12_chain.desc).map (fun d => d.parameters.length) = some 2 := by decide +kernel
theorem mdv_yX11_longest : yX11_longest.cls = RX11 ∧ yX11_longest.cls ≠ "java/lang/invoke/MethodHandle" ∧ yX11_longest.cls ≠ "java/lang/invoke/VarHandle" ∧ (parseMethodDescriptor yX11_longest.desc).map (fun d => d.parameters.length) = some 1 := by decide +kernel
theorem mdv_yX12_longest : yX12_longest.cls = RX12 ∧ yX12_longest.cls ≠ "java/lang/invoke/MethodHandle" ∧ yX12_longest.cls ≠ "java/lang/invoke/VarHandle" ∧ (parseMethodDescriptor yX12_longest.desc).map (fun d => d.parameters.length) = some 1 := by decide +kernel
theorem mdv_yX11_steps : yX11_steps.cls = RX11 ∧ yX11_steps.cls ≠ "java/lang/invoke/MethodHandle" ∧ yX11_steps.cls ≠ "java/lang/invoke/VarHandle" ∧ (parseMethodDescriptor yX11_steps.desc).map (fun d => d.parameters.length) = some 1 := by decide +kernel
theorem mdv_yX12_steps : yX12_steps.cls = RX12 ∧ yX12_steps.cls ≠ "java/lang/invoke/MethodHandle" ∧ yX12_steps.cls ≠ "java/lang/invoke/VarHandle" ∧ (parseMethodDescriptor yX12_steps.desc).map (fun d => d.parameters.length) = some 1 := by decide +kernel
theorem mdv_yX11_room : yX11_room.cls = RX11 ∧ yX11_room.cls ≠ "java/lang/invoke/MethodHandle" ∧ yX11_room.cls ≠ "java/lang/invoke/VarHandle" ∧ (parseMethodDescriptor yX11_room.desc).map (fun d => d.parameters.length) = some 2 := by decide +kernel
theorem mdv_yX12_room : yX12_room.cls = RX12 ∧ yX12_room.cls ≠ "java/lang/invoke/MethodHandle" ∧ yX12_room.cls ≠ "java/lang/invoke/VarHandle" ∧ (parseMethodDescriptor yX12_room.desc).map (fun d => d.parameters.length) = some 2 := by decide +kernel
theorem mdv_yX11_far : yX11_far.cls = RX11 ∧ yX11_far.cls ≠ "java/lang/invoke/MethodHandle" ∧ yX11_far.cls ≠ "java/lang/invoke/VarHandle" ∧ (parseMethodDescriptor yX11_far.desc).map (fun d => d.parameters.length) = some 1 := by decide +kernel
theorem mdv_yX12_far : yX12_far.cls = RX12 ∧ yX12_far.cls ≠ "java/lang/invoke/MethodHandle" ∧ yX12_far.cls ≠ "java/lang/invoke/VarHandle" ∧ (parseMethodDescriptor yX12_far.desc).map (fun d => d.parameters.length) = some 1 := by decide +kernel
theorem mdv_yX11_way : yX11_way.cls = RX11 ∧ yX11_way.cls ≠ "java/lang/invoke/MethodHandle" ∧ yX11_way.cls ≠ "java/lang/invoke/VarHandle" ∧ (parseMethodDescriptor yX11_way.desc).map (fun d => d.parameters.length) = some 2 := by decide +kernel
theorem mdv_yX12_way : yX12_way.cls = RX12 ∧ yX12_way.cls ≠ "java/lang/invoke/MethodHandle" ∧ yX12_way.cls ≠ "java/lang/invoke/VarHandle" ∧ (parseMethodDescriptor yX12_way.desc).map (fun d => d.parameters.length) = some 2 := by decide +kernel
theorem mdv_yX11_keeps : yX11_keeps.cls = RX11 ∧ yX11_keeps.cls ≠ "java/lang/invoke/MethodHandle" ∧ yX11_keeps.cls ≠ "java/lang/invoke/VarHandle" ∧ (parseMethodDescriptor yX11_keeps.desc).map (fun d => d.parameters.length) = some 1 := by decide +kernel
theorem mdv_yX12_keeps : yX12_keeps.cls = RX12 ∧ yX12_keeps.cls ≠ "java/lang/invoke/MethodHandle" ∧ yX12_keeps.cls ≠ "java/lang/invoke/VarHandle" ∧ (parseMethodDescriptor yX12_keeps.desc).map (fun d => d.parameters.length) = some 1 := by decide +kernel
theorem mdv_yX11_retains : yX11_retains.cls = RX11 ∧ yX11_retains.cls ≠ "java/lang/invoke/MethodHandle" ∧ yX11_retains.cls ≠ "java/lang/invoke/VarHandle" ∧ (parseMethodDescriptor yX11_retains.desc).map (fun d => d.parameters.length) = some 1 := by decide +kernel
theorem mdv_yX12_retains : yX12_retains.cls = RX12 ∧ yX12_retains.cls ≠ "java/lang/invoke/MethodHandle" ∧ yX12_retains.cls ≠ "java/lang/invoke/VarHandle" ∧ (parseMethodDescriptor yX12_retains.desc).map (fun d => d.parameters.length) = some 1 := by decide +kernel
theorem mdv_yX11_best : yX11_best.cls = RX11 ∧ yX11_best.cls ≠ "java/lang/invoke/MethodHandle" ∧ yX11_best.cls ≠ "java/lang/invoke/VarHandle" ∧ (parseMethodDescriptor yX11_best.desc).map (fun d => d.parameters.length) = some 1 := by decide +kernel
theorem mdv_yX12_best : yX12_best.cls = RX12 ∧ yX12_best.cls ≠ "java/lang/invoke/MethodHandle" ∧ yX12_best.cls ≠ "java/lang/invoke/VarHandle" ∧ (parseMethodDescriptor yX12_best.desc).map (fun d => d.parameters.length) = some 1 := by decide +kernel
theorem mdv_yX11_found : yX11_found.cls = RX11 ∧ yX11_found.cls ≠ "java/lang/invoke/MethodHandle" ∧ yX11_found.cls ≠ "java/lang/invoke/VarHandle" ∧ (parseMethodDescriptor yX11_found.desc).map (fun d => d.parameters.length) = some 1 := by decide +kernel
theorem mdv_yX12_found : yX12_found.cls = RX12 ∧ yX12_found.cls ≠ "java/lang/invoke/MethodHandle" ∧ yX12_found.cls ≠ "java/lang/invoke/VarHandle" ∧ (parseMethodDescriptor yX12_found.desc).map (fun d => d.parameters.length) = some 1 := by decide +kernel
theorem mdv_yX11_remember : yX11_remember.cls = RX11 ∧ yX11_remember.cls ≠ "java/lang/invoke/MethodHandle" ∧ yX11_remember.cls ≠ "java/lang/invoke/VarHandle" ∧ (parseMethodDescriptor yX11_remember.desc).map (fun d => d.parameters.length) = some 0 := by decide +kernel
theorem mdv_yX12_remember : yX12_remember.cls = RX12 ∧ yX12_remember.cls ≠ "java/lang/invoke/MethodHandle" ∧ yX12_remember.cls ≠ "java/lang/invoke/VarHandle" ∧ (parseMethodDescriptor yX12_remember.desc).map (fun d => d.parameters.length) = some 0 := by decide +kernel
theorem mdv_yX11_alike : yX11_alike.cls = RX11 ∧ yX11_alike.cls ≠ "java/lang/invoke/MethodHandle" ∧ yX11_alike.cls ≠ "java/lang/invoke/VarHandle" ∧ (parseMethodDescriptor yX11_alike.desc).map (fun d => d.parameters.length) = some 0 := by decide +kernel
theorem mdv_yX12_alike : yX12_alike.cls = RX12 ∧ yX12_alike.cls ≠ "java/lang/invoke/MethodHandle" ∧ yX12_alike.cls ≠ "java/lang/invoke/VarHandle" ∧ (parseMethodDescriptor yX12_alike.desc).map (fun d => d.parameters.length) = some 0 := by decide +kernel
theorem mdv_yX11_see : yX11_see.cls = RX11 ∧ yX11_see.cls ≠ "java/lang/invoke/MethodHandle" ∧ yX11_see.cls ≠ "java/lang/invoke/VarHandle" ∧ (parseMethodDescriptor yX11_see.desc).map (fun d => d.parameters.length) = some 0 := by decide +kernel
theorem mdv_yX12_see : yX12_see.cls = RX12 ∧ yX12_see.cls ≠ "java/lang/invoke/MethodHandle" ∧ yX12_see.cls ≠ "java/lang/invoke/VarHandle" ∧ (parseMethodDescriptor yX12_see.desc).map (fun d => d.parameters.length) = some 0 := by decide +kernel
theorem mdv_yX11_then : yX11_then.cls = RX11 ∧ yX11_then.cls ≠ "java/lang/invoke/MethodHandle" ∧ yX11_then.cls ≠ "java/lang/invoke/VarHandle" ∧ (parseMethodDescriptor yX11_then.desc).map (fun d => d.parameters.length) = some 1 := by decide +kernel
theorem mdv_yX12_then : yX12_then.cls = RX12 ∧ yX12_then.cls ≠ "java/lang/invoke/MethodHandle" ∧ yX12_then.cls ≠ "java/lang/invoke/VarHandle" ∧ (parseMethodDescriptor yX12_then.desc).map (fun d => d.parameters.length) = some 1 := by decide +kernel
theorem mdv_yX11_tells : yX11_tells.cls = RX11 ∧ yX11_tells.cls ≠ "java/lang/invoke/MethodHandle" ∧ yX11_tells.cls ≠ "java/lang/invoke/VarHandle" ∧ (parseMethodDescriptor yX11_tells.desc).map (fun d => d.parameters.length) = some 1 := by decide +kernel
theorem mdv_yX12_tells : yX12_tells.cls = RX12 ∧ yX12_tells.cls ≠ "java/lang/invoke/MethodHandle" ∧ yX12_tells.cls ≠ "java/lang/invoke/VarHandle" ∧ (parseMethodDescriptor yX12_tells.desc).map (fun d => d.parameters.length) = some 1 := by decide +kernel
theorem mdv_yX11_run : yX11_run.cls = RX11 ∧ yX11_run.cls ≠ "java/lang/invoke/MethodHandle" ∧ yX11_run.cls ≠ "java/lang/invoke/VarHandle" ∧ (parseMethodDescriptor yX11_run.desc).map (fun d => d.parameters.length) = some 0 := by decide +kernel
theorem mdv_yX12_run : yX12_run.cls = RX12 ∧ yX12_run.cls ≠ "java/lang/invoke/MethodHandle" ∧ yX12_run.cls ≠ "java/lang/invoke/VarHandle" ∧ (parseMethodDescriptor yX12_run.desc).map (fun d => d.parameters.length) = some 0 := by decide +kernel
theorem mdv_yX11_failed : yX11_failed.cls = RX11 ∧ yX11_failed.cls ≠ "java/lang/invoke/MethodHandle" ∧ yX11_failed.cls ≠ "java/lang/invoke/VarHandle" ∧ (parseMethodDescriptor yX11_failed.desc).map (fun d => d.parameters.length) = some 1 := by decide +kernel
theorem mdv_yX12_failed : yX12_failed.cls = RX12 ∧ yX12_failed.cls ≠ "java/lang/invoke/MethodHandle" ∧ yX12_failed.cls ≠ "java/lang/invoke/VarHandle" ∧ (parseMethodDescriptor yX12_failed.desc).map (fun d => d.parameters.length) = some 1 := by decide +kernel
theorem mdv_yX11_collect : yX11_collect.cls = RX11 ∧ yX11_collect.cls ≠ "java/lang/invoke/MethodHandle" ∧ yX11_collect.cls ≠ "java/lang/invoke/VarHandle" ∧ (parseMethodDescriptor yX11_collect.desc).map (fun d => d.parameters.length) = some 0 := by decide +kernel
theorem mdv_yX12_collect : yX12_collect.cls = RX12 ∧ yX12_collect.cls ≠ "java/lang/invoke/MethodHandle" ∧ yX12_collect.cls ≠ "java/lang/invoke/VarHandle" ∧ (parseMethodDescriptor yX12_collect.desc).map (fun d => d.parameters.length) = some 0 := by decide +kernel
theorem mdv_yX11_begin : yX11_begin.cls = RX11 ∧ yX11_begin.cls ≠ "java/lang/invoke/MethodHandle" ∧ yX11_begin.cls ≠ "java/lang/invoke/VarHandle" ∧ (parseMethodDescriptor yX11_begin.desc).map (fun d => d.parameters.length) = some 0 := by decide +kernel
theorem mdv_yX12_begin : yX12_begin.cls = RX12 ∧ yX12_begin.cls ≠ "java/lang/invoke/MethodHandle" ∧ yX12_begin.cls ≠ "java/lang/invoke/VarHandle" ∧ (parseMethodDescriptor yX12_begin.desc).map (fun d => d.parameters.length) = some 0 := by decide +kernel
theorem mdv_yX11_step : yX11_step.cls = RX11 ∧ yX11_step.cls ≠ "java/lang/invoke/MethodHandle" ∧ yX11_step.cls ≠ "java/lang/invoke/VarHandle" ∧ (parseMethodDescriptor yX11_step.desc).map (fun d => d.parameters.length) = some 1 := by decide +kernel
theorem mdv_yX12_step : yX12_step.cls = RX12 ∧ yX12_step.cls ≠ "java/lang/invoke/MethodHandle" ∧ yX12_step.cls ≠ "java/lang/invoke/VarHandle" ∧ (parseMethodDescriptor yX12_step.desc).map (fun d => d.parameters.length) = some 1 := by decide +kernel
theorem mdv_yX11_method : yX11_method.cls = RX11 ∧ yX11_method.cls ≠ "java/lang/invoke/MethodHandle" ∧ yX11_method.cls ≠ "java/lang/invoke/VarHandle" ∧ (parseMethodDescriptor yX11_method.desc).map (fun d => d.parameters.length) = some 1 := by decide +kernel
theorem mdv_yX12_method : yX12_method.cls = RX12 ∧ yX12_method.cls ≠ "java/lang/invoke/MethodHandle" ∧ yX12_method.cls ≠ "java/lang/invoke/VarHandle" ∧ (parseMethodDescriptor yX12_method.desc).map (fun d => d.parameters.length) = some 1 := by decide +kernel
theorem mdv_yX11_chance : yX11_chance.cls = RX11 ∧ yX11_chance.cls ≠ "java/lang/invoke/MethodHandle" ∧ yX11_chance.cls ≠ "java/lang/invoke/VarHandle" ∧ (parseMethodDescriptor yX11_chance.desc).map (fun d => d.parameters.length) = some 1 := by decide +kernel
theorem mdv_yX12_chance : yX12_chance.cls = RX12 ∧ yX12_chance.cls ≠ "java/lang/invoke/MethodHandle" ∧ yX12_chance.cls ≠ "java/lang/invoke/VarHandle" ∧ (parseMethodDescriptor yX12_chance.desc).map (fun d => d.parameters.length) = some 1 := by decide +kernel
theorem mdv_yX11_undo : yX11_undo.cls = RX11 ∧ yX11_undo.cls ≠ "java/lang/invoke/MethodHandle" ∧ yX11_undo.cls ≠ "java/lang/invoke/VarHandle" ∧ (parseMethodDescriptor yX11_undo.desc).map (fun d => d.parameters.length) = some 0 := by decide +kernel
theorem mdv_yX12_undo : yX12_undo.cls = RX12 ∧ yX12_undo.cls ≠ "java/lang/invoke/MethodHandle" ∧ yX12_undo.cls ≠ "java/lang/invoke/VarHandle" ∧ (parseMethodDescriptor yX12_undo.desc).map (fun d => d.parameters.length) = some 0 := by decide +kernel
theorem mdv_yX11_seed : yX11_seed.cls = RX11 ∧ yX11_seed.cls ≠ "java/lang/invoke/MethodHandle" ∧ yX11_seed.cls ≠ "java/lang/invoke/VarHandle" ∧ (parseMethodDescriptor yX11_seed.desc).map (fun d => d.parameters.length) = some 1 := by decide +kernel
theorem mdv_yX12_seed : yX12_seed.cls = RX12 ∧ yX12_seed.cls ≠ "java/lang/invoke/MethodHandle" ∧ yX12_seed.cls ≠ "java/lang/invoke/VarHandle" ∧ (parseMethodDescriptor yX12_seed.desc).map (fun d => d.parameters.length) = some 1 := by decide +kernel
theorem mdv_yX11_image : yX11_image.cls = RX11 ∧ yX11_image.cls ≠ "java/lang/invoke/MethodHandle" ∧ yX11_image.cls ≠ "java/lang/invoke/VarHandle" ∧ (parseMethodDescriptor yX11_image.desc).map (fun d => d.parameters.length) = some 0 := by decide +kernel
theorem mdv_yX12_image : yX12_image.cls = RX12 ∧ yX12_image.cls ≠ "java/lang/invoke/MethodHandle" ∧ yX12_image.cls ≠ "java/lang/invoke/VarHandle" ∧ (parseMethodDescriptor yX12_image.desc).map (fun d => d.parameters.length) = some 0 := by decide +kernel
theorem mdv_yX11_octet : yX11_octet.cls = RX11 ∧ yX11_octet.cls ≠ "java/lang/invoke/MethodHandle" ∧ yX11_octet.cls ≠ "java/lang/invoke/VarHandle" ∧ (parseMethodDescriptor yX11_octet.desc).map (fun d => d.parameters.length) = some 1 := by decide +kernel
theorem mdv_yX12_octet : yX12_octet.cls = RX12 ∧ yX12_octet.cls ≠ "java/lang/invoke/MethodHandle" ∧ yX12_octet.cls ≠ "java/lang/invoke/VarHandle" ∧ (parseMethodDescriptor yX12_octet.desc).map (fun d => d.parameters.length) = some 1 := by decide +kernel
theorem mdv_yX11_on : yX11_on.cls = RX11 ∧ yX11_on.cls ≠ "java/lang/invoke/MethodHandle" ∧ yX11_on.cls ≠ "java/lang/invoke/VarHandle" ∧ (parseMethodDescriptor yX11_on.desc).map (fun d => d.parameters.length) = some 0 := by decide +kernel
theorem mdv_yX12_on : yX12_on.cls = RX12 ∧ yX12_on.cls ≠ "java/lang/invoke/MethodHandle" ∧ yX12_on.cls ≠ "java/lang/invoke/VarHandle" ∧ (parseMethodDescriptor yX12_on.desc).map (fun d => d.parameters.length) = some 0 := by decide +kernel
theorem mdv_yX11_status : yX11_status.cls = RX11 ∧ yX11_status.cls ≠ "java/lang/invoke/MethodHandle" ∧ yX11_status.cls ≠ "java/lang/invoke/VarHandle" ∧ (parseMethodDescriptor yX11_status.desc).map (fun d => d.parameters.length) = some 1 := by decide +kernel
theorem mdv_yX12_status : yX12_status.cls = RX12 ∧ yX12_status.cls ≠ "java/lang/invoke/MethodHandle" ∧ yX12_status.cls ≠ "java/lang/invoke/VarHandle" ∧ (parseMethodDescriptor yX12_status.desc).map (fun d => d.parameters.length) = some 1 := by decide +kernel
theorem mds_yX11_init : yX11_init.cls ≠ "java/lang/invoke/MethodHandle" ∧ yX11_init.cls ≠ "java/lang/invoke/VarHandle" ∧ (parseMethodDescriptor yX11_init.desc).map (fun d => d.parameters.length) = some 0 := by decide +kernel
theorem mds_yX12_init : yX12_init.cls ≠ "java/lang/invoke/MethodHandle" ∧ yX12_init.cls ≠ "java/lang/invoke/VarHandle" ∧ (parseMethodDescriptor yX12_init.desc).map (fun d => d.parameters.length) = some 0 := by decide +kernel
theorem nd_X0 : ∀ j, j < 3 → defaultValue (tyX0 j) = vp_V [.null, .null, .long 0] j := by decide
theorem nd_X1 : ∀ j, j < 8 → defaultValue (tyX1 j) = vp_V [.null, .null, .null, .null, .null, .int 0, .int 0, .int 0] j := by decide
theorem nd_X10 : ∀ j, j < 10 → defaultValue (tyX10 j) = vp_V [.null, .int 0, .int 0, .int 0, .int 0, .int 0, .long 0, .int 0, .int 0, .int 0] j := by decide
theorem nd_X11 : ∀ j, j < 20 → defaultValue (tyX11 j) = vp_V [.null, .null, .null, .null, .null, .null, .null, .null, .null, .null, .null, .null, .null, .null, .null, .int 0, .int 0, .null, .int 0, .null] j := by decide
theorem nd_X12 : ∀ j, j < 84 → defaultValue (tyX12 j) = vp_V [.null, .int 0, .int 0, .int 0, .int 0, .int 0, .int 0, .int 0, .int 0, .null, .null, .null, .null, .null, .null, .null, .null, .null, .null, .null, .null, .null, .null, .null, .int 0, .int 0, .int 0, .int 0, .int 0, .null, .null, .null, .null, .null, .int 0, .null, .null, .null, .int 0, .int 0, .int 0, .null, .null, .null, .int 0, .null, .null, .int 0, .null, .null, .int 0, .null, .null, .int 0, .null, .null, .int 0, .int 0, .int 0, .null, .null, .int 0, .null, .null, .int 0, .null, .null, .null, .int 0, .int 0, .long 0, .null, .int 0, .int 0, .int 0, .int 0, .int 0, .int 0, .int 0, .null, .null, .null, .null, .int 0] j := by decide
theorem nd_X2 : ∀ j, j < 4 → defaultValue (tyX2 j) = vp_V [.int 0, .null, .null, .null] j := by decide
theorem nd_X3 : ∀ j, j < 3 → defaultValue (tyX3 j) = vp_V [.null, .null, .int 0] j := by decide
theorem nd_X4 : ∀ j, j < 6 → defaultValue (tyX4 j) = vp_V [.null, .null, .null, .int 0, .null, .int 0] j := by decide
theorem nd_X5 : ∀ j, j < 11 → defaultValue (tyX5 j) = vp_V [.null, .null, .null, .null, .null, .null, .int 0, .int 0, .int 0, .int 0, .int 0] j := by decide
theorem nd_X6 : ∀ j, j < 11 → defaultValue (tyX6 j) = vp_V [.null, .null, .null, .null, .int 0, .null, .int 0, .int 0, .int 0, .null, .null] j := by decide
theorem nd_X7 : ∀ j, j < 2 → defaultValue (tyX7 j) = vp_V [.null, .null] j := by decide
theorem nd_X8 : ∀ j, j < 14 → defaultValue (tyX8 j) = vp_V [.int 0, .int 0, .int 0, .null, .int 0, .int 0, .null, .int 0, .int 0, .int 0, .int 0, .int 0, .int 0, .null] j := by decide
theorem nd_X9 : ∀ j, j < 11 → defaultValue (tyX9 j) = vp_V [.null, .null, .null, .null, .null, .null, .null, .null, .int 0, .int 0, .int 0] j := by decide
