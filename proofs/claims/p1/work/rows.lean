section
-- ===== PART A: goes FIRST, ahead of the names: the tables' words, and 'selects' of the private methods out of them =====
/-- a private method of a class that the tables say can be made, by its rows of tables_1 -/
def lw_okq (q : MethodName × Nat) : Prop := (q.1.cls ≠ "java/lang/invoke/MethodHandle" ∧ q.1.cls ≠ "java/lang/invoke/VarHandle") ∧ Cond.instantiable q.1.cls q.2 ∈ tables_1 ∧ Cond.privateMethod q.1 ∈ tables_1 ∧ Cond.instanceMethod q.1 ∈ tables_1
theorem lw_p0 : lw_okq (⟨"CellSlide", "refuse", "(I)I"⟩, 20) := ⟨⟨by decide +kernel, by decide +kernel⟩, List.mem_of_getElem? (i := 22) (by decide +kernel), List.mem_of_getElem? (i := 510) (by decide +kernel), List.mem_of_getElem? (i := 511) (by decide +kernel)⟩
theorem lw_p1 : lw_okq (⟨"CellSlide", "deny", "(I)Z"⟩, 20) := ⟨⟨by decide +kernel, by decide +kernel⟩, List.mem_of_getElem? (i := 22) (by decide +kernel), List.mem_of_getElem? (i := 522) (by decide +kernel), List.mem_of_getElem? (i := 523) (by decide +kernel)⟩
theorem lw_p2 : lw_okq (⟨"CellSlide$Tape", "whichOwnWord", "()I"⟩, 10) := ⟨⟨by decide +kernel, by decide +kernel⟩, List.mem_of_getElem? (i := 30) (by decide +kernel), List.mem_of_getElem? (i := 568) (by decide +kernel), List.mem_of_getElem? (i := 569) (by decide +kernel)⟩
theorem lw_p3 : lw_okq (⟨"CellSlide$HeapText", "statement", "()Z"⟩, 8) := ⟨⟨by decide +kernel, by decide +kernel⟩, List.mem_of_getElem? (i := 261) (by decide +kernel), List.mem_of_getElem? (i := 621) (by decide +kernel), List.mem_of_getElem? (i := 622) (by decide +kernel)⟩
theorem lw_p4 : lw_okq (⟨"CellSlide$HeapText", "heapStatement", "()Z"⟩, 8) := ⟨⟨by decide +kernel, by decide +kernel⟩, List.mem_of_getElem? (i := 261) (by decide +kernel), List.mem_of_getElem? (i := 625) (by decide +kernel), List.mem_of_getElem? (i := 626) (by decide +kernel)⟩
theorem lw_p5 : lw_okq (⟨"CellSlide$HeapText", "kindStatement", "()Z"⟩, 8) := ⟨⟨by decide +kernel, by decide +kernel⟩, List.mem_of_getElem? (i := 261) (by decide +kernel), List.mem_of_getElem? (i := 636) (by decide +kernel), List.mem_of_getElem? (i := 637) (by decide +kernel)⟩
theorem lw_p6 : lw_okq (⟨"CellSlide$HeapText", "takesNewName", "()Z"⟩, 8) := ⟨⟨by decide +kernel, by decide +kernel⟩, List.mem_of_getElem? (i := 261) (by decide +kernel), List.mem_of_getElem? (i := 640) (by decide +kernel), List.mem_of_getElem? (i := 641) (by decide +kernel)⟩
theorem lw_p7 : lw_okq (⟨"CellSlide$HeapText", "cellNamed", "(J)I"⟩, 8) := ⟨⟨by decide +kernel, by decide +kernel⟩, List.mem_of_getElem? (i := 261) (by decide +kernel), List.mem_of_getElem? (i := 653) (by decide +kernel), List.mem_of_getElem? (i := 654) (by decide +kernel)⟩
theorem lw_p8 : lw_okq (⟨"CellSlide$HeapText", "cellStatement", "()Z"⟩, 8) := ⟨⟨by decide +kernel, by decide +kernel⟩, List.mem_of_getElem? (i := 261) (by decide +kernel), List.mem_of_getElem? (i := 661) (by decide +kernel), List.mem_of_getElem? (i := 662) (by decide +kernel)⟩
theorem lw_p9 : lw_okq (⟨"CellSlide$HeapText", "takesItem", "(I)Z"⟩, 8) := ⟨⟨by decide +kernel, by decide +kernel⟩, List.mem_of_getElem? (i := 261) (by decide +kernel), List.mem_of_getElem? (i := 682) (by decide +kernel), List.mem_of_getElem? (i := 683) (by decide +kernel)⟩
theorem lw_p10 : lw_okq (⟨"CellSlide$HeapText", "takesPointer", "()Z"⟩, 8) := ⟨⟨by decide +kernel, by decide +kernel⟩, List.mem_of_getElem? (i := 261) (by decide +kernel), List.mem_of_getElem? (i := 687) (by decide +kernel), List.mem_of_getElem? (i := 688) (by decide +kernel)⟩
theorem lw_p11 : lw_okq (⟨"CellSlide$HeapText", "setStatement", "()Z"⟩, 8) := ⟨⟨by decide +kernel, by decide +kernel⟩, List.mem_of_getElem? (i := 261) (by decide +kernel), List.mem_of_getElem? (i := 700) (by decide +kernel), List.mem_of_getElem? (i := 701) (by decide +kernel)⟩
theorem lw_p12 : lw_okq (⟨"CellSlide$HeapText", "rootStatement", "()Z"⟩, 8) := ⟨⟨by decide +kernel, by decide +kernel⟩, List.mem_of_getElem? (i := 261) (by decide +kernel), List.mem_of_getElem? (i := 704) (by decide +kernel), List.mem_of_getElem? (i := 705) (by decide +kernel)⟩
theorem lw_p13 : lw_okq (⟨"CellSlide$HeapText", "methodStatement", "()Z"⟩, 8) := ⟨⟨by decide +kernel, by decide +kernel⟩, List.mem_of_getElem? (i := 261) (by decide +kernel), List.mem_of_getElem? (i := 708) (by decide +kernel), List.mem_of_getElem? (i := 709) (by decide +kernel)⟩
theorem lw_p14 : lw_okq (⟨"CellSlide", "ready", "()Z"⟩, 20) := ⟨⟨by decide +kernel, by decide +kernel⟩, List.mem_of_getElem? (i := 22) (by decide +kernel), List.mem_of_getElem? (i := 789) (by decide +kernel), List.mem_of_getElem? (i := 790) (by decide +kernel)⟩
theorem lw_p15 : lw_okq (⟨"CellSlide", "isLive", "(I)Z"⟩, 20) := ⟨⟨by decide +kernel, by decide +kernel⟩, List.mem_of_getElem? (i := 22) (by decide +kernel), List.mem_of_getElem? (i := 798) (by decide +kernel), List.mem_of_getElem? (i := 799) (by decide +kernel)⟩
def lw_privs_1 : List (MethodName × Nat) := [(⟨"CellSlide", "refuse", "(I)I"⟩, 20), (⟨"CellSlide", "deny", "(I)Z"⟩, 20), (⟨"CellSlide$Tape", "whichOwnWord", "()I"⟩, 10), (⟨"CellSlide$HeapText", "statement", "()Z"⟩, 8), (⟨"CellSlide$HeapText", "heapStatement", "()Z"⟩, 8), (⟨"CellSlide$HeapText", "kindStatement", "()Z"⟩, 8), (⟨"CellSlide$HeapText", "takesNewName", "()Z"⟩, 8), (⟨"CellSlide$HeapText", "cellNamed", "(J)I"⟩, 8), (⟨"CellSlide$HeapText", "cellStatement", "()Z"⟩, 8), (⟨"CellSlide$HeapText", "takesItem", "(I)Z"⟩, 8), (⟨"CellSlide$HeapText", "takesPointer", "()Z"⟩, 8), (⟨"CellSlide$HeapText", "setStatement", "()Z"⟩, 8), (⟨"CellSlide$HeapText", "rootStatement", "()Z"⟩, 8), (⟨"CellSlide$HeapText", "methodStatement", "()Z"⟩, 8), (⟨"CellSlide", "ready", "()Z"⟩, 20), (⟨"CellSlide", "isLive", "(I)Z"⟩, 20)]
theorem lw_r1 : ∀ q ∈ lw_privs_1, lw_okq q := List.forall_mem_cons.mpr ⟨lw_p0, List.forall_mem_cons.mpr ⟨lw_p1, List.forall_mem_cons.mpr ⟨lw_p2, List.forall_mem_cons.mpr ⟨lw_p3, List.forall_mem_cons.mpr ⟨lw_p4, List.forall_mem_cons.mpr ⟨lw_p5, List.forall_mem_cons.mpr ⟨lw_p6, List.forall_mem_cons.mpr ⟨lw_p7, List.forall_mem_cons.mpr ⟨lw_p8, List.forall_mem_cons.mpr ⟨lw_p9, List.forall_mem_cons.mpr ⟨lw_p10, List.forall_mem_cons.mpr ⟨lw_p11, List.forall_mem_cons.mpr ⟨lw_p12, List.forall_mem_cons.mpr ⟨lw_p13, List.forall_mem_cons.mpr ⟨lw_p14, List.forall_mem_cons.mpr ⟨lw_p15, fun _ h => absurd h List.not_mem_nil⟩⟩⟩⟩⟩⟩⟩⟩⟩⟩⟩⟩⟩⟩⟩⟩
theorem lw_p16 : lw_okq (⟨"CellSlide", "inCell", "(I)Z"⟩, 20) := ⟨⟨by decide +kernel, by decide +kernel⟩, List.mem_of_getElem? (i := 22) (by decide +kernel), List.mem_of_getElem? (i := 802) (by decide +kernel), List.mem_of_getElem? (i := 803) (by decide +kernel)⟩
theorem lw_p17 : lw_okq (⟨"CellSlide", "inHeap", "(I)Z"⟩, 20) := ⟨⟨by decide +kernel, by decide +kernel⟩, List.mem_of_getElem? (i := 22) (by decide +kernel), List.mem_of_getElem? (i := 806) (by decide +kernel), List.mem_of_getElem? (i := 807) (by decide +kernel)⟩
theorem lw_p18 : lw_okq (⟨"CellSlide$Survey", "layOut", "(LCellSlide$State;)V"⟩, 11) := ⟨⟨by decide +kernel, by decide +kernel⟩, List.mem_of_getElem? (i := 202) (by decide +kernel), List.mem_of_getElem? (i := 815) (by decide +kernel), List.mem_of_getElem? (i := 816) (by decide +kernel)⟩
theorem lw_p19 : lw_okq (⟨"CellSlide$Survey", "reach", "(III)V"⟩, 11) := ⟨⟨by decide +kernel, by decide +kernel⟩, List.mem_of_getElem? (i := 202) (by decide +kernel), List.mem_of_getElem? (i := 822) (by decide +kernel), List.mem_of_getElem? (i := 823) (by decide +kernel)⟩
theorem lw_p20 : lw_okq (⟨"CellSlide$Survey", "shapeOf", "(I)I"⟩, 11) := ⟨⟨by decide +kernel, by decide +kernel⟩, List.mem_of_getElem? (i := 202) (by decide +kernel), List.mem_of_getElem? (i := 941) (by decide +kernel), List.mem_of_getElem? (i := 942) (by decide +kernel)⟩
theorem lw_p21 : lw_okq (⟨"CellSlide$Slide", "clearWeak", "(LCellSlide$State;)V"⟩, 2) := ⟨⟨by decide +kernel, by decide +kernel⟩, List.mem_of_getElem? (i := 248) (by decide +kernel), List.mem_of_getElem? (i := 985) (by decide +kernel), List.mem_of_getElem? (i := 986) (by decide +kernel)⟩
theorem lw_p22 : lw_okq (⟨"CellSlide$Slide", "threadRegister", "(LCellSlide$State;I)V"⟩, 2) := ⟨⟨by decide +kernel, by decide +kernel⟩, List.mem_of_getElem? (i := 248) (by decide +kernel), List.mem_of_getElem? (i := 992) (by decide +kernel), List.mem_of_getElem? (i := 993) (by decide +kernel)⟩
theorem lw_p23 : lw_okq (⟨"CellSlide$Slide", "forward", "(LCellSlide$State;I)V"⟩, 2) := ⟨⟨by decide +kernel, by decide +kernel⟩, List.mem_of_getElem? (i := 248) (by decide +kernel), List.mem_of_getElem? (i := 999) (by decide +kernel), List.mem_of_getElem? (i := 1000) (by decide +kernel)⟩
theorem lw_p24 : lw_okq (⟨"CellSlide$Slide", "backward", "(LCellSlide$State;I)V"⟩, 2) := ⟨⟨by decide +kernel, by decide +kernel⟩, List.mem_of_getElem? (i := 248) (by decide +kernel), List.mem_of_getElem? (i := 1006) (by decide +kernel), List.mem_of_getElem? (i := 1007) (by decide +kernel)⟩
theorem lw_p25 : lw_okq (⟨"CellSlide$Slide", "moveBlock", "(LCellSlide$State;I)V"⟩, 2) := ⟨⟨by decide +kernel, by decide +kernel⟩, List.mem_of_getElem? (i := 248) (by decide +kernel), List.mem_of_getElem? (i := 1010) (by decide +kernel), List.mem_of_getElem? (i := 1011) (by decide +kernel)⟩
theorem lw_p26 : lw_okq (⟨"CellSlide$Slide", "raise", "(LCellSlide$State;I)V"⟩, 2) := ⟨⟨by decide +kernel, by decide +kernel⟩, List.mem_of_getElem? (i := 248) (by decide +kernel), List.mem_of_getElem? (i := 1017) (by decide +kernel), List.mem_of_getElem? (i := 1018) (by decide +kernel)⟩
theorem lw_p27 : lw_okq (⟨"CellSlide$Sight", "isAsSeen", "()Z"⟩, 11) := ⟨⟨by decide +kernel, by decide +kernel⟩, List.mem_of_getElem? (i := 379) (by decide +kernel), List.mem_of_getElem? (i := 1025) (by decide +kernel), List.mem_of_getElem? (i := 1026) (by decide +kernel)⟩
theorem lw_p28 : lw_okq (⟨"CellSlide$Sight", "mostAlike", "(I)I"⟩, 11) := ⟨⟨by decide +kernel, by decide +kernel⟩, List.mem_of_getElem? (i := 379) (by decide +kernel), List.mem_of_getElem? (i := 1038) (by decide +kernel), List.mem_of_getElem? (i := 1039) (by decide +kernel)⟩
theorem lw_p29 : lw_okq (⟨"CellSlide$RunText", "close", "()V"⟩, 6) := ⟨⟨by decide +kernel, by decide +kernel⟩, List.mem_of_getElem? (i := 293) (by decide +kernel), List.mem_of_getElem? (i := 1054) (by decide +kernel), List.mem_of_getElem? (i := 1055) (by decide +kernel)⟩
theorem lw_p30 : lw_okq (⟨"CellSlide$RunText", "emit", "(I)V"⟩, 6) := ⟨⟨by decide +kernel, by decide +kernel⟩, List.mem_of_getElem? (i := 293) (by decide +kernel), List.mem_of_getElem? (i := 1058) (by decide +kernel), List.mem_of_getElem? (i := 1059) (by decide +kernel)⟩
theorem lw_p31 : lw_okq (⟨"CellSlide$RunText", "slideAct", "()Z"⟩, 6) := ⟨⟨by decide +kernel, by decide +kernel⟩, List.mem_of_getElem? (i := 293) (by decide +kernel), List.mem_of_getElem? (i := 1063) (by decide +kernel), List.mem_of_getElem? (i := 1064) (by decide +kernel)⟩
def lw_privs_2 : List (MethodName × Nat) := [(⟨"CellSlide", "inCell", "(I)Z"⟩, 20), (⟨"CellSlide", "inHeap", "(I)Z"⟩, 20), (⟨"CellSlide$Survey", "layOut", "(LCellSlide$State;)V"⟩, 11), (⟨"CellSlide$Survey", "reach", "(III)V"⟩, 11), (⟨"CellSlide$Survey", "shapeOf", "(I)I"⟩, 11), (⟨"CellSlide$Slide", "clearWeak", "(LCellSlide$State;)V"⟩, 2), (⟨"CellSlide$Slide", "threadRegister", "(LCellSlide$State;I)V"⟩, 2), (⟨"CellSlide$Slide", "forward", "(LCellSlide$State;I)V"⟩, 2), (⟨"CellSlide$Slide", "backward", "(LCellSlide$State;I)V"⟩, 2), (⟨"CellSlide$Slide", "moveBlock", "(LCellSlide$State;I)V"⟩, 2), (⟨"CellSlide$Slide", "raise", "(LCellSlide$State;I)V"⟩, 2), (⟨"CellSlide$Sight", "isAsSeen", "()Z"⟩, 11), (⟨"CellSlide$Sight", "mostAlike", "(I)I"⟩, 11), (⟨"CellSlide$RunText", "close", "()V"⟩, 6), (⟨"CellSlide$RunText", "emit", "(I)V"⟩, 6), (⟨"CellSlide$RunText", "slideAct", "()Z"⟩, 6)]
theorem lw_r2 : ∀ q ∈ lw_privs_2, lw_okq q := List.forall_mem_cons.mpr ⟨lw_p16, List.forall_mem_cons.mpr ⟨lw_p17, List.forall_mem_cons.mpr ⟨lw_p18, List.forall_mem_cons.mpr ⟨lw_p19, List.forall_mem_cons.mpr ⟨lw_p20, List.forall_mem_cons.mpr ⟨lw_p21, List.forall_mem_cons.mpr ⟨lw_p22, List.forall_mem_cons.mpr ⟨lw_p23, List.forall_mem_cons.mpr ⟨lw_p24, List.forall_mem_cons.mpr ⟨lw_p25, List.forall_mem_cons.mpr ⟨lw_p26, List.forall_mem_cons.mpr ⟨lw_p27, List.forall_mem_cons.mpr ⟨lw_p28, List.forall_mem_cons.mpr ⟨lw_p29, List.forall_mem_cons.mpr ⟨lw_p30, List.forall_mem_cons.mpr ⟨lw_p31, fun _ h => absurd h List.not_mem_nil⟩⟩⟩⟩⟩⟩⟩⟩⟩⟩⟩⟩⟩⟩⟩⟩
theorem lw_p32 : lw_okq (⟨"CellSlide$RunText", "repeatAct", "()Z"⟩, 6) := ⟨⟨by decide +kernel, by decide +kernel⟩, List.mem_of_getElem? (i := 293) (by decide +kernel), List.mem_of_getElem? (i := 1068) (by decide +kernel), List.mem_of_getElem? (i := 1069) (by decide +kernel)⟩
theorem lw_p33 : lw_okq (⟨"CellSlide$RunText", "opens", "(I)Z"⟩, 6) := ⟨⟨by decide +kernel, by decide +kernel⟩, List.mem_of_getElem? (i := 293) (by decide +kernel), List.mem_of_getElem? (i := 1073) (by decide +kernel), List.mem_of_getElem? (i := 1074) (by decide +kernel)⟩
theorem lw_p34 : lw_okq (⟨"CellSlide$RunText", "whenAct", "()Z"⟩, 6) := ⟨⟨by decide +kernel, by decide +kernel⟩, List.mem_of_getElem? (i := 293) (by decide +kernel), List.mem_of_getElem? (i := 1078) (by decide +kernel), List.mem_of_getElem? (i := 1079) (by decide +kernel)⟩
theorem lw_p35 : lw_okq (⟨"CellSlide$RunText", "taken", "(Z)Z"⟩, 6) := ⟨⟨by decide +kernel, by decide +kernel⟩, List.mem_of_getElem? (i := 293) (by decide +kernel), List.mem_of_getElem? (i := 1082) (by decide +kernel), List.mem_of_getElem? (i := 1083) (by decide +kernel)⟩
theorem lw_p36 : lw_okq (⟨"CellSlide$RunText", "made", "()Z"⟩, 6) := ⟨⟨by decide +kernel, by decide +kernel⟩, List.mem_of_getElem? (i := 293) (by decide +kernel), List.mem_of_getElem? (i := 1087) (by decide +kernel), List.mem_of_getElem? (i := 1088) (by decide +kernel)⟩
theorem lw_p37 : lw_okq (⟨"CellSlide$RunText", "path", "()Z"⟩, 6) := ⟨⟨by decide +kernel, by decide +kernel⟩, List.mem_of_getElem? (i := 293) (by decide +kernel), List.mem_of_getElem? (i := 1093) (by decide +kernel), List.mem_of_getElem? (i := 1094) (by decide +kernel)⟩
theorem lw_p38 : lw_okq (⟨"CellSlide$RunText", "moved", "()Z"⟩, 6) := ⟨⟨by decide +kernel, by decide +kernel⟩, List.mem_of_getElem? (i := 293) (by decide +kernel), List.mem_of_getElem? (i := 1101) (by decide +kernel), List.mem_of_getElem? (i := 1102) (by decide +kernel)⟩
theorem lw_p39 : lw_okq (⟨"CellSlide$RunText", "setAct", "()Z"⟩, 6) := ⟨⟨by decide +kernel, by decide +kernel⟩, List.mem_of_getElem? (i := 293) (by decide +kernel), List.mem_of_getElem? (i := 1105) (by decide +kernel), List.mem_of_getElem? (i := 1106) (by decide +kernel)⟩
theorem lw_p40 : lw_okq (⟨"CellSlide", "keepForUndo", "()V"⟩, 20) := ⟨⟨by decide +kernel, by decide +kernel⟩, List.mem_of_getElem? (i := 22) (by decide +kernel), List.mem_of_getElem? (i := 1109) (by decide +kernel), List.mem_of_getElem? (i := 1110) (by decide +kernel)⟩
theorem lw_p41 : lw_okq (⟨"CellSlide$Runner", "slideAct", "(I)I"⟩, 11) := ⟨⟨by decide +kernel, by decide +kernel⟩, List.mem_of_getElem? (i := 320) (by decide +kernel), List.mem_of_getElem? (i := 1122) (by decide +kernel), List.mem_of_getElem? (i := 1123) (by decide +kernel)⟩
theorem lw_p42 : lw_okq (⟨"CellSlide$Runner", "mayBegin", "(I)Z"⟩, 11) := ⟨⟨by decide +kernel, by decide +kernel⟩, List.mem_of_getElem? (i := 320) (by decide +kernel), List.mem_of_getElem? (i := 1126) (by decide +kernel), List.mem_of_getElem? (i := 1127) (by decide +kernel)⟩
theorem lw_p43 : lw_okq (⟨"CellSlide$Runner", "fail", "(II)V"⟩, 11) := ⟨⟨by decide +kernel, by decide +kernel⟩, List.mem_of_getElem? (i := 320) (by decide +kernel), List.mem_of_getElem? (i := 1130) (by decide +kernel), List.mem_of_getElem? (i := 1131) (by decide +kernel)⟩
theorem lw_p44 : lw_okq (⟨"CellSlide$Runner", "enterRepeat", "(I)I"⟩, 11) := ⟨⟨by decide +kernel, by decide +kernel⟩, List.mem_of_getElem? (i := 320) (by decide +kernel), List.mem_of_getElem? (i := 1141) (by decide +kernel), List.mem_of_getElem? (i := 1142) (by decide +kernel)⟩
theorem lw_p45 : lw_okq (⟨"CellSlide$Runner", "nextRound", "(I)I"⟩, 11) := ⟨⟨by decide +kernel, by decide +kernel⟩, List.mem_of_getElem? (i := 320) (by decide +kernel), List.mem_of_getElem? (i := 1145) (by decide +kernel), List.mem_of_getElem? (i := 1146) (by decide +kernel)⟩
theorem lw_p46 : lw_okq (⟨"CellSlide$Runner", "whenAct", "(I)I"⟩, 11) := ⟨⟨by decide +kernel, by decide +kernel⟩, List.mem_of_getElem? (i := 320) (by decide +kernel), List.mem_of_getElem? (i := 1150) (by decide +kernel), List.mem_of_getElem? (i := 1151) (by decide +kernel)⟩
theorem lw_p47 : lw_okq (⟨"CellSlide$Runner", "take", "(I)I"⟩, 11) := ⟨⟨by decide +kernel, by decide +kernel⟩, List.mem_of_getElem? (i := 320) (by decide +kernel), List.mem_of_getElem? (i := 1154) (by decide +kernel), List.mem_of_getElem? (i := 1155) (by decide +kernel)⟩
def lw_privs_3 : List (MethodName × Nat) := [(⟨"CellSlide$RunText", "repeatAct", "()Z"⟩, 6), (⟨"CellSlide$RunText", "opens", "(I)Z"⟩, 6), (⟨"CellSlide$RunText", "whenAct", "()Z"⟩, 6), (⟨"CellSlide$RunText", "taken", "(Z)Z"⟩, 6), (⟨"CellSlide$RunText", "made", "()Z"⟩, 6), (⟨"CellSlide$RunText", "path", "()Z"⟩, 6), (⟨"CellSlide$RunText", "moved", "()Z"⟩, 6), (⟨"CellSlide$RunText", "setAct", "()Z"⟩, 6), (⟨"CellSlide", "keepForUndo", "()V"⟩, 20), (⟨"CellSlide$Runner", "slideAct", "(I)I"⟩, 11), (⟨"CellSlide$Runner", "mayBegin", "(I)Z"⟩, 11), (⟨"CellSlide$Runner", "fail", "(II)V"⟩, 11), (⟨"CellSlide$Runner", "enterRepeat", "(I)I"⟩, 11), (⟨"CellSlide$Runner", "nextRound", "(I)I"⟩, 11), (⟨"CellSlide$Runner", "whenAct", "(I)I"⟩, 11), (⟨"CellSlide$Runner", "take", "(I)I"⟩, 11)]
theorem lw_r3 : ∀ q ∈ lw_privs_3, lw_okq q := List.forall_mem_cons.mpr ⟨lw_p32, List.forall_mem_cons.mpr ⟨lw_p33, List.forall_mem_cons.mpr ⟨lw_p34, List.forall_mem_cons.mpr ⟨lw_p35, List.forall_mem_cons.mpr ⟨lw_p36, List.forall_mem_cons.mpr ⟨lw_p37, List.forall_mem_cons.mpr ⟨lw_p38, List.forall_mem_cons.mpr ⟨lw_p39, List.forall_mem_cons.mpr ⟨lw_p40, List.forall_mem_cons.mpr ⟨lw_p41, List.forall_mem_cons.mpr ⟨lw_p42, List.forall_mem_cons.mpr ⟨lw_p43, List.forall_mem_cons.mpr ⟨lw_p44, List.forall_mem_cons.mpr ⟨lw_p45, List.forall_mem_cons.mpr ⟨lw_p46, List.forall_mem_cons.mpr ⟨lw_p47, fun _ h => absurd h List.not_mem_nil⟩⟩⟩⟩⟩⟩⟩⟩⟩⟩⟩⟩⟩⟩⟩⟩
theorem lw_p48 : lw_okq (⟨"CellSlide$Runner", "locate", "(I)I"⟩, 11) := ⟨⟨by decide +kernel, by decide +kernel⟩, List.mem_of_getElem? (i := 320) (by decide +kernel), List.mem_of_getElem? (i := 1158) (by decide +kernel), List.mem_of_getElem? (i := 1159) (by decide +kernel)⟩
theorem lw_p49 : lw_okq (⟨"CellSlide$Runner", "fieldOf", "(III)I"⟩, 11) := ⟨⟨by decide +kernel, by decide +kernel⟩, List.mem_of_getElem? (i := 320) (by decide +kernel), List.mem_of_getElem? (i := 1163) (by decide +kernel), List.mem_of_getElem? (i := 1164) (by decide +kernel)⟩
theorem lw_p50 : lw_okq (⟨"CellSlide$Runner", "move", "(III)I"⟩, 11) := ⟨⟨by decide +kernel, by decide +kernel⟩, List.mem_of_getElem? (i := 320) (by decide +kernel), List.mem_of_getElem? (i := 1170) (by decide +kernel), List.mem_of_getElem? (i := 1171) (by decide +kernel)⟩
theorem lw_p51 : lw_okq (⟨"CellSlide$Runner", "setAct", "(I)I"⟩, 11) := ⟨⟨by decide +kernel, by decide +kernel⟩, List.mem_of_getElem? (i := 320) (by decide +kernel), List.mem_of_getElem? (i := 1177) (by decide +kernel), List.mem_of_getElem? (i := 1178) (by decide +kernel)⟩
theorem lw_p52 : lw_okq (⟨"CellSlide$Runner", "fits", "(II)Z"⟩, 11) := ⟨⟨by decide +kernel, by decide +kernel⟩, List.mem_of_getElem? (i := 320) (by decide +kernel), List.mem_of_getElem? (i := 1187) (by decide +kernel), List.mem_of_getElem? (i := 1188) (by decide +kernel)⟩
theorem lw_p53 : lw_okq (⟨"CellSlide$Changes", "draw", "(I)I"⟩, 3) := ⟨⟨by decide +kernel, by decide +kernel⟩, List.mem_of_getElem? (i := 362) (by decide +kernel), List.mem_of_getElem? (i := 1223) (by decide +kernel), List.mem_of_getElem? (i := 1224) (by decide +kernel)⟩
theorem lw_p54 : lw_okq (⟨"CellSlide$Changes", "pointToNew", "(LCellSlide$State;I)V"⟩, 3) := ⟨⟨by decide +kernel, by decide +kernel⟩, List.mem_of_getElem? (i := 362) (by decide +kernel), List.mem_of_getElem? (i := 1231) (by decide +kernel), List.mem_of_getElem? (i := 1232) (by decide +kernel)⟩
theorem lw_p55 : lw_okq (⟨"CellSlide$Changes", "exchange", "(LCellSlide$State;IZ)V"⟩, 3) := ⟨⟨by decide +kernel, by decide +kernel⟩, List.mem_of_getElem? (i := 362) (by decide +kernel), List.mem_of_getElem? (i := 1237) (by decide +kernel), List.mem_of_getElem? (i := 1238) (by decide +kernel)⟩
theorem lw_p56 : lw_okq (⟨"CellSlide$Changes", "pointElsewhere", "(LCellSlide$State;I)V"⟩, 3) := ⟨⟨by decide +kernel, by decide +kernel⟩, List.mem_of_getElem? (i := 362) (by decide +kernel), List.mem_of_getElem? (i := 1247) (by decide +kernel), List.mem_of_getElem? (i := 1248) (by decide +kernel)⟩
theorem lw_p57 : lw_okq (⟨"CellSlide$Picture", "writeHeld", "(I)V"⟩, 3) := ⟨⟨by decide +kernel, by decide +kernel⟩, List.mem_of_getElem? (i := 426) (by decide +kernel), List.mem_of_getElem? (i := 1268) (by decide +kernel), List.mem_of_getElem? (i := 1269) (by decide +kernel)⟩
theorem lw_p58 : lw_okq (⟨"CellSlide$Picture", "isOfCells", "(LCellSlide$State;)Z"⟩, 3) := ⟨⟨by decide +kernel, by decide +kernel⟩, List.mem_of_getElem? (i := 426) (by decide +kernel), List.mem_of_getElem? (i := 1299) (by decide +kernel), List.mem_of_getElem? (i := 1300) (by decide +kernel)⟩
theorem lw_p59 : lw_okq (⟨"CellSlideModel", "refuses", "(I)I"⟩, 84) := ⟨⟨by decide +kernel, by decide +kernel⟩, List.mem_of_getElem? (i := 1309) (by decide +kernel), List.mem_of_getElem? (i := 1575) (by decide +kernel), List.mem_of_getElem? (i := 1576) (by decide +kernel)⟩
theorem lw_p60 : lw_okq (⟨"CellSlideModel", "isRefused", "(I)Z"⟩, 84) := ⟨⟨by decide +kernel, by decide +kernel⟩, List.mem_of_getElem? (i := 1309) (by decide +kernel), List.mem_of_getElem? (i := 1583) (by decide +kernel), List.mem_of_getElem? (i := 1584) (by decide +kernel)⟩
theorem lw_p61 : lw_okq (⟨"CellSlideModel", "begins", "()V"⟩, 84) := ⟨⟨by decide +kernel, by decide +kernel⟩, List.mem_of_getElem? (i := 1309) (by decide +kernel), List.mem_of_getElem? (i := 1603) (by decide +kernel), List.mem_of_getElem? (i := 1604) (by decide +kernel)⟩
theorem lw_p62 : lw_okq (⟨"CellSlideModel", "asks", "([C)V"⟩, 84) := ⟨⟨by decide +kernel, by decide +kernel⟩, List.mem_of_getElem? (i := 1309) (by decide +kernel), List.mem_of_getElem? (i := 1613) (by decide +kernel), List.mem_of_getElem? (i := 1614) (by decide +kernel)⟩
theorem lw_p63 : lw_okq (⟨"CellSlideModel", "takes", "([C)Z"⟩, 84) := ⟨⟨by decide +kernel, by decide +kernel⟩, List.mem_of_getElem? (i := 1309) (by decide +kernel), List.mem_of_getElem? (i := 1617) (by decide +kernel), List.mem_of_getElem? (i := 1618) (by decide +kernel)⟩
def lw_privs_4 : List (MethodName × Nat) := [(⟨"CellSlide$Runner", "locate", "(I)I"⟩, 11), (⟨"CellSlide$Runner", "fieldOf", "(III)I"⟩, 11), (⟨"CellSlide$Runner", "move", "(III)I"⟩, 11), (⟨"CellSlide$Runner", "setAct", "(I)I"⟩, 11), (⟨"CellSlide$Runner", "fits", "(II)Z"⟩, 11), (⟨"CellSlide$Changes", "draw", "(I)I"⟩, 3), (⟨"CellSlide$Changes", "pointToNew", "(LCellSlide$State;I)V"⟩, 3), (⟨"CellSlide$Changes", "exchange", "(LCellSlide$State;IZ)V"⟩, 3), (⟨"CellSlide$Changes", "pointElsewhere", "(LCellSlide$State;I)V"⟩, 3), (⟨"CellSlide$Picture", "writeHeld", "(I)V"⟩, 3), (⟨"CellSlide$Picture", "isOfCells", "(LCellSlide$State;)Z"⟩, 3), (⟨"CellSlideModel", "refuses", "(I)I"⟩, 84), (⟨"CellSlideModel", "isRefused", "(I)Z"⟩, 84), (⟨"CellSlideModel", "begins", "()V"⟩, 84), (⟨"CellSlideModel", "asks", "([C)V"⟩, 84), (⟨"CellSlideModel", "takes", "([C)Z"⟩, 84)]
theorem lw_r4 : ∀ q ∈ lw_privs_4, lw_okq q := List.forall_mem_cons.mpr ⟨lw_p48, List.forall_mem_cons.mpr ⟨lw_p49, List.forall_mem_cons.mpr ⟨lw_p50, List.forall_mem_cons.mpr ⟨lw_p51, List.forall_mem_cons.mpr ⟨lw_p52, List.forall_mem_cons.mpr ⟨lw_p53, List.forall_mem_cons.mpr ⟨lw_p54, List.forall_mem_cons.mpr ⟨lw_p55, List.forall_mem_cons.mpr ⟨lw_p56, List.forall_mem_cons.mpr ⟨lw_p57, List.forall_mem_cons.mpr ⟨lw_p58, List.forall_mem_cons.mpr ⟨lw_p59, List.forall_mem_cons.mpr ⟨lw_p60, List.forall_mem_cons.mpr ⟨lw_p61, List.forall_mem_cons.mpr ⟨lw_p62, List.forall_mem_cons.mpr ⟨lw_p63, fun _ h => absurd h List.not_mem_nil⟩⟩⟩⟩⟩⟩⟩⟩⟩⟩⟩⟩⟩⟩⟩⟩
theorem lw_p64 : lw_okq (⟨"CellSlideModel", "isHere", "([C)Z"⟩, 84) := ⟨⟨by decide +kernel, by decide +kernel⟩, List.mem_of_getElem? (i := 1309) (by decide +kernel), List.mem_of_getElem? (i := 1621) (by decide +kernel), List.mem_of_getElem? (i := 1622) (by decide +kernel)⟩
theorem lw_p65 : lw_okq (⟨"CellSlideModel", "look", "()I"⟩, 84) := ⟨⟨by decide +kernel, by decide +kernel⟩, List.mem_of_getElem? (i := 1309) (by decide +kernel), List.mem_of_getElem? (i := 1625) (by decide +kernel), List.mem_of_getElem? (i := 1626) (by decide +kernel)⟩
theorem lw_p66 : lw_okq (⟨"CellSlideModel", "fail", "(II)V"⟩, 84) := ⟨⟨by decide +kernel, by decide +kernel⟩, List.mem_of_getElem? (i := 1309) (by decide +kernel), List.mem_of_getElem? (i := 1632) (by decide +kernel), List.mem_of_getElem? (i := 1633) (by decide +kernel)⟩
theorem lw_p67 : lw_okq (⟨"CellSlideModel", "number", "(II)I"⟩, 84) := ⟨⟨by decide +kernel, by decide +kernel⟩, List.mem_of_getElem? (i := 1309) (by decide +kernel), List.mem_of_getElem? (i := 1636) (by decide +kernel), List.mem_of_getElem? (i := 1637) (by decide +kernel)⟩
theorem lw_p68 : lw_okq (⟨"CellSlideModel", "isNumberHere", "()Z"⟩, 84) := ⟨⟨by decide +kernel, by decide +kernel⟩, List.mem_of_getElem? (i := 1309) (by decide +kernel), List.mem_of_getElem? (i := 1640) (by decide +kernel), List.mem_of_getElem? (i := 1641) (by decide +kernel)⟩
theorem lw_p69 : lw_okq (⟨"CellSlideModel", "asksSign", "(I)V"⟩, 84) := ⟨⟨by decide +kernel, by decide +kernel⟩, List.mem_of_getElem? (i := 1309) (by decide +kernel), List.mem_of_getElem? (i := 1647) (by decide +kernel), List.mem_of_getElem? (i := 1648) (by decide +kernel)⟩
theorem lw_p70 : lw_okq (⟨"CellSlideModel", "takesSign", "(I)Z"⟩, 84) := ⟨⟨by decide +kernel, by decide +kernel⟩, List.mem_of_getElem? (i := 1309) (by decide +kernel), List.mem_of_getElem? (i := 1651) (by decide +kernel), List.mem_of_getElem? (i := 1652) (by decide +kernel)⟩
theorem lw_p71 : lw_okq (⟨"CellSlideModel", "statementTold", "()V"⟩, 84) := ⟨⟨by decide +kernel, by decide +kernel⟩, List.mem_of_getElem? (i := 1309) (by decide +kernel), List.mem_of_getElem? (i := 1655) (by decide +kernel), List.mem_of_getElem? (i := 1656) (by decide +kernel)⟩
theorem lw_p72 : lw_okq (⟨"CellSlideModel", "kindNew", "(I)V"⟩, 84) := ⟨⟨by decide +kernel, by decide +kernel⟩, List.mem_of_getElem? (i := 1309) (by decide +kernel), List.mem_of_getElem? (i := 1659) (by decide +kernel), List.mem_of_getElem? (i := 1660) (by decide +kernel)⟩
theorem lw_p73 : lw_okq (⟨"CellSlideModel", "newName", "()I"⟩, 84) := ⟨⟨by decide +kernel, by decide +kernel⟩, List.mem_of_getElem? (i := 1309) (by decide +kernel), List.mem_of_getElem? (i := 1663) (by decide +kernel), List.mem_of_getElem? (i := 1664) (by decide +kernel)⟩
theorem lw_p74 : lw_okq (⟨"CellSlideModel", "name", "()I"⟩, 84) := ⟨⟨by decide +kernel, by decide +kernel⟩, List.mem_of_getElem? (i := 1309) (by decide +kernel), List.mem_of_getElem? (i := 1667) (by decide +kernel), List.mem_of_getElem? (i := 1668) (by decide +kernel)⟩
theorem lw_p75 : lw_okq (⟨"CellSlideModel", "isOwnHere", "()Z"⟩, 84) := ⟨⟨by decide +kernel, by decide +kernel⟩, List.mem_of_getElem? (i := 1309) (by decide +kernel), List.mem_of_getElem? (i := 1671) (by decide +kernel), List.mem_of_getElem? (i := 1672) (by decide +kernel)⟩
theorem lw_p76 : lw_okq (⟨"CellSlideModel", "knownKind", "(I)I"⟩, 84) := ⟨⟨by decide +kernel, by decide +kernel⟩, List.mem_of_getElem? (i := 1309) (by decide +kernel), List.mem_of_getElem? (i := 1675) (by decide +kernel), List.mem_of_getElem? (i := 1676) (by decide +kernel)⟩
theorem lw_p77 : lw_okq (⟨"CellSlideModel", "knownCell", "(I)I"⟩, 84) := ⟨⟨by decide +kernel, by decide +kernel⟩, List.mem_of_getElem? (i := 1309) (by decide +kernel), List.mem_of_getElem? (i := 1679) (by decide +kernel), List.mem_of_getElem? (i := 1680) (by decide +kernel)⟩
theorem lw_p78 : lw_okq (⟨"CellSlideModel", "cellNew", "()V"⟩, 84) := ⟨⟨by decide +kernel, by decide +kernel⟩, List.mem_of_getElem? (i := 1309) (by decide +kernel), List.mem_of_getElem? (i := 1683) (by decide +kernel), List.mem_of_getElem? (i := 1684) (by decide +kernel)⟩
theorem lw_p79 : lw_okq (⟨"CellSlideModel", "kindTold", "()I"⟩, 84) := ⟨⟨by decide +kernel, by decide +kernel⟩, List.mem_of_getElem? (i := 1309) (by decide +kernel), List.mem_of_getElem? (i := 1687) (by decide +kernel), List.mem_of_getElem? (i := 1688) (by decide +kernel)⟩
def lw_privs_5 : List (MethodName × Nat) := [(⟨"CellSlideModel", "isHere", "([C)Z"⟩, 84), (⟨"CellSlideModel", "look", "()I"⟩, 84), (⟨"CellSlideModel", "fail", "(II)V"⟩, 84), (⟨"CellSlideModel", "number", "(II)I"⟩, 84), (⟨"CellSlideModel", "isNumberHere", "()Z"⟩, 84), (⟨"CellSlideModel", "asksSign", "(I)V"⟩, 84), (⟨"CellSlideModel", "takesSign", "(I)Z"⟩, 84), (⟨"CellSlideModel", "statementTold", "()V"⟩, 84), (⟨"CellSlideModel", "kindNew", "(I)V"⟩, 84), (⟨"CellSlideModel", "newName", "()I"⟩, 84), (⟨"CellSlideModel", "name", "()I"⟩, 84), (⟨"CellSlideModel", "isOwnHere", "()Z"⟩, 84), (⟨"CellSlideModel", "knownKind", "(I)I"⟩, 84), (⟨"CellSlideModel", "knownCell", "(I)I"⟩, 84), (⟨"CellSlideModel", "cellNew", "()V"⟩, 84), (⟨"CellSlideModel", "kindTold", "()I"⟩, 84)]
theorem lw_r5 : ∀ q ∈ lw_privs_5, lw_okq q := List.forall_mem_cons.mpr ⟨lw_p64, List.forall_mem_cons.mpr ⟨lw_p65, List.forall_mem_cons.mpr ⟨lw_p66, List.forall_mem_cons.mpr ⟨lw_p67, List.forall_mem_cons.mpr ⟨lw_p68, List.forall_mem_cons.mpr ⟨lw_p69, List.forall_mem_cons.mpr ⟨lw_p70, List.forall_mem_cons.mpr ⟨lw_p71, List.forall_mem_cons.mpr ⟨lw_p72, List.forall_mem_cons.mpr ⟨lw_p73, List.forall_mem_cons.mpr ⟨lw_p74, List.forall_mem_cons.mpr ⟨lw_p75, List.forall_mem_cons.mpr ⟨lw_p76, List.forall_mem_cons.mpr ⟨lw_p77, List.forall_mem_cons.mpr ⟨lw_p78, List.forall_mem_cons.mpr ⟨lw_p79, fun _ h => absurd h List.not_mem_nil⟩⟩⟩⟩⟩⟩⟩⟩⟩⟩⟩⟩⟩⟩⟩⟩
theorem lw_p80 : lw_okq (⟨"CellSlideModel", "itemTold", "(II)V"⟩, 84) := ⟨⟨by decide +kernel, by decide +kernel⟩, List.mem_of_getElem? (i := 1309) (by decide +kernel), List.mem_of_getElem? (i := 1694) (by decide +kernel), List.mem_of_getElem? (i := 1695) (by decide +kernel)⟩
theorem lw_p81 : lw_okq (⟨"CellSlideModel", "pointerTold", "()I"⟩, 84) := ⟨⟨by decide +kernel, by decide +kernel⟩, List.mem_of_getElem? (i := 1309) (by decide +kernel), List.mem_of_getElem? (i := 1698) (by decide +kernel), List.mem_of_getElem? (i := 1699) (by decide +kernel)⟩
theorem lw_p82 : lw_okq (⟨"CellSlideModel", "cellTold", "()I"⟩, 84) := ⟨⟨by decide +kernel, by decide +kernel⟩, List.mem_of_getElem? (i := 1309) (by decide +kernel), List.mem_of_getElem? (i := 1702) (by decide +kernel), List.mem_of_getElem? (i := 1703) (by decide +kernel)⟩
theorem lw_p83 : lw_okq (⟨"CellSlideModel", "setTold", "()V"⟩, 84) := ⟨⟨by decide +kernel, by decide +kernel⟩, List.mem_of_getElem? (i := 1309) (by decide +kernel), List.mem_of_getElem? (i := 1709) (by decide +kernel), List.mem_of_getElem? (i := 1710) (by decide +kernel)⟩
theorem lw_p84 : lw_okq (⟨"CellSlideModel", "stands", "()V"⟩, 84) := ⟨⟨by decide +kernel, by decide +kernel⟩, List.mem_of_getElem? (i := 1309) (by decide +kernel), List.mem_of_getElem? (i := 1713) (by decide +kernel), List.mem_of_getElem? (i := 1714) (by decide +kernel)⟩
theorem lw_p85 : lw_okq (⟨"CellSlideModel", "laysCells", "()V"⟩, 84) := ⟨⟨by decide +kernel, by decide +kernel⟩, List.mem_of_getElem? (i := 1309) (by decide +kernel), List.mem_of_getElem? (i := 1721) (by decide +kernel), List.mem_of_getElem? (i := 1722) (by decide +kernel)⟩
theorem lw_p86 : lw_okq (⟨"CellSlideModel", "wordsOf", "(I)I"⟩, 84) := ⟨⟨by decide +kernel, by decide +kernel⟩, List.mem_of_getElem? (i := 1309) (by decide +kernel), List.mem_of_getElem? (i := 1725) (by decide +kernel), List.mem_of_getElem? (i := 1726) (by decide +kernel)⟩
theorem lw_p87 : lw_okq (⟨"CellSlideModel", "fieldMany", "(I)I"⟩, 84) := ⟨⟨by decide +kernel, by decide +kernel⟩, List.mem_of_getElem? (i := 1309) (by decide +kernel), List.mem_of_getElem? (i := 1729) (by decide +kernel), List.mem_of_getElem? (i := 1730) (by decide +kernel)⟩
theorem lw_p88 : lw_okq (⟨"CellSlideModel", "replays", "(I)V"⟩, 84) := ⟨⟨by decide +kernel, by decide +kernel⟩, List.mem_of_getElem? (i := 1309) (by decide +kernel), List.mem_of_getElem? (i := 1739) (by decide +kernel), List.mem_of_getElem? (i := 1740) (by decide +kernel)⟩
theorem lw_p89 : lw_okq (⟨"CellSlideModel", "settles", "()V"⟩, 84) := ⟨⟨by decide +kernel, by decide +kernel⟩, List.mem_of_getElem? (i := 1309) (by decide +kernel), List.mem_of_getElem? (i := 1743) (by decide +kernel), List.mem_of_getElem? (i := 1744) (by decide +kernel)⟩
theorem lw_p90 : lw_okq (⟨"CellSlideModel", "marks", "(II)V"⟩, 84) := ⟨⟨by decide +kernel, by decide +kernel⟩, List.mem_of_getElem? (i := 1309) (by decide +kernel), List.mem_of_getElem? (i := 1747) (by decide +kernel), List.mem_of_getElem? (i := 1748) (by decide +kernel)⟩
theorem lw_p91 : lw_okq (⟨"CellSlideModel", "cellFrom", "(I)I"⟩, 84) := ⟨⟨by decide +kernel, by decide +kernel⟩, List.mem_of_getElem? (i := 1309) (by decide +kernel), List.mem_of_getElem? (i := 1751) (by decide +kernel), List.mem_of_getElem? (i := 1752) (by decide +kernel)⟩
theorem lw_p92 : lw_okq (⟨"CellSlideModel", "becomesLive", "(I)Z"⟩, 84) := ⟨⟨by decide +kernel, by decide +kernel⟩, List.mem_of_getElem? (i := 1309) (by decide +kernel), List.mem_of_getElem? (i := 1761) (by decide +kernel), List.mem_of_getElem? (i := 1762) (by decide +kernel)⟩
theorem lw_p93 : lw_okq (⟨"CellSlideModel", "marksFrom", "(II)Z"⟩, 84) := ⟨⟨by decide +kernel, by decide +kernel⟩, List.mem_of_getElem? (i := 1309) (by decide +kernel), List.mem_of_getElem? (i := 1765) (by decide +kernel), List.mem_of_getElem? (i := 1766) (by decide +kernel)⟩
theorem lw_p94 : lw_okq (⟨"CellSlideModel", "kindOf", "(I)I"⟩, 84) := ⟨⟨by decide +kernel, by decide +kernel⟩, List.mem_of_getElem? (i := 1309) (by decide +kernel), List.mem_of_getElem? (i := 1769) (by decide +kernel), List.mem_of_getElem? (i := 1770) (by decide +kernel)⟩
theorem lw_p95 : lw_okq (⟨"CellSlideModel", "cellBy", "(II)I"⟩, 84) := ⟨⟨by decide +kernel, by decide +kernel⟩, List.mem_of_getElem? (i := 1309) (by decide +kernel), List.mem_of_getElem? (i := 1773) (by decide +kernel), List.mem_of_getElem? (i := 1774) (by decide +kernel)⟩
def lw_privs_6 : List (MethodName × Nat) := [(⟨"CellSlideModel", "itemTold", "(II)V"⟩, 84), (⟨"CellSlideModel", "pointerTold", "()I"⟩, 84), (⟨"CellSlideModel", "cellTold", "()I"⟩, 84), (⟨"CellSlideModel", "setTold", "()V"⟩, 84), (⟨"CellSlideModel", "stands", "()V"⟩, 84), (⟨"CellSlideModel", "laysCells", "()V"⟩, 84), (⟨"CellSlideModel", "wordsOf", "(I)I"⟩, 84), (⟨"CellSlideModel", "fieldMany", "(I)I"⟩, 84), (⟨"CellSlideModel", "replays", "(I)V"⟩, 84), (⟨"CellSlideModel", "settles", "()V"⟩, 84), (⟨"CellSlideModel", "marks", "(II)V"⟩, 84), (⟨"CellSlideModel", "cellFrom", "(I)I"⟩, 84), (⟨"CellSlideModel", "becomesLive", "(I)Z"⟩, 84), (⟨"CellSlideModel", "marksFrom", "(II)Z"⟩, 84), (⟨"CellSlideModel", "kindOf", "(I)I"⟩, 84), (⟨"CellSlideModel", "cellBy", "(II)I"⟩, 84)]
theorem lw_r6 : ∀ q ∈ lw_privs_6, lw_okq q := List.forall_mem_cons.mpr ⟨lw_p80, List.forall_mem_cons.mpr ⟨lw_p81, List.forall_mem_cons.mpr ⟨lw_p82, List.forall_mem_cons.mpr ⟨lw_p83, List.forall_mem_cons.mpr ⟨lw_p84, List.forall_mem_cons.mpr ⟨lw_p85, List.forall_mem_cons.mpr ⟨lw_p86, List.forall_mem_cons.mpr ⟨lw_p87, List.forall_mem_cons.mpr ⟨lw_p88, List.forall_mem_cons.mpr ⟨lw_p89, List.forall_mem_cons.mpr ⟨lw_p90, List.forall_mem_cons.mpr ⟨lw_p91, List.forall_mem_cons.mpr ⟨lw_p92, List.forall_mem_cons.mpr ⟨lw_p93, List.forall_mem_cons.mpr ⟨lw_p94, List.forall_mem_cons.mpr ⟨lw_p95, fun _ h => absurd h List.not_mem_nil⟩⟩⟩⟩⟩⟩⟩⟩⟩⟩⟩⟩⟩⟩⟩⟩
theorem lw_p96 : lw_okq (⟨"CellSlideModel", "sortOf", "(II)I"⟩, 84) := ⟨⟨by decide +kernel, by decide +kernel⟩, List.mem_of_getElem? (i := 1309) (by decide +kernel), List.mem_of_getElem? (i := 1777) (by decide +kernel), List.mem_of_getElem? (i := 1778) (by decide +kernel)⟩
theorem lw_p97 : lw_okq (⟨"CellSlideModel", "places", "()V"⟩, 84) := ⟨⟨by decide +kernel, by decide +kernel⟩, List.mem_of_getElem? (i := 1309) (by decide +kernel), List.mem_of_getElem? (i := 1781) (by decide +kernel), List.mem_of_getElem? (i := 1782) (by decide +kernel)⟩
theorem lw_p98 : lw_okq (⟨"CellSlideModel", "isLive", "(I)Z"⟩, 84) := ⟨⟨by decide +kernel, by decide +kernel⟩, List.mem_of_getElem? (i := 1309) (by decide +kernel), List.mem_of_getElem? (i := 1785) (by decide +kernel), List.mem_of_getElem? (i := 1786) (by decide +kernel)⟩
theorem lw_p99 : lw_okq (⟨"CellSlideModel", "stepGoes", "(I)V"⟩, 84) := ⟨⟨by decide +kernel, by decide +kernel⟩, List.mem_of_getElem? (i := 1309) (by decide +kernel), List.mem_of_getElem? (i := 1789) (by decide +kernel), List.mem_of_getElem? (i := 1790) (by decide +kernel)⟩
theorem lw_p100 : lw_okq (⟨"CellSlideModel", "stepSort", "(I)I"⟩, 84) := ⟨⟨by decide +kernel, by decide +kernel⟩, List.mem_of_getElem? (i := 1309) (by decide +kernel), List.mem_of_getElem? (i := 1793) (by decide +kernel), List.mem_of_getElem? (i := 1794) (by decide +kernel)⟩
theorem lw_p101 : lw_okq (⟨"CellSlideModel", "stepsBy", "(I)I"⟩, 84) := ⟨⟨by decide +kernel, by decide +kernel⟩, List.mem_of_getElem? (i := 1309) (by decide +kernel), List.mem_of_getElem? (i := 1797) (by decide +kernel), List.mem_of_getElem? (i := 1798) (by decide +kernel)⟩
theorem lw_p102 : lw_okq (⟨"CellSlideModel", "weakOnes", "()V"⟩, 84) := ⟨⟨by decide +kernel, by decide +kernel⟩, List.mem_of_getElem? (i := 1309) (by decide +kernel), List.mem_of_getElem? (i := 1801) (by decide +kernel), List.mem_of_getElem? (i := 1802) (by decide +kernel)⟩
theorem lw_p103 : lw_okq (⟨"CellSlideModel", "stepOf", "(I)I"⟩, 84) := ⟨⟨by decide +kernel, by decide +kernel⟩, List.mem_of_getElem? (i := 1309) (by decide +kernel), List.mem_of_getElem? (i := 1805) (by decide +kernel), List.mem_of_getElem? (i := 1806) (by decide +kernel)⟩
theorem lw_p104 : lw_okq (⟨"CellSlideModel", "threads", "(I)V"⟩, 84) := ⟨⟨by decide +kernel, by decide +kernel⟩, List.mem_of_getElem? (i := 1309) (by decide +kernel), List.mem_of_getElem? (i := 1809) (by decide +kernel), List.mem_of_getElem? (i := 1810) (by decide +kernel)⟩
theorem lw_p105 : lw_okq (⟨"CellSlideModel", "forward", "(I)V"⟩, 84) := ⟨⟨by decide +kernel, by decide +kernel⟩, List.mem_of_getElem? (i := 1309) (by decide +kernel), List.mem_of_getElem? (i := 1816) (by decide +kernel), List.mem_of_getElem? (i := 1817) (by decide +kernel)⟩
theorem lw_p106 : lw_okq (⟨"CellSlideModel", "unthreads", "(II)V"⟩, 84) := ⟨⟨by decide +kernel, by decide +kernel⟩, List.mem_of_getElem? (i := 1309) (by decide +kernel), List.mem_of_getElem? (i := 1820) (by decide +kernel), List.mem_of_getElem? (i := 1821) (by decide +kernel)⟩
theorem lw_p107 : lw_okq (⟨"CellSlideModel", "backward", "(I)V"⟩, 84) := ⟨⟨by decide +kernel, by decide +kernel⟩, List.mem_of_getElem? (i := 1309) (by decide +kernel), List.mem_of_getElem? (i := 1824) (by decide +kernel), List.mem_of_getElem? (i := 1825) (by decide +kernel)⟩
theorem lw_p108 : lw_okq (⟨"CellSlideModel", "blockGoes", "(I)V"⟩, 84) := ⟨⟨by decide +kernel, by decide +kernel⟩, List.mem_of_getElem? (i := 1309) (by decide +kernel), List.mem_of_getElem? (i := 1828) (by decide +kernel), List.mem_of_getElem? (i := 1829) (by decide +kernel)⟩
theorem lw_p109 : lw_okq (⟨"CellSlideModel", "risesBy", "(I)I"⟩, 84) := ⟨⟨by decide +kernel, by decide +kernel⟩, List.mem_of_getElem? (i := 1309) (by decide +kernel), List.mem_of_getElem? (i := 1832) (by decide +kernel), List.mem_of_getElem? (i := 1833) (by decide +kernel)⟩
theorem lw_p110 : lw_okq (⟨"CellSlideModel", "rises", "(I)V"⟩, 84) := ⟨⟨by decide +kernel, by decide +kernel⟩, List.mem_of_getElem? (i := 1309) (by decide +kernel), List.mem_of_getElem? (i := 1836) (by decide +kernel), List.mem_of_getElem? (i := 1837) (by decide +kernel)⟩
theorem lw_p111 : lw_okq (⟨"CellSlideModel", "lastStep", "()V"⟩, 84) := ⟨⟨by decide +kernel, by decide +kernel⟩, List.mem_of_getElem? (i := 1309) (by decide +kernel), List.mem_of_getElem? (i := 1840) (by decide +kernel), List.mem_of_getElem? (i := 1841) (by decide +kernel)⟩
def lw_privs_7 : List (MethodName × Nat) := [(⟨"CellSlideModel", "sortOf", "(II)I"⟩, 84), (⟨"CellSlideModel", "places", "()V"⟩, 84), (⟨"CellSlideModel", "isLive", "(I)Z"⟩, 84), (⟨"CellSlideModel", "stepGoes", "(I)V"⟩, 84), (⟨"CellSlideModel", "stepSort", "(I)I"⟩, 84), (⟨"CellSlideModel", "stepsBy", "(I)I"⟩, 84), (⟨"CellSlideModel", "weakOnes", "()V"⟩, 84), (⟨"CellSlideModel", "stepOf", "(I)I"⟩, 84), (⟨"CellSlideModel", "threads", "(I)V"⟩, 84), (⟨"CellSlideModel", "forward", "(I)V"⟩, 84), (⟨"CellSlideModel", "unthreads", "(II)V"⟩, 84), (⟨"CellSlideModel", "backward", "(I)V"⟩, 84), (⟨"CellSlideModel", "blockGoes", "(I)V"⟩, 84), (⟨"CellSlideModel", "risesBy", "(I)I"⟩, 84), (⟨"CellSlideModel", "rises", "(I)V"⟩, 84), (⟨"CellSlideModel", "lastStep", "()V"⟩, 84)]
theorem lw_r7 : ∀ q ∈ lw_privs_7, lw_okq q := List.forall_mem_cons.mpr ⟨lw_p96, List.forall_mem_cons.mpr ⟨lw_p97, List.forall_mem_cons.mpr ⟨lw_p98, List.forall_mem_cons.mpr ⟨lw_p99, List.forall_mem_cons.mpr ⟨lw_p100, List.forall_mem_cons.mpr ⟨lw_p101, List.forall_mem_cons.mpr ⟨lw_p102, List.forall_mem_cons.mpr ⟨lw_p103, List.forall_mem_cons.mpr ⟨lw_p104, List.forall_mem_cons.mpr ⟨lw_p105, List.forall_mem_cons.mpr ⟨lw_p106, List.forall_mem_cons.mpr ⟨lw_p107, List.forall_mem_cons.mpr ⟨lw_p108, List.forall_mem_cons.mpr ⟨lw_p109, List.forall_mem_cons.mpr ⟨lw_p110, List.forall_mem_cons.mpr ⟨lw_p111, fun _ h => absurd h List.not_mem_nil⟩⟩⟩⟩⟩⟩⟩⟩⟩⟩⟩⟩⟩⟩⟩⟩
theorem lw_p112 : lw_okq (⟨"CellSlideModel", "lowest", "()I"⟩, 84) := ⟨⟨by decide +kernel, by decide +kernel⟩, List.mem_of_getElem? (i := 1309) (by decide +kernel), List.mem_of_getElem? (i := 1844) (by decide +kernel), List.mem_of_getElem? (i := 1845) (by decide +kernel)⟩
theorem lw_p113 : lw_okq (⟨"CellSlideModel", "isAsked", "()Z"⟩, 84) := ⟨⟨by decide +kernel, by decide +kernel⟩, List.mem_of_getElem? (i := 1309) (by decide +kernel), List.mem_of_getElem? (i := 1861) (by decide +kernel), List.mem_of_getElem? (i := 1862) (by decide +kernel)⟩
theorem lw_p114 : lw_okq (⟨"CellSlideModel", "isAskedOf", "(I)Z"⟩, 84) := ⟨⟨by decide +kernel, by decide +kernel⟩, List.mem_of_getElem? (i := 1309) (by decide +kernel), List.mem_of_getElem? (i := 1869) (by decide +kernel), List.mem_of_getElem? (i := 1870) (by decide +kernel)⟩
theorem lw_p115 : lw_okq (⟨"CellSlideModel", "chained", "(II)I"⟩, 84) := ⟨⟨by decide +kernel, by decide +kernel⟩, List.mem_of_getElem? (i := 1309) (by decide +kernel), List.mem_of_getElem? (i := 1889) (by decide +kernel), List.mem_of_getElem? (i := 1890) (by decide +kernel)⟩
theorem lw_p116 : lw_okq (⟨"CellSlideModel", "measures", "()V"⟩, 84) := ⟨⟨by decide +kernel, by decide +kernel⟩, List.mem_of_getElem? (i := 1309) (by decide +kernel), List.mem_of_getElem? (i := 1909) (by decide +kernel), List.mem_of_getElem? (i := 1910) (by decide +kernel)⟩
theorem lw_p117 : lw_okq (⟨"CellSlideModel", "isFarther", "(I)Z"⟩, 84) := ⟨⟨by decide +kernel, by decide +kernel⟩, List.mem_of_getElem? (i := 1309) (by decide +kernel), List.mem_of_getElem? (i := 1913) (by decide +kernel), List.mem_of_getElem? (i := 1914) (by decide +kernel)⟩
theorem lw_p118 : lw_okq (⟨"CellSlideModel", "nears", "(I)V"⟩, 84) := ⟨⟨by decide +kernel, by decide +kernel⟩, List.mem_of_getElem? (i := 1309) (by decide +kernel), List.mem_of_getElem? (i := 1921) (by decide +kernel), List.mem_of_getElem? (i := 1922) (by decide +kernel)⟩
theorem lw_p119 : lw_okq (⟨"CellSlideModel", "nextFrom", "(II)I"⟩, 84) := ⟨⟨by decide +kernel, by decide +kernel⟩, List.mem_of_getElem? (i := 1309) (by decide +kernel), List.mem_of_getElem? (i := 1925) (by decide +kernel), List.mem_of_getElem? (i := 1926) (by decide +kernel)⟩
theorem lw_p120 : lw_okq (⟨"CellSlideModel", "registerTo", "()I"⟩, 84) := ⟨⟨by decide +kernel, by decide +kernel⟩, List.mem_of_getElem? (i := 1309) (by decide +kernel), List.mem_of_getElem? (i := 1929) (by decide +kernel), List.mem_of_getElem? (i := 1930) (by decide +kernel)⟩
theorem lw_p121 : lw_okq (⟨"CellSlideModel", "keptBy", "(II)I"⟩, 84) := ⟨⟨by decide +kernel, by decide +kernel⟩, List.mem_of_getElem? (i := 1309) (by decide +kernel), List.mem_of_getElem? (i := 1938) (by decide +kernel), List.mem_of_getElem? (i := 1939) (by decide +kernel)⟩
theorem lw_p122 : lw_okq (⟨"CellSlideModel", "liveWords", "()I"⟩, 84) := ⟨⟨by decide +kernel, by decide +kernel⟩, List.mem_of_getElem? (i := 1309) (by decide +kernel), List.mem_of_getElem? (i := 1942) (by decide +kernel), List.mem_of_getElem? (i := 1943) (by decide +kernel)⟩
theorem lw_p123 : lw_okq (⟨"CellSlideModel", "findsAll", "()V"⟩, 84) := ⟨⟨by decide +kernel, by decide +kernel⟩, List.mem_of_getElem? (i := 1309) (by decide +kernel), List.mem_of_getElem? (i := 1958) (by decide +kernel), List.mem_of_getElem? (i := 1959) (by decide +kernel)⟩
theorem lw_p124 : lw_okq (⟨"CellSlideModel", "finds", "(I)V"⟩, 84) := ⟨⟨by decide +kernel, by decide +kernel⟩, List.mem_of_getElem? (i := 1309) (by decide +kernel), List.mem_of_getElem? (i := 1962) (by decide +kernel), List.mem_of_getElem? (i := 1963) (by decide +kernel)⟩
theorem lw_p125 : lw_okq (⟨"CellSlideModel", "shapesAll", "()V"⟩, 84) := ⟨⟨by decide +kernel, by decide +kernel⟩, List.mem_of_getElem? (i := 1309) (by decide +kernel), List.mem_of_getElem? (i := 1970) (by decide +kernel), List.mem_of_getElem? (i := 1971) (by decide +kernel)⟩
theorem lw_p126 : lw_okq (⟨"CellSlideModel", "shapesOf", "(I)V"⟩, 84) := ⟨⟨by decide +kernel, by decide +kernel⟩, List.mem_of_getElem? (i := 1309) (by decide +kernel), List.mem_of_getElem? (i := 1974) (by decide +kernel), List.mem_of_getElem? (i := 1975) (by decide +kernel)⟩
theorem lw_p127 : lw_okq (⟨"CellSlideModel", "shapes", "(I)V"⟩, 84) := ⟨⟨by decide +kernel, by decide +kernel⟩, List.mem_of_getElem? (i := 1309) (by decide +kernel), List.mem_of_getElem? (i := 1978) (by decide +kernel), List.mem_of_getElem? (i := 1979) (by decide +kernel)⟩
def lw_privs_8 : List (MethodName × Nat) := [(⟨"CellSlideModel", "lowest", "()I"⟩, 84), (⟨"CellSlideModel", "isAsked", "()Z"⟩, 84), (⟨"CellSlideModel", "isAskedOf", "(I)Z"⟩, 84), (⟨"CellSlideModel", "chained", "(II)I"⟩, 84), (⟨"CellSlideModel", "measures", "()V"⟩, 84), (⟨"CellSlideModel", "isFarther", "(I)Z"⟩, 84), (⟨"CellSlideModel", "nears", "(I)V"⟩, 84), (⟨"CellSlideModel", "nextFrom", "(II)I"⟩, 84), (⟨"CellSlideModel", "registerTo", "()I"⟩, 84), (⟨"CellSlideModel", "keptBy", "(II)I"⟩, 84), (⟨"CellSlideModel", "liveWords", "()I"⟩, 84), (⟨"CellSlideModel", "findsAll", "()V"⟩, 84), (⟨"CellSlideModel", "finds", "(I)V"⟩, 84), (⟨"CellSlideModel", "shapesAll", "()V"⟩, 84), (⟨"CellSlideModel", "shapesOf", "(I)V"⟩, 84), (⟨"CellSlideModel", "shapes", "(I)V"⟩, 84)]
theorem lw_r8 : ∀ q ∈ lw_privs_8, lw_okq q := List.forall_mem_cons.mpr ⟨lw_p112, List.forall_mem_cons.mpr ⟨lw_p113, List.forall_mem_cons.mpr ⟨lw_p114, List.forall_mem_cons.mpr ⟨lw_p115, List.forall_mem_cons.mpr ⟨lw_p116, List.forall_mem_cons.mpr ⟨lw_p117, List.forall_mem_cons.mpr ⟨lw_p118, List.forall_mem_cons.mpr ⟨lw_p119, List.forall_mem_cons.mpr ⟨lw_p120, List.forall_mem_cons.mpr ⟨lw_p121, List.forall_mem_cons.mpr ⟨lw_p122, List.forall_mem_cons.mpr ⟨lw_p123, List.forall_mem_cons.mpr ⟨lw_p124, List.forall_mem_cons.mpr ⟨lw_p125, List.forall_mem_cons.mpr ⟨lw_p126, List.forall_mem_cons.mpr ⟨lw_p127, fun _ h => absurd h List.not_mem_nil⟩⟩⟩⟩⟩⟩⟩⟩⟩⟩⟩⟩⟩⟩⟩⟩
theorem lw_p128 : lw_okq (⟨"CellSlideModel", "seenAddress", "(I)I"⟩, 84) := ⟨⟨by decide +kernel, by decide +kernel⟩, List.mem_of_getElem? (i := 1309) (by decide +kernel), List.mem_of_getElem? (i := 1990) (by decide +kernel), List.mem_of_getElem? (i := 1991) (by decide +kernel)⟩
theorem lw_p129 : lw_okq (⟨"CellSlideModel", "twoAt", "(I)I"⟩, 84) := ⟨⟨by decide +kernel, by decide +kernel⟩, List.mem_of_getElem? (i := 1309) (by decide +kernel), List.mem_of_getElem? (i := 1994) (by decide +kernel), List.mem_of_getElem? (i := 1995) (by decide +kernel)⟩
theorem lw_p130 : lw_okq (⟨"CellSlideModel", "canHold", "(II)Z"⟩, 84) := ⟨⟨by decide +kernel, by decide +kernel⟩, List.mem_of_getElem? (i := 1309) (by decide +kernel), List.mem_of_getElem? (i := 1998) (by decide +kernel), List.mem_of_getElem? (i := 1999) (by decide +kernel)⟩
theorem lw_p131 : lw_okq (⟨"CellSlideModel", "laysThen", "()V"⟩, 84) := ⟨⟨by decide +kernel, by decide +kernel⟩, List.mem_of_getElem? (i := 1309) (by decide +kernel), List.mem_of_getElem? (i := 2009) (by decide +kernel), List.mem_of_getElem? (i := 2010) (by decide +kernel)⟩
theorem lw_p132 : lw_okq (⟨"CellSlideModel", "allSteps", "()I"⟩, 84) := ⟨⟨by decide +kernel, by decide +kernel⟩, List.mem_of_getElem? (i := 1309) (by decide +kernel), List.mem_of_getElem? (i := 2013) (by decide +kernel), List.mem_of_getElem? (i := 2014) (by decide +kernel)⟩
theorem lw_p133 : lw_okq (⟨"CellSlideModel", "isAsSeen", "()Z"⟩, 84) := ⟨⟨by decide +kernel, by decide +kernel⟩, List.mem_of_getElem? (i := 1309) (by decide +kernel), List.mem_of_getElem? (i := 2017) (by decide +kernel), List.mem_of_getElem? (i := 2018) (by decide +kernel)⟩
theorem lw_p134 : lw_okq (⟨"CellSlideModel", "mostAlike", "(I)I"⟩, 84) := ⟨⟨by decide +kernel, by decide +kernel⟩, List.mem_of_getElem? (i := 1309) (by decide +kernel), List.mem_of_getElem? (i := 2025) (by decide +kernel), List.mem_of_getElem? (i := 2026) (by decide +kernel)⟩
theorem lw_p135 : lw_okq (⟨"CellSlideModel", "isStill", "()Z"⟩, 84) := ⟨⟨by decide +kernel, by decide +kernel⟩, List.mem_of_getElem? (i := 1309) (by decide +kernel), List.mem_of_getElem? (i := 2037) (by decide +kernel), List.mem_of_getElem? (i := 2038) (by decide +kernel)⟩
theorem lw_p136 : lw_okq (⟨"CellSlideModel", "keeps", "()V"⟩, 84) := ⟨⟨by decide +kernel, by decide +kernel⟩, List.mem_of_getElem? (i := 1309) (by decide +kernel), List.mem_of_getElem? (i := 2041) (by decide +kernel), List.mem_of_getElem? (i := 2042) (by decide +kernel)⟩
theorem lw_p137 : lw_okq (⟨"CellSlideModel", "collects", "()V"⟩, 84) := ⟨⟨by decide +kernel, by decide +kernel⟩, List.mem_of_getElem? (i := 1309) (by decide +kernel), List.mem_of_getElem? (i := 2045) (by decide +kernel), List.mem_of_getElem? (i := 2046) (by decide +kernel)⟩
theorem lw_p138 : lw_okq (⟨"CellSlideModel", "ends", "()V"⟩, 84) := ⟨⟨by decide +kernel, by decide +kernel⟩, List.mem_of_getElem? (i := 1309) (by decide +kernel), List.mem_of_getElem? (i := 2049) (by decide +kernel), List.mem_of_getElem? (i := 2050) (by decide +kernel)⟩
theorem lw_p139 : lw_okq (⟨"CellSlideModel", "changes", "()V"⟩, 84) := ⟨⟨by decide +kernel, by decide +kernel⟩, List.mem_of_getElem? (i := 1309) (by decide +kernel), List.mem_of_getElem? (i := 2075) (by decide +kernel), List.mem_of_getElem? (i := 2076) (by decide +kernel)⟩
theorem lw_p140 : lw_okq (⟨"CellSlideModel", "drawOf", "(I)I"⟩, 84) := ⟨⟨by decide +kernel, by decide +kernel⟩, List.mem_of_getElem? (i := 1309) (by decide +kernel), List.mem_of_getElem? (i := 2079) (by decide +kernel), List.mem_of_getElem? (i := 2080) (by decide +kernel)⟩
theorem lw_p141 : lw_okq (⟨"CellSlideModel", "newCell", "(I)I"⟩, 84) := ⟨⟨by decide +kernel, by decide +kernel⟩, List.mem_of_getElem? (i := 1309) (by decide +kernel), List.mem_of_getElem? (i := 2087) (by decide +kernel), List.mem_of_getElem? (i := 2088) (by decide +kernel)⟩
theorem lw_p142 : lw_okq (⟨"CellSlideModel", "drawsField", "(II)V"⟩, 84) := ⟨⟨by decide +kernel, by decide +kernel⟩, List.mem_of_getElem? (i := 1309) (by decide +kernel), List.mem_of_getElem? (i := 2091) (by decide +kernel), List.mem_of_getElem? (i := 2092) (by decide +kernel)⟩
theorem lw_p143 : lw_okq (⟨"CellSlideModel", "beginOf", "(I)I"⟩, 84) := ⟨⟨by decide +kernel, by decide +kernel⟩, List.mem_of_getElem? (i := 1309) (by decide +kernel), List.mem_of_getElem? (i := 2095) (by decide +kernel), List.mem_of_getElem? (i := 2096) (by decide +kernel)⟩
def lw_privs_9 : List (MethodName × Nat) := [(⟨"CellSlideModel", "seenAddress", "(I)I"⟩, 84), (⟨"CellSlideModel", "twoAt", "(I)I"⟩, 84), (⟨"CellSlideModel", "canHold", "(II)Z"⟩, 84), (⟨"CellSlideModel", "laysThen", "()V"⟩, 84), (⟨"CellSlideModel", "allSteps", "()I"⟩, 84), (⟨"CellSlideModel", "isAsSeen", "()Z"⟩, 84), (⟨"CellSlideModel", "mostAlike", "(I)I"⟩, 84), (⟨"CellSlideModel", "isStill", "()Z"⟩, 84), (⟨"CellSlideModel", "keeps", "()V"⟩, 84), (⟨"CellSlideModel", "collects", "()V"⟩, 84), (⟨"CellSlideModel", "ends", "()V"⟩, 84), (⟨"CellSlideModel", "changes", "()V"⟩, 84), (⟨"CellSlideModel", "drawOf", "(I)I"⟩, 84), (⟨"CellSlideModel", "newCell", "(I)I"⟩, 84), (⟨"CellSlideModel", "drawsField", "(II)V"⟩, 84), (⟨"CellSlideModel", "beginOf", "(I)I"⟩, 84)]
theorem lw_r9 : ∀ q ∈ lw_privs_9, lw_okq q := List.forall_mem_cons.mpr ⟨lw_p128, List.forall_mem_cons.mpr ⟨lw_p129, List.forall_mem_cons.mpr ⟨lw_p130, List.forall_mem_cons.mpr ⟨lw_p131, List.forall_mem_cons.mpr ⟨lw_p132, List.forall_mem_cons.mpr ⟨lw_p133, List.forall_mem_cons.mpr ⟨lw_p134, List.forall_mem_cons.mpr ⟨lw_p135, List.forall_mem_cons.mpr ⟨lw_p136, List.forall_mem_cons.mpr ⟨lw_p137, List.forall_mem_cons.mpr ⟨lw_p138, List.forall_mem_cons.mpr ⟨lw_p139, List.forall_mem_cons.mpr ⟨lw_p140, List.forall_mem_cons.mpr ⟨lw_p141, List.forall_mem_cons.mpr ⟨lw_p142, List.forall_mem_cons.mpr ⟨lw_p143, fun _ h => absurd h List.not_mem_nil⟩⟩⟩⟩⟩⟩⟩⟩⟩⟩⟩⟩⟩⟩⟩⟩
theorem lw_p144 : lw_okq (⟨"CellSlideModel", "runTold", "()V"⟩, 84) := ⟨⟨by decide +kernel, by decide +kernel⟩, List.mem_of_getElem? (i := 1309) (by decide +kernel), List.mem_of_getElem? (i := 2103) (by decide +kernel), List.mem_of_getElem? (i := 2104) (by decide +kernel)⟩
theorem lw_p145 : lw_okq (⟨"CellSlideModel", "actTold", "()V"⟩, 84) := ⟨⟨by decide +kernel, by decide +kernel⟩, List.mem_of_getElem? (i := 1309) (by decide +kernel), List.mem_of_getElem? (i := 2107) (by decide +kernel), List.mem_of_getElem? (i := 2108) (by decide +kernel)⟩
theorem lw_p146 : lw_okq (⟨"CellSlideModel", "opensTold", "()V"⟩, 84) := ⟨⟨by decide +kernel, by decide +kernel⟩, List.mem_of_getElem? (i := 1309) (by decide +kernel), List.mem_of_getElem? (i := 2111) (by decide +kernel), List.mem_of_getElem? (i := 2112) (by decide +kernel)⟩
theorem lw_p147 : lw_okq (⟨"CellSlideModel", "takenTold", "()V"⟩, 84) := ⟨⟨by decide +kernel, by decide +kernel⟩, List.mem_of_getElem? (i := 1309) (by decide +kernel), List.mem_of_getElem? (i := 2115) (by decide +kernel), List.mem_of_getElem? (i := 2116) (by decide +kernel)⟩
theorem lw_p148 : lw_okq (⟨"CellSlideModel", "pathTold", "()V"⟩, 84) := ⟨⟨by decide +kernel, by decide +kernel⟩, List.mem_of_getElem? (i := 1309) (by decide +kernel), List.mem_of_getElem? (i := 2119) (by decide +kernel), List.mem_of_getElem? (i := 2120) (by decide +kernel)⟩
theorem lw_p149 : lw_okq (⟨"CellSlideModel", "registerHere", "()I"⟩, 84) := ⟨⟨by decide +kernel, by decide +kernel⟩, List.mem_of_getElem? (i := 1309) (by decide +kernel), List.mem_of_getElem? (i := 2123) (by decide +kernel), List.mem_of_getElem? (i := 2124) (by decide +kernel)⟩
theorem lw_p150 : lw_okq (⟨"CellSlideModel", "standingKind", "()I"⟩, 84) := ⟨⟨by decide +kernel, by decide +kernel⟩, List.mem_of_getElem? (i := 1309) (by decide +kernel), List.mem_of_getElem? (i := 2127) (by decide +kernel), List.mem_of_getElem? (i := 2128) (by decide +kernel)⟩
theorem lw_p151 : lw_okq (⟨"CellSlideModel", "goesOn", "(I)V"⟩, 84) := ⟨⟨by decide +kernel, by decide +kernel⟩, List.mem_of_getElem? (i := 1309) (by decide +kernel), List.mem_of_getElem? (i := 2131) (by decide +kernel), List.mem_of_getElem? (i := 2132) (by decide +kernel)⟩
theorem lw_p152 : lw_okq (⟨"CellSlideModel", "actGoes", "()V"⟩, 84) := ⟨⟨by decide +kernel, by decide +kernel⟩, List.mem_of_getElem? (i := 1309) (by decide +kernel), List.mem_of_getElem? (i := 2135) (by decide +kernel), List.mem_of_getElem? (i := 2136) (by decide +kernel)⟩
theorem lw_p153 : lw_okq (⟨"CellSlideModel", "roundEnds", "()V"⟩, 84) := ⟨⟨by decide +kernel, by decide +kernel⟩, List.mem_of_getElem? (i := 1309) (by decide +kernel), List.mem_of_getElem? (i := 2139) (by decide +kernel), List.mem_of_getElem? (i := 2140) (by decide +kernel)⟩
theorem lw_p154 : lw_okq (⟨"CellSlideModel", "isCounted", "(I)Z"⟩, 84) := ⟨⟨by decide +kernel, by decide +kernel⟩, List.mem_of_getElem? (i := 1309) (by decide +kernel), List.mem_of_getElem? (i := 2143) (by decide +kernel), List.mem_of_getElem? (i := 2144) (by decide +kernel)⟩
theorem lw_p155 : lw_okq (⟨"CellSlideModel", "repeatGoes", "(I)V"⟩, 84) := ⟨⟨by decide +kernel, by decide +kernel⟩, List.mem_of_getElem? (i := 1309) (by decide +kernel), List.mem_of_getElem? (i := 2147) (by decide +kernel), List.mem_of_getElem? (i := 2148) (by decide +kernel)⟩
theorem lw_p156 : lw_okq (⟨"CellSlideModel", "skips", "()V"⟩, 84) := ⟨⟨by decide +kernel, by decide +kernel⟩, List.mem_of_getElem? (i := 1309) (by decide +kernel), List.mem_of_getElem? (i := 2151) (by decide +kernel), List.mem_of_getElem? (i := 2152) (by decide +kernel)⟩
theorem lw_p157 : lw_okq (⟨"CellSlideModel", "entersFrame", "(II)V"⟩, 84) := ⟨⟨by decide +kernel, by decide +kernel⟩, List.mem_of_getElem? (i := 1309) (by decide +kernel), List.mem_of_getElem? (i := 2155) (by decide +kernel), List.mem_of_getElem? (i := 2156) (by decide +kernel)⟩
theorem lw_p158 : lw_okq (⟨"CellSlideModel", "whenGoes", "(I)V"⟩, 84) := ⟨⟨by decide +kernel, by decide +kernel⟩, List.mem_of_getElem? (i := 1309) (by decide +kernel), List.mem_of_getElem? (i := 2159) (by decide +kernel), List.mem_of_getElem? (i := 2160) (by decide +kernel)⟩
theorem lw_p159 : lw_okq (⟨"CellSlideModel", "takenTaken", "(I)V"⟩, 84) := ⟨⟨by decide +kernel, by decide +kernel⟩, List.mem_of_getElem? (i := 1309) (by decide +kernel), List.mem_of_getElem? (i := 2163) (by decide +kernel), List.mem_of_getElem? (i := 2164) (by decide +kernel)⟩
def lw_privs_10 : List (MethodName × Nat) := [(⟨"CellSlideModel", "runTold", "()V"⟩, 84), (⟨"CellSlideModel", "actTold", "()V"⟩, 84), (⟨"CellSlideModel", "opensTold", "()V"⟩, 84), (⟨"CellSlideModel", "takenTold", "()V"⟩, 84), (⟨"CellSlideModel", "pathTold", "()V"⟩, 84), (⟨"CellSlideModel", "registerHere", "()I"⟩, 84), (⟨"CellSlideModel", "standingKind", "()I"⟩, 84), (⟨"CellSlideModel", "goesOn", "(I)V"⟩, 84), (⟨"CellSlideModel", "actGoes", "()V"⟩, 84), (⟨"CellSlideModel", "roundEnds", "()V"⟩, 84), (⟨"CellSlideModel", "isCounted", "(I)Z"⟩, 84), (⟨"CellSlideModel", "repeatGoes", "(I)V"⟩, 84), (⟨"CellSlideModel", "skips", "()V"⟩, 84), (⟨"CellSlideModel", "entersFrame", "(II)V"⟩, 84), (⟨"CellSlideModel", "whenGoes", "(I)V"⟩, 84), (⟨"CellSlideModel", "takenTaken", "(I)V"⟩, 84)]
theorem lw_r10 : ∀ q ∈ lw_privs_10, lw_okq q := List.forall_mem_cons.mpr ⟨lw_p144, List.forall_mem_cons.mpr ⟨lw_p145, List.forall_mem_cons.mpr ⟨lw_p146, List.forall_mem_cons.mpr ⟨lw_p147, List.forall_mem_cons.mpr ⟨lw_p148, List.forall_mem_cons.mpr ⟨lw_p149, List.forall_mem_cons.mpr ⟨lw_p150, List.forall_mem_cons.mpr ⟨lw_p151, List.forall_mem_cons.mpr ⟨lw_p152, List.forall_mem_cons.mpr ⟨lw_p153, List.forall_mem_cons.mpr ⟨lw_p154, List.forall_mem_cons.mpr ⟨lw_p155, List.forall_mem_cons.mpr ⟨lw_p156, List.forall_mem_cons.mpr ⟨lw_p157, List.forall_mem_cons.mpr ⟨lw_p158, List.forall_mem_cons.mpr ⟨lw_p159, fun _ h => absurd h List.not_mem_nil⟩⟩⟩⟩⟩⟩⟩⟩⟩⟩⟩⟩⟩⟩⟩⟩
theorem lw_p160 : lw_okq (⟨"CellSlideModel", "takesValue", "(II)V"⟩, 84) := ⟨⟨by decide +kernel, by decide +kernel⟩, List.mem_of_getElem? (i := 1309) (by decide +kernel), List.mem_of_getElem? (i := 2167) (by decide +kernel), List.mem_of_getElem? (i := 2168) (by decide +kernel)⟩
theorem lw_p161 : lw_okq (⟨"CellSlideModel", "pathTaken", "(I)V"⟩, 84) := ⟨⟨by decide +kernel, by decide +kernel⟩, List.mem_of_getElem? (i := 1309) (by decide +kernel), List.mem_of_getElem? (i := 2171) (by decide +kernel), List.mem_of_getElem? (i := 2172) (by decide +kernel)⟩
theorem lw_p162 : lw_okq (⟨"CellSlideModel", "registerTaken", "()I"⟩, 84) := ⟨⟨by decide +kernel, by decide +kernel⟩, List.mem_of_getElem? (i := 1309) (by decide +kernel), List.mem_of_getElem? (i := 2175) (by decide +kernel), List.mem_of_getElem? (i := 2176) (by decide +kernel)⟩
theorem lw_p163 : lw_okq (⟨"CellSlideModel", "fieldBy", "(II)I"⟩, 84) := ⟨⟨by decide +kernel, by decide +kernel⟩, List.mem_of_getElem? (i := 1309) (by decide +kernel), List.mem_of_getElem? (i := 2179) (by decide +kernel), List.mem_of_getElem? (i := 2180) (by decide +kernel)⟩
theorem lw_p164 : lw_okq (⟨"CellSlideModel", "fails", "(II)V"⟩, 84) := ⟨⟨by decide +kernel, by decide +kernel⟩, List.mem_of_getElem? (i := 1309) (by decide +kernel), List.mem_of_getElem? (i := 2183) (by decide +kernel), List.mem_of_getElem? (i := 2184) (by decide +kernel)⟩
theorem lw_p165 : lw_okq (⟨"CellSlideModel", "moves", "(II)V"⟩, 84) := ⟨⟨by decide +kernel, by decide +kernel⟩, List.mem_of_getElem? (i := 1309) (by decide +kernel), List.mem_of_getElem? (i := 2187) (by decide +kernel), List.mem_of_getElem? (i := 2188) (by decide +kernel)⟩
theorem lw_p166 : lw_okq (⟨"CellSlideModel", "assigns", "(I)V"⟩, 84) := ⟨⟨by decide +kernel, by decide +kernel⟩, List.mem_of_getElem? (i := 1309) (by decide +kernel), List.mem_of_getElem? (i := 2191) (by decide +kernel), List.mem_of_getElem? (i := 2192) (by decide +kernel)⟩
theorem lw_p167 : lw_okq (⟨"CellSlideModel", "newTaken", "(I)V"⟩, 84) := ⟨⟨by decide +kernel, by decide +kernel⟩, List.mem_of_getElem? (i := 1309) (by decide +kernel), List.mem_of_getElem? (i := 2195) (by decide +kernel), List.mem_of_getElem? (i := 2196) (by decide +kernel)⟩
theorem lw_p168 : lw_okq (⟨"CellSlideModel", "stores", "(I)V"⟩, 84) := ⟨⟨by decide +kernel, by decide +kernel⟩, List.mem_of_getElem? (i := 1309) (by decide +kernel), List.mem_of_getElem? (i := 2199) (by decide +kernel), List.mem_of_getElem? (i := 2200) (by decide +kernel)⟩
theorem lw_p169 : lw_okq (⟨"CellSlideModel", "writes", "(I)V"⟩, 84) := ⟨⟨by decide +kernel, by decide +kernel⟩, List.mem_of_getElem? (i := 1309) (by decide +kernel), List.mem_of_getElem? (i := 2211) (by decide +kernel), List.mem_of_getElem? (i := 2212) (by decide +kernel)⟩
theorem lw_p170 : lw_okq (⟨"CellSlideModel", "writesWord", "(I)V"⟩, 84) := ⟨⟨by decide +kernel, by decide +kernel⟩, List.mem_of_getElem? (i := 1309) (by decide +kernel), List.mem_of_getElem? (i := 2215) (by decide +kernel), List.mem_of_getElem? (i := 2216) (by decide +kernel)⟩
theorem lw_p171 : lw_okq (⟨"CellSlideModel", "isImage", "(I)Z"⟩, 84) := ⟨⟨by decide +kernel, by decide +kernel⟩, List.mem_of_getElem? (i := 1309) (by decide +kernel), List.mem_of_getElem? (i := 2230) (by decide +kernel), List.mem_of_getElem? (i := 2231) (by decide +kernel)⟩
theorem lw_p172 : lw_okq (⟨"CellSlideModel", "readsWord", "(II)V"⟩, 84) := ⟨⟨by decide +kernel, by decide +kernel⟩, List.mem_of_getElem? (i := 1309) (by decide +kernel), List.mem_of_getElem? (i := 2234) (by decide +kernel), List.mem_of_getElem? (i := 2235) (by decide +kernel)⟩
theorem lw_p173 : lw_okq (⟨"CellSlideModel", "isValue", "(II)Z"⟩, 84) := ⟨⟨by decide +kernel, by decide +kernel⟩, List.mem_of_getElem? (i := 1309) (by decide +kernel), List.mem_of_getElem? (i := 2238) (by decide +kernel), List.mem_of_getElem? (i := 2239) (by decide +kernel)⟩
theorem lw_p174 : lw_okq (⟨"CellSlideModel", "areCells", "()Z"⟩, 84) := ⟨⟨by decide +kernel, by decide +kernel⟩, List.mem_of_getElem? (i := 1309) (by decide +kernel), List.mem_of_getElem? (i := 2242) (by decide +kernel), List.mem_of_getElem? (i := 2243) (by decide +kernel)⟩
def lw_privs_11 : List (MethodName × Nat) := [(⟨"CellSlideModel", "takesValue", "(II)V"⟩, 84), (⟨"CellSlideModel", "pathTaken", "(I)V"⟩, 84), (⟨"CellSlideModel", "registerTaken", "()I"⟩, 84), (⟨"CellSlideModel", "fieldBy", "(II)I"⟩, 84), (⟨"CellSlideModel", "fails", "(II)V"⟩, 84), (⟨"CellSlideModel", "moves", "(II)V"⟩, 84), (⟨"CellSlideModel", "assigns", "(I)V"⟩, 84), (⟨"CellSlideModel", "newTaken", "(I)V"⟩, 84), (⟨"CellSlideModel", "stores", "(I)V"⟩, 84), (⟨"CellSlideModel", "writes", "(I)V"⟩, 84), (⟨"CellSlideModel", "writesWord", "(I)V"⟩, 84), (⟨"CellSlideModel", "isImage", "(I)Z"⟩, 84), (⟨"CellSlideModel", "readsWord", "(II)V"⟩, 84), (⟨"CellSlideModel", "isValue", "(II)Z"⟩, 84), (⟨"CellSlideModel", "areCells", "()Z"⟩, 84)]
theorem lw_r11 : ∀ q ∈ lw_privs_11, lw_okq q := List.forall_mem_cons.mpr ⟨lw_p160, List.forall_mem_cons.mpr ⟨lw_p161, List.forall_mem_cons.mpr ⟨lw_p162, List.forall_mem_cons.mpr ⟨lw_p163, List.forall_mem_cons.mpr ⟨lw_p164, List.forall_mem_cons.mpr ⟨lw_p165, List.forall_mem_cons.mpr ⟨lw_p166, List.forall_mem_cons.mpr ⟨lw_p167, List.forall_mem_cons.mpr ⟨lw_p168, List.forall_mem_cons.mpr ⟨lw_p169, List.forall_mem_cons.mpr ⟨lw_p170, List.forall_mem_cons.mpr ⟨lw_p171, List.forall_mem_cons.mpr ⟨lw_p172, List.forall_mem_cons.mpr ⟨lw_p173, List.forall_mem_cons.mpr ⟨lw_p174, fun _ h => absurd h List.not_mem_nil⟩⟩⟩⟩⟩⟩⟩⟩⟩⟩⟩⟩⟩⟩⟩
def lw_privs : List (MethodName × Nat) := lw_privs_1 ++ (lw_privs_2 ++ (lw_privs_3 ++ (lw_privs_4 ++ (lw_privs_5 ++ (lw_privs_6 ++ (lw_privs_7 ++ (lw_privs_8 ++ (lw_privs_9 ++ (lw_privs_10 ++ (lw_privs_11))))))))))
def lw_tbl : List Cond := k2_sels lw_privs ++ tables_1
theorem lw_privs_ok : ∀ q ∈ lw_privs, lw_okq q := by
  show ∀ q ∈ lw_privs_1 ++ (lw_privs_2 ++ (lw_privs_3 ++ (lw_privs_4 ++ (lw_privs_5 ++ (lw_privs_6 ++ (lw_privs_7 ++ (lw_privs_8 ++ (lw_privs_9 ++ (lw_privs_10 ++ (lw_privs_11)))))))))), lw_okq q
  exact List.forall_mem_append.mpr ⟨lw_r1, List.forall_mem_append.mpr ⟨lw_r2, List.forall_mem_append.mpr ⟨lw_r3, List.forall_mem_append.mpr ⟨lw_r4, List.forall_mem_append.mpr ⟨lw_r5, List.forall_mem_append.mpr ⟨lw_r6, List.forall_mem_append.mpr ⟨lw_r7, List.forall_mem_append.mpr ⟨lw_r8, List.forall_mem_append.mpr ⟨lw_r9, List.forall_mem_append.mpr ⟨lw_r10, lw_r11⟩⟩⟩⟩⟩⟩⟩⟩⟩⟩
end
section
/-! ===== BEGIN words of one list among another's, by their places ===== -/
theorem goodIn_r {big : List Cond} (ws : List Cond) (ps : List Nat) (hp : ws = ps.filterMap (fun i => big[i]?)) (h : ws.all goodWord = true) : GoodIn big ws := by
  intro w hw
  have h1 := List.all_eq_true.mp h w hw
  rw [hp] at hw
  obtain ⟨i, -, hi⟩ := List.mem_filterMap.mp hw
  have hm : w ∈ big := by first | exact List.mem_of_getElem? hi | exact List.getElem?_mem hi
  exact ⟨hm, good_of_word h1⟩
theorem goodIn_app {big a b : List Cond} (ha : GoodIn big a) (hb : GoodIn big b) : GoodIn big (a ++ b) := fun w h => (List.mem_append.mp h).elim (ha w) (hb w)
theorem goodIn_ca {big a b : List Cond} {c : Cond} (ha : GoodIn big (c :: a)) (hb : GoodIn big b) : GoodIn big (c :: (a ++ b)) := fun w h => (List.mem_cons.mp h).elim (fun e => ha w (List.mem_cons.mpr (Or.inl e))) (fun h => (List.mem_append.mp h).elim (fun h => ha w (List.mem_cons.mpr (Or.inr h))) (hb w))
theorem goodIn_sub {big ws : List Cond} (hm : ∀ w ∈ ws, w ∈ big) (h : ws.all goodWord = true) : GoodIn big ws := fun w hw => ⟨hm w hw, good_of_word (List.all_eq_true.mp h w hw)⟩
/-! ===== END ===== -/


def RX0 : String := "CellSlide$Changes"
def RX1 : String := "CellSlide$HeapText"
def RX2 : String := "CellSlide$Kinds"
def RX3 : String := "CellSlide$Picture"
def RX4 : String := "CellSlide$RunText"
def RX5 : String := "CellSlide$Runner"
def RX6 : String := "CellSlide$Sight"
def RX7 : String := "CellSlide$Slide"
def RX8 : String := "CellSlide$State"
def RX9 : String := "CellSlide$Survey"
def RX10 : String := "CellSlide$Tape"
def RX11 : String := "CellSlide"
def RX12 : String := "CellSlideModel"
def RJ7 : String := "java/util/Arrays"
def RL : String := "CellSlideLaw"
def TX0 : u_T := fun k => match k with
  | 0 => ("CellSlide$Changes", "kinds", "LCellSlide$Kinds;", true)
  | 1 => ("CellSlide$Changes", "slide", "LCellSlide$Slide;", true)
  | _ => ("CellSlide$Changes", "seed", "J", false)
def tyX0 : Nat → FieldType := fun k => match k with
  | 0 => .object "CellSlide$Kinds"
  | 1 => .object "CellSlide$Slide"
  | _ => .long
abbrev wsX00 : List Cond := u_ws RX0 TX0 3
theorem nmX0 : ∀ a, a < 3 → ∀ b, b < 3 → a ≠ b → (TX0 a).2.1 ≠ (TX0 b).2.1 := by decide +kernel
theorem tyX0_ok : ∀ k, k < 3 → parseFieldDescriptor (TX0 k).2.2.1 = some (tyX0 k) := by decide +kernel
def TX1 : u_T := fun k => match k with
  | 0 => ("CellSlide$HeapText", "tape", "LCellSlide$Tape;", true)
  | 1 => ("CellSlide$HeapText", "kinds", "LCellSlide$Kinds;", true)
  | 2 => ("CellSlide$HeapText", "state", "LCellSlide$State;", true)
  | 3 => ("CellSlide$HeapText", "cellNames", "[J", true)
  | 4 => ("CellSlide$HeapText", "cellBegins", "[I", true)
  | 5 => ("CellSlide$HeapText", "cellCount", "I", false)
  | 6 => ("CellSlide$HeapText", "statements", "I", false)
  | _ => ("CellSlide$HeapText", "item", "I", false)
def tyX1 : Nat → FieldType := fun k => match k with
  | 0 => .object "CellSlide$Tape"
  | 1 => .object "CellSlide$Kinds"
  | 2 => .object "CellSlide$State"
  | 3 => .array .long
  | 4 => .array .int
  | 5 => .int
  | 6 => .int
  | _ => .int
abbrev wsX10 : List Cond := u_ws RX1 TX1 8
theorem nmX1 : ∀ a, a < 8 → ∀ b, b < 8 → a ≠ b → (TX1 a).2.1 ≠ (TX1 b).2.1 := by decide +kernel
theorem tyX1_ok : ∀ k, k < 8 → parseFieldDescriptor (TX1 k).2.2.1 = some (tyX1 k) := by decide +kernel
def TX2 : u_T := fun k => match k with
  | 0 => ("CellSlide$Kinds", "count", "I", false)
  | 1 => ("CellSlide$Kinds", "names", "[J", true)
  | 2 => ("CellSlide$Kinds", "fields", "[I", true)
  | _ => ("CellSlide$Kinds", "sorts", "[I", true)
def tyX2 : Nat → FieldType := fun k => match k with
  | 0 => .int
  | 1 => .array .long
  | 2 => .array .int
  | _ => .array .int
abbrev wsX20 : List Cond := u_ws RX2 TX2 4
theorem nmX2 : ∀ a, a < 4 → ∀ b, b < 4 → a ≠ b → (TX2 a).2.1 ≠ (TX2 b).2.1 := by decide +kernel
theorem tyX2_ok : ∀ k, k < 4 → parseFieldDescriptor (TX2 k).2.2.1 = some (tyX2 k) := by decide +kernel
def TX3 : u_T := fun k => match k with
  | 0 => ("CellSlide$Picture", "kinds", "LCellSlide$Kinds;", true)
  | 1 => ("CellSlide$Picture", "bytes", "[I", true)
  | _ => ("CellSlide$Picture", "length", "I", false)
def tyX3 : Nat → FieldType := fun k => match k with
  | 0 => .object "CellSlide$Kinds"
  | 1 => .array .int
  | _ => .int
abbrev wsX30 : List Cond := u_ws RX3 TX3 3
theorem nmX3 : ∀ a, a < 3 → ∀ b, b < 3 → a ≠ b → (TX3 a).2.1 ≠ (TX3 b).2.1 := by decide +kernel
theorem tyX3_ok : ∀ k, k < 3 → parseFieldDescriptor (TX3 k).2.2.1 = some (tyX3 k) := by decide +kernel
def TX4 : u_T := fun k => match k with
  | 0 => ("CellSlide$RunText", "tape", "LCellSlide$Tape;", true)
  | 1 => ("CellSlide$RunText", "kinds", "LCellSlide$Kinds;", true)
  | 2 => ("CellSlide$RunText", "code", "[I", true)
  | 3 => ("CellSlide$RunText", "size", "I", false)
  | 4 => ("CellSlide$RunText", "open", "[I", true)
  | _ => ("CellSlide$RunText", "depth", "I", false)
def tyX4 : Nat → FieldType := fun k => match k with
  | 0 => .object "CellSlide$Tape"
  | 1 => .object "CellSlide$Kinds"
  | 2 => .array .int
  | 3 => .int
  | 4 => .array .int
  | _ => .int
abbrev wsX40 : List Cond := u_ws RX4 TX4 6
theorem nmX4 : ∀ a, a < 6 → ∀ b, b < 6 → a ≠ b → (TX4 a).2.1 ≠ (TX4 b).2.1 := by decide +kernel
theorem tyX4_ok : ∀ k, k < 6 → parseFieldDescriptor (TX4 k).2.2.1 = some (tyX4 k) := by decide +kernel
def TX5 : u_T := fun k => match k with
  | 0 => ("CellSlide$Runner", "state", "LCellSlide$State;", true)
  | 1 => ("CellSlide$Runner", "kinds", "LCellSlide$Kinds;", true)
  | 2 => ("CellSlide$Runner", "slide", "LCellSlide$Slide;", true)
  | 3 => ("CellSlide$Runner", "text", "LCellSlide$RunText;", true)
  | 4 => ("CellSlide$Runner", "code", "[I", true)
  | 5 => ("CellSlide$Runner", "roundsLeft", "[I", true)
  | 6 => ("CellSlide$Runner", "level", "I", false)
  | 7 => ("CellSlide$Runner", "at", "I", false)
  | 8 => ("CellSlide$Runner", "acts", "I", false)
  | 9 => ("CellSlide$Runner", "failure", "I", false)
  | _ => ("CellSlide$Runner", "failedAt", "I", false)
def tyX5 : Nat → FieldType := fun k => match k with
  | 0 => .object "CellSlide$State"
  | 1 => .object "CellSlide$Kinds"
  | 2 => .object "CellSlide$Slide"
  | 3 => .object "CellSlide$RunText"
  | 4 => .array .int
  | 5 => .array .int
  | 6 => .int
  | 7 => .int
  | 8 => .int
  | 9 => .int
  | _ => .int
abbrev wsX50 : List Cond := u_ws RX5 TX5 11
theorem nmX5 : ∀ a, a < 11 → ∀ b, b < 11 → a ≠ b → (TX5 a).2.1 ≠ (TX5 b).2.1 := by decide +kernel
theorem tyX5_ok : ∀ k, k < 11 → parseFieldDescriptor (TX5 k).2.2.1 = some (tyX5 k) := by decide +kernel
def TX6 : u_T := fun k => match k with
  | 0 => ("CellSlide$Sight", "slide", "LCellSlide$Slide;", true)
  | 1 => ("CellSlide$Sight", "ghost", "LCellSlide$State;", true)
  | 2 => ("CellSlide$Sight", "addresses", "[I", true)
  | 3 => ("CellSlide$Sight", "values", "[I", true)
  | 4 => ("CellSlide$Sight", "rows", "I", false)
  | 5 => ("CellSlide$Sight", "hits", "[I", true)
  | 6 => ("CellSlide$Sight", "hitCount", "I", false)
  | 7 => ("CellSlide$Sight", "telling", "I", false)
  | 8 => ("CellSlide$Sight", "mostLeft", "I", false)
  | 9 => ("CellSlide$Sight", "words", "[I", false)
  | _ => ("CellSlide$Sight", "alike", "[I", false)
def tyX6 : Nat → FieldType := fun k => match k with
  | 0 => .object "CellSlide$Slide"
  | 1 => .object "CellSlide$State"
  | 2 => .array .int
  | 3 => .array .int
  | 4 => .int
  | 5 => .array .int
  | 6 => .int
  | 7 => .int
  | 8 => .int
  | 9 => .array .int
  | _ => .array .int
abbrev wsX60 : List Cond := u_ws RX6 TX6 11
theorem nmX6 : ∀ a, a < 11 → ∀ b, b < 11 → a ≠ b → (TX6 a).2.1 ≠ (TX6 b).2.1 := by decide +kernel
theorem tyX6_ok : ∀ k, k < 11 → parseFieldDescriptor (TX6 k).2.2.1 = some (tyX6 k) := by decide +kernel
def TX7 : u_T := fun k => match k with
  | 0 => ("CellSlide$Slide", "kinds", "LCellSlide$Kinds;", true)
  | _ => ("CellSlide$Slide", "survey", "LCellSlide$Survey;", true)
def tyX7 : Nat → FieldType := fun k => match k with
  | 0 => .object "CellSlide$Kinds"
  | _ => .object "CellSlide$Survey"
abbrev wsX70 : List Cond := u_ws RX7 TX7 2
theorem nmX7 : ∀ a, a < 2 → ∀ b, b < 2 → a ≠ b → (TX7 a).2.1 ≠ (TX7 b).2.1 := by decide +kernel
theorem tyX7_ok : ∀ k, k < 2 → parseFieldDescriptor (TX7 k).2.2.1 = some (tyX7 k) := by decide +kernel
def TX8 : u_T := fun k => match k with
  | 0 => ("CellSlide$State", "words", "I", false)
  | 1 => ("CellSlide$State", "limit", "I", false)
  | 2 => ("CellSlide$State", "method", "I", false)
  | 3 => ("CellSlide$State", "held", "[I", true)
  | 4 => ("CellSlide$State", "going", "Z", false)
  | 5 => ("CellSlide$State", "done", "I", false)
  | 6 => ("CellSlide$State", "live", "[I", true)
  | 7 => ("CellSlide$State", "liveCount", "I", false)
  | 8 => ("CellSlide$State", "blocks", "I", false)
  | 9 => ("CellSlide$State", "cells", "I", false)
  | 10 => ("CellSlide$State", "clearedWeak", "I", false)
  | 11 => ("CellSlide$State", "ended", "I", false)
  | 12 => ("CellSlide$State", "keptCount", "I", false)
  | _ => ("CellSlide$State", "kept", "[I", true)
def tyX8 : Nat → FieldType := fun k => match k with
  | 0 => .int
  | 1 => .int
  | 2 => .int
  | 3 => .array .int
  | 4 => .boolean
  | 5 => .int
  | 6 => .array .int
  | 7 => .int
  | 8 => .int
  | 9 => .int
  | 10 => .int
  | 11 => .int
  | 12 => .int
  | _ => .array .int
abbrev wsX80 : List Cond := u_ws RX8 TX8 14
theorem nmX8 : ∀ a, a < 14 → ∀ b, b < 14 → a ≠ b → (TX8 a).2.1 ≠ (TX8 b).2.1 := by decide +kernel
theorem tyX8_ok : ∀ k, k < 14 → parseFieldDescriptor (TX8 k).2.2.1 = some (tyX8 k) := by decide +kernel
def TX9 : u_T := fun k => match k with
  | 0 => ("CellSlide$Survey", "kinds", "LCellSlide$Kinds;", true)
  | 1 => ("CellSlide$Survey", "begins", "[I", true)
  | 2 => ("CellSlide$Survey", "foundIndex", "[I", true)
  | 3 => ("CellSlide$Survey", "order", "[I", true)
  | 4 => ("CellSlide$Survey", "far", "[I", true)
  | 5 => ("CellSlide$Survey", "from", "[I", true)
  | 6 => ("CellSlide$Survey", "by", "[I", true)
  | 7 => ("CellSlide$Survey", "threads", "[I", true)
  | 8 => ("CellSlide$Survey", "count", "I", false)
  | 9 => ("CellSlide$Survey", "liveWords", "I", false)
  | _ => ("CellSlide$Survey", "without", "I", false)
def tyX9 : Nat → FieldType := fun k => match k with
  | 0 => .object "CellSlide$Kinds"
  | 1 => .array .int
  | 2 => .array .int
  | 3 => .array .int
  | 4 => .array .int
  | 5 => .array .int
  | 6 => .array .int
  | 7 => .array .int
  | 8 => .int
  | 9 => .int
  | _ => .int
abbrev wsX90 : List Cond := u_ws RX9 TX9 11
theorem nmX9 : ∀ a, a < 11 → ∀ b, b < 11 → a ≠ b → (TX9 a).2.1 ≠ (TX9 b).2.1 := by decide +kernel
theorem tyX9_ok : ∀ k, k < 11 → parseFieldDescriptor (TX9 k).2.2.1 = some (tyX9 k) := by decide +kernel
def TX10 : u_T := fun k => match k with
  | 0 => ("CellSlide$Tape", "bytes", "[I", true)
  | 1 => ("CellSlide$Tape", "length", "I", false)
  | 2 => ("CellSlide$Tape", "at", "I", false)
  | 3 => ("CellSlide$Tape", "tokenAt", "I", false)
  | 4 => ("CellSlide$Tape", "tokenEnd", "I", false)
  | 5 => ("CellSlide$Tape", "own", "I", false)
  | 6 => ("CellSlide$Tape", "name", "J", false)
  | 7 => ("CellSlide$Tape", "number", "I", false)
  | 8 => ("CellSlide$Tape", "fault", "I", false)
  | _ => ("CellSlide$Tape", "place", "I", false)
def tyX10 : Nat → FieldType := fun k => match k with
  | 0 => .array .int
  | 1 => .int
  | 2 => .int
  | 3 => .int
  | 4 => .int
  | 5 => .int
  | 6 => .long
  | 7 => .int
  | 8 => .int
  | _ => .int
abbrev wsX100 : List Cond := u_ws RX10 TX10 10
theorem nmX10 : ∀ a, a < 10 → ∀ b, b < 10 → a ≠ b → (TX10 a).2.1 ≠ (TX10 b).2.1 := by decide +kernel
theorem tyX10_ok : ∀ k, k < 10 → parseFieldDescriptor (TX10 k).2.2.1 = some (tyX10 k) := by decide +kernel
def TX11 : u_T := fun k => match k with
  | 0 => ("CellSlide", "tape", "LCellSlide$Tape;", true)
  | 1 => ("CellSlide", "kinds", "LCellSlide$Kinds;", true)
  | 2 => ("CellSlide", "draftKinds", "LCellSlide$Kinds;", true)
  | 3 => ("CellSlide", "state", "LCellSlide$State;", true)
  | 4 => ("CellSlide", "draft", "LCellSlide$State;", true)
  | 5 => ("CellSlide", "survey", "LCellSlide$Survey;", true)
  | 6 => ("CellSlide", "slide", "LCellSlide$Slide;", true)
  | 7 => ("CellSlide", "heapText", "LCellSlide$HeapText;", true)
  | 8 => ("CellSlide", "runText", "LCellSlide$RunText;", true)
  | 9 => ("CellSlide", "runner", "LCellSlide$Runner;", true)
  | 10 => ("CellSlide", "changes", "LCellSlide$Changes;", true)
  | 11 => ("CellSlide", "sight", "LCellSlide$Sight;", true)
  | 12 => ("CellSlide", "picture", "LCellSlide$Picture;", true)
  | 13 => ("CellSlide", "refused", "[I", true)
  | 14 => ("CellSlide", "past", "[LCellSlide$State;", true)
  | 15 => ("CellSlide", "pastCount", "I", false)
  | 16 => ("CellSlide", "pastNext", "I", false)
  | 17 => ("CellSlide", "remembered", "[I", true)
  | 18 => ("CellSlide", "rememberedLength", "I", false)
  | _ => ("CellSlide", "shapeNow", "[I", true)
def tyX11 : Nat → FieldType := fun k => match k with
  | 0 => .object "CellSlide$Tape"
  | 1 => .object "CellSlide$Kinds"
  | 2 => .object "CellSlide$Kinds"
  | 3 => .object "CellSlide$State"
  | 4 => .object "CellSlide$State"
  | 5 => .object "CellSlide$Survey"
  | 6 => .object "CellSlide$Slide"
  | 7 => .object "CellSlide$HeapText"
  | 8 => .object "CellSlide$RunText"
  | 9 => .object "CellSlide$Runner"
  | 10 => .object "CellSlide$Changes"
  | 11 => .object "CellSlide$Sight"
  | 12 => .object "CellSlide$Picture"
  | 13 => .array .int
  | 14 => .array (.object "CellSlide$State")
  | 15 => .int
  | 16 => .int
  | 17 => .array .int
  | 18 => .int
  | _ => .array .int
abbrev wsX110 : List Cond := u_ws RX11 TX11 20
theorem nmX11 : ∀ a, a < 20 → ∀ b, b < 20 → a ≠ b → (TX11 a).2.1 ≠ (TX11 b).2.1 := by decide +kernel
theorem tyX11_ok : ∀ k, k < 20 → parseFieldDescriptor (TX11 k).2.2.1 = some (tyX11 k) := by decide +kernel
def TX12 : u_T := fun k => match k with
  | 0 => ("CellSlideModel", "tape", "[I", true)
  | 1 => ("CellSlideModel", "taped", "I", false)
  | 2 => ("CellSlideModel", "at", "I", false)
  | 3 => ("CellSlideModel", "end", "I", false)
  | 4 => ("CellSlideModel", "ended", "I", false)
  | 5 => ("CellSlideModel", "bad", "I", false)
  | 6 => ("CellSlideModel", "badPlace", "I", false)
  | 7 => ("CellSlideModel", "fault", "I", false)
  | 8 => ("CellSlideModel", "faultPlace", "I", false)
  | 9 => ("CellSlideModel", "refused", "[I", true)
  | 10 => ("CellSlideModel", "heapWord", "[C", true)
  | 11 => ("CellSlideModel", "kindWord", "[C", true)
  | 12 => ("CellSlideModel", "cellWord", "[C", true)
  | 13 => ("CellSlideModel", "setWord", "[C", true)
  | 14 => ("CellSlideModel", "rootWord", "[C", true)
  | 15 => ("CellSlideModel", "methodWord", "[C", true)
  | 16 => ("CellSlideModel", "numWord", "[C", true)
  | 17 => ("CellSlideModel", "refWord", "[C", true)
  | 18 => ("CellSlideModel", "weakWord", "[C", true)
  | 19 => ("CellSlideModel", "nilWord", "[C", true)
  | 20 => ("CellSlideModel", "newWord", "[C", true)
  | 21 => ("CellSlideModel", "slideWord", "[C", true)
  | 22 => ("CellSlideModel", "repeatWord", "[C", true)
  | 23 => ("CellSlideModel", "whenWord", "[C", true)
  | 24 => ("CellSlideModel", "namePlace", "I", false)
  | 25 => ("CellSlideModel", "size", "I", false)
  | 26 => ("CellSlideModel", "size0", "I", false)
  | 27 => ("CellSlideModel", "kindMany", "I", false)
  | 28 => ("CellSlideModel", "kindMany0", "I", false)
  | 29 => ("CellSlideModel", "fields", "[I", true)
  | 30 => ("CellSlideModel", "sorts", "[I", true)
  | 31 => ("CellSlideModel", "kindName", "[I", true)
  | 32 => ("CellSlideModel", "cellName", "[I", true)
  | 33 => ("CellSlideModel", "cellFirst", "[I", true)
  | 34 => ("CellSlideModel", "cellNames", "I", false)
  | 35 => ("CellSlideModel", "now", "[I", true)
  | 36 => ("CellSlideModel", "laid", "[I", true)
  | 37 => ("CellSlideModel", "view", "[I", true)
  | 38 => ("CellSlideModel", "isTold", "Z", false)
  | 39 => ("CellSlideModel", "statements", "I", false)
  | 40 => ("CellSlideModel", "cellMany", "I", false)
  | 41 => ("CellSlideModel", "firstOf", "[I", true)
  | 42 => ("CellSlideModel", "cellOfWord", "[I", true)
  | 43 => ("CellSlideModel", "live", "[Z", true)
  | 44 => ("CellSlideModel", "liveMany", "I", false)
  | 45 => ("CellSlideModel", "liveAt", "[I", true)
  | 46 => ("CellSlideModel", "goesTo", "[I", true)
  | 47 => ("CellSlideModel", "blockMany", "I", false)
  | 48 => ("CellSlideModel", "blockAt", "[I", true)
  | 49 => ("CellSlideModel", "blockWords", "[I", true)
  | 50 => ("CellSlideModel", "weakGone", "I", false)
  | 51 => ("CellSlideModel", "far", "[I", true)
  | 52 => ("CellSlideModel", "near", "[I", true)
  | 53 => ("CellSlideModel", "foundMany", "I", false)
  | 54 => ("CellSlideModel", "foundRow", "[I", true)
  | 55 => ("CellSlideModel", "foundAs", "[I", true)
  | 56 => ("CellSlideModel", "isRemembered", "Z", false)
  | 57 => ("CellSlideModel", "shapeMany", "I", false)
  | 58 => ("CellSlideModel", "shapeMany0", "I", false)
  | 59 => ("CellSlideModel", "shape", "[I", true)
  | 60 => ("CellSlideModel", "shape0", "[I", true)
  | 61 => ("CellSlideModel", "rowMany", "I", false)
  | 62 => ("CellSlideModel", "rows", "[I", true)
  | 63 => ("CellSlideModel", "fits", "[Z", true)
  | 64 => ("CellSlideModel", "fitMany", "I", false)
  | 65 => ("CellSlideModel", "held", "[I", true)
  | 66 => ("CellSlideModel", "like", "[I", true)
  | 67 => ("CellSlideModel", "kept0", "[I", true)
  | 68 => ("CellSlideModel", "undoable", "I", false)
  | 69 => ("CellSlideModel", "newest", "I", false)
  | 70 => ("CellSlideModel", "seeded", "J", false)
  | 71 => ("CellSlideModel", "registerWord", "[C", true)
  | 72 => ("CellSlideModel", "opened", "I", false)
  | 73 => ("CellSlideModel", "failKind", "I", false)
  | 74 => ("CellSlideModel", "failPlace", "I", false)
  | 75 => ("CellSlideModel", "acts", "I", false)
  | 76 => ("CellSlideModel", "valueSort", "I", false)
  | 77 => ("CellSlideModel", "valueNumber", "I", false)
  | 78 => ("CellSlideModel", "frameMany", "I", false)
  | 79 => ("CellSlideModel", "framePlace", "[I", true)
  | 80 => ("CellSlideModel", "frameBody", "[I", true)
  | 81 => ("CellSlideModel", "frameLeft", "[I", true)
  | 82 => ("CellSlideModel", "octet", "[I", true)
  | _ => ("CellSlideModel", "octets", "I", false)
def tyX12 : Nat → FieldType := fun k => match k with
  | 0 => .array .int
  | 1 => .int
  | 2 => .int
  | 3 => .int
  | 4 => .int
  | 5 => .int
  | 6 => .int
  | 7 => .int
  | 8 => .int
  | 9 => .array .int
  | 10 => .array .char
  | 11 => .array .char
  | 12 => .array .char
  | 13 => .array .char
  | 14 => .array .char
  | 15 => .array .char
  | 16 => .array .char
  | 17 => .array .char
  | 18 => .array .char
  | 19 => .array .char
  | 20 => .array .char
  | 21 => .array .char
  | 22 => .array .char
  | 23 => .array .char
  | 24 => .int
  | 25 => .int
  | 26 => .int
  | 27 => .int
  | 28 => .int
  | 29 => .array .int
  | 30 => .array .int
  | 31 => .array .int
  | 32 => .array .int
  | 33 => .array .int
  | 34 => .int
  | 35 => .array .int
  | 36 => .array .int
  | 37 => .array .int
  | 38 => .boolean
  | 39 => .int
  | 40 => .int
  | 41 => .array .int
  | 42 => .array .int
  | 43 => .array .boolean
  | 44 => .int
  | 45 => .array .int
  | 46 => .array .int
  | 47 => .int
  | 48 => .array .int
  | 49 => .array .int
  | 50 => .int
  | 51 => .array .int
  | 52 => .array .int
  | 53 => .int
  | 54 => .array .int
  | 55 => .array .int
  | 56 => .boolean
  | 57 => .int
  | 58 => .int
  | 59 => .array .int
  | 60 => .array .int
  | 61 => .int
  | 62 => .array .int
  | 63 => .array .boolean
  | 64 => .int
  | 65 => .array .int
  | 66 => .array .int
  | 67 => .array .int
  | 68 => .int
  | 69 => .int
  | 70 => .long
  | 71 => .array .char
  | 72 => .int
  | 73 => .int
  | 74 => .int
  | 75 => .int
  | 76 => .int
  | 77 => .int
  | 78 => .int
  | 79 => .array .int
  | 80 => .array .int
  | 81 => .array .int
  | 82 => .array .int
  | _ => .int
abbrev wsX120 : List Cond := u_ws RX12 TX12 84
theorem nmX12 : ∀ a, a < 84 → ∀ b, b < 84 → a ≠ b → (TX12 a).2.1 ≠ (TX12 b).2.1 := by decide +kernel
theorem tyX12_ok : ∀ k, k < 84 → parseFieldDescriptor (TX12 k).2.2.1 = some (tyX12 k) := by decide +kernel
abbrev cX0_init : ByteArray := prog_2_method_1_code
def yX0_init : MethodName := ⟨RX0, "<init>", "(LCellSlide$Kinds;LCellSlide$Slide;)V"⟩
abbrev cX10_init : ByteArray := prog_12_method_1_code
def yX10_init : MethodName := ⟨RX10, "<init>", "()V"⟩
abbrev cX1_init : ByteArray := prog_3_method_1_code
def yX1_init : MethodName := ⟨RX1, "<init>", "(LCellSlide$Tape;LCellSlide$Kinds;LCellSlide$State;)V"⟩
abbrev cX2_init : ByteArray := prog_4_method_1_code
def yX2_init : MethodName := ⟨RX2, "<init>", "()V"⟩
abbrev cX3_init : ByteArray := prog_5_method_1_code
def yX3_init : MethodName := ⟨RX3, "<init>", "(LCellSlide$Kinds;)V"⟩
abbrev cX4_init : ByteArray := prog_6_method_1_code
def yX4_init : MethodName := ⟨RX4, "<init>", "(LCellSlide$Tape;LCellSlide$Kinds;)V"⟩
abbrev cX7_init : ByteArray := prog_9_method_1_code
def yX7_init : MethodName := ⟨RX7, "<init>", "(LCellSlide$Kinds;LCellSlide$Survey;)V"⟩
abbrev cX8_init : ByteArray := prog_10_method_1_code
def yX8_init : MethodName := ⟨RX8, "<init>", "()V"⟩
abbrev cX9_init : ByteArray := prog_11_method_1_code
def yX9_init : MethodName := ⟨RX9, "<init>", "(LCellSlide$Kinds;)V"⟩
abbrev vwCl : List vw_C := [(RX0, TX0, 3), (RX1, TX1, 8), (RX2, TX2, 4), (RX3, TX3, 3), (RX4, TX4, 6), (RX5, TX5, 11), (RX6, TX6, 11), (RX7, TX7, 2), (RX8, TX8, 14), (RX9, TX9, 11), (RX10, TX10, 10), (RX11, TX11, 20), (RX12, TX12, 84)]
end
section
def wE_0 : List Cond := [Cond.code yX10_init cX10_init 1 none, Cond.methodLink RX10 3 objectInit, Cond.instanceMethod objectInit, Cond.code objectInit ⟨#[0xb1]⟩ 1 none, Cond.arrayClass .int, Cond.fieldLink RX10 9 "CellSlide$Tape" "bytes" "[I", Cond.fieldLink RX10 15 "CellSlide$Tape" "length" "I", Cond.fieldLink RX10 19 "CellSlide$Tape" "at" "I", Cond.fieldLink RX10 22 "CellSlide$Tape" "tokenAt" "I", Cond.fieldLink RX10 25 "CellSlide$Tape" "tokenEnd" "I", Cond.fieldLink RX10 28 "CellSlide$Tape" "own" "I", Cond.fieldLink RX10 31 "CellSlide$Tape" "name" "J", Cond.fieldLink RX10 35 "CellSlide$Tape" "number" "I", Cond.fieldLink RX10 38 "CellSlide$Tape" "fault" "I", Cond.fieldLink RX10 41 "CellSlide$Tape" "place" "I", Cond.code yX2_init cX2_init 1 none, Cond.methodLink RX2 3 objectInit, Cond.fieldLink RX2 9 "CellSlide$Kinds" "count" "I", Cond.arrayClass .long, Cond.fieldLink RX2 15 "CellSlide$Kinds" "names" "[J", Cond.fieldLink RX2 19 "CellSlide$Kinds" "fields" "[I", Cond.fieldLink RX2 23 "CellSlide$Kinds" "sorts" "[I", Cond.code yX8_init cX8_init 1 none, Cond.methodLink RX8 3 objectInit]
def wE_1 : List Cond := [Cond.fieldLink RX8 9 "CellSlide$State" "words" "I", Cond.fieldLink RX8 15 "CellSlide$State" "limit" "I", Cond.fieldLink RX8 18 "CellSlide$State" "method" "I", Cond.fieldLink RX8 21 "CellSlide$State" "held" "[I", Cond.fieldLink RX8 25 "CellSlide$State" "going" "Z", Cond.fieldLink RX8 29 "CellSlide$State" "done" "I", Cond.fieldLink RX8 32 "CellSlide$State" "live" "[I", Cond.fieldLink RX8 35 "CellSlide$State" "liveCount" "I", Cond.fieldLink RX8 38 "CellSlide$State" "blocks" "I", Cond.fieldLink RX8 41 "CellSlide$State" "cells" "I", Cond.fieldLink RX8 44 "CellSlide$State" "clearedWeak" "I", Cond.fieldLink RX8 47 "CellSlide$State" "ended" "I", Cond.fieldLink RX8 50 "CellSlide$State" "keptCount" "I", Cond.fieldLink RX8 53 "CellSlide$State" "kept" "[I", Cond.code yX9_init cX9_init 2 none, Cond.methodLink RX9 3 objectInit, Cond.fieldLink RX9 9 "CellSlide$Survey" "begins" "[I", Cond.fieldLink RX9 15 "CellSlide$Survey" "foundIndex" "[I", Cond.fieldLink RX9 18 "CellSlide$Survey" "order" "[I", Cond.fieldLink RX9 21 "CellSlide$Survey" "far" "[I", Cond.fieldLink RX9 24 "CellSlide$Survey" "from" "[I", Cond.fieldLink RX9 27 "CellSlide$Survey" "by" "[I", Cond.fieldLink RX9 30 "CellSlide$Survey" "threads" "[I", Cond.fieldLink RX9 33 "CellSlide$Survey" "count" "I"]
def wE_2 : List Cond := [Cond.fieldLink RX9 37 "CellSlide$Survey" "liveWords" "I", Cond.fieldLink RX9 40 "CellSlide$Survey" "without" "I", Cond.fieldLink RX9 43 "CellSlide$Survey" "kinds" "LCellSlide$Kinds;", Cond.code yX7_init cX7_init 3 none, Cond.methodLink RX7 3 objectInit, Cond.fieldLink RX7 9 "CellSlide$Slide" "kinds" "LCellSlide$Kinds;", Cond.fieldLink RX7 15 "CellSlide$Slide" "survey" "LCellSlide$Survey;", Cond.code yX1_init cX1_init 4 none, Cond.methodLink RX1 3 objectInit, Cond.fieldLink RX1 9 "CellSlide$HeapText" "cellNames" "[J", Cond.fieldLink RX1 15 "CellSlide$HeapText" "cellBegins" "[I", Cond.fieldLink RX1 19 "CellSlide$HeapText" "cellCount" "I", Cond.fieldLink RX1 23 "CellSlide$HeapText" "statements" "I", Cond.fieldLink RX1 26 "CellSlide$HeapText" "item" "I", Cond.fieldLink RX1 29 "CellSlide$HeapText" "tape" "LCellSlide$Tape;", Cond.fieldLink RX1 33 "CellSlide$HeapText" "kinds" "LCellSlide$Kinds;", Cond.fieldLink RX1 37 "CellSlide$HeapText" "state" "LCellSlide$State;", Cond.code yX4_init cX4_init 3 none, Cond.methodLink RX4 3 objectInit, Cond.fieldLink RX4 11 "CellSlide$RunText" "code" "[I", Cond.fieldLink RX4 15 "CellSlide$RunText" "size" "I", Cond.fieldLink RX4 19 "CellSlide$RunText" "open" "[I", Cond.fieldLink RX4 22 "CellSlide$RunText" "depth" "I", Cond.fieldLink RX4 25 "CellSlide$RunText" "tape" "LCellSlide$Tape;"]
def wE_3 : List Cond := [Cond.fieldLink RX4 29 "CellSlide$RunText" "kinds" "LCellSlide$Kinds;", Cond.code yX0_init cX0_init 3 none, Cond.methodLink RX0 3 objectInit, Cond.fieldLink RX0 9 "CellSlide$Changes" "seed" "J", Cond.fieldLink RX0 15 "CellSlide$Changes" "kinds" "LCellSlide$Kinds;", Cond.fieldLink RX0 19 "CellSlide$Changes" "slide" "LCellSlide$Slide;", Cond.code yX3_init cX3_init 2 none, Cond.methodLink RX3 3 objectInit, Cond.fieldLink RX3 11 "CellSlide$Picture" "bytes" "[I", Cond.fieldLink RX3 15 "CellSlide$Picture" "length" "I", Cond.fieldLink RX3 19 "CellSlide$Picture" "kinds" "LCellSlide$Kinds;"]
def wA : List Cond := wE_0 ++ (wE_1 ++ (wE_2 ++ (wE_3 ++ (wsX00 ++ (wsX10 ++ (wsX20 ++ (wsX30 ++ (wsX40 ++ (wsX50 ++ (wsX60 ++ (wsX70 ++ (wsX80 ++ (wsX90 ++ (wsX100 ++ (wsX110 ++ (wsX120))))))))))))))))
theorem e_0 : ∀ w ∈ wE_0, w ∈ wA := fun _ h => (List.mem_append_left _ h)
theorem e_1 : ∀ w ∈ wE_1, w ∈ wA := fun _ h => (List.mem_append_right _ (List.mem_append_left _ h))
theorem e_2 : ∀ w ∈ wE_2, w ∈ wA := fun _ h => (List.mem_append_right _ (List.mem_append_right _ (List.mem_append_left _ h)))
theorem e_3 : ∀ w ∈ wE_3, w ∈ wA := fun _ h => (List.mem_append_right _ (List.mem_append_right _ (List.mem_append_right _ (List.mem_append_left _ h))))
theorem i_X0 : ∀ w ∈ wsX00, w ∈ wA := fun _ h => (List.mem_append_right _ (List.mem_append_right _ (List.mem_append_right _ (List.mem_append_right _ (List.mem_append_left _ h)))))
theorem i_X1 : ∀ w ∈ wsX10, w ∈ wA := fun _ h => (List.mem_append_right _ (List.mem_append_right _ (List.mem_append_right _ (List.mem_append_right _ (List.mem_append_right _ (List.mem_append_left _ h))))))
theorem i_X2 : ∀ w ∈ wsX20, w ∈ wA := fun _ h => (List.mem_append_right _ (List.mem_append_right _ (List.mem_append_right _ (List.mem_append_right _ (List.mem_append_right _ (List.mem_append_right _ (List.mem_append_left _ h)))))))
theorem i_X3 : ∀ w ∈ wsX30, w ∈ wA := fun _ h => (List.mem_append_right _ (List.mem_append_right _ (List.mem_append_right _ (List.mem_append_right _ (List.mem_append_right _ (List.mem_append_right _ (List.mem_append_right _ (List.mem_append_left _ h))))))))
theorem i_X4 : ∀ w ∈ wsX40, w ∈ wA := fun _ h => (List.mem_append_right _ (List.mem_append_right _ (List.mem_append_right _ (List.mem_append_right _ (List.mem_append_right _ (List.mem_append_right _ (List.mem_append_right _ (List.mem_append_right _ (List.mem_append_left _ h)))))))))
theorem i_X5 : ∀ w ∈ wsX50, w ∈ wA := fun _ h => (List.mem_append_right _ (List.mem_append_right _ (List.mem_append_right _ (List.mem_append_right _ (List.mem_append_right _ (List.mem_append_right _ (List.mem_append_right _ (List.mem_append_right _ (List.mem_append_right _ (List.mem_append_left _ h))))))))))
theorem i_X6 : ∀ w ∈ wsX60, w ∈ wA := fun _ h => (List.mem_append_right _ (List.mem_append_right _ (List.mem_append_right _ (List.mem_append_right _ (List.mem_append_right _ (List.mem_append_right _ (List.mem_append_right _ (List.mem_append_right _ (List.mem_append_right _ (List.mem_append_right _ (List.mem_append_left _ h)))))))))))
theorem i_X7 : ∀ w ∈ wsX70, w ∈ wA := fun _ h => (List.mem_append_right _ (List.mem_append_right _ (List.mem_append_right _ (List.mem_append_right _ (List.mem_append_right _ (List.mem_append_right _ (List.mem_append_right _ (List.mem_append_right _ (List.mem_append_right _ (List.mem_append_right _ (List.mem_append_right _ (List.mem_append_left _ h))))))))))))
theorem i_X8 : ∀ w ∈ wsX80, w ∈ wA := fun _ h => (List.mem_append_right _ (List.mem_append_right _ (List.mem_append_right _ (List.mem_append_right _ (List.mem_append_right _ (List.mem_append_right _ (List.mem_append_right _ (List.mem_append_right _ (List.mem_append_right _ (List.mem_append_right _ (List.mem_append_right _ (List.mem_append_right _ (List.mem_append_left _ h)))))))))))))
theorem i_X9 : ∀ w ∈ wsX90, w ∈ wA := fun _ h => (List.mem_append_right _ (List.mem_append_right _ (List.mem_append_right _ (List.mem_append_right _ (List.mem_append_right _ (List.mem_append_right _ (List.mem_append_right _ (List.mem_append_right _ (List.mem_append_right _ (List.mem_append_right _ (List.mem_append_right _ (List.mem_append_right _ (List.mem_append_right _ (List.mem_append_left _ h))))))))))))))
theorem i_X10 : ∀ w ∈ wsX100, w ∈ wA := fun _ h => (List.mem_append_right _ (List.mem_append_right _ (List.mem_append_right _ (List.mem_append_right _ (List.mem_append_right _ (List.mem_append_right _ (List.mem_append_right _ (List.mem_append_right _ (List.mem_append_right _ (List.mem_append_right _ (List.mem_append_right _ (List.mem_append_right _ (List.mem_append_right _ (List.mem_append_right _ (List.mem_append_left _ h)))))))))))))))
theorem i_X11 : ∀ w ∈ wsX110, w ∈ wA := fun _ h => (List.mem_append_right _ (List.mem_append_right _ (List.mem_append_right _ (List.mem_append_right _ (List.mem_append_right _ (List.mem_append_right _ (List.mem_append_right _ (List.mem_append_right _ (List.mem_append_right _ (List.mem_append_right _ (List.mem_append_right _ (List.mem_append_right _ (List.mem_append_right _ (List.mem_append_right _ (List.mem_append_right _ (List.mem_append_left _ h))))))))))))))))
theorem i_X12 : ∀ w ∈ wsX120, w ∈ wA := fun _ h => (List.mem_append_right _ (List.mem_append_right _ (List.mem_append_right _ (List.mem_append_right _ (List.mem_append_right _ (List.mem_append_right _ (List.mem_append_right _ (List.mem_append_right _ (List.mem_append_right _ (List.mem_append_right _ (List.mem_append_right _ (List.mem_append_right _ (List.mem_append_right _ (List.mem_append_right _ (List.mem_append_right _ (List.mem_append_right _ h))))))))))))))))
theorem q_0 : Cond.code yX10_init cX10_init 1 none ∈ wA := e_0 _ (List.mem_of_getElem? (i := 0) rfl)
theorem q_1 : Cond.methodLink RX10 3 objectInit ∈ wA := e_0 _ (List.mem_of_getElem? (i := 1) rfl)
theorem q_2 : Cond.instanceMethod objectInit ∈ wA := e_0 _ (List.mem_of_getElem? (i := 2) rfl)
theorem q_3 : Cond.code objectInit ⟨#[0xb1]⟩ 1 none ∈ wA := e_0 _ (List.mem_of_getElem? (i := 3) rfl)
theorem q_4 : Cond.arrayClass .int ∈ wA := e_0 _ (List.mem_of_getElem? (i := 4) rfl)
theorem q_5 : Cond.fieldLink RX10 9 "CellSlide$Tape" "bytes" "[I" ∈ wA := e_0 _ (List.mem_of_getElem? (i := 5) rfl)
theorem q_6 : Cond.fieldLink RX10 15 "CellSlide$Tape" "length" "I" ∈ wA := e_0 _ (List.mem_of_getElem? (i := 6) rfl)
theorem q_7 : Cond.fieldLink RX10 19 "CellSlide$Tape" "at" "I" ∈ wA := e_0 _ (List.mem_of_getElem? (i := 7) rfl)
theorem q_8 : Cond.fieldLink RX10 22 "CellSlide$Tape" "tokenAt" "I" ∈ wA := e_0 _ (List.mem_of_getElem? (i := 8) rfl)
theorem q_9 : Cond.fieldLink RX10 25 "CellSlide$Tape" "tokenEnd" "I" ∈ wA := e_0 _ (List.mem_of_getElem? (i := 9) rfl)
theorem q_10 : Cond.fieldLink RX10 28 "CellSlide$Tape" "own" "I" ∈ wA := e_0 _ (List.mem_of_getElem? (i := 10) rfl)
theorem q_11 : Cond.fieldLink RX10 31 "CellSlide$Tape" "name" "J" ∈ wA := e_0 _ (List.mem_of_getElem? (i := 11) rfl)
theorem q_12 : Cond.fieldLink RX10 35 "CellSlide$Tape" "number" "I" ∈ wA := e_0 _ (List.mem_of_getElem? (i := 12) rfl)
theorem q_13 : Cond.fieldLink RX10 38 "CellSlide$Tape" "fault" "I" ∈ wA := e_0 _ (List.mem_of_getElem? (i := 13) rfl)
theorem q_14 : Cond.fieldLink RX10 41 "CellSlide$Tape" "place" "I" ∈ wA := e_0 _ (List.mem_of_getElem? (i := 14) rfl)
theorem q_15 : Cond.code yX2_init cX2_init 1 none ∈ wA := e_0 _ (List.mem_of_getElem? (i := 15) rfl)
theorem q_16 : Cond.methodLink RX2 3 objectInit ∈ wA := e_0 _ (List.mem_of_getElem? (i := 16) rfl)
theorem q_17 : Cond.fieldLink RX2 9 "CellSlide$Kinds" "count" "I" ∈ wA := e_0 _ (List.mem_of_getElem? (i := 17) rfl)
theorem q_18 : Cond.arrayClass .long ∈ wA := e_0 _ (List.mem_of_getElem? (i := 18) rfl)
theorem q_19 : Cond.fieldLink RX2 15 "CellSlide$Kinds" "names" "[J" ∈ wA := e_0 _ (List.mem_of_getElem? (i := 19) rfl)
theorem q_20 : Cond.fieldLink RX2 19 "CellSlide$Kinds" "fields" "[I" ∈ wA := e_0 _ (List.mem_of_getElem? (i := 20) rfl)
theorem q_21 : Cond.fieldLink RX2 23 "CellSlide$Kinds" "sorts" "[I" ∈ wA := e_0 _ (List.mem_of_getElem? (i := 21) rfl)
theorem q_22 : Cond.code yX8_init cX8_init 1 none ∈ wA := e_0 _ (List.mem_of_getElem? (i := 22) rfl)
theorem q_23 : Cond.methodLink RX8 3 objectInit ∈ wA := e_0 _ (List.mem_of_getElem? (i := 23) rfl)
theorem q_24 : Cond.fieldLink RX8 9 "CellSlide$State" "words" "I" ∈ wA := e_1 _ (List.mem_of_getElem? (i := 0) rfl)
theorem q_25 : Cond.fieldLink RX8 15 "CellSlide$State" "limit" "I" ∈ wA := e_1 _ (List.mem_of_getElem? (i := 1) rfl)
theorem q_26 : Cond.fieldLink RX8 18 "CellSlide$State" "method" "I" ∈ wA := e_1 _ (List.mem_of_getElem? (i := 2) rfl)
theorem q_27 : Cond.fieldLink RX8 21 "CellSlide$State" "held" "[I" ∈ wA := e_1 _ (List.mem_of_getElem? (i := 3) rfl)
theorem q_28 : Cond.fieldLink RX8 25 "CellSlide$State" "going" "Z" ∈ wA := e_1 _ (List.mem_of_getElem? (i := 4) rfl)
theorem q_29 : Cond.fieldLink RX8 29 "CellSlide$State" "done" "I" ∈ wA := e_1 _ (List.mem_of_getElem? (i := 5) rfl)
theorem q_30 : Cond.fieldLink RX8 32 "CellSlide$State" "live" "[I" ∈ wA := e_1 _ (List.mem_of_getElem? (i := 6) rfl)
theorem q_31 : Cond.fieldLink RX8 35 "CellSlide$State" "liveCount" "I" ∈ wA := e_1 _ (List.mem_of_getElem? (i := 7) rfl)
theorem q_32 : Cond.fieldLink RX8 38 "CellSlide$State" "blocks" "I" ∈ wA := e_1 _ (List.mem_of_getElem? (i := 8) rfl)
theorem q_33 : Cond.fieldLink RX8 41 "CellSlide$State" "cells" "I" ∈ wA := e_1 _ (List.mem_of_getElem? (i := 9) rfl)
theorem q_34 : Cond.fieldLink RX8 44 "CellSlide$State" "clearedWeak" "I" ∈ wA := e_1 _ (List.mem_of_getElem? (i := 10) rfl)
theorem q_35 : Cond.fieldLink RX8 47 "CellSlide$State" "ended" "I" ∈ wA := e_1 _ (List.mem_of_getElem? (i := 11) rfl)
theorem q_36 : Cond.fieldLink RX8 50 "CellSlide$State" "keptCount" "I" ∈ wA := e_1 _ (List.mem_of_getElem? (i := 12) rfl)
theorem q_37 : Cond.fieldLink RX8 53 "CellSlide$State" "kept" "[I" ∈ wA := e_1 _ (List.mem_of_getElem? (i := 13) rfl)
theorem q_38 : Cond.code yX9_init cX9_init 2 none ∈ wA := e_1 _ (List.mem_of_getElem? (i := 14) rfl)
theorem q_39 : Cond.methodLink RX9 3 objectInit ∈ wA := e_1 _ (List.mem_of_getElem? (i := 15) rfl)
theorem q_40 : Cond.fieldLink RX9 9 "CellSlide$Survey" "begins" "[I" ∈ wA := e_1 _ (List.mem_of_getElem? (i := 16) rfl)
theorem q_41 : Cond.fieldLink RX9 15 "CellSlide$Survey" "foundIndex" "[I" ∈ wA := e_1 _ (List.mem_of_getElem? (i := 17) rfl)
theorem q_42 : Cond.fieldLink RX9 18 "CellSlide$Survey" "order" "[I" ∈ wA := e_1 _ (List.mem_of_getElem? (i := 18) rfl)
theorem q_43 : Cond.fieldLink RX9 21 "CellSlide$Survey" "far" "[I" ∈ wA := e_1 _ (List.mem_of_getElem? (i := 19) rfl)
theorem q_44 : Cond.fieldLink RX9 24 "CellSlide$Survey" "from" "[I" ∈ wA := e_1 _ (List.mem_of_getElem? (i := 20) rfl)
theorem q_45 : Cond.fieldLink RX9 27 "CellSlide$Survey" "by" "[I" ∈ wA := e_1 _ (List.mem_of_getElem? (i := 21) rfl)
theorem q_46 : Cond.fieldLink RX9 30 "CellSlide$Survey" "threads" "[I" ∈ wA := e_1 _ (List.mem_of_getElem? (i := 22) rfl)
theorem q_47 : Cond.fieldLink RX9 33 "CellSlide$Survey" "count" "I" ∈ wA := e_1 _ (List.mem_of_getElem? (i := 23) rfl)
theorem q_48 : Cond.fieldLink RX9 37 "CellSlide$Survey" "liveWords" "I" ∈ wA := e_2 _ (List.mem_of_getElem? (i := 0) rfl)
theorem q_49 : Cond.fieldLink RX9 40 "CellSlide$Survey" "without" "I" ∈ wA := e_2 _ (List.mem_of_getElem? (i := 1) rfl)
theorem q_50 : Cond.fieldLink RX9 43 "CellSlide$Survey" "kinds" "LCellSlide$Kinds;" ∈ wA := e_2 _ (List.mem_of_getElem? (i := 2) rfl)
theorem q_51 : Cond.code yX7_init cX7_init 3 none ∈ wA := e_2 _ (List.mem_of_getElem? (i := 3) rfl)
theorem q_52 : Cond.methodLink RX7 3 objectInit ∈ wA := e_2 _ (List.mem_of_getElem? (i := 4) rfl)
theorem q_53 : Cond.fieldLink RX7 9 "CellSlide$Slide" "kinds" "LCellSlide$Kinds;" ∈ wA := e_2 _ (List.mem_of_getElem? (i := 5) rfl)
theorem q_54 : Cond.fieldLink RX7 15 "CellSlide$Slide" "survey" "LCellSlide$Survey;" ∈ wA := e_2 _ (List.mem_of_getElem? (i := 6) rfl)
theorem q_55 : Cond.code yX1_init cX1_init 4 none ∈ wA := e_2 _ (List.mem_of_getElem? (i := 7) rfl)
theorem q_56 : Cond.methodLink RX1 3 objectInit ∈ wA := e_2 _ (List.mem_of_getElem? (i := 8) rfl)
theorem q_57 : Cond.fieldLink RX1 9 "CellSlide$HeapText" "cellNames" "[J" ∈ wA := e_2 _ (List.mem_of_getElem? (i := 9) rfl)
theorem q_58 : Cond.fieldLink RX1 15 "CellSlide$HeapText" "cellBegins" "[I" ∈ wA := e_2 _ (List.mem_of_getElem? (i := 10) rfl)
theorem q_59 : Cond.fieldLink RX1 19 "CellSlide$HeapText" "cellCount" "I" ∈ wA := e_2 _ (List.mem_of_getElem? (i := 11) rfl)
theorem q_60 : Cond.fieldLink RX1 23 "CellSlide$HeapText" "statements" "I" ∈ wA := e_2 _ (List.mem_of_getElem? (i := 12) rfl)
theorem q_61 : Cond.fieldLink RX1 26 "CellSlide$HeapText" "item" "I" ∈ wA := e_2 _ (List.mem_of_getElem? (i := 13) rfl)
theorem q_62 : Cond.fieldLink RX1 29 "CellSlide$HeapText" "tape" "LCellSlide$Tape;" ∈ wA := e_2 _ (List.mem_of_getElem? (i := 14) rfl)
theorem q_63 : Cond.fieldLink RX1 33 "CellSlide$HeapText" "kinds" "LCellSlide$Kinds;" ∈ wA := e_2 _ (List.mem_of_getElem? (i := 15) rfl)
theorem q_64 : Cond.fieldLink RX1 37 "CellSlide$HeapText" "state" "LCellSlide$State;" ∈ wA := e_2 _ (List.mem_of_getElem? (i := 16) rfl)
theorem q_65 : Cond.code yX4_init cX4_init 3 none ∈ wA := e_2 _ (List.mem_of_getElem? (i := 17) rfl)
theorem q_66 : Cond.methodLink RX4 3 objectInit ∈ wA := e_2 _ (List.mem_of_getElem? (i := 18) rfl)
theorem q_67 : Cond.fieldLink RX4 11 "CellSlide$RunText" "code" "[I" ∈ wA := e_2 _ (List.mem_of_getElem? (i := 19) rfl)
theorem q_68 : Cond.fieldLink RX4 15 "CellSlide$RunText" "size" "I" ∈ wA := e_2 _ (List.mem_of_getElem? (i := 20) rfl)
theorem q_69 : Cond.fieldLink RX4 19 "CellSlide$RunText" "open" "[I" ∈ wA := e_2 _ (List.mem_of_getElem? (i := 21) rfl)
theorem q_70 : Cond.fieldLink RX4 22 "CellSlide$RunText" "depth" "I" ∈ wA := e_2 _ (List.mem_of_getElem? (i := 22) rfl)
theorem q_71 : Cond.fieldLink RX4 25 "CellSlide$RunText" "tape" "LCellSlide$Tape;" ∈ wA := e_2 _ (List.mem_of_getElem? (i := 23) rfl)
theorem q_72 : Cond.fieldLink RX4 29 "CellSlide$RunText" "kinds" "LCellSlide$Kinds;" ∈ wA := e_3 _ (List.mem_of_getElem? (i := 0) rfl)
theorem q_73 : Cond.code yX0_init cX0_init 3 none ∈ wA := e_3 _ (List.mem_of_getElem? (i := 1) rfl)
theorem q_74 : Cond.methodLink RX0 3 objectInit ∈ wA := e_3 _ (List.mem_of_getElem? (i := 2) rfl)
theorem q_75 : Cond.fieldLink RX0 9 "CellSlide$Changes" "seed" "J" ∈ wA := e_3 _ (List.mem_of_getElem? (i := 3) rfl)
theorem q_76 : Cond.fieldLink RX0 15 "CellSlide$Changes" "kinds" "LCellSlide$Kinds;" ∈ wA := e_3 _ (List.mem_of_getElem? (i := 4) rfl)
theorem q_77 : Cond.fieldLink RX0 19 "CellSlide$Changes" "slide" "LCellSlide$Slide;" ∈ wA := e_3 _ (List.mem_of_getElem? (i := 5) rfl)
theorem q_78 : Cond.code yX3_init cX3_init 2 none ∈ wA := e_3 _ (List.mem_of_getElem? (i := 6) rfl)
theorem q_79 : Cond.methodLink RX3 3 objectInit ∈ wA := e_3 _ (List.mem_of_getElem? (i := 7) rfl)
theorem q_80 : Cond.fieldLink RX3 11 "CellSlide$Picture" "bytes" "[I" ∈ wA := e_3 _ (List.mem_of_getElem? (i := 8) rfl)
theorem q_81 : Cond.fieldLink RX3 15 "CellSlide$Picture" "length" "I" ∈ wA := e_3 _ (List.mem_of_getElem? (i := 9) rfl)
theorem q_82 : Cond.fieldLink RX3 19 "CellSlide$Picture" "kinds" "LCellSlide$Kinds;" ∈ wA := e_3 _ (List.mem_of_getElem? (i := 10) rfl)
set_option maxRecDepth 20000 in
theorem ein_0 : GoodIn lw_tbl wE_0 := goodIn_r _ [208, 209, 202, 203, 258, 210, 213, 217, 220, 223, 224, 227, 230, 233, 235, 263, 264, 265, 290, 270, 272, 279, 295, 296] (by decide +kernel) (by decide +kernel)
set_option maxRecDepth 20000 in
theorem ein_1 : GoodIn lw_tbl wE_1 := goodIn_r _ [297, 303, 310, 315, 320, 324, 327, 330, 333, 336, 339, 341, 343, 345, 380, 381, 383, 385, 386, 388, 390, 391, 392, 394] (by decide +kernel) (by decide +kernel)
set_option maxRecDepth 20000 in
theorem ein_2 : GoodIn lw_tbl wE_2 := goodIn_r _ [396, 398, 382, 426, 427, 428, 429, 439, 440, 444, 445, 446, 447, 449, 441, 442, 443, 471, 472, 475, 477, 479, 480, 473] (by decide +kernel) (by decide +kernel)
set_option maxRecDepth 20000 in
theorem ein_3 : GoodIn lw_tbl wE_3 := goodIn_r _ [474, 540, 541, 544, 542, 543, 604, 605, 607, 609, 606] (by decide +kernel) (by decide +kernel)
set_option maxRecDepth 20000 in
theorem xin_0 : GoodIn lw_tbl wsX00 := goodIn_r _ [546, 548, 550] (by decide +kernel) (by decide +kernel)
set_option maxRecDepth 20000 in
theorem xin_1 : GoodIn lw_tbl wsX10 := goodIn_r _ [450, 452, 454, 456, 458, 460, 462, 464] (by decide +kernel) (by decide +kernel)
set_option maxRecDepth 20000 in
theorem xin_2 : GoodIn lw_tbl wsX20 := goodIn_r _ [281, 283, 285, 287] (by decide +kernel) (by decide +kernel)
set_option maxRecDepth 20000 in
theorem xin_3 : GoodIn lw_tbl wsX30 := goodIn_r _ [611, 613, 615] (by decide +kernel) (by decide +kernel)
set_option maxRecDepth 20000 in
theorem xin_4 : GoodIn lw_tbl wsX40 := goodIn_r _ [481, 483, 485, 487, 489, 491] (by decide +kernel) (by decide +kernel)
set_option maxRecDepth 20000 in
theorem xin_5 : GoodIn lw_tbl wsX50 := goodIn_r _ [513, 515, 517, 519, 521, 523, 525, 527, 529, 531, 533] (by decide +kernel) (by decide +kernel)
set_option maxRecDepth 20000 in
theorem xin_6 : GoodIn lw_tbl wsX60 := goodIn_r _ [577, 579, 581, 583, 585, 587, 589, 591, 593, 595, 597] (by decide +kernel) (by decide +kernel)
set_option maxRecDepth 20000 in
theorem xin_7 : GoodIn lw_tbl wsX70 := goodIn_r _ [430, 432] (by decide +kernel) (by decide +kernel)
set_option maxRecDepth 20000 in
theorem xin_8 : GoodIn lw_tbl wsX80 := goodIn_r _ [347, 349, 351, 353, 355, 357, 359, 361, 363, 365, 367, 369, 371, 373] (by decide +kernel) (by decide +kernel)
set_option maxRecDepth 20000 in
theorem xin_9 : GoodIn lw_tbl wsX90 := goodIn_r _ [399, 401, 403, 405, 407, 409, 411, 413, 415, 417, 419] (by decide +kernel) (by decide +kernel)
set_option maxRecDepth 20000 in
theorem xin_10 : GoodIn lw_tbl wsX100 := goodIn_r _ [237, 239, 241, 243, 245, 247, 249, 251, 253, 255] (by decide +kernel) (by decide +kernel)
set_option maxRecDepth 20000 in
theorem xin_11 : GoodIn lw_tbl wsX110 := goodIn_r _ [639, 641, 643, 645, 647, 649, 651, 653, 655, 657, 659, 661, 663, 665, 667, 669, 671, 673, 675, 677] (by decide +kernel) (by decide +kernel)
set_option maxRecDepth 20000 in
theorem xin_12 : GoodIn lw_tbl wsX120 := goodIn_r _ [1574, 1576, 1578, 1580, 1582, 1584, 1586, 1588, 1590, 1592, 1594, 1596, 1598, 1600, 1602, 1604, 1606, 1608, 1610, 1612, 1614, 1616, 1618, 1620, 1622, 1624, 1626, 1628, 1630, 1632, 1634, 1636, 1638, 1640, 1642, 1644, 1646, 1648, 1650, 1652, 1654, 1656, 1658, 1660, 1662, 1664, 1666, 1668, 1670, 1672, 1674, 1676, 1678, 1680, 1682, 1684, 1686, 1688, 1690, 1692, 1694, 1696, 1698, 1700, 1702, 1704, 1706, 1708, 1710, 1712, 1714, 1716, 1718, 1720, 1722, 1724, 1726, 1728, 1730, 1732, 1734, 1736, 1738, 1740] (by decide +kernel) (by decide +kernel)
theorem wA_in : GoodIn lw_tbl wA := goodIn_app ein_0 (goodIn_app ein_1 (goodIn_app ein_2 (goodIn_app ein_3 (goodIn_app xin_0 (goodIn_app xin_1 (goodIn_app xin_2 (goodIn_app xin_3 (goodIn_app xin_4 (goodIn_app xin_5 (goodIn_app xin_6 (goodIn_app xin_7 (goodIn_app xin_8 (goodIn_app xin_9 (goodIn_app xin_10 (goodIn_app xin_11 (xin_12))))))))))))))))
theorem wA_good : GoodIn wA wA := fun w h => ⟨h, (wA_in w h).2⟩
theorem gk {k : Cond} (hk : k ∈ wA) : GoodIn wA (k :: wA) := fun w hw => (List.mem_cons.mp hw).elim (fun e => by rw [e]; exact wA_good k hk) (fun h => wA_good w h)
theorem gV {own C : String} {idx : Nat} {y : MethodName} {k : Cond} (h1 : Cond.methodLink own idx y ∈ wA) (h2 : Cond.instanceMethod y ∈ wA) (h3 : Cond.selects C y y ∈ wA) (h4 : Cond.initialized C ∈ wA) (hk : k ∈ wA) : GoodIn wA (wsV own idx C y (k :: wA)) := by
  intro w hw
  rcases List.mem_append.mp hw with h | h
  · simp only [List.mem_cons, List.not_mem_nil, or_false] at h
    rcases h with rfl | rfl | rfl | rfl
    · exact wA_good _ h1
    · exact wA_good _ h2
    · exact wA_good _ h3
    · exact wA_good _ h4
  · exact gk hk w h
theorem gS {own : String} {idx : Nat} {y : MethodName} {k : Cond} (h1 : Cond.methodLink own idx y ∈ wA) (h2 : Cond.static y ∈ wA) (h4 : Cond.initialized y.cls ∈ wA) (hk : k ∈ wA) : GoodIn wA (va_wsS own idx y (k :: wA)) := by
  intro w hw
  rcases List.mem_append.mp hw with h | h
  · simp only [List.mem_cons, List.not_mem_nil, or_false] at h
    rcases h with rfl | rfl | rfl
    · exact wA_good _ h1
    · exact wA_good _ h2
    · exact wA_good _ h4
  · exact gk hk w h
theorem vpi {i : Int32} {n : Nat} (h : (!(decide (i < 0)) && decide (i.toNatClampNeg < n)) = true) : vp_in i n := by
  simp only [Bool.and_eq_true, Bool.not_eq_true', decide_eq_false_iff_not, decide_eq_true_eq] at h
  exact fun q => q.elim h.1 (fun q => absurd h.2 (Nat.not_lt.mpr q))
end
section
theorem dX0_init_0 : decode cX0_init 0 = .ok (.aload_n 0, 1) := by decide +kernel
theorem dX0_init_1 : decode cX0_init 1 = .ok (.invokespecial 3, 3) := by decide +kernel
theorem dX0_init_4 : decode cX0_init 4 = .ok (.aload_n 0, 1) := by decide +kernel
theorem dX0_init_5 : decode cX0_init 5 = .ok (.lconst 1, 1) := by decide +kernel
theorem dX0_init_6 : decode cX0_init 6 = .ok (.putfield 9, 3) := by decide +kernel
theorem dX0_init_9 : decode cX0_init 9 = .ok (.aload_n 0, 1) := by decide +kernel
theorem dX0_init_10 : decode cX0_init 10 = .ok (.aload_n 1, 1) := by decide +kernel
theorem dX0_init_11 : decode cX0_init 11 = .ok (.putfield 15, 3) := by decide +kernel
theorem dX0_init_14 : decode cX0_init 14 = .ok (.aload_n 0, 1) := by decide +kernel
theorem dX0_init_15 : decode cX0_init 15 = .ok (.aload_n 2, 1) := by decide +kernel
theorem dX0_init_16 : decode cX0_init 16 = .ok (.putfield 19, 3) := by decide +kernel
theorem dX0_init_19 : decode cX0_init 19 = .ok (.return_, 1) := by decide +kernel
theorem dX10_init_0 : decode cX10_init 0 = .ok (.aload_n 0, 1) := by decide +kernel
theorem dX10_init_1 : decode cX10_init 1 = .ok (.invokespecial 3, 3) := by decide +kernel
theorem dX10_init_4 : decode cX10_init 4 = .ok (.aload_n 0, 1) := by decide +kernel
theorem dX10_init_5 : decode cX10_init 5 = .ok (.sipush 1600, 3) := by decide +kernel
theorem dX10_init_8 : decode cX10_init 8 = .ok (.newarray .int, 2) := by decide +kernel
theorem dX10_init_10 : decode cX10_init 10 = .ok (.putfield 9, 3) := by decide +kernel
theorem dX10_init_13 : decode cX10_init 13 = .ok (.aload_n 0, 1) := by decide +kernel
theorem dX10_init_14 : decode cX10_init 14 = .ok (.iconst 0, 1) := by decide +kernel
theorem dX10_init_15 : decode cX10_init 15 = .ok (.putfield 15, 3) := by decide +kernel
theorem dX10_init_18 : decode cX10_init 18 = .ok (.aload_n 0, 1) := by decide +kernel
theorem dX10_init_19 : decode cX10_init 19 = .ok (.iconst 0, 1) := by decide +kernel
theorem dX10_init_20 : decode cX10_init 20 = .ok (.putfield 19, 3) := by decide +kernel
theorem dX10_init_23 : decode cX10_init 23 = .ok (.aload_n 0, 1) := by decide +kernel
theorem dX10_init_24 : decode cX10_init 24 = .ok (.iconst 0, 1) := by decide +kernel
theorem dX10_init_25 : decode cX10_init 25 = .ok (.putfield 22, 3) := by decide +kernel
theorem dX10_init_28 : decode cX10_init 28 = .ok (.aload_n 0, 1) := by decide +kernel
theorem dX10_init_29 : decode cX10_init 29 = .ok (.iconst (-1), 1) := by decide +kernel
theorem dX10_init_30 : decode cX10_init 30 = .ok (.putfield 25, 3) := by decide +kernel
theorem dX10_init_33 : decode cX10_init 33 = .ok (.aload_n 0, 1) := by decide +kernel
theorem dX10_init_34 : decode cX10_init 34 = .ok (.iconst (-1), 1) := by decide +kernel
theorem dX10_init_35 : decode cX10_init 35 = .ok (.putfield 28, 3) := by decide +kernel
theorem dX10_init_38 : decode cX10_init 38 = .ok (.aload_n 0, 1) := by decide +kernel
theorem dX10_init_39 : decode cX10_init 39 = .ok (.lconst 0, 1) := by decide +kernel
theorem dX10_init_40 : decode cX10_init 40 = .ok (.putfield 31, 3) := by decide +kernel
theorem dX10_init_43 : decode cX10_init 43 = .ok (.aload_n 0, 1) := by decide +kernel
theorem dX10_init_44 : decode cX10_init 44 = .ok (.iconst 0, 1) := by decide +kernel
theorem dX10_init_45 : decode cX10_init 45 = .ok (.putfield 35, 3) := by decide +kernel
theorem dX10_init_48 : decode cX10_init 48 = .ok (.aload_n 0, 1) := by decide +kernel
theorem dX10_init_49 : decode cX10_init 49 = .ok (.iconst 0, 1) := by decide +kernel
theorem dX10_init_50 : decode cX10_init 50 = .ok (.putfield 38, 3) := by decide +kernel
theorem dX10_init_53 : decode cX10_init 53 = .ok (.aload_n 0, 1) := by decide +kernel
theorem dX10_init_54 : decode cX10_init 54 = .ok (.iconst (-1), 1) := by decide +kernel
theorem dX10_init_55 : decode cX10_init 55 = .ok (.putfield 41, 3) := by decide +kernel
theorem dX10_init_58 : decode cX10_init 58 = .ok (.return_, 1) := by decide +kernel
theorem dX1_init_0 : decode cX1_init 0 = .ok (.aload_n 0, 1) := by decide +kernel
theorem dX1_init_1 : decode cX1_init 1 = .ok (.invokespecial 3, 3) := by decide +kernel
theorem dX1_init_4 : decode cX1_init 4 = .ok (.aload_n 0, 1) := by decide +kernel
theorem dX1_init_5 : decode cX1_init 5 = .ok (.bipush 80, 2) := by decide +kernel
theorem dX1_init_7 : decode cX1_init 7 = .ok (.newarray .long, 2) := by decide +kernel
theorem dX1_init_9 : decode cX1_init 9 = .ok (.putfield 9, 3) := by decide +kernel
theorem dX1_init_12 : decode cX1_init 12 = .ok (.aload_n 0, 1) := by decide +kernel
theorem dX1_init_13 : decode cX1_init 13 = .ok (.bipush 80, 2) := by decide +kernel
theorem dX1_init_15 : decode cX1_init 15 = .ok (.newarray .int, 2) := by decide +kernel
theorem dX1_init_17 : decode cX1_init 17 = .ok (.putfield 15, 3) := by decide +kernel
theorem dX1_init_20 : decode cX1_init 20 = .ok (.aload_n 0, 1) := by decide +kernel
theorem dX1_init_21 : decode cX1_init 21 = .ok (.iconst 0, 1) := by decide +kernel
theorem dX1_init_22 : decode cX1_init 22 = .ok (.putfield 19, 3) := by decide +kernel
theorem dX1_init_25 : decode cX1_init 25 = .ok (.aload_n 0, 1) := by decide +kernel
theorem dX1_init_26 : decode cX1_init 26 = .ok (.iconst 0, 1) := by decide +kernel
theorem dX1_init_27 : decode cX1_init 27 = .ok (.putfield 23, 3) := by decide +kernel
theorem dX1_init_30 : decode cX1_init 30 = .ok (.aload_n 0, 1) := by decide +kernel
theorem dX1_init_31 : decode cX1_init 31 = .ok (.sipush 3047, 3) := by decide +kernel
theorem dX1_init_34 : decode cX1_init 34 = .ok (.putfield 26, 3) := by decide +kernel
theorem dX1_init_37 : decode cX1_init 37 = .ok (.aload_n 0, 1) := by decide +kernel
theorem dX1_init_38 : decode cX1_init 38 = .ok (.aload_n 1, 1) := by decide +kernel
theorem dX1_init_39 : decode cX1_init 39 = .ok (.putfield 29, 3) := by decide +kernel
theorem dX1_init_42 : decode cX1_init 42 = .ok (.aload_n 0, 1) := by decide +kernel
theorem dX1_init_43 : decode cX1_init 43 = .ok (.aload_n 2, 1) := by decide +kernel
theorem dX1_init_44 : decode cX1_init 44 = .ok (.putfield 33, 3) := by decide +kernel
theorem dX1_init_47 : decode cX1_init 47 = .ok (.aload_n 0, 1) := by decide +kernel
theorem dX1_init_48 : decode cX1_init 48 = .ok (.aload_n 3, 1) := by decide +kernel
theorem dX1_init_49 : decode cX1_init 49 = .ok (.putfield 37, 3) := by decide +kernel
theorem dX1_init_52 : decode cX1_init 52 = .ok (.return_, 1) := by decide +kernel
theorem dX2_init_0 : decode cX2_init 0 = .ok (.aload_n 0, 1) := by decide +kernel
theorem dX2_init_1 : decode cX2_init 1 = .ok (.invokespecial 3, 3) := by decide +kernel
theorem dX2_init_4 : decode cX2_init 4 = .ok (.aload_n 0, 1) := by decide +kernel
theorem dX2_init_5 : decode cX2_init 5 = .ok (.iconst 0, 1) := by decide +kernel
theorem dX2_init_6 : decode cX2_init 6 = .ok (.putfield 9, 3) := by decide +kernel
theorem dX2_init_9 : decode cX2_init 9 = .ok (.aload_n 0, 1) := by decide +kernel
theorem dX2_init_10 : decode cX2_init 10 = .ok (.bipush 6, 2) := by decide +kernel
theorem dX2_init_12 : decode cX2_init 12 = .ok (.newarray .long, 2) := by decide +kernel
theorem dX2_init_14 : decode cX2_init 14 = .ok (.putfield 15, 3) := by decide +kernel
theorem dX2_init_17 : decode cX2_init 17 = .ok (.aload_n 0, 1) := by decide +kernel
theorem dX2_init_18 : decode cX2_init 18 = .ok (.bipush 6, 2) := by decide +kernel
theorem dX2_init_20 : decode cX2_init 20 = .ok (.newarray .int, 2) := by decide +kernel
theorem dX2_init_22 : decode cX2_init 22 = .ok (.putfield 19, 3) := by decide +kernel
theorem dX2_init_25 : decode cX2_init 25 = .ok (.aload_n 0, 1) := by decide +kernel
theorem dX2_init_26 : decode cX2_init 26 = .ok (.bipush 36, 2) := by decide +kernel
theorem dX2_init_28 : decode cX2_init 28 = .ok (.newarray .int, 2) := by decide +kernel
theorem dX2_init_30 : decode cX2_init 30 = .ok (.putfield 23, 3) := by decide +kernel
theorem dX2_init_33 : decode cX2_init 33 = .ok (.return_, 1) := by decide +kernel
theorem dX3_init_0 : decode cX3_init 0 = .ok (.aload_n 0, 1) := by decide +kernel
theorem dX3_init_1 : decode cX3_init 1 = .ok (.invokespecial 3, 3) := by decide +kernel
theorem dX3_init_4 : decode cX3_init 4 = .ok (.aload_n 0, 1) := by decide +kernel
theorem dX3_init_5 : decode cX3_init 5 = .ok (.sipush 507, 3) := by decide +kernel
theorem dX3_init_8 : decode cX3_init 8 = .ok (.newarray .int, 2) := by decide +kernel
theorem dX3_init_10 : decode cX3_init 10 = .ok (.putfield 11, 3) := by decide +kernel
theorem dX3_init_13 : decode cX3_init 13 = .ok (.aload_n 0, 1) := by decide +kernel
theorem dX3_init_14 : decode cX3_init 14 = .ok (.iconst 0, 1) := by decide +kernel
theorem dX3_init_15 : decode cX3_init 15 = .ok (.putfield 15, 3) := by decide +kernel
theorem dX3_init_18 : decode cX3_init 18 = .ok (.aload_n 0, 1) := by decide +kernel
theorem dX3_init_19 : decode cX3_init 19 = .ok (.aload_n 1, 1) := by decide +kernel
theorem dX3_init_20 : decode cX3_init 20 = .ok (.putfield 19, 3) := by decide +kernel
theorem dX3_init_23 : decode cX3_init 23 = .ok (.return_, 1) := by decide +kernel
theorem dX4_init_0 : decode cX4_init 0 = .ok (.aload_n 0, 1) := by decide +kernel
theorem dX4_init_1 : decode cX4_init 1 = .ok (.invokespecial 3, 3) := by decide +kernel
theorem dX4_init_4 : decode cX4_init 4 = .ok (.aload_n 0, 1) := by decide +kernel
theorem dX4_init_5 : decode cX4_init 5 = .ok (.sipush 4020, 3) := by decide +kernel
theorem dX4_init_8 : decode cX4_init 8 = .ok (.newarray .int, 2) := by decide +kernel
theorem dX4_init_10 : decode cX4_init 10 = .ok (.putfield 11, 3) := by decide +kernel
theorem dX4_init_13 : decode cX4_init 13 = .ok (.aload_n 0, 1) := by decide +kernel
theorem dX4_init_14 : decode cX4_init 14 = .ok (.iconst 0, 1) := by decide +kernel
theorem dX4_init_15 : decode cX4_init 15 = .ok (.putfield 15, 3) := by decide +kernel
theorem dX4_init_18 : decode cX4_init 18 = .ok (.aload_n 0, 1) := by decide +kernel
theorem dX4_init_19 : decode cX4_init 19 = .ok (.iconst 4, 1) := by decide +kernel
theorem dX4_init_20 : decode cX4_init 20 = .ok (.newarray .int, 2) := by decide +kernel
theorem dX4_init_22 : decode cX4_init 22 = .ok (.putfield 19, 3) := by decide +kernel
theorem dX4_init_25 : decode cX4_init 25 = .ok (.aload_n 0, 1) := by decide +kernel
theorem dX4_init_26 : decode cX4_init 26 = .ok (.iconst 0, 1) := by decide +kernel
theorem dX4_init_27 : decode cX4_init 27 = .ok (.putfield 22, 3) := by decide +kernel
theorem dX4_init_30 : decode cX4_init 30 = .ok (.aload_n 0, 1) := by decide +kernel
theorem dX4_init_31 : decode cX4_init 31 = .ok (.aload_n 1, 1) := by decide +kernel
theorem dX4_init_32 : decode cX4_init 32 = .ok (.putfield 25, 3) := by decide +kernel
theorem dX4_init_35 : decode cX4_init 35 = .ok (.aload_n 0, 1) := by decide +kernel
theorem dX4_init_36 : decode cX4_init 36 = .ok (.aload_n 2, 1) := by decide +kernel
theorem dX4_init_37 : decode cX4_init 37 = .ok (.putfield 29, 3) := by decide +kernel
theorem dX4_init_40 : decode cX4_init 40 = .ok (.return_, 1) := by decide +kernel
theorem dX7_init_0 : decode cX7_init 0 = .ok (.aload_n 0, 1) := by decide +kernel
theorem dX7_init_1 : decode cX7_init 1 = .ok (.invokespecial 3, 3) := by decide +kernel
theorem dX7_init_4 : decode cX7_init 4 = .ok (.aload_n 0, 1) := by decide +kernel
theorem dX7_init_5 : decode cX7_init 5 = .ok (.aload_n 1, 1) := by decide +kernel
theorem dX7_init_6 : decode cX7_init 6 = .ok (.putfield 9, 3) := by decide +kernel
theorem dX7_init_9 : decode cX7_init 9 = .ok (.aload_n 0, 1) := by decide +kernel
theorem dX7_init_10 : decode cX7_init 10 = .ok (.aload_n 2, 1) := by decide +kernel
theorem dX7_init_11 : decode cX7_init 11 = .ok (.putfield 15, 3) := by decide +kernel
theorem dX7_init_14 : decode cX7_init 14 = .ok (.return_, 1) := by decide +kernel
theorem dX8_init_0 : decode cX8_init 0 = .ok (.aload_n 0, 1) := by decide +kernel
theorem dX8_init_1 : decode cX8_init 1 = .ok (.invokespecial 3, 3) := by decide +kernel
theorem dX8_init_4 : decode cX8_init 4 = .ok (.aload_n 0, 1) := by decide +kernel
theorem dX8_init_5 : decode cX8_init 5 = .ok (.iconst 0, 1) := by decide +kernel
theorem dX8_init_6 : decode cX8_init 6 = .ok (.putfield 9, 3) := by decide +kernel
theorem dX8_init_9 : decode cX8_init 9 = .ok (.aload_n 0, 1) := by decide +kernel
theorem dX8_init_10 : decode cX8_init 10 = .ok (.iconst 0, 1) := by decide +kernel
theorem dX8_init_11 : decode cX8_init 11 = .ok (.putfield 15, 3) := by decide +kernel
theorem dX8_init_14 : decode cX8_init 14 = .ok (.aload_n 0, 1) := by decide +kernel
theorem dX8_init_15 : decode cX8_init 15 = .ok (.iconst 0, 1) := by decide +kernel
theorem dX8_init_16 : decode cX8_init 16 = .ok (.putfield 18, 3) := by decide +kernel
theorem dX8_init_19 : decode cX8_init 19 = .ok (.aload_n 0, 1) := by decide +kernel
theorem dX8_init_20 : decode cX8_init 20 = .ok (.sipush 168, 3) := by decide +kernel
theorem dX8_init_23 : decode cX8_init 23 = .ok (.newarray .int, 2) := by decide +kernel
theorem dX8_init_25 : decode cX8_init 25 = .ok (.putfield 21, 3) := by decide +kernel
theorem dX8_init_28 : decode cX8_init 28 = .ok (.aload_n 0, 1) := by decide +kernel
theorem dX8_init_29 : decode cX8_init 29 = .ok (.iconst 0, 1) := by decide +kernel
theorem dX8_init_30 : decode cX8_init 30 = .ok (.putfield 25, 3) := by decide +kernel
theorem dX8_init_33 : decode cX8_init 33 = .ok (.aload_n 0, 1) := by decide +kernel
theorem dX8_init_34 : decode cX8_init 34 = .ok (.iconst 0, 1) := by decide +kernel
theorem dX8_init_35 : decode cX8_init 35 = .ok (.putfield 29, 3) := by decide +kernel
theorem dX8_init_38 : decode cX8_init 38 = .ok (.aload_n 0, 1) := by decide +kernel
theorem dX8_init_39 : decode cX8_init 39 = .ok (.sipush 160, 3) := by decide +kernel
theorem dX8_init_42 : decode cX8_init 42 = .ok (.newarray .int, 2) := by decide +kernel
theorem dX8_init_44 : decode cX8_init 44 = .ok (.putfield 32, 3) := by decide +kernel
theorem dX8_init_47 : decode cX8_init 47 = .ok (.aload_n 0, 1) := by decide +kernel
theorem dX8_init_48 : decode cX8_init 48 = .ok (.iconst 0, 1) := by decide +kernel
theorem dX8_init_49 : decode cX8_init 49 = .ok (.putfield 35, 3) := by decide +kernel
theorem dX8_init_52 : decode cX8_init 52 = .ok (.aload_n 0, 1) := by decide +kernel
theorem dX8_init_53 : decode cX8_init 53 = .ok (.iconst 0, 1) := by decide +kernel
theorem dX8_init_54 : decode cX8_init 54 = .ok (.putfield 38, 3) := by decide +kernel
theorem dX8_init_57 : decode cX8_init 57 = .ok (.aload_n 0, 1) := by decide +kernel
theorem dX8_init_58 : decode cX8_init 58 = .ok (.iconst 0, 1) := by decide +kernel
theorem dX8_init_59 : decode cX8_init 59 = .ok (.putfield 41, 3) := by decide +kernel
theorem dX8_init_62 : decode cX8_init 62 = .ok (.aload_n 0, 1) := by decide +kernel
theorem dX8_init_63 : decode cX8_init 63 = .ok (.iconst 0, 1) := by decide +kernel
theorem dX8_init_64 : decode cX8_init 64 = .ok (.putfield 44, 3) := by decide +kernel
theorem dX8_init_67 : decode cX8_init 67 = .ok (.aload_n 0, 1) := by decide +kernel
theorem dX8_init_68 : decode cX8_init 68 = .ok (.iconst 0, 1) := by decide +kernel
theorem dX8_init_69 : decode cX8_init 69 = .ok (.putfield 47, 3) := by decide +kernel
theorem dX8_init_72 : decode cX8_init 72 = .ok (.aload_n 0, 1) := by decide +kernel
theorem dX8_init_73 : decode cX8_init 73 = .ok (.iconst 0, 1) := by decide +kernel
theorem dX8_init_74 : decode cX8_init 74 = .ok (.putfield 50, 3) := by decide +kernel
theorem dX8_init_77 : decode cX8_init 77 = .ok (.aload_n 0, 1) := by decide +kernel
theorem dX8_init_78 : decode cX8_init 78 = .ok (.bipush 80, 2) := by decide +kernel
theorem dX8_init_80 : decode cX8_init 80 = .ok (.newarray .int, 2) := by decide +kernel
theorem dX8_init_82 : decode cX8_init 82 = .ok (.putfield 53, 3) := by decide +kernel
theorem dX8_init_85 : decode cX8_init 85 = .ok (.return_, 1) := by decide +kernel
theorem dX9_init_0 : decode cX9_init 0 = .ok (.aload_n 0, 1) := by decide +kernel
theorem dX9_init_1 : decode cX9_init 1 = .ok (.invokespecial 3, 3) := by decide +kernel
theorem dX9_init_4 : decode cX9_init 4 = .ok (.aload_n 0, 1) := by decide +kernel
theorem dX9_init_5 : decode cX9_init 5 = .ok (.sipush 160, 3) := by decide +kernel
theorem dX9_init_8 : decode cX9_init 8 = .ok (.newarray .int, 2) := by decide +kernel
theorem dX9_init_10 : decode cX9_init 10 = .ok (.putfield 9, 3) := by decide +kernel
theorem dX9_init_13 : decode cX9_init 13 = .ok (.aload_n 0, 1) := by decide +kernel
theorem dX9_init_14 : decode cX9_init 14 = .ok (.sipush 160, 3) := by decide +kernel
theorem dX9_init_17 : decode cX9_init 17 = .ok (.newarray .int, 2) := by decide +kernel
theorem dX9_init_19 : decode cX9_init 19 = .ok (.putfield 15, 3) := by decide +kernel
theorem dX9_init_22 : decode cX9_init 22 = .ok (.aload_n 0, 1) := by decide +kernel
theorem dX9_init_23 : decode cX9_init 23 = .ok (.bipush 80, 2) := by decide +kernel
theorem dX9_init_25 : decode cX9_init 25 = .ok (.newarray .int, 2) := by decide +kernel
theorem dX9_init_27 : decode cX9_init 27 = .ok (.putfield 18, 3) := by decide +kernel
theorem dX9_init_30 : decode cX9_init 30 = .ok (.aload_n 0, 1) := by decide +kernel
theorem dX9_init_31 : decode cX9_init 31 = .ok (.bipush 80, 2) := by decide +kernel
theorem dX9_init_33 : decode cX9_init 33 = .ok (.newarray .int, 2) := by decide +kernel
theorem dX9_init_35 : decode cX9_init 35 = .ok (.putfield 21, 3) := by decide +kernel
theorem dX9_init_38 : decode cX9_init 38 = .ok (.aload_n 0, 1) := by decide +kernel
theorem dX9_init_39 : decode cX9_init 39 = .ok (.bipush 80, 2) := by decide +kernel
theorem dX9_init_41 : decode cX9_init 41 = .ok (.newarray .int, 2) := by decide +kernel
theorem dX9_init_43 : decode cX9_init 43 = .ok (.putfield 24, 3) := by decide +kernel
theorem dX9_init_46 : decode cX9_init 46 = .ok (.aload_n 0, 1) := by decide +kernel
theorem dX9_init_47 : decode cX9_init 47 = .ok (.bipush 80, 2) := by decide +kernel
theorem dX9_init_49 : decode cX9_init 49 = .ok (.newarray .int, 2) := by decide +kernel
theorem dX9_init_51 : decode cX9_init 51 = .ok (.putfield 27, 3) := by decide +kernel
theorem dX9_init_54 : decode cX9_init 54 = .ok (.aload_n 0, 1) := by decide +kernel
theorem dX9_init_55 : decode cX9_init 55 = .ok (.sipush 160, 3) := by decide +kernel
theorem dX9_init_58 : decode cX9_init 58 = .ok (.newarray .int, 2) := by decide +kernel
theorem dX9_init_60 : decode cX9_init 60 = .ok (.putfield 30, 3) := by decide +kernel
theorem dX9_init_63 : decode cX9_init 63 = .ok (.aload_n 0, 1) := by decide +kernel
theorem dX9_init_64 : decode cX9_init 64 = .ok (.iconst 0, 1) := by decide +kernel
theorem dX9_init_65 : decode cX9_init 65 = .ok (.putfield 33, 3) := by decide +kernel
theorem dX9_init_68 : decode cX9_init 68 = .ok (.aload_n 0, 1) := by decide +kernel
theorem dX9_init_69 : decode cX9_init 69 = .ok (.iconst 0, 1) := by decide +kernel
theorem dX9_init_70 : decode cX9_init 70 = .ok (.putfield 37, 3) := by decide +kernel
theorem dX9_init_73 : decode cX9_init 73 = .ok (.aload_n 0, 1) := by decide +kernel
theorem dX9_init_74 : decode cX9_init 74 = .ok (.iconst (-1), 1) := by decide +kernel
theorem dX9_init_75 : decode cX9_init 75 = .ok (.putfield 40, 3) := by decide +kernel
theorem dX9_init_78 : decode cX9_init 78 = .ok (.aload_n 0, 1) := by decide +kernel
theorem dX9_init_79 : decode cX9_init 79 = .ok (.aload_n 1, 1) := by decide +kernel
theorem dX9_init_80 : decode cX9_init 80 = .ok (.putfield 43, 3) := by decide +kernel
theorem dX9_init_83 : decode cX9_init 83 = .ok (.return_, 1) := by decide +kernel
end
section
def wd_0 (h0 : Nat) (q1 : Nat) (cA2 : ClassId) : va_W := [(h0, .inr (10, [.null, .int 0, .int 0, .int 0, .int 0, .int 0, .long 0, .int 0, .int 0, .int 0])), (q1, .inl (cA2, 1600, .inl (fun _ => 0)))]
def wd_1 (h0 : Nat) (q1 : Nat) (cA2 : ClassId) : va_W := [(h0, .inr (10, [.ref q1, .int 0, .int 0, .int 0, .int 0, .int 0, .long 0, .int 0, .int 0, .int 0])), (q1, .inl (cA2, 1600, .inl (fun _ => 0)))]
def wd_2 (h0 : Nat) (q1 : Nat) (cA2 : ClassId) : va_W := [(h0, .inr (10, [.ref q1, .int 0, .int 0, .int 0, .int (-1), .int 0, .long 0, .int 0, .int 0, .int 0])), (q1, .inl (cA2, 1600, .inl (fun _ => 0)))]
def wd_3 (h0 : Nat) (q1 : Nat) (cA2 : ClassId) : va_W := [(h0, .inr (10, [.ref q1, .int 0, .int 0, .int 0, .int (-1), .int (-1), .long 0, .int 0, .int 0, .int 0])), (q1, .inl (cA2, 1600, .inl (fun _ => 0)))]
def wd_4 (h0 : Nat) (q1 : Nat) (cA2 : ClassId) : va_W := [(h0, .inr (10, [.ref q1, .int 0, .int 0, .int 0, .int (-1), .int (-1), .long 0, .int 0, .int 0, .int (-1)])), (q1, .inl (cA2, 1600, .inl (fun _ => 0)))]
def wd_5 (h0 : Nat) : va_W := [(h0, .inr (10, [.null, .int 0, .int 0, .int 0, .int 0, .int 0, .long 0, .int 0, .int 0, .int 0]))]
set_option maxHeartbeats 4000000 in
set_option maxRecDepth 100000 in
theorem k_X10_init (l : Launch) (dC : Nat → ClassId) (dI : Nat → Nat → Nat) (h0 : Nat) (sz : Nat) : Met l yX10_init (Cond.code yX10_init cX10_init 1 none :: wA) ({ frames := 1, cells := 1, slots := 1600, locals := 12 }) (va_Pc [.ref h0] (fun U => U.heap.size = sz ∧ va_P (dC, dI) vwCl (wd_5 h0) U.heap ∧ va_K (dC, dI) vwCl [] U ∧ va_D (fun _ => True) (wd_5 h0))) (va_Qv (fun (_ : Unit) => True) (fun _ t => ∃ q1 : Nat, ∃ cA2 : ClassId, va_P (dC, dI) vwCl (wd_4 h0 q1 cA2) t.heap ∧ va_K (dC, dI) vwCl [(cA2, .int)] t ∧ va_D (va_A (wd_5 h0) sz) (wd_4 h0 q1 cA2)) (va_A (wd_5 h0) sz)) 1 1600 (va_A (wd_5 h0) sz) := by
  refine Met.ofW (cc := cX10_init) (maxL := 1) (ret := none) (by decide) rfl ?_
  intro p e s m args below meth c s₁ B hml hv
  obtain ⟨rfl, hsz, hP, hK, hD0⟩ := hv
  have hx := B.exec
  have hb := B.bytes
  have hr := B.returns
  have hts : ∀ w ∈ wA, w.before [.ref h0].toArray s = true := fun w h => atoms_spec (ws := Cond.code yX10_init cX10_init 1 none :: wA) B.pre w (List.mem_cons_of_mem _ h)
  have hown : s.vm.findClass RX10 = some m.cls := findClass_of_methodNamed B.named
  have hlocks := B.notSynchronized
  have hin : meth.name = "<init>" := (name_of_methodNamed B.named B.method).1
  subst hsz
  have hD := hD0.self (sz := s.heap.size)
  generalize hAe : va_A (wd_5 h0) s.heap.size = A at hD ⊢
  have hA : ∀ q : Nat, s.heap.size ≤ q → A q := fun q h => by rw [← hAe]; exact Or.inr h
  have hS : va_S A s.heap s.heap [] := va_S.rf
  have hl := lv_entry ([.ref h0]) (n := 1) (Nat.le_of_ble_eq_true rfl)
  rw [lg_entry_eq]
  generalize (lg_sl ([.ref h0]) ++ List.replicate (1 - (lg_sl ([.ref h0])).length) Slot.unset).toArray = ls at hl ⊢
  have hl : lv_has ls 1 [(0, .ref h0)] := hl
  refine lv_aload_n hx hb dX10_init_0 rfl (lv_at hl 0 rfl) ?_
  refine W.objInit hx hb hown (hts _ q_1) (hts _ q_2) (hts _ q_3) rfl (by rw [hml]; exact hl.1) rfl dX10_init_1 (Nat.le_of_ble_eq_true rfl) (Nat.le_of_ble_eq_true rfl) ?_
  refine W.eq (g2 := F0 m 4 ls []) rfl ?_
  refine lv_aload_n hx hb dX10_init_4 rfl (lv_at hl 0 rfl) ?_
  refine lv_sipush (v := 1600) hx hb dX10_init_5 (by decide) ?_
  refine va_newa (atype := .int) (ty := .int) (n := 1600) (N' := 1600) (a0 := (1600, .inl fun _ => 0)) hx hb (hts _ q_4) rfl hK hP hD hS hA (fun _ => rfl) (by decide) (by decide) (Nat.le_of_ble_eq_true rfl) (Nat.le_of_ble_eq_true rfl) (Nat.le_of_ble_eq_true rfl) dX10_init_8 (fun q1 cA2 H hK hP hD hS => ?_)
  have hK : va_K (dC, dI) vwCl [(cA2, .int)] s := hK
  have hP : va_P (dC, dI) vwCl (wd_0 h0 q1 cA2) H := hP
  have hD : va_D A (wd_0 h0 q1 cA2) := hD
  refine W.widen (k := 1) (n := 1600) (Nat.le_of_ble_eq_true rfl) (Nat.le_of_ble_eq_true rfl) ?_
  refine va_putF (D := (dC, dI)) (ci := 10) (v := .ref q1) (ty := tyX10 0) (C := RX10) (T := TX10) (N := 10) hx hb hts i_X10 tyX10 tyX10_ok nmX10 hown hK hP hD hS 0 rfl rfl 0 (by decide) (hts _ q_5) (fun _ h9 => h9) rfl hin rfl (tyX10_ok 0 (by decide)) rfl rfl (Nat.le_of_ble_eq_true rfl) dX10_init_10 (fun H locs hP hD hS => ?_)
  have hP : va_P (dC, dI) vwCl (wd_1 h0 q1 cA2) H := hP
  have hD : va_D A (wd_1 h0 q1 cA2) := hD
  refine lv_aload_n hx hb dX10_init_13 rfl (lv_at hl 0 rfl) ?_
  refine lv_iconst (v := 0) hx hb dX10_init_14 (by decide) ?_
  refine va_put (D := (dC, dI)) (ci := 10) (v := .int 0) (ty := tyX10 1) (C := RX10) (T := TX10) (N := 10) hx hb hts i_X10 tyX10 tyX10_ok nmX10 hown hK hP hD hS 0 rfl rfl 1 (by decide) (hts _ q_6) (fun _ h9 => h9) rfl (tyX10_ok 1 (by decide)) rfl rfl (Nat.le_of_ble_eq_true rfl) dX10_init_15 (fun H locs hP hD hS => ?_)
  have hP : va_P (dC, dI) vwCl (wd_1 h0 q1 cA2) H := hP
  have hD : va_D A (wd_1 h0 q1 cA2) := hD
  refine lv_aload_n hx hb dX10_init_18 rfl (lv_at hl 0 rfl) ?_
  refine lv_iconst (v := 0) hx hb dX10_init_19 (by decide) ?_
  refine va_put (D := (dC, dI)) (ci := 10) (v := .int 0) (ty := tyX10 2) (C := RX10) (T := TX10) (N := 10) hx hb hts i_X10 tyX10 tyX10_ok nmX10 hown hK hP hD hS 0 rfl rfl 2 (by decide) (hts _ q_7) (fun _ h9 => h9) rfl (tyX10_ok 2 (by decide)) rfl rfl (Nat.le_of_ble_eq_true rfl) dX10_init_20 (fun H locs hP hD hS => ?_)
  have hP : va_P (dC, dI) vwCl (wd_1 h0 q1 cA2) H := hP
  have hD : va_D A (wd_1 h0 q1 cA2) := hD
  refine lv_aload_n hx hb dX10_init_23 rfl (lv_at hl 0 rfl) ?_
  refine lv_iconst (v := 0) hx hb dX10_init_24 (by decide) ?_
  refine va_put (D := (dC, dI)) (ci := 10) (v := .int 0) (ty := tyX10 3) (C := RX10) (T := TX10) (N := 10) hx hb hts i_X10 tyX10 tyX10_ok nmX10 hown hK hP hD hS 0 rfl rfl 3 (by decide) (hts _ q_8) (fun _ h9 => h9) rfl (tyX10_ok 3 (by decide)) rfl rfl (Nat.le_of_ble_eq_true rfl) dX10_init_25 (fun H locs hP hD hS => ?_)
  have hP : va_P (dC, dI) vwCl (wd_1 h0 q1 cA2) H := hP
  have hD : va_D A (wd_1 h0 q1 cA2) := hD
  refine lv_aload_n hx hb dX10_init_28 rfl (lv_at hl 0 rfl) ?_
  refine lv_iconst (v := (-1)) hx hb dX10_init_29 (by decide) ?_
  refine va_put (D := (dC, dI)) (ci := 10) (v := .int (-1)) (ty := tyX10 4) (C := RX10) (T := TX10) (N := 10) hx hb hts i_X10 tyX10 tyX10_ok nmX10 hown hK hP hD hS 0 rfl rfl 4 (by decide) (hts _ q_9) (fun _ h9 => h9) rfl (tyX10_ok 4 (by decide)) rfl rfl (Nat.le_of_ble_eq_true rfl) dX10_init_30 (fun H locs hP hD hS => ?_)
  have hP : va_P (dC, dI) vwCl (wd_2 h0 q1 cA2) H := hP
  have hD : va_D A (wd_2 h0 q1 cA2) := hD
  refine lv_aload_n hx hb dX10_init_33 rfl (lv_at hl 0 rfl) ?_
  refine lv_iconst (v := (-1)) hx hb dX10_init_34 (by decide) ?_
  refine va_put (D := (dC, dI)) (ci := 10) (v := .int (-1)) (ty := tyX10 5) (C := RX10) (T := TX10) (N := 10) hx hb hts i_X10 tyX10 tyX10_ok nmX10 hown hK hP hD hS 0 rfl rfl 5 (by decide) (hts _ q_10) (fun _ h9 => h9) rfl (tyX10_ok 5 (by decide)) rfl rfl (Nat.le_of_ble_eq_true rfl) dX10_init_35 (fun H locs hP hD hS => ?_)
  have hP : va_P (dC, dI) vwCl (wd_3 h0 q1 cA2) H := hP
  have hD : va_D A (wd_3 h0 q1 cA2) := hD
  refine lv_aload_n hx hb dX10_init_38 rfl (lv_at hl 0 rfl) ?_
  refine lv_lconst (v := 0) hx hb dX10_init_39 (by decide) ?_
  refine va_put (D := (dC, dI)) (ci := 10) (v := .long 0) (ty := tyX10 6) (C := RX10) (T := TX10) (N := 10) hx hb hts i_X10 tyX10 tyX10_ok nmX10 hown hK hP hD hS 0 rfl rfl 6 (by decide) (hts _ q_11) (fun _ h9 => h9) rfl (tyX10_ok 6 (by decide)) rfl rfl (Nat.le_of_ble_eq_true rfl) dX10_init_40 (fun H locs hP hD hS => ?_)
  have hP : va_P (dC, dI) vwCl (wd_3 h0 q1 cA2) H := hP
  have hD : va_D A (wd_3 h0 q1 cA2) := hD
  refine lv_aload_n hx hb dX10_init_43 rfl (lv_at hl 0 rfl) ?_
  refine lv_iconst (v := 0) hx hb dX10_init_44 (by decide) ?_
  refine va_put (D := (dC, dI)) (ci := 10) (v := .int 0) (ty := tyX10 7) (C := RX10) (T := TX10) (N := 10) hx hb hts i_X10 tyX10 tyX10_ok nmX10 hown hK hP hD hS 0 rfl rfl 7 (by decide) (hts _ q_12) (fun _ h9 => h9) rfl (tyX10_ok 7 (by decide)) rfl rfl (Nat.le_of_ble_eq_true rfl) dX10_init_45 (fun H locs hP hD hS => ?_)
  have hP : va_P (dC, dI) vwCl (wd_3 h0 q1 cA2) H := hP
  have hD : va_D A (wd_3 h0 q1 cA2) := hD
  refine lv_aload_n hx hb dX10_init_48 rfl (lv_at hl 0 rfl) ?_
  refine lv_iconst (v := 0) hx hb dX10_init_49 (by decide) ?_
  refine va_put (D := (dC, dI)) (ci := 10) (v := .int 0) (ty := tyX10 8) (C := RX10) (T := TX10) (N := 10) hx hb hts i_X10 tyX10 tyX10_ok nmX10 hown hK hP hD hS 0 rfl rfl 8 (by decide) (hts _ q_13) (fun _ h9 => h9) rfl (tyX10_ok 8 (by decide)) rfl rfl (Nat.le_of_ble_eq_true rfl) dX10_init_50 (fun H locs hP hD hS => ?_)
  have hP : va_P (dC, dI) vwCl (wd_3 h0 q1 cA2) H := hP
  have hD : va_D A (wd_3 h0 q1 cA2) := hD
  refine lv_aload_n hx hb dX10_init_53 rfl (lv_at hl 0 rfl) ?_
  refine lv_iconst (v := (-1)) hx hb dX10_init_54 (by decide) ?_
  refine va_put (D := (dC, dI)) (ci := 10) (v := .int (-1)) (ty := tyX10 9) (C := RX10) (T := TX10) (N := 10) hx hb hts i_X10 tyX10 tyX10_ok nmX10 hown hK hP hD hS 0 rfl rfl 9 (by decide) (hts _ q_14) (fun _ h9 => h9) rfl (tyX10_ok 9 (by decide)) rfl rfl (Nat.le_of_ble_eq_true rfl) dX10_init_55 (fun H locs hP hD hS => ?_)
  have hP : va_P (dC, dI) vwCl (wd_4 h0 q1 cA2) H := hP
  have hD : va_D A (wd_4 h0 q1 cA2) := hD
  refine W.widen (k := 1) (n := 1600) (Nat.le_of_ble_eq_true rfl) (Nat.le_of_ble_eq_true rfl) ?_
  have hP9 := hP.sub (ws' := (wd_4 h0 q1 cA2)) [0, 1] rfl
  have hD9 := hD.sub (ws' := (wd_4 h0 q1 cA2)) [0, 1] (by decide) rfl
  have hK9 := hK.sub (tys' := [(cA2, .int)]) [0] rfl
  exact W.vret hx hb hr (fun t ht hW => ⟨⟨(), rfl, trivial, q1, cA2, by rw [ht]; exact hP9, va_K.moved hW.alike hK9, hD9⟩, hS.F ht⟩) hS.2.2 dX10_init_58
def wd_6 (h0 : Nat) : va_W := [(h0, .inr (2, [.int 0, .null, .null, .null]))]
def wd_7 (h0 : Nat) (q3 : Nat) (cA4 : ClassId) : va_W := [(h0, .inr (2, [.int 0, .null, .null, .null])), (q3, .inl (cA4, 6, .inr (.inl (fun _ => 0))))]
def wd_8 (h0 : Nat) (q3 : Nat) : va_W := [(h0, .inr (2, [.int 0, .ref q3, .null, .null]))]
def wd_9 (h0 : Nat) (q3 : Nat) (q5 : Nat) (cA6 : ClassId) : va_W := [(h0, .inr (2, [.int 0, .ref q3, .null, .null])), (q5, .inl (cA6, 6, .inl (fun _ => 0)))]
def wd_10 (h0 : Nat) (q3 : Nat) (q5 : Nat) : va_W := [(h0, .inr (2, [.int 0, .ref q3, .ref q5, .null]))]
def wd_11 (h0 : Nat) (q3 : Nat) (q5 : Nat) (q7 : Nat) (cA8 : ClassId) : va_W := [(h0, .inr (2, [.int 0, .ref q3, .ref q5, .null])), (q7, .inl (cA8, 36, .inl (fun _ => 0)))]
def wd_12 (h0 : Nat) (q3 : Nat) (q5 : Nat) (q7 : Nat) : va_W := [(h0, .inr (2, [.int 0, .ref q3, .ref q5, .ref q7]))]
set_option maxHeartbeats 4000000 in
set_option maxRecDepth 100000 in
theorem k_X2_init (l : Launch) (dC : Nat → ClassId) (dI : Nat → Nat → Nat) (h0 : Nat) (sz : Nat) : Met l yX2_init (Cond.code yX2_init cX2_init 1 none :: wA) ({ frames := 1, cells := 3, slots := 48, locals := 12 }) (va_Pc [.ref h0] (fun U => U.heap.size = sz ∧ va_P (dC, dI) vwCl (wd_6 h0) U.heap ∧ va_K (dC, dI) vwCl [] U ∧ va_D (fun _ => True) (wd_6 h0))) (va_Qv (fun (_ : Unit) => True) (fun _ t => ∃ q3 : Nat, ∃ q5 : Nat, ∃ q7 : Nat, va_P (dC, dI) vwCl (wd_12 h0 q3 q5 q7) t.heap ∧ va_K (dC, dI) vwCl [] t ∧ va_D (va_A (wd_6 h0) sz) (wd_12 h0 q3 q5 q7)) (va_A (wd_6 h0) sz)) 3 48 (va_A (wd_6 h0) sz) := by
  refine Met.ofW (cc := cX2_init) (maxL := 1) (ret := none) (by decide) rfl ?_
  intro p e s m args below meth c s₁ B hml hv
  obtain ⟨rfl, hsz, hP, hK, hD0⟩ := hv
  have hx := B.exec
  have hb := B.bytes
  have hr := B.returns
  have hts : ∀ w ∈ wA, w.before [.ref h0].toArray s = true := fun w h => atoms_spec (ws := Cond.code yX2_init cX2_init 1 none :: wA) B.pre w (List.mem_cons_of_mem _ h)
  have hown : s.vm.findClass RX2 = some m.cls := findClass_of_methodNamed B.named
  have hlocks := B.notSynchronized
  have hin : meth.name = "<init>" := (name_of_methodNamed B.named B.method).1
  subst hsz
  have hD := hD0.self (sz := s.heap.size)
  generalize hAe : va_A (wd_6 h0) s.heap.size = A at hD ⊢
  have hA : ∀ q : Nat, s.heap.size ≤ q → A q := fun q h => by rw [← hAe]; exact Or.inr h
  have hS : va_S A s.heap s.heap [] := va_S.rf
  have hl := lv_entry ([.ref h0]) (n := 1) (Nat.le_of_ble_eq_true rfl)
  rw [lg_entry_eq]
  generalize (lg_sl ([.ref h0]) ++ List.replicate (1 - (lg_sl ([.ref h0])).length) Slot.unset).toArray = ls at hl ⊢
  have hl : lv_has ls 1 [(0, .ref h0)] := hl
  refine lv_aload_n hx hb dX2_init_0 rfl (lv_at hl 0 rfl) ?_
  refine W.objInit hx hb hown (hts _ q_16) (hts _ q_2) (hts _ q_3) rfl (by rw [hml]; exact hl.1) rfl dX2_init_1 (Nat.le_of_ble_eq_true rfl) (Nat.le_of_ble_eq_true rfl) ?_
  refine W.eq (g2 := F0 m 4 ls []) rfl ?_
  refine lv_aload_n hx hb dX2_init_4 rfl (lv_at hl 0 rfl) ?_
  refine lv_iconst (v := 0) hx hb dX2_init_5 (by decide) ?_
  refine va_put (D := (dC, dI)) (ci := 2) (v := .int 0) (ty := tyX2 0) (C := RX2) (T := TX2) (N := 4) hx hb hts i_X2 tyX2 tyX2_ok nmX2 hown hK hP hD hS 0 rfl rfl 0 (by decide) (hts _ q_17) (fun _ h9 => h9) rfl (tyX2_ok 0 (by decide)) rfl rfl (Nat.le_of_ble_eq_true rfl) dX2_init_6 (fun H locs hP hD hS => ?_)
  have hP : va_P (dC, dI) vwCl (wd_6 h0) H := hP
  have hD : va_D A (wd_6 h0) := hD
  refine lv_aload_n hx hb dX2_init_9 rfl (lv_at hl 0 rfl) ?_
  refine lv_bipush (v := 6) hx hb dX2_init_10 (by decide) ?_
  refine va_newa (atype := .long) (ty := .long) (n := 6) (N' := 6) (a0 := (6, .inr (.inl fun _ => 0))) hx hb (hts _ q_18) rfl hK hP hD hS hA (fun _ => rfl) (by decide) (by decide) (Nat.le_of_ble_eq_true rfl) (Nat.le_of_ble_eq_true rfl) (Nat.le_of_ble_eq_true rfl) dX2_init_12 (fun q3 cA4 H hK hP hD hS => ?_)
  have hK : va_K (dC, dI) vwCl [(cA4, .long)] s := hK
  have hP : va_P (dC, dI) vwCl (wd_7 h0 q3 cA4) H := hP
  have hD : va_D A (wd_7 h0 q3 cA4) := hD
  refine W.widen (k := 1) (n := 6) (Nat.le_of_ble_eq_true rfl) (Nat.le_of_ble_eq_true rfl) ?_
  refine va_putF (D := (dC, dI)) (ci := 2) (v := .ref q3) (ty := tyX2 1) (C := RX2) (T := TX2) (N := 4) hx hb hts i_X2 tyX2 tyX2_ok nmX2 hown hK hP hD hS 0 rfl rfl 1 (by decide) (hts _ q_19) (fun _ h9 => h9) rfl hin rfl (tyX2_ok 1 (by decide)) rfl rfl (Nat.le_of_ble_eq_true rfl) dX2_init_14 (fun H locs hP hD hS => ?_)
  have hP : va_P (dC, dI) vwCl (wd_8 h0 q3) H := hP.sub (ws' := (wd_8 h0 q3)) [0] rfl
  have hD : va_D A (wd_8 h0 q3) := hD.sub (ws' := (wd_8 h0 q3)) [0] (by decide) rfl
  have hK : va_K (dC, dI) vwCl [] s := hK.sub (tys' := []) [] rfl
  refine lv_aload_n hx hb dX2_init_17 rfl (lv_at hl 0 rfl) ?_
  refine lv_bipush (v := 6) hx hb dX2_init_18 (by decide) ?_
  refine va_newa (atype := .int) (ty := .int) (n := 6) (N' := 6) (a0 := (6, .inl fun _ => 0)) hx hb (hts _ q_4) rfl hK hP hD hS hA (fun _ => rfl) (by decide) (by decide) (Nat.le_of_ble_eq_true rfl) (Nat.le_of_ble_eq_true rfl) (Nat.le_of_ble_eq_true rfl) dX2_init_20 (fun q5 cA6 H hK hP hD hS => ?_)
  have hK : va_K (dC, dI) vwCl [(cA6, .int)] s := hK
  have hP : va_P (dC, dI) vwCl (wd_9 h0 q3 q5 cA6) H := hP
  have hD : va_D A (wd_9 h0 q3 q5 cA6) := hD
  refine W.widen (k := 2) (n := 12) (Nat.le_of_ble_eq_true rfl) (Nat.le_of_ble_eq_true rfl) ?_
  refine va_putF (D := (dC, dI)) (ci := 2) (v := .ref q5) (ty := tyX2 2) (C := RX2) (T := TX2) (N := 4) hx hb hts i_X2 tyX2 tyX2_ok nmX2 hown hK hP hD hS 0 rfl rfl 2 (by decide) (hts _ q_20) (fun _ h9 => h9) rfl hin rfl (tyX2_ok 2 (by decide)) rfl rfl (Nat.le_of_ble_eq_true rfl) dX2_init_22 (fun H locs hP hD hS => ?_)
  have hP : va_P (dC, dI) vwCl (wd_10 h0 q3 q5) H := hP.sub (ws' := (wd_10 h0 q3 q5)) [0] rfl
  have hD : va_D A (wd_10 h0 q3 q5) := hD.sub (ws' := (wd_10 h0 q3 q5)) [0] (by decide) rfl
  have hK : va_K (dC, dI) vwCl [] s := hK.sub (tys' := []) [] rfl
  refine lv_aload_n hx hb dX2_init_25 rfl (lv_at hl 0 rfl) ?_
  refine lv_bipush (v := 36) hx hb dX2_init_26 (by decide) ?_
  refine va_newa (atype := .int) (ty := .int) (n := 36) (N' := 36) (a0 := (36, .inl fun _ => 0)) hx hb (hts _ q_4) rfl hK hP hD hS hA (fun _ => rfl) (by decide) (by decide) (Nat.le_of_ble_eq_true rfl) (Nat.le_of_ble_eq_true rfl) (Nat.le_of_ble_eq_true rfl) dX2_init_28 (fun q7 cA8 H hK hP hD hS => ?_)
  have hK : va_K (dC, dI) vwCl [(cA8, .int)] s := hK
  have hP : va_P (dC, dI) vwCl (wd_11 h0 q3 q5 q7 cA8) H := hP
  have hD : va_D A (wd_11 h0 q3 q5 q7 cA8) := hD
  refine W.widen (k := 3) (n := 48) (Nat.le_of_ble_eq_true rfl) (Nat.le_of_ble_eq_true rfl) ?_
  refine va_putF (D := (dC, dI)) (ci := 2) (v := .ref q7) (ty := tyX2 3) (C := RX2) (T := TX2) (N := 4) hx hb hts i_X2 tyX2 tyX2_ok nmX2 hown hK hP hD hS 0 rfl rfl 3 (by decide) (hts _ q_21) (fun _ h9 => h9) rfl hin rfl (tyX2_ok 3 (by decide)) rfl rfl (Nat.le_of_ble_eq_true rfl) dX2_init_30 (fun H locs hP hD hS => ?_)
  have hP : va_P (dC, dI) vwCl (wd_12 h0 q3 q5 q7) H := hP.sub (ws' := (wd_12 h0 q3 q5 q7)) [0] rfl
  have hD : va_D A (wd_12 h0 q3 q5 q7) := hD.sub (ws' := (wd_12 h0 q3 q5 q7)) [0] (by decide) rfl
  have hK : va_K (dC, dI) vwCl [] s := hK.sub (tys' := []) [] rfl
  refine W.widen (k := 3) (n := 48) (Nat.le_of_ble_eq_true rfl) (Nat.le_of_ble_eq_true rfl) ?_
  have hP9 := hP.sub (ws' := (wd_12 h0 q3 q5 q7)) [0] rfl
  have hD9 := hD.sub (ws' := (wd_12 h0 q3 q5 q7)) [0] (by decide) rfl
  have hK9 := hK.sub (tys' := []) [] rfl
  exact W.vret hx hb hr (fun t ht hW => ⟨⟨(), rfl, trivial, q3, q5, q7, by rw [ht]; exact hP9, va_K.moved hW.alike hK9, hD9⟩, hS.F ht⟩) hS.2.2 dX2_init_33
def wd_13 (h0 : Nat) : va_W := [(h0, .inr (8, [.int 0, .int 0, .int 0, .null, .int 0, .int 0, .null, .int 0, .int 0, .int 0, .int 0, .int 0, .int 0, .null]))]
def wd_14 (h0 : Nat) (q9 : Nat) (cA10 : ClassId) : va_W := [(h0, .inr (8, [.int 0, .int 0, .int 0, .null, .int 0, .int 0, .null, .int 0, .int 0, .int 0, .int 0, .int 0, .int 0, .null])), (q9, .inl (cA10, 168, .inl (fun _ => 0)))]
def wd_15 (h0 : Nat) (q9 : Nat) (cA10 : ClassId) : va_W := [(h0, .inr (8, [.int 0, .int 0, .int 0, .ref q9, .int 0, .int 0, .null, .int 0, .int 0, .int 0, .int 0, .int 0, .int 0, .null])), (q9, .inl (cA10, 168, .inl (fun _ => 0)))]
def wd_16 (h0 : Nat) (q9 : Nat) (cA10 : ClassId) (q11 : Nat) (cA12 : ClassId) : va_W := [(h0, .inr (8, [.int 0, .int 0, .int 0, .ref q9, .int 0, .int 0, .null, .int 0, .int 0, .int 0, .int 0, .int 0, .int 0, .null])), (q9, .inl (cA10, 168, .inl (fun _ => 0))), (q11, .inl (cA12, 160, .inl (fun _ => 0)))]
def wd_17 (h0 : Nat) (q9 : Nat) (q11 : Nat) (cA10 : ClassId) : va_W := [(h0, .inr (8, [.int 0, .int 0, .int 0, .ref q9, .int 0, .int 0, .ref q11, .int 0, .int 0, .int 0, .int 0, .int 0, .int 0, .null])), (q9, .inl (cA10, 168, .inl (fun _ => 0)))]
def wd_18 (h0 : Nat) (q9 : Nat) (q11 : Nat) (cA10 : ClassId) (q13 : Nat) (cA14 : ClassId) : va_W := [(h0, .inr (8, [.int 0, .int 0, .int 0, .ref q9, .int 0, .int 0, .ref q11, .int 0, .int 0, .int 0, .int 0, .int 0, .int 0, .null])), (q9, .inl (cA10, 168, .inl (fun _ => 0))), (q13, .inl (cA14, 80, .inl (fun _ => 0)))]
def wd_19 (h0 : Nat) (q9 : Nat) (q11 : Nat) (q13 : Nat) (cA10 : ClassId) : va_W := [(h0, .inr (8, [.int 0, .int 0, .int 0, .ref q9, .int 0, .int 0, .ref q11, .int 0, .int 0, .int 0, .int 0, .int 0, .int 0, .ref q13])), (q9, .inl (cA10, 168, .inl (fun _ => 0)))]
set_option maxHeartbeats 4000000 in
set_option maxRecDepth 100000 in
theorem k_X8_init (l : Launch) (dC : Nat → ClassId) (dI : Nat → Nat → Nat) (h0 : Nat) (sz : Nat) : Met l yX8_init (Cond.code yX8_init cX8_init 1 none :: wA) ({ frames := 1, cells := 3, slots := 408, locals := 12 }) (va_Pc [.ref h0] (fun U => U.heap.size = sz ∧ va_P (dC, dI) vwCl (wd_13 h0) U.heap ∧ va_K (dC, dI) vwCl [] U ∧ va_D (fun _ => True) (wd_13 h0))) (va_Qv (fun (_ : Unit) => True) (fun _ t => ∃ q9 : Nat, ∃ q11 : Nat, ∃ q13 : Nat, ∃ cA10 : ClassId, va_P (dC, dI) vwCl (wd_19 h0 q9 q11 q13 cA10) t.heap ∧ va_K (dC, dI) vwCl [(cA10, .int)] t ∧ va_D (va_A (wd_13 h0) sz) (wd_19 h0 q9 q11 q13 cA10)) (va_A (wd_13 h0) sz)) 3 408 (va_A (wd_13 h0) sz) := by
  refine Met.ofW (cc := cX8_init) (maxL := 1) (ret := none) (by decide) rfl ?_
  intro p e s m args below meth c s₁ B hml hv
  obtain ⟨rfl, hsz, hP, hK, hD0⟩ := hv
  have hx := B.exec
  have hb := B.bytes
  have hr := B.returns
  have hts : ∀ w ∈ wA, w.before [.ref h0].toArray s = true := fun w h => atoms_spec (ws := Cond.code yX8_init cX8_init 1 none :: wA) B.pre w (List.mem_cons_of_mem _ h)
  have hown : s.vm.findClass RX8 = some m.cls := findClass_of_methodNamed B.named
  have hlocks := B.notSynchronized
  have hin : meth.name = "<init>" := (name_of_methodNamed B.named B.method).1
  subst hsz
  have hD := hD0.self (sz := s.heap.size)
  generalize hAe : va_A (wd_13 h0) s.heap.size = A at hD ⊢
  have hA : ∀ q : Nat, s.heap.size ≤ q → A q := fun q h => by rw [← hAe]; exact Or.inr h
  have hS : va_S A s.heap s.heap [] := va_S.rf
  have hl := lv_entry ([.ref h0]) (n := 1) (Nat.le_of_ble_eq_true rfl)
  rw [lg_entry_eq]
  generalize (lg_sl ([.ref h0]) ++ List.replicate (1 - (lg_sl ([.ref h0])).length) Slot.unset).toArray = ls at hl ⊢
  have hl : lv_has ls 1 [(0, .ref h0)] := hl
  refine lv_aload_n hx hb dX8_init_0 rfl (lv_at hl 0 rfl) ?_
  refine W.objInit hx hb hown (hts _ q_23) (hts _ q_2) (hts _ q_3) rfl (by rw [hml]; exact hl.1) rfl dX8_init_1 (Nat.le_of_ble_eq_true rfl) (Nat.le_of_ble_eq_true rfl) ?_
  refine W.eq (g2 := F0 m 4 ls []) rfl ?_
  refine lv_aload_n hx hb dX8_init_4 rfl (lv_at hl 0 rfl) ?_
  refine lv_iconst (v := 0) hx hb dX8_init_5 (by decide) ?_
  refine va_put (D := (dC, dI)) (ci := 8) (v := .int 0) (ty := tyX8 0) (C := RX8) (T := TX8) (N := 14) hx hb hts i_X8 tyX8 tyX8_ok nmX8 hown hK hP hD hS 0 rfl rfl 0 (by decide) (hts _ q_24) (fun _ h9 => h9) rfl (tyX8_ok 0 (by decide)) rfl rfl (Nat.le_of_ble_eq_true rfl) dX8_init_6 (fun H locs hP hD hS => ?_)
  have hP : va_P (dC, dI) vwCl (wd_13 h0) H := hP
  have hD : va_D A (wd_13 h0) := hD
  refine lv_aload_n hx hb dX8_init_9 rfl (lv_at hl 0 rfl) ?_
  refine lv_iconst (v := 0) hx hb dX8_init_10 (by decide) ?_
  refine va_put (D := (dC, dI)) (ci := 8) (v := .int 0) (ty := tyX8 1) (C := RX8) (T := TX8) (N := 14) hx hb hts i_X8 tyX8 tyX8_ok nmX8 hown hK hP hD hS 0 rfl rfl 1 (by decide) (hts _ q_25) (fun _ h9 => h9) rfl (tyX8_ok 1 (by decide)) rfl rfl (Nat.le_of_ble_eq_true rfl) dX8_init_11 (fun H locs hP hD hS => ?_)
  have hP : va_P (dC, dI) vwCl (wd_13 h0) H := hP
  have hD : va_D A (wd_13 h0) := hD
  refine lv_aload_n hx hb dX8_init_14 rfl (lv_at hl 0 rfl) ?_
  refine lv_iconst (v := 0) hx hb dX8_init_15 (by decide) ?_
  refine va_put (D := (dC, dI)) (ci := 8) (v := .int 0) (ty := tyX8 2) (C := RX8) (T := TX8) (N := 14) hx hb hts i_X8 tyX8 tyX8_ok nmX8 hown hK hP hD hS 0 rfl rfl 2 (by decide) (hts _ q_26) (fun _ h9 => h9) rfl (tyX8_ok 2 (by decide)) rfl rfl (Nat.le_of_ble_eq_true rfl) dX8_init_16 (fun H locs hP hD hS => ?_)
  have hP : va_P (dC, dI) vwCl (wd_13 h0) H := hP
  have hD : va_D A (wd_13 h0) := hD
  refine lv_aload_n hx hb dX8_init_19 rfl (lv_at hl 0 rfl) ?_
  refine lv_sipush (v := 168) hx hb dX8_init_20 (by decide) ?_
  refine va_newa (atype := .int) (ty := .int) (n := 168) (N' := 168) (a0 := (168, .inl fun _ => 0)) hx hb (hts _ q_4) rfl hK hP hD hS hA (fun _ => rfl) (by decide) (by decide) (Nat.le_of_ble_eq_true rfl) (Nat.le_of_ble_eq_true rfl) (Nat.le_of_ble_eq_true rfl) dX8_init_23 (fun q9 cA10 H hK hP hD hS => ?_)
  have hK : va_K (dC, dI) vwCl [(cA10, .int)] s := hK
  have hP : va_P (dC, dI) vwCl (wd_14 h0 q9 cA10) H := hP
  have hD : va_D A (wd_14 h0 q9 cA10) := hD
  refine W.widen (k := 1) (n := 168) (Nat.le_of_ble_eq_true rfl) (Nat.le_of_ble_eq_true rfl) ?_
  refine va_putF (D := (dC, dI)) (ci := 8) (v := .ref q9) (ty := tyX8 3) (C := RX8) (T := TX8) (N := 14) hx hb hts i_X8 tyX8 tyX8_ok nmX8 hown hK hP hD hS 0 rfl rfl 3 (by decide) (hts _ q_27) (fun _ h9 => h9) rfl hin rfl (tyX8_ok 3 (by decide)) rfl rfl (Nat.le_of_ble_eq_true rfl) dX8_init_25 (fun H locs hP hD hS => ?_)
  have hP : va_P (dC, dI) vwCl (wd_15 h0 q9 cA10) H := hP
  have hD : va_D A (wd_15 h0 q9 cA10) := hD
  refine lv_aload_n hx hb dX8_init_28 rfl (lv_at hl 0 rfl) ?_
  refine lv_iconst (v := 0) hx hb dX8_init_29 (by decide) ?_
  refine va_put (D := (dC, dI)) (ci := 8) (v := .int 0) (ty := tyX8 4) (C := RX8) (T := TX8) (N := 14) hx hb hts i_X8 tyX8 tyX8_ok nmX8 hown hK hP hD hS 0 rfl rfl 4 (by decide) (hts _ q_28) (fun _ h9 => h9) rfl (tyX8_ok 4 (by decide)) rfl rfl (Nat.le_of_ble_eq_true rfl) dX8_init_30 (fun H locs hP hD hS => ?_)
  have hP : va_P (dC, dI) vwCl (wd_15 h0 q9 cA10) H := hP
  have hD : va_D A (wd_15 h0 q9 cA10) := hD
  refine lv_aload_n hx hb dX8_init_33 rfl (lv_at hl 0 rfl) ?_
  refine lv_iconst (v := 0) hx hb dX8_init_34 (by decide) ?_
  refine va_put (D := (dC, dI)) (ci := 8) (v := .int 0) (ty := tyX8 5) (C := RX8) (T := TX8) (N := 14) hx hb hts i_X8 tyX8 tyX8_ok nmX8 hown hK hP hD hS 0 rfl rfl 5 (by decide) (hts _ q_29) (fun _ h9 => h9) rfl (tyX8_ok 5 (by decide)) rfl rfl (Nat.le_of_ble_eq_true rfl) dX8_init_35 (fun H locs hP hD hS => ?_)
  have hP : va_P (dC, dI) vwCl (wd_15 h0 q9 cA10) H := hP
  have hD : va_D A (wd_15 h0 q9 cA10) := hD
  refine lv_aload_n hx hb dX8_init_38 rfl (lv_at hl 0 rfl) ?_
  refine lv_sipush (v := 160) hx hb dX8_init_39 (by decide) ?_
  refine va_newa (atype := .int) (ty := .int) (n := 160) (N' := 160) (a0 := (160, .inl fun _ => 0)) hx hb (hts _ q_4) rfl hK hP hD hS hA (fun _ => rfl) (by decide) (by decide) (Nat.le_of_ble_eq_true rfl) (Nat.le_of_ble_eq_true rfl) (Nat.le_of_ble_eq_true rfl) dX8_init_42 (fun q11 cA12 H hK hP hD hS => ?_)
  have hK : va_K (dC, dI) vwCl [(cA10, .int), (cA12, .int)] s := hK
  have hP : va_P (dC, dI) vwCl (wd_16 h0 q9 cA10 q11 cA12) H := hP
  have hD : va_D A (wd_16 h0 q9 cA10 q11 cA12) := hD
  refine W.widen (k := 2) (n := 328) (Nat.le_of_ble_eq_true rfl) (Nat.le_of_ble_eq_true rfl) ?_
  refine va_putF (D := (dC, dI)) (ci := 8) (v := .ref q11) (ty := tyX8 6) (C := RX8) (T := TX8) (N := 14) hx hb hts i_X8 tyX8 tyX8_ok nmX8 hown hK hP hD hS 0 rfl rfl 6 (by decide) (hts _ q_30) (fun _ h9 => h9) rfl hin rfl (tyX8_ok 6 (by decide)) rfl rfl (Nat.le_of_ble_eq_true rfl) dX8_init_44 (fun H locs hP hD hS => ?_)
  have hP : va_P (dC, dI) vwCl (wd_17 h0 q9 q11 cA10) H := hP.sub (ws' := (wd_17 h0 q9 q11 cA10)) [0, 1] rfl
  have hD : va_D A (wd_17 h0 q9 q11 cA10) := hD.sub (ws' := (wd_17 h0 q9 q11 cA10)) [0, 1] (by decide) rfl
  have hK : va_K (dC, dI) vwCl [(cA10, .int)] s := hK.sub (tys' := [(cA10, .int)]) [0] rfl
  refine lv_aload_n hx hb dX8_init_47 rfl (lv_at hl 0 rfl) ?_
  refine lv_iconst (v := 0) hx hb dX8_init_48 (by decide) ?_
  refine va_put (D := (dC, dI)) (ci := 8) (v := .int 0) (ty := tyX8 7) (C := RX8) (T := TX8) (N := 14) hx hb hts i_X8 tyX8 tyX8_ok nmX8 hown hK hP hD hS 0 rfl rfl 7 (by decide) (hts _ q_31) (fun _ h9 => h9) rfl (tyX8_ok 7 (by decide)) rfl rfl (Nat.le_of_ble_eq_true rfl) dX8_init_49 (fun H locs hP hD hS => ?_)
  have hP : va_P (dC, dI) vwCl (wd_17 h0 q9 q11 cA10) H := hP
  have hD : va_D A (wd_17 h0 q9 q11 cA10) := hD
  refine lv_aload_n hx hb dX8_init_52 rfl (lv_at hl 0 rfl) ?_
  refine lv_iconst (v := 0) hx hb dX8_init_53 (by decide) ?_
  refine va_put (D := (dC, dI)) (ci := 8) (v := .int 0) (ty := tyX8 8) (C := RX8) (T := TX8) (N := 14) hx hb hts i_X8 tyX8 tyX8_ok nmX8 hown hK hP hD hS 0 rfl rfl 8 (by decide) (hts _ q_32) (fun _ h9 => h9) rfl (tyX8_ok 8 (by decide)) rfl rfl (Nat.le_of_ble_eq_true rfl) dX8_init_54 (fun H locs hP hD hS => ?_)
  have hP : va_P (dC, dI) vwCl (wd_17 h0 q9 q11 cA10) H := hP
  have hD : va_D A (wd_17 h0 q9 q11 cA10) := hD
  refine lv_aload_n hx hb dX8_init_57 rfl (lv_at hl 0 rfl) ?_
  refine lv_iconst (v := 0) hx hb dX8_init_58 (by decide) ?_
  refine va_put (D := (dC, dI)) (ci := 8) (v := .int 0) (ty := tyX8 9) (C := RX8) (T := TX8) (N := 14) hx hb hts i_X8 tyX8 tyX8_ok nmX8 hown hK hP hD hS 0 rfl rfl 9 (by decide) (hts _ q_33) (fun _ h9 => h9) rfl (tyX8_ok 9 (by decide)) rfl rfl (Nat.le_of_ble_eq_true rfl) dX8_init_59 (fun H locs hP hD hS => ?_)
  have hP : va_P (dC, dI) vwCl (wd_17 h0 q9 q11 cA10) H := hP
  have hD : va_D A (wd_17 h0 q9 q11 cA10) := hD
  refine lv_aload_n hx hb dX8_init_62 rfl (lv_at hl 0 rfl) ?_
  refine lv_iconst (v := 0) hx hb dX8_init_63 (by decide) ?_
  refine va_put (D := (dC, dI)) (ci := 8) (v := .int 0) (ty := tyX8 10) (C := RX8) (T := TX8) (N := 14) hx hb hts i_X8 tyX8 tyX8_ok nmX8 hown hK hP hD hS 0 rfl rfl 10 (by decide) (hts _ q_34) (fun _ h9 => h9) rfl (tyX8_ok 10 (by decide)) rfl rfl (Nat.le_of_ble_eq_true rfl) dX8_init_64 (fun H locs hP hD hS => ?_)
  have hP : va_P (dC, dI) vwCl (wd_17 h0 q9 q11 cA10) H := hP
  have hD : va_D A (wd_17 h0 q9 q11 cA10) := hD
  refine lv_aload_n hx hb dX8_init_67 rfl (lv_at hl 0 rfl) ?_
  refine lv_iconst (v := 0) hx hb dX8_init_68 (by decide) ?_
  refine va_put (D := (dC, dI)) (ci := 8) (v := .int 0) (ty := tyX8 11) (C := RX8) (T := TX8) (N := 14) hx hb hts i_X8 tyX8 tyX8_ok nmX8 hown hK hP hD hS 0 rfl rfl 11 (by decide) (hts _ q_35) (fun _ h9 => h9) rfl (tyX8_ok 11 (by decide)) rfl rfl (Nat.le_of_ble_eq_true rfl) dX8_init_69 (fun H locs hP hD hS => ?_)
  have hP : va_P (dC, dI) vwCl (wd_17 h0 q9 q11 cA10) H := hP
  have hD : va_D A (wd_17 h0 q9 q11 cA10) := hD
  refine lv_aload_n hx hb dX8_init_72 rfl (lv_at hl 0 rfl) ?_
  refine lv_iconst (v := 0) hx hb dX8_init_73 (by decide) ?_
  refine va_put (D := (dC, dI)) (ci := 8) (v := .int 0) (ty := tyX8 12) (C := RX8) (T := TX8) (N := 14) hx hb hts i_X8 tyX8 tyX8_ok nmX8 hown hK hP hD hS 0 rfl rfl 12 (by decide) (hts _ q_36) (fun _ h9 => h9) rfl (tyX8_ok 12 (by decide)) rfl rfl (Nat.le_of_ble_eq_true rfl) dX8_init_74 (fun H locs hP hD hS => ?_)
  have hP : va_P (dC, dI) vwCl (wd_17 h0 q9 q11 cA10) H := hP
  have hD : va_D A (wd_17 h0 q9 q11 cA10) := hD
  refine lv_aload_n hx hb dX8_init_77 rfl (lv_at hl 0 rfl) ?_
  refine lv_bipush (v := 80) hx hb dX8_init_78 (by decide) ?_
  refine va_newa (atype := .int) (ty := .int) (n := 80) (N' := 80) (a0 := (80, .inl fun _ => 0)) hx hb (hts _ q_4) rfl hK hP hD hS hA (fun _ => rfl) (by decide) (by decide) (Nat.le_of_ble_eq_true rfl) (Nat.le_of_ble_eq_true rfl) (Nat.le_of_ble_eq_true rfl) dX8_init_80 (fun q13 cA14 H hK hP hD hS => ?_)
  have hK : va_K (dC, dI) vwCl [(cA10, .int), (cA14, .int)] s := hK
  have hP : va_P (dC, dI) vwCl (wd_18 h0 q9 q11 cA10 q13 cA14) H := hP
  have hD : va_D A (wd_18 h0 q9 q11 cA10 q13 cA14) := hD
  refine W.widen (k := 3) (n := 408) (Nat.le_of_ble_eq_true rfl) (Nat.le_of_ble_eq_true rfl) ?_
  refine va_putF (D := (dC, dI)) (ci := 8) (v := .ref q13) (ty := tyX8 13) (C := RX8) (T := TX8) (N := 14) hx hb hts i_X8 tyX8 tyX8_ok nmX8 hown hK hP hD hS 0 rfl rfl 13 (by decide) (hts _ q_37) (fun _ h9 => h9) rfl hin rfl (tyX8_ok 13 (by decide)) rfl rfl (Nat.le_of_ble_eq_true rfl) dX8_init_82 (fun H locs hP hD hS => ?_)
  have hP : va_P (dC, dI) vwCl (wd_19 h0 q9 q11 q13 cA10) H := hP.sub (ws' := (wd_19 h0 q9 q11 q13 cA10)) [0, 1] rfl
  have hD : va_D A (wd_19 h0 q9 q11 q13 cA10) := hD.sub (ws' := (wd_19 h0 q9 q11 q13 cA10)) [0, 1] (by decide) rfl
  have hK : va_K (dC, dI) vwCl [(cA10, .int)] s := hK.sub (tys' := [(cA10, .int)]) [0] rfl
  refine W.widen (k := 3) (n := 408) (Nat.le_of_ble_eq_true rfl) (Nat.le_of_ble_eq_true rfl) ?_
  have hP9 := hP.sub (ws' := (wd_19 h0 q9 q11 q13 cA10)) [0, 1] rfl
  have hD9 := hD.sub (ws' := (wd_19 h0 q9 q11 q13 cA10)) [0, 1] (by decide) rfl
  have hK9 := hK.sub (tys' := [(cA10, .int)]) [0] rfl
  exact W.vret hx hb hr (fun t ht hW => ⟨⟨(), rfl, trivial, q9, q11, q13, cA10, by rw [ht]; exact hP9, va_K.moved hW.alike hK9, hD9⟩, hS.F ht⟩) hS.2.2 dX8_init_85
def wd_20 (h0 : Nat) (q15 : Nat) (cA16 : ClassId) : va_W := [(h0, .inr (9, [.null, .null, .null, .null, .null, .null, .null, .null, .int 0, .int 0, .int 0])), (q15, .inl (cA16, 160, .inl (fun _ => 0)))]
def wd_21 (h0 : Nat) (q15 : Nat) : va_W := [(h0, .inr (9, [.null, .ref q15, .null, .null, .null, .null, .null, .null, .int 0, .int 0, .int 0]))]
def wd_22 (h0 : Nat) (q15 : Nat) (q17 : Nat) (cA18 : ClassId) : va_W := [(h0, .inr (9, [.null, .ref q15, .null, .null, .null, .null, .null, .null, .int 0, .int 0, .int 0])), (q17, .inl (cA18, 160, .inl (fun _ => 0)))]
def wd_23 (h0 : Nat) (q15 : Nat) (q17 : Nat) : va_W := [(h0, .inr (9, [.null, .ref q15, .ref q17, .null, .null, .null, .null, .null, .int 0, .int 0, .int 0]))]
def wd_24 (h0 : Nat) (q15 : Nat) (q17 : Nat) (q19 : Nat) (cA20 : ClassId) : va_W := [(h0, .inr (9, [.null, .ref q15, .ref q17, .null, .null, .null, .null, .null, .int 0, .int 0, .int 0])), (q19, .inl (cA20, 80, .inl (fun _ => 0)))]
def wd_25 (h0 : Nat) (q15 : Nat) (q17 : Nat) (q19 : Nat) : va_W := [(h0, .inr (9, [.null, .ref q15, .ref q17, .ref q19, .null, .null, .null, .null, .int 0, .int 0, .int 0]))]
def wd_26 (h0 : Nat) (q15 : Nat) (q17 : Nat) (q19 : Nat) (q21 : Nat) (cA22 : ClassId) : va_W := [(h0, .inr (9, [.null, .ref q15, .ref q17, .ref q19, .null, .null, .null, .null, .int 0, .int 0, .int 0])), (q21, .inl (cA22, 80, .inl (fun _ => 0)))]
def wd_27 (h0 : Nat) (q15 : Nat) (q17 : Nat) (q19 : Nat) (q21 : Nat) : va_W := [(h0, .inr (9, [.null, .ref q15, .ref q17, .ref q19, .ref q21, .null, .null, .null, .int 0, .int 0, .int 0]))]
def wd_28 (h0 : Nat) (q15 : Nat) (q17 : Nat) (q19 : Nat) (q21 : Nat) (q23 : Nat) (cA24 : ClassId) : va_W := [(h0, .inr (9, [.null, .ref q15, .ref q17, .ref q19, .ref q21, .null, .null, .null, .int 0, .int 0, .int 0])), (q23, .inl (cA24, 80, .inl (fun _ => 0)))]
def wd_29 (h0 : Nat) (q15 : Nat) (q17 : Nat) (q19 : Nat) (q21 : Nat) (q23 : Nat) : va_W := [(h0, .inr (9, [.null, .ref q15, .ref q17, .ref q19, .ref q21, .ref q23, .null, .null, .int 0, .int 0, .int 0]))]
def wd_30 (h0 : Nat) (q15 : Nat) (q17 : Nat) (q19 : Nat) (q21 : Nat) (q23 : Nat) (q25 : Nat) (cA26 : ClassId) : va_W := [(h0, .inr (9, [.null, .ref q15, .ref q17, .ref q19, .ref q21, .ref q23, .null, .null, .int 0, .int 0, .int 0])), (q25, .inl (cA26, 80, .inl (fun _ => 0)))]
def wd_31 (h0 : Nat) (q15 : Nat) (q17 : Nat) (q19 : Nat) (q21 : Nat) (q23 : Nat) (q25 : Nat) : va_W := [(h0, .inr (9, [.null, .ref q15, .ref q17, .ref q19, .ref q21, .ref q23, .ref q25, .null, .int 0, .int 0, .int 0]))]
def wd_32 (h0 : Nat) (q15 : Nat) (q17 : Nat) (q19 : Nat) (q21 : Nat) (q23 : Nat) (q25 : Nat) (q27 : Nat) (cA28 : ClassId) : va_W := [(h0, .inr (9, [.null, .ref q15, .ref q17, .ref q19, .ref q21, .ref q23, .ref q25, .null, .int 0, .int 0, .int 0])), (q27, .inl (cA28, 160, .inl (fun _ => 0)))]
def wd_33 (h0 : Nat) (q15 : Nat) (q17 : Nat) (q19 : Nat) (q21 : Nat) (q23 : Nat) (q25 : Nat) (q27 : Nat) : va_W := [(h0, .inr (9, [.null, .ref q15, .ref q17, .ref q19, .ref q21, .ref q23, .ref q25, .ref q27, .int 0, .int 0, .int 0]))]
def wd_34 (h0 : Nat) (q15 : Nat) (q17 : Nat) (q19 : Nat) (q21 : Nat) (q23 : Nat) (q25 : Nat) (q27 : Nat) : va_W := [(h0, .inr (9, [.null, .ref q15, .ref q17, .ref q19, .ref q21, .ref q23, .ref q25, .ref q27, .int 0, .int 0, .int (-1)]))]
def wd_35 (h0 : Nat) (a1 : Nat) (q15 : Nat) (q17 : Nat) (q19 : Nat) (q21 : Nat) (q23 : Nat) (q25 : Nat) (q27 : Nat) : va_W := [(h0, .inr (9, [.ref a1, .ref q15, .ref q17, .ref q19, .ref q21, .ref q23, .ref q25, .ref q27, .int 0, .int 0, .int (-1)]))]
def wd_36 (h0 : Nat) : va_W := [(h0, .inr (9, [.null, .null, .null, .null, .null, .null, .null, .null, .int 0, .int 0, .int 0]))]
set_option maxHeartbeats 4000000 in
set_option maxRecDepth 100000 in
theorem k_X9_init (l : Launch) (dC : Nat → ClassId) (dI : Nat → Nat → Nat) (h0 : Nat) (a1 : Nat) (sz : Nat) : Met l yX9_init (Cond.code yX9_init cX9_init 2 none :: wA) ({ frames := 1, cells := 7, slots := 800, locals := 12 }) (va_Pc [.ref h0, .ref a1] (fun U => U.heap.size = sz ∧ va_P (dC, dI) vwCl (wd_36 h0) U.heap ∧ va_K (dC, dI) vwCl [] U ∧ va_D (fun _ => True) (wd_36 h0))) (va_Qv (fun (_ : Unit) => True) (fun _ t => ∃ q15 : Nat, ∃ q17 : Nat, ∃ q19 : Nat, ∃ q21 : Nat, ∃ q23 : Nat, ∃ q25 : Nat, ∃ q27 : Nat, va_P (dC, dI) vwCl (wd_35 h0 a1 q15 q17 q19 q21 q23 q25 q27) t.heap ∧ va_K (dC, dI) vwCl [] t ∧ va_D (va_A (wd_36 h0) sz) (wd_35 h0 a1 q15 q17 q19 q21 q23 q25 q27)) (va_A (wd_36 h0) sz)) 7 800 (va_A (wd_36 h0) sz) := by
  refine Met.ofW (cc := cX9_init) (maxL := 2) (ret := none) (by decide) rfl ?_
  intro p e s m args below meth c s₁ B hml hv
  obtain ⟨rfl, hsz, hP, hK, hD0⟩ := hv
  have hx := B.exec
  have hb := B.bytes
  have hr := B.returns
  have hts : ∀ w ∈ wA, w.before [.ref h0, .ref a1].toArray s = true := fun w h => atoms_spec (ws := Cond.code yX9_init cX9_init 2 none :: wA) B.pre w (List.mem_cons_of_mem _ h)
  have hown : s.vm.findClass RX9 = some m.cls := findClass_of_methodNamed B.named
  have hlocks := B.notSynchronized
  have hin : meth.name = "<init>" := (name_of_methodNamed B.named B.method).1
  subst hsz
  have hD := hD0.self (sz := s.heap.size)
  generalize hAe : va_A (wd_36 h0) s.heap.size = A at hD ⊢
  have hA : ∀ q : Nat, s.heap.size ≤ q → A q := fun q h => by rw [← hAe]; exact Or.inr h
  have hS : va_S A s.heap s.heap [] := va_S.rf
  have hl := lv_entry ([.ref h0, .ref a1]) (n := 2) (Nat.le_of_ble_eq_true rfl)
  rw [lg_entry_eq]
  generalize (lg_sl ([.ref h0, .ref a1]) ++ List.replicate (2 - (lg_sl ([.ref h0, .ref a1])).length) Slot.unset).toArray = ls at hl ⊢
  have hl : lv_has ls 2 [(0, .ref h0), (1, .ref a1)] := hl
  refine lv_aload_n hx hb dX9_init_0 rfl (lv_at hl 0 rfl) ?_
  refine W.objInit hx hb hown (hts _ q_39) (hts _ q_2) (hts _ q_3) rfl (by rw [hml]; exact hl.1) rfl dX9_init_1 (Nat.le_of_ble_eq_true rfl) (Nat.le_of_ble_eq_true rfl) ?_
  refine W.eq (g2 := F0 m 4 ls []) rfl ?_
  refine lv_aload_n hx hb dX9_init_4 rfl (lv_at hl 0 rfl) ?_
  refine lv_sipush (v := 160) hx hb dX9_init_5 (by decide) ?_
  refine va_newa (atype := .int) (ty := .int) (n := 160) (N' := 160) (a0 := (160, .inl fun _ => 0)) hx hb (hts _ q_4) rfl hK hP hD hS hA (fun _ => rfl) (by decide) (by decide) (Nat.le_of_ble_eq_true rfl) (Nat.le_of_ble_eq_true rfl) (Nat.le_of_ble_eq_true rfl) dX9_init_8 (fun q15 cA16 H hK hP hD hS => ?_)
  have hK : va_K (dC, dI) vwCl [(cA16, .int)] s := hK
  have hP : va_P (dC, dI) vwCl (wd_20 h0 q15 cA16) H := hP
  have hD : va_D A (wd_20 h0 q15 cA16) := hD
  refine W.widen (k := 1) (n := 160) (Nat.le_of_ble_eq_true rfl) (Nat.le_of_ble_eq_true rfl) ?_
  refine va_putF (D := (dC, dI)) (ci := 9) (v := .ref q15) (ty := tyX9 1) (C := RX9) (T := TX9) (N := 11) hx hb hts i_X9 tyX9 tyX9_ok nmX9 hown hK hP hD hS 0 rfl rfl 1 (by decide) (hts _ q_40) (fun _ h9 => h9) rfl hin rfl (tyX9_ok 1 (by decide)) rfl rfl (Nat.le_of_ble_eq_true rfl) dX9_init_10 (fun H locs hP hD hS => ?_)
  have hP : va_P (dC, dI) vwCl (wd_21 h0 q15) H := hP.sub (ws' := (wd_21 h0 q15)) [0] rfl
  have hD : va_D A (wd_21 h0 q15) := hD.sub (ws' := (wd_21 h0 q15)) [0] (by decide) rfl
  have hK : va_K (dC, dI) vwCl [] s := hK.sub (tys' := []) [] rfl
  refine lv_aload_n hx hb dX9_init_13 rfl (lv_at hl 0 rfl) ?_
  refine lv_sipush (v := 160) hx hb dX9_init_14 (by decide) ?_
  refine va_newa (atype := .int) (ty := .int) (n := 160) (N' := 160) (a0 := (160, .inl fun _ => 0)) hx hb (hts _ q_4) rfl hK hP hD hS hA (fun _ => rfl) (by decide) (by decide) (Nat.le_of_ble_eq_true rfl) (Nat.le_of_ble_eq_true rfl) (Nat.le_of_ble_eq_true rfl) dX9_init_17 (fun q17 cA18 H hK hP hD hS => ?_)
  have hK : va_K (dC, dI) vwCl [(cA18, .int)] s := hK
  have hP : va_P (dC, dI) vwCl (wd_22 h0 q15 q17 cA18) H := hP
  have hD : va_D A (wd_22 h0 q15 q17 cA18) := hD
  refine W.widen (k := 2) (n := 320) (Nat.le_of_ble_eq_true rfl) (Nat.le_of_ble_eq_true rfl) ?_
  refine va_putF (D := (dC, dI)) (ci := 9) (v := .ref q17) (ty := tyX9 2) (C := RX9) (T := TX9) (N := 11) hx hb hts i_X9 tyX9 tyX9_ok nmX9 hown hK hP hD hS 0 rfl rfl 2 (by decide) (hts _ q_41) (fun _ h9 => h9) rfl hin rfl (tyX9_ok 2 (by decide)) rfl rfl (Nat.le_of_ble_eq_true rfl) dX9_init_19 (fun H locs hP hD hS => ?_)
  have hP : va_P (dC, dI) vwCl (wd_23 h0 q15 q17) H := hP.sub (ws' := (wd_23 h0 q15 q17)) [0] rfl
  have hD : va_D A (wd_23 h0 q15 q17) := hD.sub (ws' := (wd_23 h0 q15 q17)) [0] (by decide) rfl
  have hK : va_K (dC, dI) vwCl [] s := hK.sub (tys' := []) [] rfl
  refine lv_aload_n hx hb dX9_init_22 rfl (lv_at hl 0 rfl) ?_
  refine lv_bipush (v := 80) hx hb dX9_init_23 (by decide) ?_
  refine va_newa (atype := .int) (ty := .int) (n := 80) (N' := 80) (a0 := (80, .inl fun _ => 0)) hx hb (hts _ q_4) rfl hK hP hD hS hA (fun _ => rfl) (by decide) (by decide) (Nat.le_of_ble_eq_true rfl) (Nat.le_of_ble_eq_true rfl) (Nat.le_of_ble_eq_true rfl) dX9_init_25 (fun q19 cA20 H hK hP hD hS => ?_)
  have hK : va_K (dC, dI) vwCl [(cA20, .int)] s := hK
  have hP : va_P (dC, dI) vwCl (wd_24 h0 q15 q17 q19 cA20) H := hP
  have hD : va_D A (wd_24 h0 q15 q17 q19 cA20) := hD
  refine W.widen (k := 3) (n := 400) (Nat.le_of_ble_eq_true rfl) (Nat.le_of_ble_eq_true rfl) ?_
  refine va_putF (D := (dC, dI)) (ci := 9) (v := .ref q19) (ty := tyX9 3) (C := RX9) (T := TX9) (N := 11) hx hb hts i_X9 tyX9 tyX9_ok nmX9 hown hK hP hD hS 0 rfl rfl 3 (by decide) (hts _ q_42) (fun _ h9 => h9) rfl hin rfl (tyX9_ok 3 (by decide)) rfl rfl (Nat.le_of_ble_eq_true rfl) dX9_init_27 (fun H locs hP hD hS => ?_)
  have hP : va_P (dC, dI) vwCl (wd_25 h0 q15 q17 q19) H := hP.sub (ws' := (wd_25 h0 q15 q17 q19)) [0] rfl
  have hD : va_D A (wd_25 h0 q15 q17 q19) := hD.sub (ws' := (wd_25 h0 q15 q17 q19)) [0] (by decide) rfl
  have hK : va_K (dC, dI) vwCl [] s := hK.sub (tys' := []) [] rfl
  refine lv_aload_n hx hb dX9_init_30 rfl (lv_at hl 0 rfl) ?_
  refine lv_bipush (v := 80) hx hb dX9_init_31 (by decide) ?_
  refine va_newa (atype := .int) (ty := .int) (n := 80) (N' := 80) (a0 := (80, .inl fun _ => 0)) hx hb (hts _ q_4) rfl hK hP hD hS hA (fun _ => rfl) (by decide) (by decide) (Nat.le_of_ble_eq_true rfl) (Nat.le_of_ble_eq_true rfl) (Nat.le_of_ble_eq_true rfl) dX9_init_33 (fun q21 cA22 H hK hP hD hS => ?_)
  have hK : va_K (dC, dI) vwCl [(cA22, .int)] s := hK
  have hP : va_P (dC, dI) vwCl (wd_26 h0 q15 q17 q19 q21 cA22) H := hP
  have hD : va_D A (wd_26 h0 q15 q17 q19 q21 cA22) := hD
  refine W.widen (k := 4) (n := 480) (Nat.le_of_ble_eq_true rfl) (Nat.le_of_ble_eq_true rfl) ?_
  refine va_putF (D := (dC, dI)) (ci := 9) (v := .ref q21) (ty := tyX9 4) (C := RX9) (T := TX9) (N := 11) hx hb hts i_X9 tyX9 tyX9_ok nmX9 hown hK hP hD hS 0 rfl rfl 4 (by decide) (hts _ q_43) (fun _ h9 => h9) rfl hin rfl (tyX9_ok 4 (by decide)) rfl rfl (Nat.le_of_ble_eq_true rfl) dX9_init_35 (fun H locs hP hD hS => ?_)
  have hP : va_P (dC, dI) vwCl (wd_27 h0 q15 q17 q19 q21) H := hP.sub (ws' := (wd_27 h0 q15 q17 q19 q21)) [0] rfl
  have hD : va_D A (wd_27 h0 q15 q17 q19 q21) := hD.sub (ws' := (wd_27 h0 q15 q17 q19 q21)) [0] (by decide) rfl
  have hK : va_K (dC, dI) vwCl [] s := hK.sub (tys' := []) [] rfl
  refine lv_aload_n hx hb dX9_init_38 rfl (lv_at hl 0 rfl) ?_
  refine lv_bipush (v := 80) hx hb dX9_init_39 (by decide) ?_
  refine va_newa (atype := .int) (ty := .int) (n := 80) (N' := 80) (a0 := (80, .inl fun _ => 0)) hx hb (hts _ q_4) rfl hK hP hD hS hA (fun _ => rfl) (by decide) (by decide) (Nat.le_of_ble_eq_true rfl) (Nat.le_of_ble_eq_true rfl) (Nat.le_of_ble_eq_true rfl) dX9_init_41 (fun q23 cA24 H hK hP hD hS => ?_)
  have hK : va_K (dC, dI) vwCl [(cA24, .int)] s := hK
  have hP : va_P (dC, dI) vwCl (wd_28 h0 q15 q17 q19 q21 q23 cA24) H := hP
  have hD : va_D A (wd_28 h0 q15 q17 q19 q21 q23 cA24) := hD
  refine W.widen (k := 5) (n := 560) (Nat.le_of_ble_eq_true rfl) (Nat.le_of_ble_eq_true rfl) ?_
  refine va_putF (D := (dC, dI)) (ci := 9) (v := .ref q23) (ty := tyX9 5) (C := RX9) (T := TX9) (N := 11) hx hb hts i_X9 tyX9 tyX9_ok nmX9 hown hK hP hD hS 0 rfl rfl 5 (by decide) (hts _ q_44) (fun _ h9 => h9) rfl hin rfl (tyX9_ok 5 (by decide)) rfl rfl (Nat.le_of_ble_eq_true rfl) dX9_init_43 (fun H locs hP hD hS => ?_)
  have hP : va_P (dC, dI) vwCl (wd_29 h0 q15 q17 q19 q21 q23) H := hP.sub (ws' := (wd_29 h0 q15 q17 q19 q21 q23)) [0] rfl
  have hD : va_D A (wd_29 h0 q15 q17 q19 q21 q23) := hD.sub (ws' := (wd_29 h0 q15 q17 q19 q21 q23)) [0] (by decide) rfl
  have hK : va_K (dC, dI) vwCl [] s := hK.sub (tys' := []) [] rfl
  refine lv_aload_n hx hb dX9_init_46 rfl (lv_at hl 0 rfl) ?_
  refine lv_bipush (v := 80) hx hb dX9_init_47 (by decide) ?_
  refine va_newa (atype := .int) (ty := .int) (n := 80) (N' := 80) (a0 := (80, .inl fun _ => 0)) hx hb (hts _ q_4) rfl hK hP hD hS hA (fun _ => rfl) (by decide) (by decide) (Nat.le_of_ble_eq_true rfl) (Nat.le_of_ble_eq_true rfl) (Nat.le_of_ble_eq_true rfl) dX9_init_49 (fun q25 cA26 H hK hP hD hS => ?_)
  have hK : va_K (dC, dI) vwCl [(cA26, .int)] s := hK
  have hP : va_P (dC, dI) vwCl (wd_30 h0 q15 q17 q19 q21 q23 q25 cA26) H := hP
  have hD : va_D A (wd_30 h0 q15 q17 q19 q21 q23 q25 cA26) := hD
  refine W.widen (k := 6) (n := 640) (Nat.le_of_ble_eq_true rfl) (Nat.le_of_ble_eq_true rfl) ?_
  refine va_putF (D := (dC, dI)) (ci := 9) (v := .ref q25) (ty := tyX9 6) (C := RX9) (T := TX9) (N := 11) hx hb hts i_X9 tyX9 tyX9_ok nmX9 hown hK hP hD hS 0 rfl rfl 6 (by decide) (hts _ q_45) (fun _ h9 => h9) rfl hin rfl (tyX9_ok 6 (by decide)) rfl rfl (Nat.le_of_ble_eq_true rfl) dX9_init_51 (fun H locs hP hD hS => ?_)
  have hP : va_P (dC, dI) vwCl (wd_31 h0 q15 q17 q19 q21 q23 q25) H := hP.sub (ws' := (wd_31 h0 q15 q17 q19 q21 q23 q25)) [0] rfl
  have hD : va_D A (wd_31 h0 q15 q17 q19 q21 q23 q25) := hD.sub (ws' := (wd_31 h0 q15 q17 q19 q21 q23 q25)) [0] (by decide) rfl
  have hK : va_K (dC, dI) vwCl [] s := hK.sub (tys' := []) [] rfl
  refine lv_aload_n hx hb dX9_init_54 rfl (lv_at hl 0 rfl) ?_
  refine lv_sipush (v := 160) hx hb dX9_init_55 (by decide) ?_
  refine va_newa (atype := .int) (ty := .int) (n := 160) (N' := 160) (a0 := (160, .inl fun _ => 0)) hx hb (hts _ q_4) rfl hK hP hD hS hA (fun _ => rfl) (by decide) (by decide) (Nat.le_of_ble_eq_true rfl) (Nat.le_of_ble_eq_true rfl) (Nat.le_of_ble_eq_true rfl) dX9_init_58 (fun q27 cA28 H hK hP hD hS => ?_)
  have hK : va_K (dC, dI) vwCl [(cA28, .int)] s := hK
  have hP : va_P (dC, dI) vwCl (wd_32 h0 q15 q17 q19 q21 q23 q25 q27 cA28) H := hP
  have hD : va_D A (wd_32 h0 q15 q17 q19 q21 q23 q25 q27 cA28) := hD
  refine W.widen (k := 7) (n := 800) (Nat.le_of_ble_eq_true rfl) (Nat.le_of_ble_eq_true rfl) ?_
  refine va_putF (D := (dC, dI)) (ci := 9) (v := .ref q27) (ty := tyX9 7) (C := RX9) (T := TX9) (N := 11) hx hb hts i_X9 tyX9 tyX9_ok nmX9 hown hK hP hD hS 0 rfl rfl 7 (by decide) (hts _ q_46) (fun _ h9 => h9) rfl hin rfl (tyX9_ok 7 (by decide)) rfl rfl (Nat.le_of_ble_eq_true rfl) dX9_init_60 (fun H locs hP hD hS => ?_)
  have hP : va_P (dC, dI) vwCl (wd_33 h0 q15 q17 q19 q21 q23 q25 q27) H := hP.sub (ws' := (wd_33 h0 q15 q17 q19 q21 q23 q25 q27)) [0] rfl
  have hD : va_D A (wd_33 h0 q15 q17 q19 q21 q23 q25 q27) := hD.sub (ws' := (wd_33 h0 q15 q17 q19 q21 q23 q25 q27)) [0] (by decide) rfl
  have hK : va_K (dC, dI) vwCl [] s := hK.sub (tys' := []) [] rfl
  refine lv_aload_n hx hb dX9_init_63 rfl (lv_at hl 0 rfl) ?_
  refine lv_iconst (v := 0) hx hb dX9_init_64 (by decide) ?_
  refine va_put (D := (dC, dI)) (ci := 9) (v := .int 0) (ty := tyX9 8) (C := RX9) (T := TX9) (N := 11) hx hb hts i_X9 tyX9 tyX9_ok nmX9 hown hK hP hD hS 0 rfl rfl 8 (by decide) (hts _ q_47) (fun _ h9 => h9) rfl (tyX9_ok 8 (by decide)) rfl rfl (Nat.le_of_ble_eq_true rfl) dX9_init_65 (fun H locs hP hD hS => ?_)
  have hP : va_P (dC, dI) vwCl (wd_33 h0 q15 q17 q19 q21 q23 q25 q27) H := hP
  have hD : va_D A (wd_33 h0 q15 q17 q19 q21 q23 q25 q27) := hD
  refine lv_aload_n hx hb dX9_init_68 rfl (lv_at hl 0 rfl) ?_
  refine lv_iconst (v := 0) hx hb dX9_init_69 (by decide) ?_
  refine va_put (D := (dC, dI)) (ci := 9) (v := .int 0) (ty := tyX9 9) (C := RX9) (T := TX9) (N := 11) hx hb hts i_X9 tyX9 tyX9_ok nmX9 hown hK hP hD hS 0 rfl rfl 9 (by decide) (hts _ q_48) (fun _ h9 => h9) rfl (tyX9_ok 9 (by decide)) rfl rfl (Nat.le_of_ble_eq_true rfl) dX9_init_70 (fun H locs hP hD hS => ?_)
  have hP : va_P (dC, dI) vwCl (wd_33 h0 q15 q17 q19 q21 q23 q25 q27) H := hP
  have hD : va_D A (wd_33 h0 q15 q17 q19 q21 q23 q25 q27) := hD
  refine lv_aload_n hx hb dX9_init_73 rfl (lv_at hl 0 rfl) ?_
  refine lv_iconst (v := (-1)) hx hb dX9_init_74 (by decide) ?_
  refine va_put (D := (dC, dI)) (ci := 9) (v := .int (-1)) (ty := tyX9 10) (C := RX9) (T := TX9) (N := 11) hx hb hts i_X9 tyX9 tyX9_ok nmX9 hown hK hP hD hS 0 rfl rfl 10 (by decide) (hts _ q_49) (fun _ h9 => h9) rfl (tyX9_ok 10 (by decide)) rfl rfl (Nat.le_of_ble_eq_true rfl) dX9_init_75 (fun H locs hP hD hS => ?_)
  have hP : va_P (dC, dI) vwCl (wd_34 h0 q15 q17 q19 q21 q23 q25 q27) H := hP
  have hD : va_D A (wd_34 h0 q15 q17 q19 q21 q23 q25 q27) := hD
  refine lv_aload_n hx hb dX9_init_78 rfl (lv_at hl 0 rfl) ?_
  refine lv_aload_n hx hb dX9_init_79 rfl (lv_at hl 1 rfl) ?_
  refine va_putF (D := (dC, dI)) (ci := 9) (v := .ref a1) (ty := tyX9 0) (C := RX9) (T := TX9) (N := 11) hx hb hts i_X9 tyX9 tyX9_ok nmX9 hown hK hP hD hS 0 rfl rfl 0 (by decide) (hts _ q_50) (fun _ h9 => h9) rfl hin rfl (tyX9_ok 0 (by decide)) rfl rfl (Nat.le_of_ble_eq_true rfl) dX9_init_80 (fun H locs hP hD hS => ?_)
  have hP : va_P (dC, dI) vwCl (wd_35 h0 a1 q15 q17 q19 q21 q23 q25 q27) H := hP
  have hD : va_D A (wd_35 h0 a1 q15 q17 q19 q21 q23 q25 q27) := hD
  refine W.widen (k := 7) (n := 800) (Nat.le_of_ble_eq_true rfl) (Nat.le_of_ble_eq_true rfl) ?_
  have hP9 := hP.sub (ws' := (wd_35 h0 a1 q15 q17 q19 q21 q23 q25 q27)) [0] rfl
  have hD9 := hD.sub (ws' := (wd_35 h0 a1 q15 q17 q19 q21 q23 q25 q27)) [0] (by decide) rfl
  have hK9 := hK.sub (tys' := []) [] rfl
  exact W.vret hx hb hr (fun t ht hW => ⟨⟨(), rfl, trivial, q15, q17, q19, q21, q23, q25, q27, by rw [ht]; exact hP9, va_K.moved hW.alike hK9, hD9⟩, hS.F ht⟩) hS.2.2 dX9_init_83
def wd_37 (h0 : Nat) (a1 : Nat) : va_W := [(h0, .inr (7, [.ref a1, .null]))]
def wd_38 (h0 : Nat) (a1 : Nat) (a2 : Nat) : va_W := [(h0, .inr (7, [.ref a1, .ref a2]))]
def wd_39 (h0 : Nat) : va_W := [(h0, .inr (7, [.null, .null]))]
set_option maxHeartbeats 4000000 in
set_option maxRecDepth 100000 in
theorem k_X7_init (l : Launch) (dC : Nat → ClassId) (dI : Nat → Nat → Nat) (h0 : Nat) (a1 : Nat) (a2 : Nat) (sz : Nat) : Met l yX7_init (Cond.code yX7_init cX7_init 3 none :: wA) ({ frames := 1, cells := 0, slots := 0, locals := 12 }) (va_Pc [.ref h0, .ref a1, .ref a2] (fun U => U.heap.size = sz ∧ va_P (dC, dI) vwCl (wd_39 h0) U.heap ∧ va_K (dC, dI) vwCl [] U ∧ va_D (fun _ => True) (wd_39 h0))) (va_Qv (fun (_ : Unit) => True) (fun _ t => va_P (dC, dI) vwCl (wd_38 h0 a1 a2) t.heap ∧ va_K (dC, dI) vwCl [] t ∧ va_D (va_A (wd_39 h0) sz) (wd_38 h0 a1 a2)) (va_A (wd_39 h0) sz)) 0 0 (va_A (wd_39 h0) sz) := by
  refine Met.ofW (cc := cX7_init) (maxL := 3) (ret := none) (by decide) rfl ?_
  intro p e s m args below meth c s₁ B hml hv
  obtain ⟨rfl, hsz, hP, hK, hD0⟩ := hv
  have hx := B.exec
  have hb := B.bytes
  have hr := B.returns
  have hts : ∀ w ∈ wA, w.before [.ref h0, .ref a1, .ref a2].toArray s = true := fun w h => atoms_spec (ws := Cond.code yX7_init cX7_init 3 none :: wA) B.pre w (List.mem_cons_of_mem _ h)
  have hown : s.vm.findClass RX7 = some m.cls := findClass_of_methodNamed B.named
  have hlocks := B.notSynchronized
  have hin : meth.name = "<init>" := (name_of_methodNamed B.named B.method).1
  subst hsz
  have hD := hD0.self (sz := s.heap.size)
  generalize hAe : va_A (wd_39 h0) s.heap.size = A at hD ⊢
  have hA : ∀ q : Nat, s.heap.size ≤ q → A q := fun q h => by rw [← hAe]; exact Or.inr h
  have hS : va_S A s.heap s.heap [] := va_S.rf
  have hl := lv_entry ([.ref h0, .ref a1, .ref a2]) (n := 3) (Nat.le_of_ble_eq_true rfl)
  rw [lg_entry_eq]
  generalize (lg_sl ([.ref h0, .ref a1, .ref a2]) ++ List.replicate (3 - (lg_sl ([.ref h0, .ref a1, .ref a2])).length) Slot.unset).toArray = ls at hl ⊢
  have hl : lv_has ls 3 [(0, .ref h0), (1, .ref a1), (2, .ref a2)] := hl
  refine lv_aload_n hx hb dX7_init_0 rfl (lv_at hl 0 rfl) ?_
  refine W.objInit hx hb hown (hts _ q_52) (hts _ q_2) (hts _ q_3) rfl (by rw [hml]; exact hl.1) rfl dX7_init_1 (Nat.le_of_ble_eq_true rfl) (Nat.le_of_ble_eq_true rfl) ?_
  refine W.eq (g2 := F0 m 4 ls []) rfl ?_
  refine lv_aload_n hx hb dX7_init_4 rfl (lv_at hl 0 rfl) ?_
  refine lv_aload_n hx hb dX7_init_5 rfl (lv_at hl 1 rfl) ?_
  refine va_putF (D := (dC, dI)) (ci := 7) (v := .ref a1) (ty := tyX7 0) (C := RX7) (T := TX7) (N := 2) hx hb hts i_X7 tyX7 tyX7_ok nmX7 hown hK hP hD hS 0 rfl rfl 0 (by decide) (hts _ q_53) (fun _ h9 => h9) rfl hin rfl (tyX7_ok 0 (by decide)) rfl rfl (Nat.le_of_ble_eq_true rfl) dX7_init_6 (fun H locs hP hD hS => ?_)
  have hP : va_P (dC, dI) vwCl (wd_37 h0 a1) H := hP
  have hD : va_D A (wd_37 h0 a1) := hD
  refine lv_aload_n hx hb dX7_init_9 rfl (lv_at hl 0 rfl) ?_
  refine lv_aload_n hx hb dX7_init_10 rfl (lv_at hl 2 rfl) ?_
  refine va_putF (D := (dC, dI)) (ci := 7) (v := .ref a2) (ty := tyX7 1) (C := RX7) (T := TX7) (N := 2) hx hb hts i_X7 tyX7 tyX7_ok nmX7 hown hK hP hD hS 0 rfl rfl 1 (by decide) (hts _ q_54) (fun _ h9 => h9) rfl hin rfl (tyX7_ok 1 (by decide)) rfl rfl (Nat.le_of_ble_eq_true rfl) dX7_init_11 (fun H locs hP hD hS => ?_)
  have hP : va_P (dC, dI) vwCl (wd_38 h0 a1 a2) H := hP
  have hD : va_D A (wd_38 h0 a1 a2) := hD
  refine W.widen (k := 0) (n := 0) (Nat.le_of_ble_eq_true rfl) (Nat.le_of_ble_eq_true rfl) ?_
  have hP9 := hP.sub (ws' := (wd_38 h0 a1 a2)) [0] rfl
  have hD9 := hD.sub (ws' := (wd_38 h0 a1 a2)) [0] (by decide) rfl
  have hK9 := hK.sub (tys' := []) [] rfl
  exact W.vret hx hb hr (fun t ht hW => ⟨⟨(), rfl, trivial, by rw [ht]; exact hP9, va_K.moved hW.alike hK9, hD9⟩, hS.F ht⟩) hS.2.2 dX7_init_14
def wd_40 (h0 : Nat) (q29 : Nat) (cA30 : ClassId) : va_W := [(h0, .inr (1, [.null, .null, .null, .null, .null, .int 0, .int 0, .int 0])), (q29, .inl (cA30, 80, .inr (.inl (fun _ => 0))))]
def wd_41 (h0 : Nat) (q29 : Nat) : va_W := [(h0, .inr (1, [.null, .null, .null, .ref q29, .null, .int 0, .int 0, .int 0]))]
def wd_42 (h0 : Nat) (q29 : Nat) (q31 : Nat) (cA32 : ClassId) : va_W := [(h0, .inr (1, [.null, .null, .null, .ref q29, .null, .int 0, .int 0, .int 0])), (q31, .inl (cA32, 80, .inl (fun _ => 0)))]
def wd_43 (h0 : Nat) (q29 : Nat) (q31 : Nat) : va_W := [(h0, .inr (1, [.null, .null, .null, .ref q29, .ref q31, .int 0, .int 0, .int 0]))]
def wd_44 (h0 : Nat) (q29 : Nat) (q31 : Nat) : va_W := [(h0, .inr (1, [.null, .null, .null, .ref q29, .ref q31, .int 0, .int 0, .int 3047]))]
def wd_45 (h0 : Nat) (a1 : Nat) (q29 : Nat) (q31 : Nat) : va_W := [(h0, .inr (1, [.ref a1, .null, .null, .ref q29, .ref q31, .int 0, .int 0, .int 3047]))]
def wd_46 (h0 : Nat) (a1 : Nat) (a2 : Nat) (q29 : Nat) (q31 : Nat) : va_W := [(h0, .inr (1, [.ref a1, .ref a2, .null, .ref q29, .ref q31, .int 0, .int 0, .int 3047]))]
def wd_47 (h0 : Nat) (a1 : Nat) (a2 : Nat) (a3 : Nat) (q29 : Nat) (q31 : Nat) : va_W := [(h0, .inr (1, [.ref a1, .ref a2, .ref a3, .ref q29, .ref q31, .int 0, .int 0, .int 3047]))]
def wd_48 (h0 : Nat) : va_W := [(h0, .inr (1, [.null, .null, .null, .null, .null, .int 0, .int 0, .int 0]))]
set_option maxHeartbeats 4000000 in
set_option maxRecDepth 100000 in
theorem k_X1_init (l : Launch) (dC : Nat → ClassId) (dI : Nat → Nat → Nat) (h0 : Nat) (a1 : Nat) (a2 : Nat) (a3 : Nat) (sz : Nat) : Met l yX1_init (Cond.code yX1_init cX1_init 4 none :: wA) ({ frames := 1, cells := 2, slots := 160, locals := 12 }) (va_Pc [.ref h0, .ref a1, .ref a2, .ref a3] (fun U => U.heap.size = sz ∧ va_P (dC, dI) vwCl (wd_48 h0) U.heap ∧ va_K (dC, dI) vwCl [] U ∧ va_D (fun _ => True) (wd_48 h0))) (va_Qv (fun (_ : Unit) => True) (fun _ t => ∃ q29 : Nat, ∃ q31 : Nat, va_P (dC, dI) vwCl (wd_47 h0 a1 a2 a3 q29 q31) t.heap ∧ va_K (dC, dI) vwCl [] t ∧ va_D (va_A (wd_48 h0) sz) (wd_47 h0 a1 a2 a3 q29 q31)) (va_A (wd_48 h0) sz)) 2 160 (va_A (wd_48 h0) sz) := by
  refine Met.ofW (cc := cX1_init) (maxL := 4) (ret := none) (by decide) rfl ?_
  intro p e s m args below meth c s₁ B hml hv
  obtain ⟨rfl, hsz, hP, hK, hD0⟩ := hv
  have hx := B.exec
  have hb := B.bytes
  have hr := B.returns
  have hts : ∀ w ∈ wA, w.before [.ref h0, .ref a1, .ref a2, .ref a3].toArray s = true := fun w h => atoms_spec (ws := Cond.code yX1_init cX1_init 4 none :: wA) B.pre w (List.mem_cons_of_mem _ h)
  have hown : s.vm.findClass RX1 = some m.cls := findClass_of_methodNamed B.named
  have hlocks := B.notSynchronized
  have hin : meth.name = "<init>" := (name_of_methodNamed B.named B.method).1
  subst hsz
  have hD := hD0.self (sz := s.heap.size)
  generalize hAe : va_A (wd_48 h0) s.heap.size = A at hD ⊢
  have hA : ∀ q : Nat, s.heap.size ≤ q → A q := fun q h => by rw [← hAe]; exact Or.inr h
  have hS : va_S A s.heap s.heap [] := va_S.rf
  have hl := lv_entry ([.ref h0, .ref a1, .ref a2, .ref a3]) (n := 4) (Nat.le_of_ble_eq_true rfl)
  rw [lg_entry_eq]
  generalize (lg_sl ([.ref h0, .ref a1, .ref a2, .ref a3]) ++ List.replicate (4 - (lg_sl ([.ref h0, .ref a1, .ref a2, .ref a3])).length) Slot.unset).toArray = ls at hl ⊢
  have hl : lv_has ls 4 [(0, .ref h0), (1, .ref a1), (2, .ref a2), (3, .ref a3)] := hl
  refine lv_aload_n hx hb dX1_init_0 rfl (lv_at hl 0 rfl) ?_
  refine W.objInit hx hb hown (hts _ q_56) (hts _ q_2) (hts _ q_3) rfl (by rw [hml]; exact hl.1) rfl dX1_init_1 (Nat.le_of_ble_eq_true rfl) (Nat.le_of_ble_eq_true rfl) ?_
  refine W.eq (g2 := F0 m 4 ls []) rfl ?_
  refine lv_aload_n hx hb dX1_init_4 rfl (lv_at hl 0 rfl) ?_
  refine lv_bipush (v := 80) hx hb dX1_init_5 (by decide) ?_
  refine va_newa (atype := .long) (ty := .long) (n := 80) (N' := 80) (a0 := (80, .inr (.inl fun _ => 0))) hx hb (hts _ q_18) rfl hK hP hD hS hA (fun _ => rfl) (by decide) (by decide) (Nat.le_of_ble_eq_true rfl) (Nat.le_of_ble_eq_true rfl) (Nat.le_of_ble_eq_true rfl) dX1_init_7 (fun q29 cA30 H hK hP hD hS => ?_)
  have hK : va_K (dC, dI) vwCl [(cA30, .long)] s := hK
  have hP : va_P (dC, dI) vwCl (wd_40 h0 q29 cA30) H := hP
  have hD : va_D A (wd_40 h0 q29 cA30) := hD
  refine W.widen (k := 1) (n := 80) (Nat.le_of_ble_eq_true rfl) (Nat.le_of_ble_eq_true rfl) ?_
  refine va_putF (D := (dC, dI)) (ci := 1) (v := .ref q29) (ty := tyX1 3) (C := RX1) (T := TX1) (N := 8) hx hb hts i_X1 tyX1 tyX1_ok nmX1 hown hK hP hD hS 0 rfl rfl 3 (by decide) (hts _ q_57) (fun _ h9 => h9) rfl hin rfl (tyX1_ok 3 (by decide)) rfl rfl (Nat.le_of_ble_eq_true rfl) dX1_init_9 (fun H locs hP hD hS => ?_)
  have hP : va_P (dC, dI) vwCl (wd_41 h0 q29) H := hP.sub (ws' := (wd_41 h0 q29)) [0] rfl
  have hD : va_D A (wd_41 h0 q29) := hD.sub (ws' := (wd_41 h0 q29)) [0] (by decide) rfl
  have hK : va_K (dC, dI) vwCl [] s := hK.sub (tys' := []) [] rfl
  refine lv_aload_n hx hb dX1_init_12 rfl (lv_at hl 0 rfl) ?_
  refine lv_bipush (v := 80) hx hb dX1_init_13 (by decide) ?_
  refine va_newa (atype := .int) (ty := .int) (n := 80) (N' := 80) (a0 := (80, .inl fun _ => 0)) hx hb (hts _ q_4) rfl hK hP hD hS hA (fun _ => rfl) (by decide) (by decide) (Nat.le_of_ble_eq_true rfl) (Nat.le_of_ble_eq_true rfl) (Nat.le_of_ble_eq_true rfl) dX1_init_15 (fun q31 cA32 H hK hP hD hS => ?_)
  have hK : va_K (dC, dI) vwCl [(cA32, .int)] s := hK
  have hP : va_P (dC, dI) vwCl (wd_42 h0 q29 q31 cA32) H := hP
  have hD : va_D A (wd_42 h0 q29 q31 cA32) := hD
  refine W.widen (k := 2) (n := 160) (Nat.le_of_ble_eq_true rfl) (Nat.le_of_ble_eq_true rfl) ?_
  refine va_putF (D := (dC, dI)) (ci := 1) (v := .ref q31) (ty := tyX1 4) (C := RX1) (T := TX1) (N := 8) hx hb hts i_X1 tyX1 tyX1_ok nmX1 hown hK hP hD hS 0 rfl rfl 4 (by decide) (hts _ q_58) (fun _ h9 => h9) rfl hin rfl (tyX1_ok 4 (by decide)) rfl rfl (Nat.le_of_ble_eq_true rfl) dX1_init_17 (fun H locs hP hD hS => ?_)
  have hP : va_P (dC, dI) vwCl (wd_43 h0 q29 q31) H := hP.sub (ws' := (wd_43 h0 q29 q31)) [0] rfl
  have hD : va_D A (wd_43 h0 q29 q31) := hD.sub (ws' := (wd_43 h0 q29 q31)) [0] (by decide) rfl
  have hK : va_K (dC, dI) vwCl [] s := hK.sub (tys' := []) [] rfl
  refine lv_aload_n hx hb dX1_init_20 rfl (lv_at hl 0 rfl) ?_
  refine lv_iconst (v := 0) hx hb dX1_init_21 (by decide) ?_
  refine va_put (D := (dC, dI)) (ci := 1) (v := .int 0) (ty := tyX1 5) (C := RX1) (T := TX1) (N := 8) hx hb hts i_X1 tyX1 tyX1_ok nmX1 hown hK hP hD hS 0 rfl rfl 5 (by decide) (hts _ q_59) (fun _ h9 => h9) rfl (tyX1_ok 5 (by decide)) rfl rfl (Nat.le_of_ble_eq_true rfl) dX1_init_22 (fun H locs hP hD hS => ?_)
  have hP : va_P (dC, dI) vwCl (wd_43 h0 q29 q31) H := hP
  have hD : va_D A (wd_43 h0 q29 q31) := hD
  refine lv_aload_n hx hb dX1_init_25 rfl (lv_at hl 0 rfl) ?_
  refine lv_iconst (v := 0) hx hb dX1_init_26 (by decide) ?_
  refine va_put (D := (dC, dI)) (ci := 1) (v := .int 0) (ty := tyX1 6) (C := RX1) (T := TX1) (N := 8) hx hb hts i_X1 tyX1 tyX1_ok nmX1 hown hK hP hD hS 0 rfl rfl 6 (by decide) (hts _ q_60) (fun _ h9 => h9) rfl (tyX1_ok 6 (by decide)) rfl rfl (Nat.le_of_ble_eq_true rfl) dX1_init_27 (fun H locs hP hD hS => ?_)
  have hP : va_P (dC, dI) vwCl (wd_43 h0 q29 q31) H := hP
  have hD : va_D A (wd_43 h0 q29 q31) := hD
  refine lv_aload_n hx hb dX1_init_30 rfl (lv_at hl 0 rfl) ?_
  refine lv_sipush (v := 3047) hx hb dX1_init_31 (by decide) ?_
  refine va_put (D := (dC, dI)) (ci := 1) (v := .int 3047) (ty := tyX1 7) (C := RX1) (T := TX1) (N := 8) hx hb hts i_X1 tyX1 tyX1_ok nmX1 hown hK hP hD hS 0 rfl rfl 7 (by decide) (hts _ q_61) (fun _ h9 => h9) rfl (tyX1_ok 7 (by decide)) rfl rfl (Nat.le_of_ble_eq_true rfl) dX1_init_34 (fun H locs hP hD hS => ?_)
  have hP : va_P (dC, dI) vwCl (wd_44 h0 q29 q31) H := hP
  have hD : va_D A (wd_44 h0 q29 q31) := hD
  refine lv_aload_n hx hb dX1_init_37 rfl (lv_at hl 0 rfl) ?_
  refine lv_aload_n hx hb dX1_init_38 rfl (lv_at hl 1 rfl) ?_
  refine va_putF (D := (dC, dI)) (ci := 1) (v := .ref a1) (ty := tyX1 0) (C := RX1) (T := TX1) (N := 8) hx hb hts i_X1 tyX1 tyX1_ok nmX1 hown hK hP hD hS 0 rfl rfl 0 (by decide) (hts _ q_62) (fun _ h9 => h9) rfl hin rfl (tyX1_ok 0 (by decide)) rfl rfl (Nat.le_of_ble_eq_true rfl) dX1_init_39 (fun H locs hP hD hS => ?_)
  have hP : va_P (dC, dI) vwCl (wd_45 h0 a1 q29 q31) H := hP
  have hD : va_D A (wd_45 h0 a1 q29 q31) := hD
  refine lv_aload_n hx hb dX1_init_42 rfl (lv_at hl 0 rfl) ?_
  refine lv_aload_n hx hb dX1_init_43 rfl (lv_at hl 2 rfl) ?_
  refine va_putF (D := (dC, dI)) (ci := 1) (v := .ref a2) (ty := tyX1 1) (C := RX1) (T := TX1) (N := 8) hx hb hts i_X1 tyX1 tyX1_ok nmX1 hown hK hP hD hS 0 rfl rfl 1 (by decide) (hts _ q_63) (fun _ h9 => h9) rfl hin rfl (tyX1_ok 1 (by decide)) rfl rfl (Nat.le_of_ble_eq_true rfl) dX1_init_44 (fun H locs hP hD hS => ?_)
  have hP : va_P (dC, dI) vwCl (wd_46 h0 a1 a2 q29 q31) H := hP
  have hD : va_D A (wd_46 h0 a1 a2 q29 q31) := hD
  refine lv_aload_n hx hb dX1_init_47 rfl (lv_at hl 0 rfl) ?_
  refine lv_aload_n hx hb dX1_init_48 rfl (lv_at hl 3 rfl) ?_
  refine va_putF (D := (dC, dI)) (ci := 1) (v := .ref a3) (ty := tyX1 2) (C := RX1) (T := TX1) (N := 8) hx hb hts i_X1 tyX1 tyX1_ok nmX1 hown hK hP hD hS 0 rfl rfl 2 (by decide) (hts _ q_64) (fun _ h9 => h9) rfl hin rfl (tyX1_ok 2 (by decide)) rfl rfl (Nat.le_of_ble_eq_true rfl) dX1_init_49 (fun H locs hP hD hS => ?_)
  have hP : va_P (dC, dI) vwCl (wd_47 h0 a1 a2 a3 q29 q31) H := hP
  have hD : va_D A (wd_47 h0 a1 a2 a3 q29 q31) := hD
  refine W.widen (k := 2) (n := 160) (Nat.le_of_ble_eq_true rfl) (Nat.le_of_ble_eq_true rfl) ?_
  have hP9 := hP.sub (ws' := (wd_47 h0 a1 a2 a3 q29 q31)) [0] rfl
  have hD9 := hD.sub (ws' := (wd_47 h0 a1 a2 a3 q29 q31)) [0] (by decide) rfl
  have hK9 := hK.sub (tys' := []) [] rfl
  exact W.vret hx hb hr (fun t ht hW => ⟨⟨(), rfl, trivial, q29, q31, by rw [ht]; exact hP9, va_K.moved hW.alike hK9, hD9⟩, hS.F ht⟩) hS.2.2 dX1_init_52
def wd_49 (h0 : Nat) (q33 : Nat) (cA34 : ClassId) : va_W := [(h0, .inr (4, [.null, .null, .null, .int 0, .null, .int 0])), (q33, .inl (cA34, 4020, .inl (fun _ => 0)))]
def wd_50 (h0 : Nat) (q33 : Nat) : va_W := [(h0, .inr (4, [.null, .null, .ref q33, .int 0, .null, .int 0]))]
def wd_51 (h0 : Nat) (q33 : Nat) (q35 : Nat) (cA36 : ClassId) : va_W := [(h0, .inr (4, [.null, .null, .ref q33, .int 0, .null, .int 0])), (q35, .inl (cA36, 4, .inl (fun _ => 0)))]
def wd_52 (h0 : Nat) (q33 : Nat) (q35 : Nat) : va_W := [(h0, .inr (4, [.null, .null, .ref q33, .int 0, .ref q35, .int 0]))]
def wd_53 (h0 : Nat) (a1 : Nat) (q33 : Nat) (q35 : Nat) : va_W := [(h0, .inr (4, [.ref a1, .null, .ref q33, .int 0, .ref q35, .int 0]))]
def wd_54 (h0 : Nat) (a1 : Nat) (a2 : Nat) (q33 : Nat) (q35 : Nat) : va_W := [(h0, .inr (4, [.ref a1, .ref a2, .ref q33, .int 0, .ref q35, .int 0]))]
def wd_55 (h0 : Nat) : va_W := [(h0, .inr (4, [.null, .null, .null, .int 0, .null, .int 0]))]
set_option maxHeartbeats 4000000 in
set_option maxRecDepth 100000 in
theorem k_X4_init (l : Launch) (dC : Nat → ClassId) (dI : Nat → Nat → Nat) (h0 : Nat) (a1 : Nat) (a2 : Nat) (sz : Nat) : Met l yX4_init (Cond.code yX4_init cX4_init 3 none :: wA) ({ frames := 1, cells := 2, slots := 4024, locals := 12 }) (va_Pc [.ref h0, .ref a1, .ref a2] (fun U => U.heap.size = sz ∧ va_P (dC, dI) vwCl (wd_55 h0) U.heap ∧ va_K (dC, dI) vwCl [] U ∧ va_D (fun _ => True) (wd_55 h0))) (va_Qv (fun (_ : Unit) => True) (fun _ t => ∃ q33 : Nat, ∃ q35 : Nat, va_P (dC, dI) vwCl (wd_54 h0 a1 a2 q33 q35) t.heap ∧ va_K (dC, dI) vwCl [] t ∧ va_D (va_A (wd_55 h0) sz) (wd_54 h0 a1 a2 q33 q35)) (va_A (wd_55 h0) sz)) 2 4024 (va_A (wd_55 h0) sz) := by
  refine Met.ofW (cc := cX4_init) (maxL := 3) (ret := none) (by decide) rfl ?_
  intro p e s m args below meth c s₁ B hml hv
  obtain ⟨rfl, hsz, hP, hK, hD0⟩ := hv
  have hx := B.exec
  have hb := B.bytes
  have hr := B.returns
  have hts : ∀ w ∈ wA, w.before [.ref h0, .ref a1, .ref a2].toArray s = true := fun w h => atoms_spec (ws := Cond.code yX4_init cX4_init 3 none :: wA) B.pre w (List.mem_cons_of_mem _ h)
  have hown : s.vm.findClass RX4 = some m.cls := findClass_of_methodNamed B.named
  have hlocks := B.notSynchronized
  have hin : meth.name = "<init>" := (name_of_methodNamed B.named B.method).1
  subst hsz
  have hD := hD0.self (sz := s.heap.size)
  generalize hAe : va_A (wd_55 h0) s.heap.size = A at hD ⊢
  have hA : ∀ q : Nat, s.heap.size ≤ q → A q := fun q h => by rw [← hAe]; exact Or.inr h
  have hS : va_S A s.heap s.heap [] := va_S.rf
  have hl := lv_entry ([.ref h0, .ref a1, .ref a2]) (n := 3) (Nat.le_of_ble_eq_true rfl)
  rw [lg_entry_eq]
  generalize (lg_sl ([.ref h0, .ref a1, .ref a2]) ++ List.replicate (3 - (lg_sl ([.ref h0, .ref a1, .ref a2])).length) Slot.unset).toArray = ls at hl ⊢
  have hl : lv_has ls 3 [(0, .ref h0), (1, .ref a1), (2, .ref a2)] := hl
  refine lv_aload_n hx hb dX4_init_0 rfl (lv_at hl 0 rfl) ?_
  refine W.objInit hx hb hown (hts _ q_66) (hts _ q_2) (hts _ q_3) rfl (by rw [hml]; exact hl.1) rfl dX4_init_1 (Nat.le_of_ble_eq_true rfl) (Nat.le_of_ble_eq_true rfl) ?_
  refine W.eq (g2 := F0 m 4 ls []) rfl ?_
  refine lv_aload_n hx hb dX4_init_4 rfl (lv_at hl 0 rfl) ?_
  refine lv_sipush (v := 4020) hx hb dX4_init_5 (by decide) ?_
  refine va_newa (atype := .int) (ty := .int) (n := 4020) (N' := 4020) (a0 := (4020, .inl fun _ => 0)) hx hb (hts _ q_4) rfl hK hP hD hS hA (fun _ => rfl) (by decide) (by decide) (Nat.le_of_ble_eq_true rfl) (Nat.le_of_ble_eq_true rfl) (Nat.le_of_ble_eq_true rfl) dX4_init_8 (fun q33 cA34 H hK hP hD hS => ?_)
  have hK : va_K (dC, dI) vwCl [(cA34, .int)] s := hK
  have hP : va_P (dC, dI) vwCl (wd_49 h0 q33 cA34) H := hP
  have hD : va_D A (wd_49 h0 q33 cA34) := hD
  refine W.widen (k := 1) (n := 4020) (Nat.le_of_ble_eq_true rfl) (Nat.le_of_ble_eq_true rfl) ?_
  refine va_putF (D := (dC, dI)) (ci := 4) (v := .ref q33) (ty := tyX4 2) (C := RX4) (T := TX4) (N := 6) hx hb hts i_X4 tyX4 tyX4_ok nmX4 hown hK hP hD hS 0 rfl rfl 2 (by decide) (hts _ q_67) (fun _ h9 => h9) rfl hin rfl (tyX4_ok 2 (by decide)) rfl rfl (Nat.le_of_ble_eq_true rfl) dX4_init_10 (fun H locs hP hD hS => ?_)
  have hP : va_P (dC, dI) vwCl (wd_50 h0 q33) H := hP.sub (ws' := (wd_50 h0 q33)) [0] rfl
  have hD : va_D A (wd_50 h0 q33) := hD.sub (ws' := (wd_50 h0 q33)) [0] (by decide) rfl
  have hK : va_K (dC, dI) vwCl [] s := hK.sub (tys' := []) [] rfl
  refine lv_aload_n hx hb dX4_init_13 rfl (lv_at hl 0 rfl) ?_
  refine lv_iconst (v := 0) hx hb dX4_init_14 (by decide) ?_
  refine va_put (D := (dC, dI)) (ci := 4) (v := .int 0) (ty := tyX4 3) (C := RX4) (T := TX4) (N := 6) hx hb hts i_X4 tyX4 tyX4_ok nmX4 hown hK hP hD hS 0 rfl rfl 3 (by decide) (hts _ q_68) (fun _ h9 => h9) rfl (tyX4_ok 3 (by decide)) rfl rfl (Nat.le_of_ble_eq_true rfl) dX4_init_15 (fun H locs hP hD hS => ?_)
  have hP : va_P (dC, dI) vwCl (wd_50 h0 q33) H := hP
  have hD : va_D A (wd_50 h0 q33) := hD
  refine lv_aload_n hx hb dX4_init_18 rfl (lv_at hl 0 rfl) ?_
  refine lv_iconst (v := 4) hx hb dX4_init_19 (by decide) ?_
  refine va_newa (atype := .int) (ty := .int) (n := 4) (N' := 4) (a0 := (4, .inl fun _ => 0)) hx hb (hts _ q_4) rfl hK hP hD hS hA (fun _ => rfl) (by decide) (by decide) (Nat.le_of_ble_eq_true rfl) (Nat.le_of_ble_eq_true rfl) (Nat.le_of_ble_eq_true rfl) dX4_init_20 (fun q35 cA36 H hK hP hD hS => ?_)
  have hK : va_K (dC, dI) vwCl [(cA36, .int)] s := hK
  have hP : va_P (dC, dI) vwCl (wd_51 h0 q33 q35 cA36) H := hP
  have hD : va_D A (wd_51 h0 q33 q35 cA36) := hD
  refine W.widen (k := 2) (n := 4024) (Nat.le_of_ble_eq_true rfl) (Nat.le_of_ble_eq_true rfl) ?_
  refine va_putF (D := (dC, dI)) (ci := 4) (v := .ref q35) (ty := tyX4 4) (C := RX4) (T := TX4) (N := 6) hx hb hts i_X4 tyX4 tyX4_ok nmX4 hown hK hP hD hS 0 rfl rfl 4 (by decide) (hts _ q_69) (fun _ h9 => h9) rfl hin rfl (tyX4_ok 4 (by decide)) rfl rfl (Nat.le_of_ble_eq_true rfl) dX4_init_22 (fun H locs hP hD hS => ?_)
  have hP : va_P (dC, dI) vwCl (wd_52 h0 q33 q35) H := hP.sub (ws' := (wd_52 h0 q33 q35)) [0] rfl
  have hD : va_D A (wd_52 h0 q33 q35) := hD.sub (ws' := (wd_52 h0 q33 q35)) [0] (by decide) rfl
  have hK : va_K (dC, dI) vwCl [] s := hK.sub (tys' := []) [] rfl
  refine lv_aload_n hx hb dX4_init_25 rfl (lv_at hl 0 rfl) ?_
  refine lv_iconst (v := 0) hx hb dX4_init_26 (by decide) ?_
  refine va_put (D := (dC, dI)) (ci := 4) (v := .int 0) (ty := tyX4 5) (C := RX4) (T := TX4) (N := 6) hx hb hts i_X4 tyX4 tyX4_ok nmX4 hown hK hP hD hS 0 rfl rfl 5 (by decide) (hts _ q_70) (fun _ h9 => h9) rfl (tyX4_ok 5 (by decide)) rfl rfl (Nat.le_of_ble_eq_true rfl) dX4_init_27 (fun H locs hP hD hS => ?_)
  have hP : va_P (dC, dI) vwCl (wd_52 h0 q33 q35) H := hP
  have hD : va_D A (wd_52 h0 q33 q35) := hD
  refine lv_aload_n hx hb dX4_init_30 rfl (lv_at hl 0 rfl) ?_
  refine lv_aload_n hx hb dX4_init_31 rfl (lv_at hl 1 rfl) ?_
  refine va_putF (D := (dC, dI)) (ci := 4) (v := .ref a1) (ty := tyX4 0) (C := RX4) (T := TX4) (N := 6) hx hb hts i_X4 tyX4 tyX4_ok nmX4 hown hK hP hD hS 0 rfl rfl 0 (by decide) (hts _ q_71) (fun _ h9 => h9) rfl hin rfl (tyX4_ok 0 (by decide)) rfl rfl (Nat.le_of_ble_eq_true rfl) dX4_init_32 (fun H locs hP hD hS => ?_)
  have hP : va_P (dC, dI) vwCl (wd_53 h0 a1 q33 q35) H := hP
  have hD : va_D A (wd_53 h0 a1 q33 q35) := hD
  refine lv_aload_n hx hb dX4_init_35 rfl (lv_at hl 0 rfl) ?_
  refine lv_aload_n hx hb dX4_init_36 rfl (lv_at hl 2 rfl) ?_
  refine va_putF (D := (dC, dI)) (ci := 4) (v := .ref a2) (ty := tyX4 1) (C := RX4) (T := TX4) (N := 6) hx hb hts i_X4 tyX4 tyX4_ok nmX4 hown hK hP hD hS 0 rfl rfl 1 (by decide) (hts _ q_72) (fun _ h9 => h9) rfl hin rfl (tyX4_ok 1 (by decide)) rfl rfl (Nat.le_of_ble_eq_true rfl) dX4_init_37 (fun H locs hP hD hS => ?_)
  have hP : va_P (dC, dI) vwCl (wd_54 h0 a1 a2 q33 q35) H := hP
  have hD : va_D A (wd_54 h0 a1 a2 q33 q35) := hD
  refine W.widen (k := 2) (n := 4024) (Nat.le_of_ble_eq_true rfl) (Nat.le_of_ble_eq_true rfl) ?_
  have hP9 := hP.sub (ws' := (wd_54 h0 a1 a2 q33 q35)) [0] rfl
  have hD9 := hD.sub (ws' := (wd_54 h0 a1 a2 q33 q35)) [0] (by decide) rfl
  have hK9 := hK.sub (tys' := []) [] rfl
  exact W.vret hx hb hr (fun t ht hW => ⟨⟨(), rfl, trivial, q33, q35, by rw [ht]; exact hP9, va_K.moved hW.alike hK9, hD9⟩, hS.F ht⟩) hS.2.2 dX4_init_40
def wd_56 (h0 : Nat) : va_W := [(h0, .inr (0, [.null, .null, .long 1]))]
def wd_57 (h0 : Nat) (a1 : Nat) : va_W := [(h0, .inr (0, [.ref a1, .null, .long 1]))]
def wd_58 (h0 : Nat) (a1 : Nat) (a2 : Nat) : va_W := [(h0, .inr (0, [.ref a1, .ref a2, .long 1]))]
def wd_59 (h0 : Nat) : va_W := [(h0, .inr (0, [.null, .null, .long 0]))]
set_option maxHeartbeats 4000000 in
set_option maxRecDepth 100000 in
theorem k_X0_init (l : Launch) (dC : Nat → ClassId) (dI : Nat → Nat → Nat) (h0 : Nat) (a1 : Nat) (a2 : Nat) (sz : Nat) : Met l yX0_init (Cond.code yX0_init cX0_init 3 none :: wA) ({ frames := 1, cells := 0, slots := 0, locals := 12 }) (va_Pc [.ref h0, .ref a1, .ref a2] (fun U => U.heap.size = sz ∧ va_P (dC, dI) vwCl (wd_59 h0) U.heap ∧ va_K (dC, dI) vwCl [] U ∧ va_D (fun _ => True) (wd_59 h0))) (va_Qv (fun (_ : Unit) => True) (fun _ t => va_P (dC, dI) vwCl (wd_58 h0 a1 a2) t.heap ∧ va_K (dC, dI) vwCl [] t ∧ va_D (va_A (wd_59 h0) sz) (wd_58 h0 a1 a2)) (va_A (wd_59 h0) sz)) 0 0 (va_A (wd_59 h0) sz) := by
  refine Met.ofW (cc := cX0_init) (maxL := 3) (ret := none) (by decide) rfl ?_
  intro p e s m args below meth c s₁ B hml hv
  obtain ⟨rfl, hsz, hP, hK, hD0⟩ := hv
  have hx := B.exec
  have hb := B.bytes
  have hr := B.returns
  have hts : ∀ w ∈ wA, w.before [.ref h0, .ref a1, .ref a2].toArray s = true := fun w h => atoms_spec (ws := Cond.code yX0_init cX0_init 3 none :: wA) B.pre w (List.mem_cons_of_mem _ h)
  have hown : s.vm.findClass RX0 = some m.cls := findClass_of_methodNamed B.named
  have hlocks := B.notSynchronized
  have hin : meth.name = "<init>" := (name_of_methodNamed B.named B.method).1
  subst hsz
  have hD := hD0.self (sz := s.heap.size)
  generalize hAe : va_A (wd_59 h0) s.heap.size = A at hD ⊢
  have hA : ∀ q : Nat, s.heap.size ≤ q → A q := fun q h => by rw [← hAe]; exact Or.inr h
  have hS : va_S A s.heap s.heap [] := va_S.rf
  have hl := lv_entry ([.ref h0, .ref a1, .ref a2]) (n := 3) (Nat.le_of_ble_eq_true rfl)
  rw [lg_entry_eq]
  generalize (lg_sl ([.ref h0, .ref a1, .ref a2]) ++ List.replicate (3 - (lg_sl ([.ref h0, .ref a1, .ref a2])).length) Slot.unset).toArray = ls at hl ⊢
  have hl : lv_has ls 3 [(0, .ref h0), (1, .ref a1), (2, .ref a2)] := hl
  refine lv_aload_n hx hb dX0_init_0 rfl (lv_at hl 0 rfl) ?_
  refine W.objInit hx hb hown (hts _ q_74) (hts _ q_2) (hts _ q_3) rfl (by rw [hml]; exact hl.1) rfl dX0_init_1 (Nat.le_of_ble_eq_true rfl) (Nat.le_of_ble_eq_true rfl) ?_
  refine W.eq (g2 := F0 m 4 ls []) rfl ?_
  refine lv_aload_n hx hb dX0_init_4 rfl (lv_at hl 0 rfl) ?_
  refine lv_lconst (v := 1) hx hb dX0_init_5 (by decide) ?_
  refine va_put (D := (dC, dI)) (ci := 0) (v := .long 1) (ty := tyX0 2) (C := RX0) (T := TX0) (N := 3) hx hb hts i_X0 tyX0 tyX0_ok nmX0 hown hK hP hD hS 0 rfl rfl 2 (by decide) (hts _ q_75) (fun _ h9 => h9) rfl (tyX0_ok 2 (by decide)) rfl rfl (Nat.le_of_ble_eq_true rfl) dX0_init_6 (fun H locs hP hD hS => ?_)
  have hP : va_P (dC, dI) vwCl (wd_56 h0) H := hP
  have hD : va_D A (wd_56 h0) := hD
  refine lv_aload_n hx hb dX0_init_9 rfl (lv_at hl 0 rfl) ?_
  refine lv_aload_n hx hb dX0_init_10 rfl (lv_at hl 1 rfl) ?_
  refine va_putF (D := (dC, dI)) (ci := 0) (v := .ref a1) (ty := tyX0 0) (C := RX0) (T := TX0) (N := 3) hx hb hts i_X0 tyX0 tyX0_ok nmX0 hown hK hP hD hS 0 rfl rfl 0 (by decide) (hts _ q_76) (fun _ h9 => h9) rfl hin rfl (tyX0_ok 0 (by decide)) rfl rfl (Nat.le_of_ble_eq_true rfl) dX0_init_11 (fun H locs hP hD hS => ?_)
  have hP : va_P (dC, dI) vwCl (wd_57 h0 a1) H := hP
  have hD : va_D A (wd_57 h0 a1) := hD
  refine lv_aload_n hx hb dX0_init_14 rfl (lv_at hl 0 rfl) ?_
  refine lv_aload_n hx hb dX0_init_15 rfl (lv_at hl 2 rfl) ?_
  refine va_putF (D := (dC, dI)) (ci := 0) (v := .ref a2) (ty := tyX0 1) (C := RX0) (T := TX0) (N := 3) hx hb hts i_X0 tyX0 tyX0_ok nmX0 hown hK hP hD hS 0 rfl rfl 1 (by decide) (hts _ q_77) (fun _ h9 => h9) rfl hin rfl (tyX0_ok 1 (by decide)) rfl rfl (Nat.le_of_ble_eq_true rfl) dX0_init_16 (fun H locs hP hD hS => ?_)
  have hP : va_P (dC, dI) vwCl (wd_58 h0 a1 a2) H := hP
  have hD : va_D A (wd_58 h0 a1 a2) := hD
  refine W.widen (k := 0) (n := 0) (Nat.le_of_ble_eq_true rfl) (Nat.le_of_ble_eq_true rfl) ?_
  have hP9 := hP.sub (ws' := (wd_58 h0 a1 a2)) [0] rfl
  have hD9 := hD.sub (ws' := (wd_58 h0 a1 a2)) [0] (by decide) rfl
  have hK9 := hK.sub (tys' := []) [] rfl
  exact W.vret hx hb hr (fun t ht hW => ⟨⟨(), rfl, trivial, by rw [ht]; exact hP9, va_K.moved hW.alike hK9, hD9⟩, hS.F ht⟩) hS.2.2 dX0_init_19
def wd_60 (h0 : Nat) (q37 : Nat) (cA38 : ClassId) : va_W := [(h0, .inr (3, [.null, .null, .int 0])), (q37, .inl (cA38, 507, .inl (fun _ => 0)))]
def wd_61 (h0 : Nat) (q37 : Nat) : va_W := [(h0, .inr (3, [.null, .ref q37, .int 0]))]
def wd_62 (h0 : Nat) (a1 : Nat) (q37 : Nat) : va_W := [(h0, .inr (3, [.ref a1, .ref q37, .int 0]))]
def wd_63 (h0 : Nat) : va_W := [(h0, .inr (3, [.null, .null, .int 0]))]
set_option maxHeartbeats 4000000 in
set_option maxRecDepth 100000 in
theorem k_X3_init (l : Launch) (dC : Nat → ClassId) (dI : Nat → Nat → Nat) (h0 : Nat) (a1 : Nat) (sz : Nat) : Met l yX3_init (Cond.code yX3_init cX3_init 2 none :: wA) ({ frames := 1, cells := 1, slots := 507, locals := 12 }) (va_Pc [.ref h0, .ref a1] (fun U => U.heap.size = sz ∧ va_P (dC, dI) vwCl (wd_63 h0) U.heap ∧ va_K (dC, dI) vwCl [] U ∧ va_D (fun _ => True) (wd_63 h0))) (va_Qv (fun (_ : Unit) => True) (fun _ t => ∃ q37 : Nat, va_P (dC, dI) vwCl (wd_62 h0 a1 q37) t.heap ∧ va_K (dC, dI) vwCl [] t ∧ va_D (va_A (wd_63 h0) sz) (wd_62 h0 a1 q37)) (va_A (wd_63 h0) sz)) 1 507 (va_A (wd_63 h0) sz) := by
  refine Met.ofW (cc := cX3_init) (maxL := 2) (ret := none) (by decide) rfl ?_
  intro p e s m args below meth c s₁ B hml hv
  obtain ⟨rfl, hsz, hP, hK, hD0⟩ := hv
  have hx := B.exec
  have hb := B.bytes
  have hr := B.returns
  have hts : ∀ w ∈ wA, w.before [.ref h0, .ref a1].toArray s = true := fun w h => atoms_spec (ws := Cond.code yX3_init cX3_init 2 none :: wA) B.pre w (List.mem_cons_of_mem _ h)
  have hown : s.vm.findClass RX3 = some m.cls := findClass_of_methodNamed B.named
  have hlocks := B.notSynchronized
  have hin : meth.name = "<init>" := (name_of_methodNamed B.named B.method).1
  subst hsz
  have hD := hD0.self (sz := s.heap.size)
  generalize hAe : va_A (wd_63 h0) s.heap.size = A at hD ⊢
  have hA : ∀ q : Nat, s.heap.size ≤ q → A q := fun q h => by rw [← hAe]; exact Or.inr h
  have hS : va_S A s.heap s.heap [] := va_S.rf
  have hl := lv_entry ([.ref h0, .ref a1]) (n := 2) (Nat.le_of_ble_eq_true rfl)
  rw [lg_entry_eq]
  generalize (lg_sl ([.ref h0, .ref a1]) ++ List.replicate (2 - (lg_sl ([.ref h0, .ref a1])).length) Slot.unset).toArray = ls at hl ⊢
  have hl : lv_has ls 2 [(0, .ref h0), (1, .ref a1)] := hl
  refine lv_aload_n hx hb dX3_init_0 rfl (lv_at hl 0 rfl) ?_
  refine W.objInit hx hb hown (hts _ q_79) (hts _ q_2) (hts _ q_3) rfl (by rw [hml]; exact hl.1) rfl dX3_init_1 (Nat.le_of_ble_eq_true rfl) (Nat.le_of_ble_eq_true rfl) ?_
  refine W.eq (g2 := F0 m 4 ls []) rfl ?_
  refine lv_aload_n hx hb dX3_init_4 rfl (lv_at hl 0 rfl) ?_
  refine lv_sipush (v := 507) hx hb dX3_init_5 (by decide) ?_
  refine va_newa (atype := .int) (ty := .int) (n := 507) (N' := 507) (a0 := (507, .inl fun _ => 0)) hx hb (hts _ q_4) rfl hK hP hD hS hA (fun _ => rfl) (by decide) (by decide) (Nat.le_of_ble_eq_true rfl) (Nat.le_of_ble_eq_true rfl) (Nat.le_of_ble_eq_true rfl) dX3_init_8 (fun q37 cA38 H hK hP hD hS => ?_)
  have hK : va_K (dC, dI) vwCl [(cA38, .int)] s := hK
  have hP : va_P (dC, dI) vwCl (wd_60 h0 q37 cA38) H := hP
  have hD : va_D A (wd_60 h0 q37 cA38) := hD
  refine W.widen (k := 1) (n := 507) (Nat.le_of_ble_eq_true rfl) (Nat.le_of_ble_eq_true rfl) ?_
  refine va_putF (D := (dC, dI)) (ci := 3) (v := .ref q37) (ty := tyX3 1) (C := RX3) (T := TX3) (N := 3) hx hb hts i_X3 tyX3 tyX3_ok nmX3 hown hK hP hD hS 0 rfl rfl 1 (by decide) (hts _ q_80) (fun _ h9 => h9) rfl hin rfl (tyX3_ok 1 (by decide)) rfl rfl (Nat.le_of_ble_eq_true rfl) dX3_init_10 (fun H locs hP hD hS => ?_)
  have hP : va_P (dC, dI) vwCl (wd_61 h0 q37) H := hP.sub (ws' := (wd_61 h0 q37)) [0] rfl
  have hD : va_D A (wd_61 h0 q37) := hD.sub (ws' := (wd_61 h0 q37)) [0] (by decide) rfl
  have hK : va_K (dC, dI) vwCl [] s := hK.sub (tys' := []) [] rfl
  refine lv_aload_n hx hb dX3_init_13 rfl (lv_at hl 0 rfl) ?_
  refine lv_iconst (v := 0) hx hb dX3_init_14 (by decide) ?_
  refine va_put (D := (dC, dI)) (ci := 3) (v := .int 0) (ty := tyX3 2) (C := RX3) (T := TX3) (N := 3) hx hb hts i_X3 tyX3 tyX3_ok nmX3 hown hK hP hD hS 0 rfl rfl 2 (by decide) (hts _ q_81) (fun _ h9 => h9) rfl (tyX3_ok 2 (by decide)) rfl rfl (Nat.le_of_ble_eq_true rfl) dX3_init_15 (fun H locs hP hD hS => ?_)
  have hP : va_P (dC, dI) vwCl (wd_61 h0 q37) H := hP
  have hD : va_D A (wd_61 h0 q37) := hD
  refine lv_aload_n hx hb dX3_init_18 rfl (lv_at hl 0 rfl) ?_
  refine lv_aload_n hx hb dX3_init_19 rfl (lv_at hl 1 rfl) ?_
  refine va_putF (D := (dC, dI)) (ci := 3) (v := .ref a1) (ty := tyX3 0) (C := RX3) (T := TX3) (N := 3) hx hb hts i_X3 tyX3 tyX3_ok nmX3 hown hK hP hD hS 0 rfl rfl 0 (by decide) (hts _ q_82) (fun _ h9 => h9) rfl hin rfl (tyX3_ok 0 (by decide)) rfl rfl (Nat.le_of_ble_eq_true rfl) dX3_init_20 (fun H locs hP hD hS => ?_)
  have hP : va_P (dC, dI) vwCl (wd_62 h0 a1 q37) H := hP
  have hD : va_D A (wd_62 h0 a1 q37) := hD
  refine W.widen (k := 1) (n := 507) (Nat.le_of_ble_eq_true rfl) (Nat.le_of_ble_eq_true rfl) ?_
  have hP9 := hP.sub (ws' := (wd_62 h0 a1 q37)) [0] rfl
  have hD9 := hD.sub (ws' := (wd_62 h0 a1 q37)) [0] (by decide) rfl
  have hK9 := hK.sub (tys' := []) [] rfl
  exact W.vret hx hb hr (fun t ht hW => ⟨⟨(), rfl, trivial, q37, by rw [ht]; exact hP9, va_K.moved hW.alike hK9, hD9⟩, hS.F ht⟩) hS.2.2 dX3_init_23
theorem i_vc : Claimed_1_1 ∧ Claimed_1_2 := sorry
end
