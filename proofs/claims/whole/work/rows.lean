section
-- ===== PART A: goes FIRST, ahead of the names: the tables' words, and 'selects' of the private methods out of them =====
/-- a private method of a class that the tables say can be made, by its rows of tables_1 -/
def lw_okq (q : MethodName × Nat) : Prop := (q.1.cls ≠ "java/lang/invoke/MethodHandle" ∧ q.1.cls ≠ "java/lang/invoke/VarHandle") ∧ Cond.instantiable q.1.cls q.2 ∈ tables_1 ∧ Cond.privateMethod q.1 ∈ tables_1 ∧ Cond.instanceMethod q.1 ∈ tables_1
theorem lw_p0 : lw_okq (⟨"FewerSteps$Pad", "takes", "(I)Z"⟩, 10) := ⟨⟨by decide +kernel, by decide +kernel⟩, List.mem_of_getElem? (i := 27) (by decide +kernel), List.mem_of_getElem? (i := 457) (by decide +kernel), List.mem_of_getElem? (i := 458) (by decide +kernel)⟩
theorem lw_p1 : lw_okq (⟨"FewerSteps$Pad", "takesMaking", "(I)Z"⟩, 10) := ⟨⟨by decide +kernel, by decide +kernel⟩, List.mem_of_getElem? (i := 27) (by decide +kernel), List.mem_of_getElem? (i := 467) (by decide +kernel), List.mem_of_getElem? (i := 468) (by decide +kernel)⟩
theorem lw_p2 : lw_okq (⟨"FewerSteps$Pad", "endsStep", "(III)Z"⟩, 10) := ⟨⟨by decide +kernel, by decide +kernel⟩, List.mem_of_getElem? (i := 27) (by decide +kernel), List.mem_of_getElem? (i := 474) (by decide +kernel), List.mem_of_getElem? (i := 475) (by decide +kernel)⟩
theorem lw_p3 : lw_okq (⟨"FewerSteps$Pad", "takesMore", "(I)Z"⟩, 10) := ⟨⟨by decide +kernel, by decide +kernel⟩, List.mem_of_getElem? (i := 27) (by decide +kernel), List.mem_of_getElem? (i := 490) (by decide +kernel), List.mem_of_getElem? (i := 491) (by decide +kernel)⟩
theorem lw_p4 : lw_okq (⟨"FewerSteps", "isNoStep", "(I)Z"⟩, 14) := ⟨⟨by decide +kernel, by decide +kernel⟩, List.mem_of_getElem? (i := 19) (by decide +kernel), List.mem_of_getElem? (i := 513) (by decide +kernel), List.mem_of_getElem? (i := 514) (by decide +kernel)⟩
theorem lw_p5 : lw_okq (⟨"FewerSteps", "madeBy", "(LFewerSteps$Code;I)I"⟩, 14) := ⟨⟨by decide +kernel, by decide +kernel⟩, List.mem_of_getElem? (i := 19) (by decide +kernel), List.mem_of_getElem? (i := 531) (by decide +kernel), List.mem_of_getElem? (i := 532) (by decide +kernel)⟩
theorem lw_p6 : lw_okq (⟨"FewerSteps", "numberOf", "(I)I"⟩, 14) := ⟨⟨by decide +kernel, by decide +kernel⟩, List.mem_of_getElem? (i := 19) (by decide +kernel), List.mem_of_getElem? (i := 535) (by decide +kernel), List.mem_of_getElem? (i := 536) (by decide +kernel)⟩
theorem lw_p7 : lw_okq (⟨"FewerSteps", "firstUnlike", "(LFewerSteps$Code;LFewerSteps$Code;I)I"⟩, 14) := ⟨⟨by decide +kernel, by decide +kernel⟩, List.mem_of_getElem? (i := 19) (by decide +kernel), List.mem_of_getElem? (i := 554) (by decide +kernel), List.mem_of_getElem? (i := 555) (by decide +kernel)⟩
theorem lw_p8 : lw_okq (⟨"FewerSteps$Rows", "bit", "(II)J"⟩, 4) := ⟨⟨by decide +kernel, by decide +kernel⟩, List.mem_of_getElem? (i := 327) (by decide +kernel), List.mem_of_getElem? (i := 571) (by decide +kernel), List.mem_of_getElem? (i := 572) (by decide +kernel)⟩
theorem lw_p9 : lw_okq (⟨"FewerSteps$Rows", "makeOf", "(IJJJJJJ)V"⟩, 4) := ⟨⟨by decide +kernel, by decide +kernel⟩, List.mem_of_getElem? (i := 327) (by decide +kernel), List.mem_of_getElem? (i := 579) (by decide +kernel), List.mem_of_getElem? (i := 580) (by decide +kernel)⟩
theorem lw_p10 : lw_okq (⟨"FewerSteps$Rows", "sum", "(JJJJJJJ)V"⟩, 4) := ⟨⟨by decide +kernel, by decide +kernel⟩, List.mem_of_getElem? (i := 327) (by decide +kernel), List.mem_of_getElem? (i := 583) (by decide +kernel), List.mem_of_getElem? (i := 584) (by decide +kernel)⟩
theorem lw_p11 : lw_okq (⟨"FewerSteps$Rows", "lesser", "(JJJJJJ)V"⟩, 4) := ⟨⟨by decide +kernel, by decide +kernel⟩, List.mem_of_getElem? (i := 327) (by decide +kernel), List.mem_of_getElem? (i := 588) (by decide +kernel), List.mem_of_getElem? (i := 589) (by decide +kernel)⟩
theorem lw_p12 : lw_okq (⟨"FewerSteps", "isNoPlace", "(I)Z"⟩, 14) := ⟨⟨by decide +kernel, by decide +kernel⟩, List.mem_of_getElem? (i := 19) (by decide +kernel), List.mem_of_getElem? (i := 608) (by decide +kernel), List.mem_of_getElem? (i := 609) (by decide +kernel)⟩
theorem lw_p13 : lw_okq (⟨"FewerSteps$Facts", "sortMade", "(LFewerSteps$Code;I)I"⟩, 9) := ⟨⟨by decide +kernel, by decide +kernel⟩, List.mem_of_getElem? (i := 153) (by decide +kernel), List.mem_of_getElem? (i := 633) (by decide +kernel), List.mem_of_getElem? (i := 634) (by decide +kernel)⟩
theorem lw_p14 : lw_okq (⟨"FewerSteps$Facts", "sortOperand", "(II)I"⟩, 9) := ⟨⟨by decide +kernel, by decide +kernel⟩, List.mem_of_getElem? (i := 153) (by decide +kernel), List.mem_of_getElem? (i := 638) (by decide +kernel), List.mem_of_getElem? (i := 639) (by decide +kernel)⟩
theorem lw_p15 : lw_okq (⟨"FewerSteps$Facts", "sortOfAct", "(III)I"⟩, 9) := ⟨⟨by decide +kernel, by decide +kernel⟩, List.mem_of_getElem? (i := 153) (by decide +kernel), List.mem_of_getElem? (i := 644) (by decide +kernel), List.mem_of_getElem? (i := 645) (by decide +kernel)⟩
def lw_privs_1 : List (MethodName × Nat) := [(⟨"FewerSteps$Pad", "takes", "(I)Z"⟩, 10), (⟨"FewerSteps$Pad", "takesMaking", "(I)Z"⟩, 10), (⟨"FewerSteps$Pad", "endsStep", "(III)Z"⟩, 10), (⟨"FewerSteps$Pad", "takesMore", "(I)Z"⟩, 10), (⟨"FewerSteps", "isNoStep", "(I)Z"⟩, 14), (⟨"FewerSteps", "madeBy", "(LFewerSteps$Code;I)I"⟩, 14), (⟨"FewerSteps", "numberOf", "(I)I"⟩, 14), (⟨"FewerSteps", "firstUnlike", "(LFewerSteps$Code;LFewerSteps$Code;I)I"⟩, 14), (⟨"FewerSteps$Rows", "bit", "(II)J"⟩, 4), (⟨"FewerSteps$Rows", "makeOf", "(IJJJJJJ)V"⟩, 4), (⟨"FewerSteps$Rows", "sum", "(JJJJJJJ)V"⟩, 4), (⟨"FewerSteps$Rows", "lesser", "(JJJJJJ)V"⟩, 4), (⟨"FewerSteps", "isNoPlace", "(I)Z"⟩, 14), (⟨"FewerSteps$Facts", "sortMade", "(LFewerSteps$Code;I)I"⟩, 9), (⟨"FewerSteps$Facts", "sortOperand", "(II)I"⟩, 9), (⟨"FewerSteps$Facts", "sortOfAct", "(III)I"⟩, 9)]
theorem lw_r1 : ∀ q ∈ lw_privs_1, lw_okq q := List.forall_mem_cons.mpr ⟨lw_p0, List.forall_mem_cons.mpr ⟨lw_p1, List.forall_mem_cons.mpr ⟨lw_p2, List.forall_mem_cons.mpr ⟨lw_p3, List.forall_mem_cons.mpr ⟨lw_p4, List.forall_mem_cons.mpr ⟨lw_p5, List.forall_mem_cons.mpr ⟨lw_p6, List.forall_mem_cons.mpr ⟨lw_p7, List.forall_mem_cons.mpr ⟨lw_p8, List.forall_mem_cons.mpr ⟨lw_p9, List.forall_mem_cons.mpr ⟨lw_p10, List.forall_mem_cons.mpr ⟨lw_p11, List.forall_mem_cons.mpr ⟨lw_p12, List.forall_mem_cons.mpr ⟨lw_p13, List.forall_mem_cons.mpr ⟨lw_p14, List.forall_mem_cons.mpr ⟨lw_p15, fun _ h => absurd h List.not_mem_nil⟩⟩⟩⟩⟩⟩⟩⟩⟩⟩⟩⟩⟩⟩⟩⟩
theorem lw_p16 : lw_okq (⟨"FewerSteps$Facts", "knownMade", "(LFewerSteps$Code;I)I"⟩, 9) := ⟨⟨by decide +kernel, by decide +kernel⟩, List.mem_of_getElem? (i := 153) (by decide +kernel), List.mem_of_getElem? (i := 665) (by decide +kernel), List.mem_of_getElem? (i := 666) (by decide +kernel)⟩
theorem lw_p17 : lw_okq (⟨"FewerSteps$Mender", "writeKnown", "(LFewerSteps$Code;)I"⟩, 1) := ⟨⟨by decide +kernel, by decide +kernel⟩, List.mem_of_getElem? (i := 192) (by decide +kernel), List.mem_of_getElem? (i := 686) (by decide +kernel), List.mem_of_getElem? (i := 687) (by decide +kernel)⟩
theorem lw_p18 : lw_okq (⟨"FewerSteps$Mender", "writeKnownOperand", "(LFewerSteps$Code;II)Z"⟩, 1) := ⟨⟨by decide +kernel, by decide +kernel⟩, List.mem_of_getElem? (i := 192) (by decide +kernel), List.mem_of_getElem? (i := 691) (by decide +kernel), List.mem_of_getElem? (i := 692) (by decide +kernel)⟩
theorem lw_p19 : lw_okq (⟨"FewerSteps$Mender", "workOutDigits", "(LFewerSteps$Code;)I"⟩, 1) := ⟨⟨by decide +kernel, by decide +kernel⟩, List.mem_of_getElem? (i := 192) (by decide +kernel), List.mem_of_getElem? (i := 699) (by decide +kernel), List.mem_of_getElem? (i := 700) (by decide +kernel)⟩
theorem lw_p20 : lw_okq (⟨"FewerSteps$Mender", "copyNeedless", "(LFewerSteps$Code;)I"⟩, 1) := ⟨⟨by decide +kernel, by decide +kernel⟩, List.mem_of_getElem? (i := 192) (by decide +kernel), List.mem_of_getElem? (i := 707) (by decide +kernel), List.mem_of_getElem? (i := 708) (by decide +kernel)⟩
theorem lw_p21 : lw_okq (⟨"FewerSteps$Mender", "dropUseless", "(LFewerSteps$Code;I)I"⟩, 1) := ⟨⟨by decide +kernel, by decide +kernel⟩, List.mem_of_getElem? (i := 192) (by decide +kernel), List.mem_of_getElem? (i := 713) (by decide +kernel), List.mem_of_getElem? (i := 714) (by decide +kernel)⟩
theorem lw_p22 : lw_okq (⟨"FewerSteps$Links", "noteReading", "(III)V"⟩, 6) := ⟨⟨by decide +kernel, by decide +kernel⟩, List.mem_of_getElem? (i := 204) (by decide +kernel), List.mem_of_getElem? (i := 739) (by decide +kernel), List.mem_of_getElem? (i := 740) (by decide +kernel)⟩
theorem lw_p23 : lw_okq (⟨"FewerSteps", "windClock", "()V"⟩, 14) := ⟨⟨by decide +kernel, by decide +kernel⟩, List.mem_of_getElem? (i := 19) (by decide +kernel), List.mem_of_getElem? (i := 772) (by decide +kernel), List.mem_of_getElem? (i := 773) (by decide +kernel)⟩
theorem lw_p24 : lw_okq (⟨"FewerSteps$Clock", "firstTick", "(III)I"⟩, 10) := ⟨⟨by decide +kernel, by decide +kernel⟩, List.mem_of_getElem? (i := 236) (by decide +kernel), List.mem_of_getElem? (i := 790) (by decide +kernel), List.mem_of_getElem? (i := 791) (by decide +kernel)⟩
theorem lw_p25 : lw_okq (⟨"FewerSteps$Clock", "layOn", "(IIIII)V"⟩, 10) := ⟨⟨by decide +kernel, by decide +kernel⟩, List.mem_of_getElem? (i := 236) (by decide +kernel), List.mem_of_getElem? (i := 810) (by decide +kernel), List.mem_of_getElem? (i := 811) (by decide +kernel)⟩
theorem lw_p26 : lw_okq (⟨"FewerSteps", "weighValues", "()V"⟩, 14) := ⟨⟨by decide +kernel, by decide +kernel⟩, List.mem_of_getElem? (i := 19) (by decide +kernel), List.mem_of_getElem? (i := 823) (by decide +kernel), List.mem_of_getElem? (i := 824) (by decide +kernel)⟩
theorem lw_p27 : lw_okq (⟨"FewerSteps$Holding", "heldBehind", "(I)I"⟩, 14) := ⟨⟨by decide +kernel, by decide +kernel⟩, List.mem_of_getElem? (i := 276) (by decide +kernel), List.mem_of_getElem? (i := 864) (by decide +kernel), List.mem_of_getElem? (i := 865) (by decide +kernel)⟩
theorem lw_p28 : lw_okq (⟨"FewerSteps$Holding", "widthBy", "(II)I"⟩, 14) := ⟨⟨by decide +kernel, by decide +kernel⟩, List.mem_of_getElem? (i := 276) (by decide +kernel), List.mem_of_getElem? (i := 869) (by decide +kernel), List.mem_of_getElem? (i := 870) (by decide +kernel)⟩
theorem lw_p29 : lw_okq (⟨"FewerSteps$Holding", "tellFirstOrder", "()V"⟩, 14) := ⟨⟨by decide +kernel, by decide +kernel⟩, List.mem_of_getElem? (i := 276) (by decide +kernel), List.mem_of_getElem? (i := 874) (by decide +kernel), List.mem_of_getElem? (i := 875) (by decide +kernel)⟩
theorem lw_p30 : lw_okq (⟨"FewerSteps$Holding", "costOf", "(I)I"⟩, 14) := ⟨⟨by decide +kernel, by decide +kernel⟩, List.mem_of_getElem? (i := 276) (by decide +kernel), List.mem_of_getElem? (i := 886) (by decide +kernel), List.mem_of_getElem? (i := 887) (by decide +kernel)⟩
theorem lw_p31 : lw_okq (⟨"FewerSteps$Holding", "passStep", "(II)V"⟩, 14) := ⟨⟨by decide +kernel, by decide +kernel⟩, List.mem_of_getElem? (i := 276) (by decide +kernel), List.mem_of_getElem? (i := 890) (by decide +kernel), List.mem_of_getElem? (i := 891) (by decide +kernel)⟩
def lw_privs_2 : List (MethodName × Nat) := [(⟨"FewerSteps$Facts", "knownMade", "(LFewerSteps$Code;I)I"⟩, 9), (⟨"FewerSteps$Mender", "writeKnown", "(LFewerSteps$Code;)I"⟩, 1), (⟨"FewerSteps$Mender", "writeKnownOperand", "(LFewerSteps$Code;II)Z"⟩, 1), (⟨"FewerSteps$Mender", "workOutDigits", "(LFewerSteps$Code;)I"⟩, 1), (⟨"FewerSteps$Mender", "copyNeedless", "(LFewerSteps$Code;)I"⟩, 1), (⟨"FewerSteps$Mender", "dropUseless", "(LFewerSteps$Code;I)I"⟩, 1), (⟨"FewerSteps$Links", "noteReading", "(III)V"⟩, 6), (⟨"FewerSteps", "windClock", "()V"⟩, 14), (⟨"FewerSteps$Clock", "firstTick", "(III)I"⟩, 10), (⟨"FewerSteps$Clock", "layOn", "(IIIII)V"⟩, 10), (⟨"FewerSteps", "weighValues", "()V"⟩, 14), (⟨"FewerSteps$Holding", "heldBehind", "(I)I"⟩, 14), (⟨"FewerSteps$Holding", "widthBy", "(II)I"⟩, 14), (⟨"FewerSteps$Holding", "tellFirstOrder", "()V"⟩, 14), (⟨"FewerSteps$Holding", "costOf", "(I)I"⟩, 14), (⟨"FewerSteps$Holding", "passStep", "(II)V"⟩, 14)]
theorem lw_r2 : ∀ q ∈ lw_privs_2, lw_okq q := List.forall_mem_cons.mpr ⟨lw_p16, List.forall_mem_cons.mpr ⟨lw_p17, List.forall_mem_cons.mpr ⟨lw_p18, List.forall_mem_cons.mpr ⟨lw_p19, List.forall_mem_cons.mpr ⟨lw_p20, List.forall_mem_cons.mpr ⟨lw_p21, List.forall_mem_cons.mpr ⟨lw_p22, List.forall_mem_cons.mpr ⟨lw_p23, List.forall_mem_cons.mpr ⟨lw_p24, List.forall_mem_cons.mpr ⟨lw_p25, List.forall_mem_cons.mpr ⟨lw_p26, List.forall_mem_cons.mpr ⟨lw_p27, List.forall_mem_cons.mpr ⟨lw_p28, List.forall_mem_cons.mpr ⟨lw_p29, List.forall_mem_cons.mpr ⟨lw_p30, List.forall_mem_cons.mpr ⟨lw_p31, fun _ h => absurd h List.not_mem_nil⟩⟩⟩⟩⟩⟩⟩⟩⟩⟩⟩⟩⟩⟩⟩⟩
theorem lw_p32 : lw_okq (⟨"FewerSteps", "isNoRule", "(I)Z"⟩, 14) := ⟨⟨by decide +kernel, by decide +kernel⟩, List.mem_of_getElem? (i := 19) (by decide +kernel), List.mem_of_getElem? (i := 913) (by decide +kernel), List.mem_of_getElem? (i := 914) (by decide +kernel)⟩
theorem lw_p33 : lw_okq (⟨"FewerSteps$Rule", "fitsAt", "(LFewerSteps$Code;I)Z"⟩, 4) := ⟨⟨by decide +kernel, by decide +kernel⟩, List.mem_of_getElem? (i := 99) (by decide +kernel), List.mem_of_getElem? (i := 925) (by decide +kernel), List.mem_of_getElem? (i := 926) (by decide +kernel)⟩
theorem lw_p34 : lw_okq (⟨"FewerSteps$Rule", "mayBeCalled", "(II)Z"⟩, 4) := ⟨⟨by decide +kernel, by decide +kernel⟩, List.mem_of_getElem? (i := 99) (by decide +kernel), List.mem_of_getElem? (i := 931) (by decide +kernel), List.mem_of_getElem? (i := 932) (by decide +kernel)⟩
theorem lw_p35 : lw_okq (⟨"FewerSteps$Rule", "giveName", "(II)V"⟩, 4) := ⟨⟨by decide +kernel, by decide +kernel⟩, List.mem_of_getElem? (i := 99) (by decide +kernel), List.mem_of_getElem? (i := 936) (by decide +kernel), List.mem_of_getElem? (i := 937) (by decide +kernel)⟩
theorem lw_p36 : lw_okq (⟨"FewerSteps$Rule", "nameTheRest", "()V"⟩, 4) := ⟨⟨by decide +kernel, by decide +kernel⟩, List.mem_of_getElem? (i := 99) (by decide +kernel), List.mem_of_getElem? (i := 952) (by decide +kernel), List.mem_of_getElem? (i := 953) (by decide +kernel)⟩
theorem lw_p37 : lw_okq (⟨"FewerSteps$Rule", "called", "(I)I"⟩, 4) := ⟨⟨by decide +kernel, by decide +kernel⟩, List.mem_of_getElem? (i := 99) (by decide +kernel), List.mem_of_getElem? (i := 962) (by decide +kernel), List.mem_of_getElem? (i := 963) (by decide +kernel)⟩
theorem lw_p38 : lw_okq (⟨"FewerSteps", "replaceOnce", "()Z"⟩, 14) := ⟨⟨by decide +kernel, by decide +kernel⟩, List.mem_of_getElem? (i := 19) (by decide +kernel), List.mem_of_getElem? (i := 976) (by decide +kernel), List.mem_of_getElem? (i := 977) (by decide +kernel)⟩
theorem lw_p39 : lw_okq (⟨"FewerSteps$Search", "differs", "(LFewerSteps$Rows;I)Z"⟩, 7) := ⟨⟨by decide +kernel, by decide +kernel⟩, List.mem_of_getElem? (i := 347) (by decide +kernel), List.mem_of_getElem? (i := 996) (by decide +kernel), List.mem_of_getElem? (i := 997) (by decide +kernel)⟩
theorem lw_p40 : lw_okq (⟨"FewerSteps$Search", "reaches", "(II)Z"⟩, 7) := ⟨⟨by decide +kernel, by decide +kernel⟩, List.mem_of_getElem? (i := 347) (by decide +kernel), List.mem_of_getElem? (i := 1000) (by decide +kernel), List.mem_of_getElem? (i := 1001) (by decide +kernel)⟩
theorem lw_p41 : lw_okq (⟨"FewerSteps$Search", "reachesBy", "(IIII)Z"⟩, 7) := ⟨⟨by decide +kernel, by decide +kernel⟩, List.mem_of_getElem? (i := 347) (by decide +kernel), List.mem_of_getElem? (i := 1006) (by decide +kernel), List.mem_of_getElem? (i := 1007) (by decide +kernel)⟩
theorem lw_p42 : lw_okq (⟨"FewerStepsModel", "faultOf", "(Z)I"⟩, 48) := ⟨⟨by decide +kernel, by decide +kernel⟩, List.mem_of_getElem? (i := 1036) (by decide +kernel), List.mem_of_getElem? (i := 1204) (by decide +kernel), List.mem_of_getElem? (i := 1205) (by decide +kernel)⟩
theorem lw_p43 : lw_okq (⟨"FewerStepsModel", "beginRead", "(Z)V"⟩, 48) := ⟨⟨by decide +kernel, by decide +kernel⟩, List.mem_of_getElem? (i := 1036) (by decide +kernel), List.mem_of_getElem? (i := 1208) (by decide +kernel), List.mem_of_getElem? (i := 1209) (by decide +kernel)⟩
theorem lw_p44 : lw_okq (⟨"FewerStepsModel", "stepOf", "(IIZ)I"⟩, 48) := ⟨⟨by decide +kernel, by decide +kernel⟩, List.mem_of_getElem? (i := 1036) (by decide +kernel), List.mem_of_getElem? (i := 1212) (by decide +kernel), List.mem_of_getElem? (i := 1213) (by decide +kernel)⟩
theorem lw_p45 : lw_okq (⟨"FewerStepsModel", "readSteps", "(II)I"⟩, 48) := ⟨⟨by decide +kernel, by decide +kernel⟩, List.mem_of_getElem? (i := 1036) (by decide +kernel), List.mem_of_getElem? (i := 1230) (by decide +kernel), List.mem_of_getElem? (i := 1231) (by decide +kernel)⟩
theorem lw_p46 : lw_okq (⟨"FewerStepsModel", "isStep", "(I)Z"⟩, 48) := ⟨⟨by decide +kernel, by decide +kernel⟩, List.mem_of_getElem? (i := 1036) (by decide +kernel), List.mem_of_getElem? (i := 1246) (by decide +kernel), List.mem_of_getElem? (i := 1247) (by decide +kernel)⟩
theorem lw_p47 : lw_okq (⟨"FewerStepsModel", "isPlace", "(I)Z"⟩, 48) := ⟨⟨by decide +kernel, by decide +kernel⟩, List.mem_of_getElem? (i := 1036) (by decide +kernel), List.mem_of_getElem? (i := 1255) (by decide +kernel), List.mem_of_getElem? (i := 1256) (by decide +kernel)⟩
def lw_privs_3 : List (MethodName × Nat) := [(⟨"FewerSteps", "isNoRule", "(I)Z"⟩, 14), (⟨"FewerSteps$Rule", "fitsAt", "(LFewerSteps$Code;I)Z"⟩, 4), (⟨"FewerSteps$Rule", "mayBeCalled", "(II)Z"⟩, 4), (⟨"FewerSteps$Rule", "giveName", "(II)V"⟩, 4), (⟨"FewerSteps$Rule", "nameTheRest", "()V"⟩, 4), (⟨"FewerSteps$Rule", "called", "(I)I"⟩, 4), (⟨"FewerSteps", "replaceOnce", "()Z"⟩, 14), (⟨"FewerSteps$Search", "differs", "(LFewerSteps$Rows;I)Z"⟩, 7), (⟨"FewerSteps$Search", "reaches", "(II)Z"⟩, 7), (⟨"FewerSteps$Search", "reachesBy", "(IIII)Z"⟩, 7), (⟨"FewerStepsModel", "faultOf", "(Z)I"⟩, 48), (⟨"FewerStepsModel", "beginRead", "(Z)V"⟩, 48), (⟨"FewerStepsModel", "stepOf", "(IIZ)I"⟩, 48), (⟨"FewerStepsModel", "readSteps", "(II)I"⟩, 48), (⟨"FewerStepsModel", "isStep", "(I)Z"⟩, 48), (⟨"FewerStepsModel", "isPlace", "(I)Z"⟩, 48)]
theorem lw_r3 : ∀ q ∈ lw_privs_3, lw_okq q := List.forall_mem_cons.mpr ⟨lw_p32, List.forall_mem_cons.mpr ⟨lw_p33, List.forall_mem_cons.mpr ⟨lw_p34, List.forall_mem_cons.mpr ⟨lw_p35, List.forall_mem_cons.mpr ⟨lw_p36, List.forall_mem_cons.mpr ⟨lw_p37, List.forall_mem_cons.mpr ⟨lw_p38, List.forall_mem_cons.mpr ⟨lw_p39, List.forall_mem_cons.mpr ⟨lw_p40, List.forall_mem_cons.mpr ⟨lw_p41, List.forall_mem_cons.mpr ⟨lw_p42, List.forall_mem_cons.mpr ⟨lw_p43, List.forall_mem_cons.mpr ⟨lw_p44, List.forall_mem_cons.mpr ⟨lw_p45, List.forall_mem_cons.mpr ⟨lw_p46, List.forall_mem_cons.mpr ⟨lw_p47, fun _ h => absurd h List.not_mem_nil⟩⟩⟩⟩⟩⟩⟩⟩⟩⟩⟩⟩⟩⟩⟩⟩
theorem lw_p48 : lw_okq (⟨"FewerStepsModel", "runOf", "(II)I"⟩, 48) := ⟨⟨by decide +kernel, by decide +kernel⟩, List.mem_of_getElem? (i := 1036) (by decide +kernel), List.mem_of_getElem? (i := 1259) (by decide +kernel), List.mem_of_getElem? (i := 1260) (by decide +kernel)⟩
theorem lw_p49 : lw_okq (⟨"FewerStepsModel", "areAlike", "(III)Z"⟩, 48) := ⟨⟨by decide +kernel, by decide +kernel⟩, List.mem_of_getElem? (i := 1036) (by decide +kernel), List.mem_of_getElem? (i := 1283) (by decide +kernel), List.mem_of_getElem? (i := 1284) (by decide +kernel)⟩
theorem lw_p50 : lw_okq (⟨"FewerStepsModel", "liveAt", "(I)I"⟩, 48) := ⟨⟨by decide +kernel, by decide +kernel⟩, List.mem_of_getElem? (i := 1036) (by decide +kernel), List.mem_of_getElem? (i := 1291) (by decide +kernel), List.mem_of_getElem? (i := 1292) (by decide +kernel)⟩
theorem lw_p51 : lw_okq (⟨"FewerStepsModel", "knownOf", "(II)I"⟩, 48) := ⟨⟨by decide +kernel, by decide +kernel⟩, List.mem_of_getElem? (i := 1036) (by decide +kernel), List.mem_of_getElem? (i := 1306) (by decide +kernel), List.mem_of_getElem? (i := 1307) (by decide +kernel)⟩
theorem lw_p52 : lw_okq (⟨"FewerStepsModel", "knownHere", "(I)I"⟩, 48) := ⟨⟨by decide +kernel, by decide +kernel⟩, List.mem_of_getElem? (i := 1036) (by decide +kernel), List.mem_of_getElem? (i := 1310) (by decide +kernel), List.mem_of_getElem? (i := 1311) (by decide +kernel)⟩
theorem lw_p53 : lw_okq (⟨"FewerStepsModel", "laySorts", "(I)V"⟩, 48) := ⟨⟨by decide +kernel, by decide +kernel⟩, List.mem_of_getElem? (i := 1036) (by decide +kernel), List.mem_of_getElem? (i := 1318) (by decide +kernel), List.mem_of_getElem? (i := 1319) (by decide +kernel)⟩
theorem lw_p54 : lw_okq (⟨"FewerStepsModel", "beginSorts", "()V"⟩, 48) := ⟨⟨by decide +kernel, by decide +kernel⟩, List.mem_of_getElem? (i := 1036) (by decide +kernel), List.mem_of_getElem? (i := 1322) (by decide +kernel), List.mem_of_getElem? (i := 1323) (by decide +kernel)⟩
theorem lw_p55 : lw_okq (⟨"FewerStepsModel", "sortMade", "(I)I"⟩, 48) := ⟨⟨by decide +kernel, by decide +kernel⟩, List.mem_of_getElem? (i := 1036) (by decide +kernel), List.mem_of_getElem? (i := 1326) (by decide +kernel), List.mem_of_getElem? (i := 1327) (by decide +kernel)⟩
theorem lw_p56 : lw_okq (⟨"FewerStepsModel", "sortOf", "(I)I"⟩, 48) := ⟨⟨by decide +kernel, by decide +kernel⟩, List.mem_of_getElem? (i := 1036) (by decide +kernel), List.mem_of_getElem? (i := 1330) (by decide +kernel), List.mem_of_getElem? (i := 1331) (by decide +kernel)⟩
theorem lw_p57 : lw_okq (⟨"FewerStepsModel", "madeOf", "(III)I"⟩, 48) := ⟨⟨by decide +kernel, by decide +kernel⟩, List.mem_of_getElem? (i := 1036) (by decide +kernel), List.mem_of_getElem? (i := 1334) (by decide +kernel), List.mem_of_getElem? (i := 1335) (by decide +kernel)⟩
theorem lw_p58 : lw_okq (⟨"FewerStepsModel", "isDead", "(I)Z"⟩, 48) := ⟨⟨by decide +kernel, by decide +kernel⟩, List.mem_of_getElem? (i := 1036) (by decide +kernel), List.mem_of_getElem? (i := 1342) (by decide +kernel), List.mem_of_getElem? (i := 1343) (by decide +kernel)⟩
theorem lw_p59 : lw_okq (⟨"FewerStepsModel", "holderOf", "(I)I"⟩, 48) := ⟨⟨by decide +kernel, by decide +kernel⟩, List.mem_of_getElem? (i := 1036) (by decide +kernel), List.mem_of_getElem? (i := 1346) (by decide +kernel), List.mem_of_getElem? (i := 1347) (by decide +kernel)⟩
theorem lw_p60 : lw_okq (⟨"FewerStepsModel", "mendBy", "(I)I"⟩, 48) := ⟨⟨by decide +kernel, by decide +kernel⟩, List.mem_of_getElem? (i := 1036) (by decide +kernel), List.mem_of_getElem? (i := 1355) (by decide +kernel), List.mem_of_getElem? (i := 1356) (by decide +kernel)⟩
theorem lw_p61 : lw_okq (⟨"FewerStepsModel", "mendKnown", "()I"⟩, 48) := ⟨⟨by decide +kernel, by decide +kernel⟩, List.mem_of_getElem? (i := 1036) (by decide +kernel), List.mem_of_getElem? (i := 1359) (by decide +kernel), List.mem_of_getElem? (i := 1360) (by decide +kernel)⟩
theorem lw_p62 : lw_okq (⟨"FewerStepsModel", "knownAs", "(II)I"⟩, 48) := ⟨⟨by decide +kernel, by decide +kernel⟩, List.mem_of_getElem? (i := 1036) (by decide +kernel), List.mem_of_getElem? (i := 1363) (by decide +kernel), List.mem_of_getElem? (i := 1364) (by decide +kernel)⟩
theorem lw_p63 : lw_okq (⟨"FewerStepsModel", "mendDigits", "()I"⟩, 48) := ⟨⟨by decide +kernel, by decide +kernel⟩, List.mem_of_getElem? (i := 1036) (by decide +kernel), List.mem_of_getElem? (i := 1367) (by decide +kernel), List.mem_of_getElem? (i := 1368) (by decide +kernel)⟩
def lw_privs_4 : List (MethodName × Nat) := [(⟨"FewerStepsModel", "runOf", "(II)I"⟩, 48), (⟨"FewerStepsModel", "areAlike", "(III)Z"⟩, 48), (⟨"FewerStepsModel", "liveAt", "(I)I"⟩, 48), (⟨"FewerStepsModel", "knownOf", "(II)I"⟩, 48), (⟨"FewerStepsModel", "knownHere", "(I)I"⟩, 48), (⟨"FewerStepsModel", "laySorts", "(I)V"⟩, 48), (⟨"FewerStepsModel", "beginSorts", "()V"⟩, 48), (⟨"FewerStepsModel", "sortMade", "(I)I"⟩, 48), (⟨"FewerStepsModel", "sortOf", "(I)I"⟩, 48), (⟨"FewerStepsModel", "madeOf", "(III)I"⟩, 48), (⟨"FewerStepsModel", "isDead", "(I)Z"⟩, 48), (⟨"FewerStepsModel", "holderOf", "(I)I"⟩, 48), (⟨"FewerStepsModel", "mendBy", "(I)I"⟩, 48), (⟨"FewerStepsModel", "mendKnown", "()I"⟩, 48), (⟨"FewerStepsModel", "knownAs", "(II)I"⟩, 48), (⟨"FewerStepsModel", "mendDigits", "()I"⟩, 48)]
theorem lw_r4 : ∀ q ∈ lw_privs_4, lw_okq q := List.forall_mem_cons.mpr ⟨lw_p48, List.forall_mem_cons.mpr ⟨lw_p49, List.forall_mem_cons.mpr ⟨lw_p50, List.forall_mem_cons.mpr ⟨lw_p51, List.forall_mem_cons.mpr ⟨lw_p52, List.forall_mem_cons.mpr ⟨lw_p53, List.forall_mem_cons.mpr ⟨lw_p54, List.forall_mem_cons.mpr ⟨lw_p55, List.forall_mem_cons.mpr ⟨lw_p56, List.forall_mem_cons.mpr ⟨lw_p57, List.forall_mem_cons.mpr ⟨lw_p58, List.forall_mem_cons.mpr ⟨lw_p59, List.forall_mem_cons.mpr ⟨lw_p60, List.forall_mem_cons.mpr ⟨lw_p61, List.forall_mem_cons.mpr ⟨lw_p62, List.forall_mem_cons.mpr ⟨lw_p63, fun _ h => absurd h List.not_mem_nil⟩⟩⟩⟩⟩⟩⟩⟩⟩⟩⟩⟩⟩⟩⟩⟩
theorem lw_p64 : lw_okq (⟨"FewerStepsModel", "mendNeedless", "()I"⟩, 48) := ⟨⟨by decide +kernel, by decide +kernel⟩, List.mem_of_getElem? (i := 1036) (by decide +kernel), List.mem_of_getElem? (i := 1371) (by decide +kernel), List.mem_of_getElem? (i := 1372) (by decide +kernel)⟩
theorem lw_p65 : lw_okq (⟨"FewerStepsModel", "mendDead", "()I"⟩, 48) := ⟨⟨by decide +kernel, by decide +kernel⟩, List.mem_of_getElem? (i := 1036) (by decide +kernel), List.mem_of_getElem? (i := 1375) (by decide +kernel), List.mem_of_getElem? (i := 1376) (by decide +kernel)⟩
theorem lw_p66 : lw_okq (⟨"FewerStepsModel", "sourcesOf", "(I)I"⟩, 48) := ⟨⟨by decide +kernel, by decide +kernel⟩, List.mem_of_getElem? (i := 1036) (by decide +kernel), List.mem_of_getElem? (i := 1387) (by decide +kernel), List.mem_of_getElem? (i := 1388) (by decide +kernel)⟩
theorem lw_p67 : lw_okq (⟨"FewerStepsModel", "makerOf", "(II)I"⟩, 48) := ⟨⟨by decide +kernel, by decide +kernel⟩, List.mem_of_getElem? (i := 1036) (by decide +kernel), List.mem_of_getElem? (i := 1391) (by decide +kernel), List.mem_of_getElem? (i := 1392) (by decide +kernel)⟩
theorem lw_p68 : lw_okq (⟨"FewerStepsModel", "clashesOf", "(I)I"⟩, 48) := ⟨⟨by decide +kernel, by decide +kernel⟩, List.mem_of_getElem? (i := 1036) (by decide +kernel), List.mem_of_getElem? (i := 1395) (by decide +kernel), List.mem_of_getElem? (i := 1396) (by decide +kernel)⟩
theorem lw_p69 : lw_okq (⟨"FewerStepsModel", "doesRead", "(II)Z"⟩, 48) := ⟨⟨by decide +kernel, by decide +kernel⟩, List.mem_of_getElem? (i := 1036) (by decide +kernel), List.mem_of_getElem? (i := 1399) (by decide +kernel), List.mem_of_getElem? (i := 1400) (by decide +kernel)⟩
theorem lw_p70 : lw_okq (⟨"FewerStepsModel", "findBehind", "()V"⟩, 48) := ⟨⟨by decide +kernel, by decide +kernel⟩, List.mem_of_getElem? (i := 1036) (by decide +kernel), List.mem_of_getElem? (i := 1407) (by decide +kernel), List.mem_of_getElem? (i := 1408) (by decide +kernel)⟩
theorem lw_p71 : lw_okq (⟨"FewerStepsModel", "layOrder", "()V"⟩, 48) := ⟨⟨by decide +kernel, by decide +kernel⟩, List.mem_of_getElem? (i := 1036) (by decide +kernel), List.mem_of_getElem? (i := 1420) (by decide +kernel), List.mem_of_getElem? (i := 1421) (by decide +kernel)⟩
theorem lw_p72 : lw_okq (⟨"FewerStepsModel", "findTicks", "()I"⟩, 48) := ⟨⟨by decide +kernel, by decide +kernel⟩, List.mem_of_getElem? (i := 1036) (by decide +kernel), List.mem_of_getElem? (i := 1424) (by decide +kernel), List.mem_of_getElem? (i := 1425) (by decide +kernel)⟩
theorem lw_p73 : lw_okq (⟨"FewerStepsModel", "delayOf", "(I)I"⟩, 48) := ⟨⟨by decide +kernel, by decide +kernel⟩, List.mem_of_getElem? (i := 1036) (by decide +kernel), List.mem_of_getElem? (i := 1428) (by decide +kernel), List.mem_of_getElem? (i := 1429) (by decide +kernel)⟩
theorem lw_p74 : lw_okq (⟨"FewerStepsModel", "bestAt", "(IZ)I"⟩, 48) := ⟨⟨by decide +kernel, by decide +kernel⟩, List.mem_of_getElem? (i := 1036) (by decide +kernel), List.mem_of_getElem? (i := 1440) (by decide +kernel), List.mem_of_getElem? (i := 1441) (by decide +kernel)⟩
theorem lw_p75 : lw_okq (⟨"FewerStepsModel", "findBest", "(Z)I"⟩, 48) := ⟨⟨by decide +kernel, by decide +kernel⟩, List.mem_of_getElem? (i := 1036) (by decide +kernel), List.mem_of_getElem? (i := 1444) (by decide +kernel), List.mem_of_getElem? (i := 1445) (by decide +kernel)⟩
theorem lw_p76 : lw_okq (⟨"FewerStepsModel", "isLawful", "(Z)Z"⟩, 48) := ⟨⟨by decide +kernel, by decide +kernel⟩, List.mem_of_getElem? (i := 1036) (by decide +kernel), List.mem_of_getElem? (i := 1448) (by decide +kernel), List.mem_of_getElem? (i := 1449) (by decide +kernel)⟩
theorem lw_p77 : lw_okq (⟨"FewerStepsModel", "widthOf", "()I"⟩, 48) := ⟨⟨by decide +kernel, by decide +kernel⟩, List.mem_of_getElem? (i := 1036) (by decide +kernel), List.mem_of_getElem? (i := 1452) (by decide +kernel), List.mem_of_getElem? (i := 1453) (by decide +kernel)⟩
theorem lw_p78 : lw_okq (⟨"FewerStepsModel", "findHeld", "()V"⟩, 48) := ⟨⟨by decide +kernel, by decide +kernel⟩, List.mem_of_getElem? (i := 1036) (by decide +kernel), List.mem_of_getElem? (i := 1456) (by decide +kernel), List.mem_of_getElem? (i := 1457) (by decide +kernel)⟩
theorem lw_p79 : lw_okq (⟨"FewerStepsModel", "valueIn", "(II)I"⟩, 48) := ⟨⟨by decide +kernel, by decide +kernel⟩, List.mem_of_getElem? (i := 1036) (by decide +kernel), List.mem_of_getElem? (i := 1464) (by decide +kernel), List.mem_of_getElem? (i := 1465) (by decide +kernel)⟩
def lw_privs_5 : List (MethodName × Nat) := [(⟨"FewerStepsModel", "mendNeedless", "()I"⟩, 48), (⟨"FewerStepsModel", "mendDead", "()I"⟩, 48), (⟨"FewerStepsModel", "sourcesOf", "(I)I"⟩, 48), (⟨"FewerStepsModel", "makerOf", "(II)I"⟩, 48), (⟨"FewerStepsModel", "clashesOf", "(I)I"⟩, 48), (⟨"FewerStepsModel", "doesRead", "(II)Z"⟩, 48), (⟨"FewerStepsModel", "findBehind", "()V"⟩, 48), (⟨"FewerStepsModel", "layOrder", "()V"⟩, 48), (⟨"FewerStepsModel", "findTicks", "()I"⟩, 48), (⟨"FewerStepsModel", "delayOf", "(I)I"⟩, 48), (⟨"FewerStepsModel", "bestAt", "(IZ)I"⟩, 48), (⟨"FewerStepsModel", "findBest", "(Z)I"⟩, 48), (⟨"FewerStepsModel", "isLawful", "(Z)Z"⟩, 48), (⟨"FewerStepsModel", "widthOf", "()I"⟩, 48), (⟨"FewerStepsModel", "findHeld", "()V"⟩, 48), (⟨"FewerStepsModel", "valueIn", "(II)I"⟩, 48)]
theorem lw_r5 : ∀ q ∈ lw_privs_5, lw_okq q := List.forall_mem_cons.mpr ⟨lw_p64, List.forall_mem_cons.mpr ⟨lw_p65, List.forall_mem_cons.mpr ⟨lw_p66, List.forall_mem_cons.mpr ⟨lw_p67, List.forall_mem_cons.mpr ⟨lw_p68, List.forall_mem_cons.mpr ⟨lw_p69, List.forall_mem_cons.mpr ⟨lw_p70, List.forall_mem_cons.mpr ⟨lw_p71, List.forall_mem_cons.mpr ⟨lw_p72, List.forall_mem_cons.mpr ⟨lw_p73, List.forall_mem_cons.mpr ⟨lw_p74, List.forall_mem_cons.mpr ⟨lw_p75, List.forall_mem_cons.mpr ⟨lw_p76, List.forall_mem_cons.mpr ⟨lw_p77, List.forall_mem_cons.mpr ⟨lw_p78, List.forall_mem_cons.mpr ⟨lw_p79, fun _ h => absurd h List.not_mem_nil⟩⟩⟩⟩⟩⟩⟩⟩⟩⟩⟩⟩⟩⟩⟩⟩
theorem lw_p80 : lw_okq (⟨"FewerStepsModel", "holdFrom", "(III)V"⟩, 48) := ⟨⟨by decide +kernel, by decide +kernel⟩, List.mem_of_getElem? (i := 1036) (by decide +kernel), List.mem_of_getElem? (i := 1468) (by decide +kernel), List.mem_of_getElem? (i := 1469) (by decide +kernel)⟩
theorem lw_p81 : lw_okq (⟨"FewerStepsModel", "nextOrder", "()Z"⟩, 48) := ⟨⟨by decide +kernel, by decide +kernel⟩, List.mem_of_getElem? (i := 1036) (by decide +kernel), List.mem_of_getElem? (i := 1475) (by decide +kernel), List.mem_of_getElem? (i := 1476) (by decide +kernel)⟩
theorem lw_p82 : lw_okq (⟨"FewerStepsModel", "readingsOf", "(I)I"⟩, 48) := ⟨⟨by decide +kernel, by decide +kernel⟩, List.mem_of_getElem? (i := 1036) (by decide +kernel), List.mem_of_getElem? (i := 1497) (by decide +kernel), List.mem_of_getElem? (i := 1498) (by decide +kernel)⟩
theorem lw_p83 : lw_okq (⟨"FewerStepsModel", "putPart", "(II)V"⟩, 48) := ⟨⟨by decide +kernel, by decide +kernel⟩, List.mem_of_getElem? (i := 1036) (by decide +kernel), List.mem_of_getElem? (i := 1505) (by decide +kernel), List.mem_of_getElem? (i := 1506) (by decide +kernel)⟩
theorem lw_p84 : lw_okq (⟨"FewerStepsModel", "isRule", "(I)Z"⟩, 48) := ⟨⟨by decide +kernel, by decide +kernel⟩, List.mem_of_getElem? (i := 1036) (by decide +kernel), List.mem_of_getElem? (i := 1520) (by decide +kernel), List.mem_of_getElem? (i := 1521) (by decide +kernel)⟩
theorem lw_p85 : lw_okq (⟨"FewerStepsModel", "runPart", "(III)I"⟩, 48) := ⟨⟨by decide +kernel, by decide +kernel⟩, List.mem_of_getElem? (i := 1036) (by decide +kernel), List.mem_of_getElem? (i := 1524) (by decide +kernel), List.mem_of_getElem? (i := 1525) (by decide +kernel)⟩
theorem lw_p86 : lw_okq (⟨"FewerStepsModel", "placeOfRule", "(I)I"⟩, 48) := ⟨⟨by decide +kernel, by decide +kernel⟩, List.mem_of_getElem? (i := 1036) (by decide +kernel), List.mem_of_getElem? (i := 1532) (by decide +kernel), List.mem_of_getElem? (i := 1533) (by decide +kernel)⟩
theorem lw_p87 : lw_okq (⟨"FewerStepsModel", "isAt", "(II)Z"⟩, 48) := ⟨⟨by decide +kernel, by decide +kernel⟩, List.mem_of_getElem? (i := 1036) (by decide +kernel), List.mem_of_getElem? (i := 1536) (by decide +kernel), List.mem_of_getElem? (i := 1537) (by decide +kernel)⟩
theorem lw_p88 : lw_okq (⟨"FewerStepsModel", "isNamed", "(II)Z"⟩, 48) := ⟨⟨by decide +kernel, by decide +kernel⟩, List.mem_of_getElem? (i := 1036) (by decide +kernel), List.mem_of_getElem? (i := 1540) (by decide +kernel), List.mem_of_getElem? (i := 1541) (by decide +kernel)⟩
theorem lw_p89 : lw_okq (⟨"FewerStepsModel", "isCalled", "(I)Z"⟩, 48) := ⟨⟨by decide +kernel, by decide +kernel⟩, List.mem_of_getElem? (i := 1036) (by decide +kernel), List.mem_of_getElem? (i := 1544) (by decide +kernel), List.mem_of_getElem? (i := 1545) (by decide +kernel)⟩
theorem lw_p90 : lw_okq (⟨"FewerStepsModel", "hasRoom", "(I)Z"⟩, 48) := ⟨⟨by decide +kernel, by decide +kernel⟩, List.mem_of_getElem? (i := 1036) (by decide +kernel), List.mem_of_getElem? (i := 1552) (by decide +kernel), List.mem_of_getElem? (i := 1553) (by decide +kernel)⟩
theorem lw_p91 : lw_okq (⟨"FewerStepsModel", "put", "(II)V"⟩, 48) := ⟨⟨by decide +kernel, by decide +kernel⟩, List.mem_of_getElem? (i := 1036) (by decide +kernel), List.mem_of_getElem? (i := 1556) (by decide +kernel), List.mem_of_getElem? (i := 1557) (by decide +kernel)⟩
theorem lw_p92 : lw_okq (⟨"FewerStepsModel", "isInRight", "(II)Z"⟩, 48) := ⟨⟨by decide +kernel, by decide +kernel⟩, List.mem_of_getElem? (i := 1036) (by decide +kernel), List.mem_of_getElem? (i := 1560) (by decide +kernel), List.mem_of_getElem? (i := 1561) (by decide +kernel)⟩
theorem lw_p93 : lw_okq (⟨"FewerStepsModel", "move", "(II)V"⟩, 48) := ⟨⟨by decide +kernel, by decide +kernel⟩, List.mem_of_getElem? (i := 1036) (by decide +kernel), List.mem_of_getElem? (i := 1564) (by decide +kernel), List.mem_of_getElem? (i := 1565) (by decide +kernel)⟩
theorem lw_p94 : lw_okq (⟨"FewerStepsModel", "calledAs", "(I)I"⟩, 48) := ⟨⟨by decide +kernel, by decide +kernel⟩, List.mem_of_getElem? (i := 1036) (by decide +kernel), List.mem_of_getElem? (i := 1568) (by decide +kernel), List.mem_of_getElem? (i := 1569) (by decide +kernel)⟩
theorem lw_p95 : lw_okq (⟨"FewerStepsModel", "isSmall", "()Z"⟩, 48) := ⟨⟨by decide +kernel, by decide +kernel⟩, List.mem_of_getElem? (i := 1036) (by decide +kernel), List.mem_of_getElem? (i := 1580) (by decide +kernel), List.mem_of_getElem? (i := 1581) (by decide +kernel)⟩
def lw_privs_6 : List (MethodName × Nat) := [(⟨"FewerStepsModel", "holdFrom", "(III)V"⟩, 48), (⟨"FewerStepsModel", "nextOrder", "()Z"⟩, 48), (⟨"FewerStepsModel", "readingsOf", "(I)I"⟩, 48), (⟨"FewerStepsModel", "putPart", "(II)V"⟩, 48), (⟨"FewerStepsModel", "isRule", "(I)Z"⟩, 48), (⟨"FewerStepsModel", "runPart", "(III)I"⟩, 48), (⟨"FewerStepsModel", "placeOfRule", "(I)I"⟩, 48), (⟨"FewerStepsModel", "isAt", "(II)Z"⟩, 48), (⟨"FewerStepsModel", "isNamed", "(II)Z"⟩, 48), (⟨"FewerStepsModel", "isCalled", "(I)Z"⟩, 48), (⟨"FewerStepsModel", "hasRoom", "(I)Z"⟩, 48), (⟨"FewerStepsModel", "put", "(II)V"⟩, 48), (⟨"FewerStepsModel", "isInRight", "(II)Z"⟩, 48), (⟨"FewerStepsModel", "move", "(II)V"⟩, 48), (⟨"FewerStepsModel", "calledAs", "(I)I"⟩, 48), (⟨"FewerStepsModel", "isSmall", "()Z"⟩, 48)]
theorem lw_r6 : ∀ q ∈ lw_privs_6, lw_okq q := List.forall_mem_cons.mpr ⟨lw_p80, List.forall_mem_cons.mpr ⟨lw_p81, List.forall_mem_cons.mpr ⟨lw_p82, List.forall_mem_cons.mpr ⟨lw_p83, List.forall_mem_cons.mpr ⟨lw_p84, List.forall_mem_cons.mpr ⟨lw_p85, List.forall_mem_cons.mpr ⟨lw_p86, List.forall_mem_cons.mpr ⟨lw_p87, List.forall_mem_cons.mpr ⟨lw_p88, List.forall_mem_cons.mpr ⟨lw_p89, List.forall_mem_cons.mpr ⟨lw_p90, List.forall_mem_cons.mpr ⟨lw_p91, List.forall_mem_cons.mpr ⟨lw_p92, List.forall_mem_cons.mpr ⟨lw_p93, List.forall_mem_cons.mpr ⟨lw_p94, List.forall_mem_cons.mpr ⟨lw_p95, fun _ h => absurd h List.not_mem_nil⟩⟩⟩⟩⟩⟩⟩⟩⟩⟩⟩⟩⟩⟩⟩⟩
theorem lw_p96 : lw_okq (⟨"FewerStepsModel", "tryAll", "(I)Z"⟩, 48) := ⟨⟨by decide +kernel, by decide +kernel⟩, List.mem_of_getElem? (i := 1036) (by decide +kernel), List.mem_of_getElem? (i := 1584) (by decide +kernel), List.mem_of_getElem? (i := 1585) (by decide +kernel)⟩
theorem lw_p97 : lw_okq (⟨"FewerStepsModel", "layStep", "(II)V"⟩, 48) := ⟨⟨by decide +kernel, by decide +kernel⟩, List.mem_of_getElem? (i := 1036) (by decide +kernel), List.mem_of_getElem? (i := 1591) (by decide +kernel), List.mem_of_getElem? (i := 1592) (by decide +kernel)⟩
theorem lw_p98 : lw_okq (⟨"FewerStepsModel", "isDue", "(I)Z"⟩, 48) := ⟨⟨by decide +kernel, by decide +kernel⟩, List.mem_of_getElem? (i := 1036) (by decide +kernel), List.mem_of_getElem? (i := 1604) (by decide +kernel), List.mem_of_getElem? (i := 1605) (by decide +kernel)⟩
theorem lw_p99 : lw_okq (⟨"FewerStepsModel", "passAll", "()V"⟩, 48) := ⟨⟨by decide +kernel, by decide +kernel⟩, List.mem_of_getElem? (i := 1036) (by decide +kernel), List.mem_of_getElem? (i := 1612) (by decide +kernel), List.mem_of_getElem? (i := 1613) (by decide +kernel)⟩
theorem lw_p100 : lw_okq (⟨"FewerStepsModel", "pass", "(I)I"⟩, 48) := ⟨⟨by decide +kernel, by decide +kernel⟩, List.mem_of_getElem? (i := 1036) (by decide +kernel), List.mem_of_getElem? (i := 1616) (by decide +kernel), List.mem_of_getElem? (i := 1617) (by decide +kernel)⟩
def lw_privs_7 : List (MethodName × Nat) := [(⟨"FewerStepsModel", "tryAll", "(I)Z"⟩, 48), (⟨"FewerStepsModel", "layStep", "(II)V"⟩, 48), (⟨"FewerStepsModel", "isDue", "(I)Z"⟩, 48), (⟨"FewerStepsModel", "passAll", "()V"⟩, 48), (⟨"FewerStepsModel", "pass", "(I)I"⟩, 48)]
theorem lw_r7 : ∀ q ∈ lw_privs_7, lw_okq q := List.forall_mem_cons.mpr ⟨lw_p96, List.forall_mem_cons.mpr ⟨lw_p97, List.forall_mem_cons.mpr ⟨lw_p98, List.forall_mem_cons.mpr ⟨lw_p99, List.forall_mem_cons.mpr ⟨lw_p100, fun _ h => absurd h List.not_mem_nil⟩⟩⟩⟩⟩
def lw_privs : List (MethodName × Nat) := lw_privs_1 ++ (lw_privs_2 ++ (lw_privs_3 ++ (lw_privs_4 ++ (lw_privs_5 ++ (lw_privs_6 ++ (lw_privs_7))))))
def lw_tbl : List Cond := k2_sels lw_privs ++ tables_1
theorem lw_privs_ok : ∀ q ∈ lw_privs, lw_okq q := by
  show ∀ q ∈ lw_privs_1 ++ (lw_privs_2 ++ (lw_privs_3 ++ (lw_privs_4 ++ (lw_privs_5 ++ (lw_privs_6 ++ (lw_privs_7)))))), lw_okq q
  exact List.forall_mem_append.mpr ⟨lw_r1, List.forall_mem_append.mpr ⟨lw_r2, List.forall_mem_append.mpr ⟨lw_r3, List.forall_mem_append.mpr ⟨lw_r4, List.forall_mem_append.mpr ⟨lw_r5, List.forall_mem_append.mpr ⟨lw_r6, lw_r7⟩⟩⟩⟩⟩⟩
end
section
def RX0 : String := "FewerSteps$Clock"
def TX0 : u_T := fun k => match k with
  | 0 => ("FewerSteps$Clock", "ways", "[I", true)
  | 1 => ("FewerSteps$Clock", "delays", "[I", true)
  | 2 => ("FewerSteps$Clock", "needs", "[I", true)
  | 3 => ("FewerSteps$Clock", "awaits", "[I", true)
  | 4 => ("FewerSteps$Clock", "ticks", "[I", true)
  | 5 => ("FewerSteps$Clock", "order", "[I", true)
  | 6 => ("FewerSteps$Clock", "leastOrder", "[I", true)
  | 7 => ("FewerSteps$Clock", "count", "I", false)
  | 8 => ("FewerSteps$Clock", "units", "I", false)
  | _ => ("FewerSteps$Clock", "leastTime", "I", false)
def tyX0 : Nat → FieldType := fun k => match k with
  | 0 => .array .int
  | 1 => .array .int
  | 2 => .array .int
  | 3 => .array .int
  | 4 => .array .int
  | 5 => .array .int
  | 6 => .array .int
  | 7 => .int
  | 8 => .int
  | _ => .int
abbrev wsX00 : List Cond := u_ws RX0 TX0 10
theorem nmX0 : ∀ a, a < 10 → ∀ b, b < 10 → a ≠ b → (TX0 a).2.1 ≠ (TX0 b).2.1 := by decide +kernel
theorem tyX0_ok : ∀ k, k < 10 → parseFieldDescriptor (TX0 k).2.2.1 = some (tyX0 k) := by decide +kernel
abbrev cX0_init : ByteArray := prog_2_method_1_code
def yX0_init : MethodName := ⟨RX0, "<init>", "()V"⟩
abbrev cX0_countOrders : ByteArray := prog_2_method_2_code
def yX0_countOrders : MethodName := ⟨RX0, "countOrders", "(LFewerSteps$Links;I)I"⟩
abbrev cX0_wind : ByteArray := prog_2_method_3_code
def yX0_wind : MethodName := ⟨RX0, "wind", "(LFewerSteps$Code;LFewerSteps$Links;[I)V"⟩
abbrev cX0_delayOf : ByteArray := prog_2_method_4_code
def yX0_delayOf : MethodName := ⟨RX0, "delayOf", "(I[I)I"⟩
abbrev cX0_layAsWritten : ByteArray := prog_2_method_5_code
def yX0_layAsWritten : MethodName := ⟨RX0, "layAsWritten", "()I"⟩
abbrev cX0_firstTick : ByteArray := prog_2_method_6_code
def yX0_firstTick : MethodName := ⟨RX0, "firstTick", "(III)I"⟩
abbrev cX0_findQuickest : ByteArray := prog_2_method_7_code
def yX0_findQuickest : MethodName := ⟨RX0, "findQuickest", "()V"⟩
abbrev cX0_layOn : ByteArray := prog_2_method_8_code
def yX0_layOn : MethodName := ⟨RX0, "layOn", "(IIIII)V"⟩
def RX1 : String := "FewerSteps$Code"
def TX1 : u_T := fun k => match k with
  | 0 => ("FewerSteps$Code", "parts", "[I", true)
  | _ => ("FewerSteps$Code", "count", "I", false)
def tyX1 : Nat → FieldType := fun k => match k with
  | 0 => .array .int
  | _ => .int
abbrev wsX10 : List Cond := u_ws RX1 TX1 2
theorem nmX1 : ∀ a, a < 2 → ∀ b, b < 2 → a ≠ b → (TX1 a).2.1 ≠ (TX1 b).2.1 := by decide +kernel
theorem tyX1_ok : ∀ k, k < 2 → parseFieldDescriptor (TX1 k).2.2.1 = some (tyX1 k) := by decide +kernel
abbrev cX1_init : ByteArray := prog_3_method_1_code
def yX1_init : MethodName := ⟨RX1, "<init>", "()V"⟩
abbrev cX1_copyFrom : ByteArray := prog_3_method_2_code
def yX1_copyFrom : MethodName := ⟨RX1, "copyFrom", "(LFewerSteps$Code;)V"⟩
abbrev cX1_part : ByteArray := prog_3_method_3_code
def yX1_part : MethodName := ⟨RX1, "part", "(II)I"⟩
abbrev cX1_target : ByteArray := prog_3_method_4_code
def yX1_target : MethodName := ⟨RX1, "target", "(I)I"⟩
abbrev cX1_add : ByteArray := prog_3_method_5_code
def yX1_add : MethodName := ⟨RX1, "add", "(IIII)V"⟩
abbrev cX1_addFrom : ByteArray := prog_3_method_6_code
def yX1_addFrom : MethodName := ⟨RX1, "addFrom", "(LFewerSteps$Code;I)V"⟩
abbrev cX1_rewrite : ByteArray := prog_3_method_7_code
def yX1_rewrite : MethodName := ⟨RX1, "rewrite", "(IIII)V"⟩
abbrev cX1_change : ByteArray := prog_3_method_8_code
def yX1_change : MethodName := ⟨RX1, "change", "(III)V"⟩
abbrev cX1_readBits : ByteArray := prog_3_method_9_code
def yX1_readBits : MethodName := ⟨RX1, "readBits", "(I)I"⟩
abbrev cX1_named : ByteArray := prog_3_method_10_code
def yX1_named : MethodName := ⟨RX1, "named", "()I"⟩
abbrev cX1_bitOf : ByteArray := prog_3_method_11_code
def yX1_bitOf : MethodName := ⟨RX1, "bitOf", "(I)I"⟩
def RX2 : String := "FewerSteps$Desk"
def TX2 : u_T := fun k => match k with
  | 0 => ("FewerSteps$Desk", "code", "LFewerSteps$Code;", true)
  | 1 => ("FewerSteps$Desk", "other", "LFewerSteps$Code;", true)
  | 2 => ("FewerSteps$Desk", "rules", "[LFewerSteps$Rule;", true)
  | 3 => ("FewerSteps$Desk", "settings", "[I", true)
  | 4 => ("FewerSteps$Desk", "ruleCount", "I", false)
  | _ => ("FewerSteps$Desk", "wanted", "I", false)
def tyX2 : Nat → FieldType := fun k => match k with
  | 0 => .object "FewerSteps$Code"
  | 1 => .object "FewerSteps$Code"
  | 2 => .array (.object "FewerSteps$Rule")
  | 3 => .array .int
  | 4 => .int
  | _ => .int
abbrev wsX20 : List Cond := u_ws RX2 TX2 6
theorem nmX2 : ∀ a, a < 6 → ∀ b, b < 6 → a ≠ b → (TX2 a).2.1 ≠ (TX2 b).2.1 := by decide +kernel
theorem tyX2_ok : ∀ k, k < 6 → parseFieldDescriptor (TX2 k).2.2.1 = some (tyX2 k) := by decide +kernel
abbrev cX2_init : ByteArray := prog_4_method_1_code
def yX2_init : MethodName := ⟨RX2, "<init>", "()V"⟩
abbrev cX2_copyFrom : ByteArray := prog_4_method_2_code
def yX2_copyFrom : MethodName := ⟨RX2, "copyFrom", "(LFewerSteps$Desk;)V"⟩
def RX3 : String := "FewerSteps$Facts"
def TX3 : u_T := fun k => match k with
  | 0 => ("FewerSteps$Facts", "liveAt", "[I", true)
  | 1 => ("FewerSteps$Facts", "knownAt", "[I", true)
  | 2 => ("FewerSteps$Facts", "sortAt", "[I", true)
  | 3 => ("FewerSteps$Facts", "madeSort", "[I", true)
  | 4 => ("FewerSteps$Facts", "digitSort", "[I", true)
  | 5 => ("FewerSteps$Facts", "actOfSort", "[I", true)
  | 6 => ("FewerSteps$Facts", "firstOfSort", "[I", true)
  | 7 => ("FewerSteps$Facts", "secondOfSort", "[I", true)
  | _ => ("FewerSteps$Facts", "sorts", "I", false)
def tyX3 : Nat → FieldType := fun k => match k with
  | 0 => .array .int
  | 1 => .array .int
  | 2 => .array .int
  | 3 => .array .int
  | 4 => .array .int
  | 5 => .array .int
  | 6 => .array .int
  | 7 => .array .int
  | _ => .int
abbrev wsX30 : List Cond := u_ws RX3 TX3 9
theorem nmX3 : ∀ a, a < 9 → ∀ b, b < 9 → a ≠ b → (TX3 a).2.1 ≠ (TX3 b).2.1 := by decide +kernel
theorem tyX3_ok : ∀ k, k < 9 → parseFieldDescriptor (TX3 k).2.2.1 = some (tyX3 k) := by decide +kernel
abbrev cX3_init : ByteArray := prog_5_method_1_code
def yX3_init : MethodName := ⟨RX3, "<init>", "()V"⟩
abbrev cX3_followLive : ByteArray := prog_5_method_2_code
def yX3_followLive : MethodName := ⟨RX3, "followLive", "(LFewerSteps$Code;I)V"⟩
abbrev cX3_isDead : ByteArray := prog_5_method_3_code
def yX3_isDead : MethodName := ⟨RX3, "isDead", "(LFewerSteps$Code;I)Z"⟩
abbrev cX3_followKnown : ByteArray := prog_5_method_4_code
def yX3_followKnown : MethodName := ⟨RX3, "followKnown", "(LFewerSteps$Code;)V"⟩
abbrev cX3_knownMade : ByteArray := prog_5_method_5_code
def yX3_knownMade : MethodName := ⟨RX3, "knownMade", "(LFewerSteps$Code;I)I"⟩
abbrev cX3_knownOperand : ByteArray := prog_5_method_6_code
def yX3_knownOperand : MethodName := ⟨RX3, "knownOperand", "(II)I"⟩
abbrev cX3_followSorts : ByteArray := prog_5_method_7_code
def yX3_followSorts : MethodName := ⟨RX3, "followSorts", "(LFewerSteps$Code;)V"⟩
abbrev cX3_sortMade : ByteArray := prog_5_method_8_code
def yX3_sortMade : MethodName := ⟨RX3, "sortMade", "(LFewerSteps$Code;I)I"⟩
abbrev cX3_sortOperand : ByteArray := prog_5_method_9_code
def yX3_sortOperand : MethodName := ⟨RX3, "sortOperand", "(II)I"⟩
abbrev cX3_sortOfAct : ByteArray := prog_5_method_10_code
def yX3_sortOfAct : MethodName := ⟨RX3, "sortOfAct", "(III)I"⟩
abbrev cX3_holderOfMade : ByteArray := prog_5_method_11_code
def yX3_holderOfMade : MethodName := ⟨RX3, "holderOfMade", "(I)I"⟩
def RX4 : String := "FewerSteps$Holding"
def TX4 : u_T := fun k => match k with
  | 0 => ("FewerSteps$Holding", "targets", "[I", true)
  | 1 => ("FewerSteps$Holding", "held", "[I", true)
  | 2 => ("FewerSteps$Holding", "heldRegisters", "[I", true)
  | 3 => ("FewerSteps$Holding", "costs", "[I", true)
  | 4 => ("FewerSteps$Holding", "readers", "[I", true)
  | 5 => ("FewerSteps$Holding", "needs", "[I", true)
  | 6 => ("FewerSteps$Holding", "heldCount", "[I", true)
  | 7 => ("FewerSteps$Holding", "widthFrom", "[I", true)
  | 8 => ("FewerSteps$Holding", "leastOrder", "[I", true)
  | 9 => ("FewerSteps$Holding", "cost", "[I", false)
  | 10 => ("FewerSteps$Holding", "nextCost", "[I", false)
  | 11 => ("FewerSteps$Holding", "count", "I", false)
  | 12 => ("FewerSteps$Holding", "lasting", "I", false)
  | _ => ("FewerSteps$Holding", "leastWidth", "I", false)
def tyX4 : Nat → FieldType := fun k => match k with
  | 0 => .array .int
  | 1 => .array .int
  | 2 => .array .int
  | 3 => .array .int
  | 4 => .array .int
  | 5 => .array .int
  | 6 => .array .int
  | 7 => .array .int
  | 8 => .array .int
  | 9 => .array .int
  | 10 => .array .int
  | 11 => .int
  | 12 => .int
  | _ => .int
abbrev wsX40 : List Cond := u_ws RX4 TX4 14
theorem nmX4 : ∀ a, a < 14 → ∀ b, b < 14 → a ≠ b → (TX4 a).2.1 ≠ (TX4 b).2.1 := by decide +kernel
theorem tyX4_ok : ∀ k, k < 14 → parseFieldDescriptor (TX4 k).2.2.1 = some (tyX4 k) := by decide +kernel
abbrev cX4_init : ByteArray := prog_6_method_1_code
def yX4_init : MethodName := ⟨RX4, "<init>", "()V"⟩
abbrev cX4_take : ByteArray := prog_6_method_2_code
def yX4_take : MethodName := ⟨RX4, "take", "(LFewerSteps$Code;LFewerSteps$Links;LFewerSteps$Facts;)V"⟩
abbrev cX4_valuesIn : ByteArray := prog_6_method_3_code
def yX4_valuesIn : MethodName := ⟨RX4, "valuesIn", "(IILFewerSteps$Links;)I"⟩
abbrev cX4_heldAt : ByteArray := prog_6_method_4_code
def yX4_heldAt : MethodName := ⟨RX4, "heldAt", "(I)I"⟩
abbrev cX4_widest : ByteArray := prog_6_method_5_code
def yX4_widest : MethodName := ⟨RX4, "widest", "()I"⟩
abbrev cX4_findFewest : ByteArray := prog_6_method_6_code
def yX4_findFewest : MethodName := ⟨RX4, "findFewest", "()V"⟩
abbrev cX4_heldBehind : ByteArray := prog_6_method_7_code
def yX4_heldBehind : MethodName := ⟨RX4, "heldBehind", "(I)I"⟩
abbrev cX4_widthBy : ByteArray := prog_6_method_8_code
def yX4_widthBy : MethodName := ⟨RX4, "widthBy", "(II)I"⟩
abbrev cX4_tellFirstOrder : ByteArray := prog_6_method_9_code
def yX4_tellFirstOrder : MethodName := ⟨RX4, "tellFirstOrder", "()V"⟩
abbrev cX4_putBy : ByteArray := prog_6_method_10_code
def yX4_putBy : MethodName := ⟨RX4, "putBy", "(I)I"⟩
abbrev cX4_costOf : ByteArray := prog_6_method_11_code
def yX4_costOf : MethodName := ⟨RX4, "costOf", "(I)I"⟩
abbrev cX4_passStep : ByteArray := prog_6_method_12_code
def yX4_passStep : MethodName := ⟨RX4, "passStep", "(II)V"⟩
def RX5 : String := "FewerSteps$Links"
def TX5 : u_T := fun k => match k with
  | 0 => ("FewerSteps$Links", "valueAt", "[I", true)
  | 1 => ("FewerSteps$Links", "source", "[I", true)
  | 2 => ("FewerSteps$Links", "needs", "[I", true)
  | 3 => ("FewerSteps$Links", "awaits", "[I", true)
  | 4 => ("FewerSteps$Links", "readers", "[I", true)
  | _ => ("FewerSteps$Links", "readings", "[I", true)
def tyX5 : Nat → FieldType := fun k => match k with
  | 0 => .array .int
  | 1 => .array .int
  | 2 => .array .int
  | 3 => .array .int
  | 4 => .array .int
  | _ => .array .int
abbrev wsX50 : List Cond := u_ws RX5 TX5 6
theorem nmX5 : ∀ a, a < 6 → ∀ b, b < 6 → a ≠ b → (TX5 a).2.1 ≠ (TX5 b).2.1 := by decide +kernel
theorem tyX5_ok : ∀ k, k < 6 → parseFieldDescriptor (TX5 k).2.2.1 = some (tyX5 k) := by decide +kernel
abbrev cX5_init : ByteArray := prog_7_method_1_code
def yX5_init : MethodName := ⟨RX5, "<init>", "()V"⟩
abbrev cX5_follow : ByteArray := prog_7_method_2_code
def yX5_follow : MethodName := ⟨RX5, "follow", "(LFewerSteps$Code;)V"⟩
abbrev cX5_noteReading : ByteArray := prog_7_method_3_code
def yX5_noteReading : MethodName := ⟨RX5, "noteReading", "(III)V"⟩
abbrev cX5_usersAhead : ByteArray := prog_7_method_4_code
def yX5_usersAhead : MethodName := ⟨RX5, "usersAhead", "(LFewerSteps$Code;I)I"⟩
abbrev cX5_mustFollow : ByteArray := prog_7_method_5_code
def yX5_mustFollow : MethodName := ⟨RX5, "mustFollow", "(I)I"⟩
def RX6 : String := "FewerSteps$Mender"
def TX6 : u_T := fun k => match k with
  | _ => ("FewerSteps$Mender", "facts", "LFewerSteps$Facts;", true)
def tyX6 : Nat → FieldType := fun k => match k with
  | _ => .object "FewerSteps$Facts"
abbrev wsX60 : List Cond := u_ws RX6 TX6 1
theorem nmX6 : ∀ a, a < 1 → ∀ b, b < 1 → a ≠ b → (TX6 a).2.1 ≠ (TX6 b).2.1 := by decide +kernel
theorem tyX6_ok : ∀ k, k < 1 → parseFieldDescriptor (TX6 k).2.2.1 = some (tyX6 k) := by decide +kernel
abbrev cX6_init : ByteArray := prog_8_method_1_code
def yX6_init : MethodName := ⟨RX6, "<init>", "()V"⟩
abbrev cX6_mendOnce : ByteArray := prog_8_method_2_code
def yX6_mendOnce : MethodName := ⟨RX6, "mendOnce", "(ILFewerSteps$Code;I)I"⟩
abbrev cX6_mendAll : ByteArray := prog_8_method_3_code
def yX6_mendAll : MethodName := ⟨RX6, "mendAll", "(LFewerSteps$Code;I)V"⟩
abbrev cX6_writeKnown : ByteArray := prog_8_method_4_code
def yX6_writeKnown : MethodName := ⟨RX6, "writeKnown", "(LFewerSteps$Code;)I"⟩
abbrev cX6_writeKnownOperand : ByteArray := prog_8_method_5_code
def yX6_writeKnownOperand : MethodName := ⟨RX6, "writeKnownOperand", "(LFewerSteps$Code;II)Z"⟩
abbrev cX6_workOutDigits : ByteArray := prog_8_method_6_code
def yX6_workOutDigits : MethodName := ⟨RX6, "workOutDigits", "(LFewerSteps$Code;)I"⟩
abbrev cX6_copyNeedless : ByteArray := prog_8_method_7_code
def yX6_copyNeedless : MethodName := ⟨RX6, "copyNeedless", "(LFewerSteps$Code;)I"⟩
abbrev cX6_dropUseless : ByteArray := prog_8_method_8_code
def yX6_dropUseless : MethodName := ⟨RX6, "dropUseless", "(LFewerSteps$Code;I)I"⟩
def RX7 : String := "FewerSteps$Pad"
def TX7 : u_T := fun k => match k with
  | 0 => ("FewerSteps$Pad", "signs", "[I", true)
  | 1 => ("FewerSteps$Pad", "left", "LFewerSteps$Code;", true)
  | 2 => ("FewerSteps$Pad", "right", "LFewerSteps$Code;", true)
  | 3 => ("FewerSteps$Pad", "count", "I", false)
  | 4 => ("FewerSteps$Pad", "asRule", "Z", false)
  | 5 => ("FewerSteps$Pad", "inRight", "Z", false)
  | 6 => ("FewerSteps$Pad", "due", "I", false)
  | 7 => ("FewerSteps$Pad", "target", "I", false)
  | 8 => ("FewerSteps$Pad", "act", "I", false)
  | _ => ("FewerSteps$Pad", "first", "I", false)
def tyX7 : Nat → FieldType := fun k => match k with
  | 0 => .array .int
  | 1 => .object "FewerSteps$Code"
  | 2 => .object "FewerSteps$Code"
  | 3 => .int
  | 4 => .boolean
  | 5 => .boolean
  | 6 => .int
  | 7 => .int
  | 8 => .int
  | _ => .int
abbrev wsX70 : List Cond := u_ws RX7 TX7 10
theorem nmX7 : ∀ a, a < 10 → ∀ b, b < 10 → a ≠ b → (TX7 a).2.1 ≠ (TX7 b).2.1 := by decide +kernel
theorem tyX7_ok : ∀ k, k < 10 → parseFieldDescriptor (TX7 k).2.2.1 = some (tyX7 k) := by decide +kernel
abbrev cX7_init : ByteArray := prog_9_method_1_code
def yX7_init : MethodName := ⟨RX7, "<init>", "()V"⟩
abbrev cX7_write : ByteArray := prog_9_method_2_code
def yX7_write : MethodName := ⟨RX7, "write", "(I)I"⟩
abbrev cX7_empty : ByteArray := prog_9_method_3_code
def yX7_empty : MethodName := ⟨RX7, "empty", "()I"⟩
abbrev cX7_parse : ByteArray := prog_9_method_4_code
def yX7_parse : MethodName := ⟨RX7, "parse", "(Z)I"⟩
abbrev cX7_takes : ByteArray := prog_9_method_5_code
def yX7_takes : MethodName := ⟨RX7, "takes", "(I)Z"⟩
abbrev cX7_takesMaking : ByteArray := prog_9_method_6_code
def yX7_takesMaking : MethodName := ⟨RX7, "takesMaking", "(I)Z"⟩
abbrev cX7_endsStep : ByteArray := prog_9_method_7_code
def yX7_endsStep : MethodName := ⟨RX7, "endsStep", "(III)Z"⟩
abbrev cX7_takesMore : ByteArray := prog_9_method_8_code
def yX7_takesMore : MethodName := ⟨RX7, "takesMore", "(I)Z"⟩
abbrev cX7_operandOf : ByteArray := prog_9_method_9_code
def yX7_operandOf : MethodName := ⟨RX7, "operandOf", "(I)I"⟩
def RX8 : String := "FewerSteps$Rows"
def TX8 : u_T := fun k => match k with
  | 0 => ("FewerSteps$Rows", "bits", "[J", true)
  | 1 => ("FewerSteps$Rows", "ones", "J", false)
  | 2 => ("FewerSteps$Rows", "twos", "J", false)
  | _ => ("FewerSteps$Rows", "fours", "J", false)
def tyX8 : Nat → FieldType := fun k => match k with
  | 0 => .array .long
  | 1 => .long
  | 2 => .long
  | _ => .long
abbrev wsX80 : List Cond := u_ws RX8 TX8 4
theorem nmX8 : ∀ a, a < 4 → ∀ b, b < 4 → a ≠ b → (TX8 a).2.1 ≠ (TX8 b).2.1 := by decide +kernel
theorem tyX8_ok : ∀ k, k < 4 → parseFieldDescriptor (TX8 k).2.2.1 = some (tyX8 k) := by decide +kernel
abbrev cX8_init : ByteArray := prog_10_method_1_code
def yX8_init : MethodName := ⟨RX8, "<init>", "()V"⟩
abbrev cX8_beginBlock : ByteArray := prog_10_method_2_code
def yX8_beginBlock : MethodName := ⟨RX8, "beginBlock", "(I)V"⟩
abbrev cX8_beginPairs : ByteArray := prog_10_method_3_code
def yX8_beginPairs : MethodName := ⟨RX8, "beginPairs", "()V"⟩
abbrev cX8_copyFrom : ByteArray := prog_10_method_4_code
def yX8_copyFrom : MethodName := ⟨RX8, "copyFrom", "(LFewerSteps$Rows;)V"⟩
abbrev cX8_perform : ByteArray := prog_10_method_5_code
def yX8_perform : MethodName := ⟨RX8, "perform", "(LFewerSteps$Code;)V"⟩
abbrev cX8_make : ByteArray := prog_10_method_6_code
def yX8_make : MethodName := ⟨RX8, "make", "(III)V"⟩
abbrev cX8_storeMade : ByteArray := prog_10_method_7_code
def yX8_storeMade : MethodName := ⟨RX8, "storeMade", "(ILFewerSteps$Rows;)V"⟩
abbrev cX8_hasMade : ByteArray := prog_10_method_8_code
def yX8_hasMade : MethodName := ⟨RX8, "hasMade", "(ILFewerSteps$Rows;)Z"⟩
abbrev cX8_unlikeIn : ByteArray := prog_10_method_9_code
def yX8_unlikeIn : MethodName := ⟨RX8, "unlikeIn", "(ILFewerSteps$Rows;)J"⟩
abbrev cX8_bit : ByteArray := prog_10_method_10_code
def yX8_bit : MethodName := ⟨RX8, "bit", "(II)J"⟩
abbrev cX8_makeOf : ByteArray := prog_10_method_11_code
def yX8_makeOf : MethodName := ⟨RX8, "makeOf", "(IJJJJJJ)V"⟩
abbrev cX8_sum : ByteArray := prog_10_method_12_code
def yX8_sum : MethodName := ⟨RX8, "sum", "(JJJJJJJ)V"⟩
abbrev cX8_lesser : ByteArray := prog_10_method_13_code
def yX8_lesser : MethodName := ⟨RX8, "lesser", "(JJJJJJ)V"⟩
def RX9 : String := "FewerSteps$Rule"
def TX9 : u_T := fun k => match k with
  | 0 => ("FewerSteps$Rule", "left", "LFewerSteps$Code;", true)
  | 1 => ("FewerSteps$Rule", "right", "LFewerSteps$Code;", true)
  | 2 => ("FewerSteps$Rule", "names", "[I", true)
  | _ => ("FewerSteps$Rule", "taken", "I", false)
def tyX9 : Nat → FieldType := fun k => match k with
  | 0 => .object "FewerSteps$Code"
  | 1 => .object "FewerSteps$Code"
  | 2 => .array .int
  | _ => .int
abbrev wsX90 : List Cond := u_ws RX9 TX9 4
theorem nmX9 : ∀ a, a < 4 → ∀ b, b < 4 → a ≠ b → (TX9 a).2.1 ≠ (TX9 b).2.1 := by decide +kernel
theorem tyX9_ok : ∀ k, k < 4 → parseFieldDescriptor (TX9 k).2.2.1 = some (tyX9 k) := by decide +kernel
abbrev cX9_init : ByteArray := prog_11_method_1_code
def yX9_init : MethodName := ⟨RX9, "<init>", "()V"⟩
abbrev cX9_copySides : ByteArray := prog_11_method_2_code
def yX9_copySides : MethodName := ⟨RX9, "copySides", "(LFewerSteps$Code;LFewerSteps$Code;)V"⟩
abbrev cX9_countAfter : ByteArray := prog_11_method_3_code
def yX9_countAfter : MethodName := ⟨RX9, "countAfter", "(LFewerSteps$Code;)I"⟩
abbrev cX9_firstFit : ByteArray := prog_11_method_4_code
def yX9_firstFit : MethodName := ⟨RX9, "firstFit", "(LFewerSteps$Code;)I"⟩
abbrev cX9_fitsAt : ByteArray := prog_11_method_5_code
def yX9_fitsAt : MethodName := ⟨RX9, "fitsAt", "(LFewerSteps$Code;I)Z"⟩
abbrev cX9_mayBeCalled : ByteArray := prog_11_method_6_code
def yX9_mayBeCalled : MethodName := ⟨RX9, "mayBeCalled", "(II)Z"⟩
abbrev cX9_giveName : ByteArray := prog_11_method_7_code
def yX9_giveName : MethodName := ⟨RX9, "giveName", "(II)V"⟩
abbrev cX9_replaceAt : ByteArray := prog_11_method_8_code
def yX9_replaceAt : MethodName := ⟨RX9, "replaceAt", "(LFewerSteps$Code;ILFewerSteps$Code;)V"⟩
abbrev cX9_nameTheRest : ByteArray := prog_11_method_9_code
def yX9_nameTheRest : MethodName := ⟨RX9, "nameTheRest", "()V"⟩
abbrev cX9_called : ByteArray := prog_11_method_10_code
def yX9_called : MethodName := ⟨RX9, "called", "(I)I"⟩
def RX10 : String := "FewerSteps$Search"
def TX10 : u_T := fun k => match k with
  | 0 => ("FewerSteps$Search", "start", "LFewerSteps$Rows;", true)
  | 1 => ("FewerSteps$Search", "goal", "LFewerSteps$Rows;", true)
  | 2 => ("FewerSteps$Search", "asked", "LFewerSteps$Rows;", true)
  | 3 => ("FewerSteps$Search", "stages", "[LFewerSteps$Rows;", true)
  | 4 => ("FewerSteps$Search", "moves", "[I", true)
  | 5 => ("FewerSteps$Search", "wanted", "I", false)
  | _ => ("FewerSteps$Search", "length", "I", false)
def tyX10 : Nat → FieldType := fun k => match k with
  | 0 => .object "FewerSteps$Rows"
  | 1 => .object "FewerSteps$Rows"
  | 2 => .object "FewerSteps$Rows"
  | 3 => .array (.object "FewerSteps$Rows")
  | 4 => .array .int
  | 5 => .int
  | _ => .int
abbrev wsX100 : List Cond := u_ws RX10 TX10 7
theorem nmX10 : ∀ a, a < 7 → ∀ b, b < 7 → a ≠ b → (TX10 a).2.1 ≠ (TX10 b).2.1 := by decide +kernel
theorem tyX10_ok : ∀ k, k < 7 → parseFieldDescriptor (TX10 k).2.2.1 = some (tyX10 k) := by decide +kernel
abbrev cX10_init : ByteArray := prog_12_method_1_code
def yX10_init : MethodName := ⟨RX10, "<init>", "()V"⟩
abbrev cX10_find : ByteArray := prog_12_method_2_code
def yX10_find : MethodName := ⟨RX10, "find", "(LFewerSteps$Code;I)V"⟩
abbrev cX10_differs : ByteArray := prog_12_method_3_code
def yX10_differs : MethodName := ⟨RX10, "differs", "(LFewerSteps$Rows;I)Z"⟩
abbrev cX10_reaches : ByteArray := prog_12_method_4_code
def yX10_reaches : MethodName := ⟨RX10, "reaches", "(II)Z"⟩
abbrev cX10_reachesBy : ByteArray := prog_12_method_5_code
def yX10_reachesBy : MethodName := ⟨RX10, "reachesBy", "(IIII)Z"⟩
def RX11 : String := "FewerSteps"
def TX11 : u_T := fun k => match k with
  | 0 => ("FewerSteps", "pad", "LFewerSteps$Pad;", true)
  | 1 => ("FewerSteps", "desk", "LFewerSteps$Desk;", true)
  | 2 => ("FewerSteps", "images", "[LFewerSteps$Desk;", true)
  | 3 => ("FewerSteps", "imageKept", "[Z", true)
  | 4 => ("FewerSteps", "facts", "LFewerSteps$Facts;", true)
  | 5 => ("FewerSteps", "mender", "LFewerSteps$Mender;", true)
  | 6 => ("FewerSteps", "links", "LFewerSteps$Links;", true)
  | 7 => ("FewerSteps", "clock", "LFewerSteps$Clock;", true)
  | 8 => ("FewerSteps", "holding", "LFewerSteps$Holding;", true)
  | 9 => ("FewerSteps", "someRows", "LFewerSteps$Rows;", true)
  | 10 => ("FewerSteps", "otherRows", "LFewerSteps$Rows;", true)
  | 11 => ("FewerSteps", "search", "LFewerSteps$Search;", true)
  | 12 => ("FewerSteps", "spare", "LFewerSteps$Code;", true)
  | _ => ("FewerSteps", "registers", "[I", true)
def tyX11 : Nat → FieldType := fun k => match k with
  | 0 => .object "FewerSteps$Pad"
  | 1 => .object "FewerSteps$Desk"
  | 2 => .array (.object "FewerSteps$Desk")
  | 3 => .array .boolean
  | 4 => .object "FewerSteps$Facts"
  | 5 => .object "FewerSteps$Mender"
  | 6 => .object "FewerSteps$Links"
  | 7 => .object "FewerSteps$Clock"
  | 8 => .object "FewerSteps$Holding"
  | 9 => .object "FewerSteps$Rows"
  | 10 => .object "FewerSteps$Rows"
  | 11 => .object "FewerSteps$Search"
  | 12 => .object "FewerSteps$Code"
  | _ => .array .int
abbrev wsX110 : List Cond := u_ws RX11 TX11 14
theorem nmX11 : ∀ a, a < 14 → ∀ b, b < 14 → a ≠ b → (TX11 a).2.1 ≠ (TX11 b).2.1 := by decide +kernel
theorem tyX11_ok : ∀ k, k < 14 → parseFieldDescriptor (TX11 k).2.2.1 = some (tyX11 k) := by decide +kernel
abbrev cX11_init : ByteArray := prog_1_method_1_code
def yX11_init : MethodName := ⟨RX11, "<init>", "()V"⟩
abbrev cX11_say : ByteArray := prog_1_method_2_code
def yX11_say : MethodName := ⟨RX11, "say", "(I)I"⟩
abbrev cX11_wipe : ByteArray := prog_1_method_3_code
def yX11_wipe : MethodName := ⟨RX11, "wipe", "()I"⟩
abbrev cX11_fault : ByteArray := prog_1_method_4_code
def yX11_fault : MethodName := ⟨RX11, "fault", "(I)I"⟩
abbrev cX11_code : ByteArray := prog_1_method_5_code
def yX11_code : MethodName := ⟨RX11, "code", "()I"⟩
abbrev cX11_want : ByteArray := prog_1_method_6_code
def yX11_want : MethodName := ⟨RX11, "want", "(I)I"⟩
abbrev cX11_step : ByteArray := prog_1_method_7_code
def yX11_step : MethodName := ⟨RX11, "step", "(II)I"⟩
abbrev cX11_run : ByteArray := prog_1_method_8_code
def yX11_run : MethodName := ⟨RX11, "run", "(II)I"⟩
abbrev cX11_keep : ByteArray := prog_1_method_9_code
def yX11_keep : MethodName := ⟨RX11, "keep", "()I"⟩
abbrev cX11_unlike : ByteArray := prog_1_method_10_code
def yX11_unlike : MethodName := ⟨RX11, "unlike", "()I"⟩
abbrev cX11_live : ByteArray := prog_1_method_11_code
def yX11_live : MethodName := ⟨RX11, "live", "(I)I"⟩
abbrev cX11_bad : ByteArray := prog_1_method_12_code
def yX11_bad : MethodName := ⟨RX11, "bad", "(I)I"⟩
abbrev cX11_known : ByteArray := prog_1_method_13_code
def yX11_known : MethodName := ⟨RX11, "known", "(II)I"⟩
abbrev cX11_sort : ByteArray := prog_1_method_14_code
def yX11_sort : MethodName := ⟨RX11, "sort", "(II)I"⟩
abbrev cX11_mend : ByteArray := prog_1_method_15_code
def yX11_mend : MethodName := ⟨RX11, "mend", "(I)I"⟩
abbrev cX11_clean : ByteArray := prog_1_method_16_code
def yX11_clean : MethodName := ⟨RX11, "clean", "()I"⟩
abbrev cX11_behind : ByteArray := prog_1_method_17_code
def yX11_behind : MethodName := ⟨RX11, "behind", "(I)I"⟩
abbrev cX11_orders : ByteArray := prog_1_method_18_code
def yX11_orders : MethodName := ⟨RX11, "orders", "()I"⟩
abbrev cX11_set : ByteArray := prog_1_method_19_code
def yX11_set : MethodName := ⟨RX11, "set", "(II)I"⟩
abbrev cX11_tick : ByteArray := prog_1_method_20_code
def yX11_tick : MethodName := ⟨RX11, "tick", "(I)I"⟩
abbrev cX11_time : ByteArray := prog_1_method_21_code
def yX11_time : MethodName := ⟨RX11, "time", "()I"⟩
abbrev cX11_quickest : ByteArray := prog_1_method_22_code
def yX11_quickest : MethodName := ⟨RX11, "quickest", "(I)I"⟩
abbrev cX11_reads : ByteArray := prog_1_method_23_code
def yX11_reads : MethodName := ⟨RX11, "reads", "(II)I"⟩
abbrev cX11_held : ByteArray := prog_1_method_24_code
def yX11_held : MethodName := ⟨RX11, "held", "(I)I"⟩
abbrev cX11_width : ByteArray := prog_1_method_25_code
def yX11_width : MethodName := ⟨RX11, "width", "()I"⟩
abbrev cX11_fewest : ByteArray := prog_1_method_26_code
def yX11_fewest : MethodName := ⟨RX11, "fewest", "(I)I"⟩
abbrev cX11_spill : ByteArray := prog_1_method_27_code
def yX11_spill : MethodName := ⟨RX11, "spill", "(I)I"⟩
abbrev cX11_rule : ByteArray := prog_1_method_28_code
def yX11_rule : MethodName := ⟨RX11, "rule", "()I"⟩
abbrev cX11_free : ByteArray := prog_1_method_29_code
def yX11_free : MethodName := ⟨RX11, "free", "()I"⟩
abbrev cX11_holds : ByteArray := prog_1_method_30_code
def yX11_holds : MethodName := ⟨RX11, "holds", "(I)I"⟩
abbrev cX11_fits : ByteArray := prog_1_method_31_code
def yX11_fits : MethodName := ⟨RX11, "fits", "(I)I"⟩
abbrev cX11_replace : ByteArray := prog_1_method_32_code
def yX11_replace : MethodName := ⟨RX11, "replace", "(I)I"⟩
abbrev cX11_go : ByteArray := prog_1_method_33_code
def yX11_go : MethodName := ⟨RX11, "go", "()I"⟩
abbrev cX11_shortest : ByteArray := prog_1_method_34_code
def yX11_shortest : MethodName := ⟨RX11, "shortest", "(I)I"⟩
abbrev cX11_image : ByteArray := prog_1_method_35_code
def yX11_image : MethodName := ⟨RX11, "image", "(I)I"⟩
abbrev cX11_restore : ByteArray := prog_1_method_36_code
def yX11_restore : MethodName := ⟨RX11, "restore", "(I)I"⟩
abbrev cX11_told : ByteArray := prog_1_method_37_code
def yX11_told : MethodName := ⟨RX11, "told", "(I)I"⟩
abbrev cX11_isNoStep : ByteArray := prog_1_method_38_code
def yX11_isNoStep : MethodName := ⟨RX11, "isNoStep", "(I)Z"⟩
abbrev cX11_isNoPlace : ByteArray := prog_1_method_39_code
def yX11_isNoPlace : MethodName := ⟨RX11, "isNoPlace", "(I)Z"⟩
abbrev cX11_isNoRule : ByteArray := prog_1_method_40_code
def yX11_isNoRule : MethodName := ⟨RX11, "isNoRule", "(I)Z"⟩
abbrev cX11_madeBy : ByteArray := prog_1_method_41_code
def yX11_madeBy : MethodName := ⟨RX11, "madeBy", "(LFewerSteps$Code;I)I"⟩
abbrev cX11_numberOf : ByteArray := prog_1_method_42_code
def yX11_numberOf : MethodName := ⟨RX11, "numberOf", "(I)I"⟩
abbrev cX11_firstUnlike : ByteArray := prog_1_method_43_code
def yX11_firstUnlike : MethodName := ⟨RX11, "firstUnlike", "(LFewerSteps$Code;LFewerSteps$Code;I)I"⟩
abbrev cX11_lowestBit : ByteArray := prog_1_method_44_code
def yX11_lowestBit : MethodName := ⟨RX11, "lowestBit", "(J)I"⟩
abbrev cX11_windClock : ByteArray := prog_1_method_45_code
def yX11_windClock : MethodName := ⟨RX11, "windClock", "()V"⟩
abbrev cX11_weighValues : ByteArray := prog_1_method_46_code
def yX11_weighValues : MethodName := ⟨RX11, "weighValues", "()V"⟩
abbrev cX11_replaceOnce : ByteArray := prog_1_method_47_code
def yX11_replaceOnce : MethodName := ⟨RX11, "replaceOnce", "()Z"⟩
abbrev cX11_isNoRegister : ByteArray := prog_1_method_48_code
def yX11_isNoRegister : MethodName := ⟨RX11, "isNoRegister", "(I)Z"⟩
abbrev cX11_isDigit : ByteArray := prog_1_method_49_code
def yX11_isDigit : MethodName := ⟨RX11, "isDigit", "(I)Z"⟩
abbrev cX11_isAct : ByteArray := prog_1_method_50_code
def yX11_isAct : MethodName := ⟨RX11, "isAct", "(I)Z"⟩
abbrev cX11_act : ByteArray := prog_1_method_51_code
def yX11_act : MethodName := ⟨RX11, "act", "(III)I"⟩
def RX12 : String := "FewerStepsModel"
def TX12 : u_T := fun k => match k with
  | 0 => ("FewerStepsModel", "signs", "[I", true)
  | 1 => ("FewerStepsModel", "signMany", "I", false)
  | 2 => ("FewerStepsModel", "stepsRead", "I", false)
  | 3 => ("FewerStepsModel", "mostRead", "I", false)
  | 4 => ("FewerStepsModel", "isRight", "Z", false)
  | 5 => ("FewerStepsModel", "target", "[I", true)
  | 6 => ("FewerStepsModel", "act", "[I", true)
  | 7 => ("FewerStepsModel", "one", "[I", true)
  | 8 => ("FewerStepsModel", "two", "[I", true)
  | 9 => ("FewerStepsModel", "many", "I", false)
  | 10 => ("FewerStepsModel", "other", "[I", true)
  | 11 => ("FewerStepsModel", "otherMany", "I", false)
  | 12 => ("FewerStepsModel", "wanted", "I", false)
  | 13 => ("FewerStepsModel", "units", "I", false)
  | 14 => ("FewerStepsModel", "delays", "[I", true)
  | 15 => ("FewerStepsModel", "read", "[I", true)
  | 16 => ("FewerStepsModel", "knownNow", "[I", true)
  | 17 => ("FewerStepsModel", "sorts", "[I", true)
  | 18 => ("FewerStepsModel", "digitSort", "[I", true)
  | 19 => ("FewerStepsModel", "madeAct", "[I", true)
  | 20 => ("FewerStepsModel", "madeOne", "[I", true)
  | 21 => ("FewerStepsModel", "madeTwo", "[I", true)
  | 22 => ("FewerStepsModel", "madeSort", "[I", true)
  | 23 => ("FewerStepsModel", "madeMany", "I", false)
  | 24 => ("FewerStepsModel", "nextSort", "I", false)
  | 25 => ("FewerStepsModel", "newOne", "[I", true)
  | 26 => ("FewerStepsModel", "newTwo", "[I", true)
  | 27 => ("FewerStepsModel", "goes", "[Z", true)
  | 28 => ("FewerStepsModel", "sources", "[I", true)
  | 29 => ("FewerStepsModel", "clashes", "[I", true)
  | 30 => ("FewerStepsModel", "ordersTo", "[I", true)
  | 31 => ("FewerStepsModel", "order", "[I", true)
  | 32 => ("FewerStepsModel", "ticks", "[I", true)
  | 33 => ("FewerStepsModel", "bestOrder", "[I", true)
  | 34 => ("FewerStepsModel", "heldAt", "[I", true)
  | 35 => ("FewerStepsModel", "placeOf", "[I", true)
  | 36 => ("FewerStepsModel", "rules", "[I", true)
  | 37 => ("FewerStepsModel", "leftMany", "[I", true)
  | 38 => ("FewerStepsModel", "rightMany", "[I", true)
  | 39 => ("FewerStepsModel", "ruleMany", "I", false)
  | 40 => ("FewerStepsModel", "names", "[I", true)
  | 41 => ("FewerStepsModel", "due", "[I", true)
  | 42 => ("FewerStepsModel", "laid", "[I", true)
  | 43 => ("FewerStepsModel", "choice", "[I", true)
  | 44 => ("FewerStepsModel", "kept", "[I", true)
  | 45 => ("FewerStepsModel", "isKept", "[Z", true)
  | 46 => ("FewerStepsModel", "keptAt", "I", false)
  | _ => ("FewerStepsModel", "isWriting", "Z", false)
def tyX12 : Nat → FieldType := fun k => match k with
  | 0 => .array .int
  | 1 => .int
  | 2 => .int
  | 3 => .int
  | 4 => .boolean
  | 5 => .array .int
  | 6 => .array .int
  | 7 => .array .int
  | 8 => .array .int
  | 9 => .int
  | 10 => .array .int
  | 11 => .int
  | 12 => .int
  | 13 => .int
  | 14 => .array .int
  | 15 => .array .int
  | 16 => .array .int
  | 17 => .array .int
  | 18 => .array .int
  | 19 => .array .int
  | 20 => .array .int
  | 21 => .array .int
  | 22 => .array .int
  | 23 => .int
  | 24 => .int
  | 25 => .array .int
  | 26 => .array .int
  | 27 => .array .boolean
  | 28 => .array .int
  | 29 => .array .int
  | 30 => .array .int
  | 31 => .array .int
  | 32 => .array .int
  | 33 => .array .int
  | 34 => .array .int
  | 35 => .array .int
  | 36 => .array .int
  | 37 => .array .int
  | 38 => .array .int
  | 39 => .int
  | 40 => .array .int
  | 41 => .array .int
  | 42 => .array .int
  | 43 => .array .int
  | 44 => .array .int
  | 45 => .array .boolean
  | 46 => .int
  | _ => .boolean
abbrev wsX120 : List Cond := u_ws RX12 TX12 48
theorem nmX12 : ∀ a, a < 48 → ∀ b, b < 48 → a ≠ b → (TX12 a).2.1 ≠ (TX12 b).2.1 := by decide +kernel
theorem tyX12_ok : ∀ k, k < 48 → parseFieldDescriptor (TX12 k).2.2.1 = some (tyX12 k) := by decide +kernel
abbrev cX12_init : ByteArray := prog_14_method_1_code
def yX12_init : MethodName := ⟨RX12, "<init>", "()V"⟩
abbrev cX12_in : ByteArray := prog_14_method_3_code
def yX12_in : MethodName := ⟨RX12, "in", "(JJJ)Z"⟩
abbrev cX12_ones : ByteArray := prog_14_method_4_code
def yX12_ones : MethodName := ⟨RX12, "ones", "(I)I"⟩
abbrev cX12_isRegister : ByteArray := prog_14_method_5_code
def yX12_isRegister : MethodName := ⟨RX12, "isRegister", "(I)Z"⟩
abbrev cX12_say : ByteArray := prog_14_method_6_code
def yX12_say : MethodName := ⟨RX12, "say", "(I)I"⟩
abbrev cX12_wipe : ByteArray := prog_14_method_7_code
def yX12_wipe : MethodName := ⟨RX12, "wipe", "()I"⟩
abbrev cX12_isOperand : ByteArray := prog_14_method_8_code
def yX12_isOperand : MethodName := ⟨RX12, "isOperand", "(I)Z"⟩
abbrev cX12_isAct : ByteArray := prog_14_method_9_code
def yX12_isAct : MethodName := ⟨RX12, "isAct", "(I)Z"⟩
abbrev cX12_stepOf : ByteArray := prog_14_method_10_code
def yX12_stepOf : MethodName := ⟨RX12, "stepOf", "(IIZ)I"⟩
abbrev cX12_beginRead : ByteArray := prog_14_method_11_code
def yX12_beginRead : MethodName := ⟨RX12, "beginRead", "(Z)V"⟩
abbrev cX12_faultOf : ByteArray := prog_14_method_12_code
def yX12_faultOf : MethodName := ⟨RX12, "faultOf", "(Z)I"⟩
abbrev cX12_fault : ByteArray := prog_14_method_13_code
def yX12_fault : MethodName := ⟨RX12, "fault", "(I)I"⟩
abbrev cX12_operandOf : ByteArray := prog_14_method_14_code
def yX12_operandOf : MethodName := ⟨RX12, "operandOf", "(I)I"⟩
abbrev cX12_readSteps : ByteArray := prog_14_method_15_code
def yX12_readSteps : MethodName := ⟨RX12, "readSteps", "(II)I"⟩
abbrev cX12_code : ByteArray := prog_14_method_16_code
def yX12_code : MethodName := ⟨RX12, "code", "()I"⟩
abbrev cX12_want : ByteArray := prog_14_method_17_code
def yX12_want : MethodName := ⟨RX12, "want", "(I)I"⟩
abbrev cX12_isStep : ByteArray := prog_14_method_18_code
def yX12_isStep : MethodName := ⟨RX12, "isStep", "(I)Z"⟩
abbrev cX12_isPlace : ByteArray := prog_14_method_19_code
def yX12_isPlace : MethodName := ⟨RX12, "isPlace", "(I)Z"⟩
abbrev cX12_step : ByteArray := prog_14_method_20_code
def yX12_step : MethodName := ⟨RX12, "step", "(II)I"⟩
abbrev cX12_scale : ByteArray := prog_14_method_21_code
def yX12_scale : MethodName := ⟨RX12, "scale", "(I)I"⟩
abbrev cX12_valueOf : ByteArray := prog_14_method_22_code
def yX12_valueOf : MethodName := ⟨RX12, "valueOf", "(II)I"⟩
abbrev cX12_acted : ByteArray := prog_14_method_23_code
def yX12_acted : MethodName := ⟨RX12, "acted", "(III)I"⟩
abbrev cX12_done : ByteArray := prog_14_method_24_code
def yX12_done : MethodName := ⟨RX12, "done", "(IIIII)I"⟩
abbrev cX12_runOf : ByteArray := prog_14_method_25_code
def yX12_runOf : MethodName := ⟨RX12, "runOf", "(II)I"⟩
abbrev cX12_run : ByteArray := prog_14_method_26_code
def yX12_run : MethodName := ⟨RX12, "run", "(II)I"⟩
abbrev cX12_keep : ByteArray := prog_14_method_27_code
def yX12_keep : MethodName := ⟨RX12, "keep", "()I"⟩
abbrev cX12_areAlike : ByteArray := prog_14_method_28_code
def yX12_areAlike : MethodName := ⟨RX12, "areAlike", "(III)Z"⟩
abbrev cX12_unlike : ByteArray := prog_14_method_29_code
def yX12_unlike : MethodName := ⟨RX12, "unlike", "()I"⟩
abbrev cX12_bitOf : ByteArray := prog_14_method_30_code
def yX12_bitOf : MethodName := ⟨RX12, "bitOf", "(I)I"⟩
abbrev cX12_liveAt : ByteArray := prog_14_method_31_code
def yX12_liveAt : MethodName := ⟨RX12, "liveAt", "(I)I"⟩
abbrev cX12_live : ByteArray := prog_14_method_32_code
def yX12_live : MethodName := ⟨RX12, "live", "(I)I"⟩
abbrev cX12_isDead : ByteArray := prog_14_method_33_code
def yX12_isDead : MethodName := ⟨RX12, "isDead", "(I)Z"⟩
abbrev cX12_knownOf : ByteArray := prog_14_method_34_code
def yX12_knownOf : MethodName := ⟨RX12, "knownOf", "(II)I"⟩
abbrev cX12_knownHere : ByteArray := prog_14_method_35_code
def yX12_knownHere : MethodName := ⟨RX12, "knownHere", "(I)I"⟩
abbrev cX12_known : ByteArray := prog_14_method_36_code
def yX12_known : MethodName := ⟨RX12, "known", "(II)I"⟩
abbrev cX12_sortOf : ByteArray := prog_14_method_37_code
def yX12_sortOf : MethodName := ⟨RX12, "sortOf", "(I)I"⟩
abbrev cX12_madeOf : ByteArray := prog_14_method_38_code
def yX12_madeOf : MethodName := ⟨RX12, "madeOf", "(III)I"⟩
abbrev cX12_beginSorts : ByteArray := prog_14_method_39_code
def yX12_beginSorts : MethodName := ⟨RX12, "beginSorts", "()V"⟩
abbrev cX12_sortMade : ByteArray := prog_14_method_40_code
def yX12_sortMade : MethodName := ⟨RX12, "sortMade", "(I)I"⟩
abbrev cX12_laySorts : ByteArray := prog_14_method_41_code
def yX12_laySorts : MethodName := ⟨RX12, "laySorts", "(I)V"⟩
abbrev cX12_sort : ByteArray := prog_14_method_42_code
def yX12_sort : MethodName := ⟨RX12, "sort", "(II)I"⟩
abbrev cX12_holderOf : ByteArray := prog_14_method_43_code
def yX12_holderOf : MethodName := ⟨RX12, "holderOf", "(I)I"⟩
abbrev cX12_bad : ByteArray := prog_14_method_44_code
def yX12_bad : MethodName := ⟨RX12, "bad", "(I)I"⟩
abbrev cX12_knownAs : ByteArray := prog_14_method_45_code
def yX12_knownAs : MethodName := ⟨RX12, "knownAs", "(II)I"⟩
abbrev cX12_mendKnown : ByteArray := prog_14_method_46_code
def yX12_mendKnown : MethodName := ⟨RX12, "mendKnown", "()I"⟩
abbrev cX12_mendDigits : ByteArray := prog_14_method_47_code
def yX12_mendDigits : MethodName := ⟨RX12, "mendDigits", "()I"⟩
abbrev cX12_mendNeedless : ByteArray := prog_14_method_48_code
def yX12_mendNeedless : MethodName := ⟨RX12, "mendNeedless", "()I"⟩
abbrev cX12_mendDead : ByteArray := prog_14_method_49_code
def yX12_mendDead : MethodName := ⟨RX12, "mendDead", "()I"⟩
abbrev cX12_mendBy : ByteArray := prog_14_method_50_code
def yX12_mendBy : MethodName := ⟨RX12, "mendBy", "(I)I"⟩
abbrev cX12_mend : ByteArray := prog_14_method_51_code
def yX12_mend : MethodName := ⟨RX12, "mend", "(I)I"⟩
abbrev cX12_clean : ByteArray := prog_14_method_52_code
def yX12_clean : MethodName := ⟨RX12, "clean", "()I"⟩
abbrev cX12_doesRead : ByteArray := prog_14_method_53_code
def yX12_doesRead : MethodName := ⟨RX12, "doesRead", "(II)Z"⟩
abbrev cX12_makerOf : ByteArray := prog_14_method_54_code
def yX12_makerOf : MethodName := ⟨RX12, "makerOf", "(II)I"⟩
abbrev cX12_sourcesOf : ByteArray := prog_14_method_55_code
def yX12_sourcesOf : MethodName := ⟨RX12, "sourcesOf", "(I)I"⟩
abbrev cX12_clashesOf : ByteArray := prog_14_method_56_code
def yX12_clashesOf : MethodName := ⟨RX12, "clashesOf", "(I)I"⟩
abbrev cX12_behind : ByteArray := prog_14_method_57_code
def yX12_behind : MethodName := ⟨RX12, "behind", "(I)I"⟩
abbrev cX12_findBehind : ByteArray := prog_14_method_58_code
def yX12_findBehind : MethodName := ⟨RX12, "findBehind", "()V"⟩
abbrev cX12_orders : ByteArray := prog_14_method_59_code
def yX12_orders : MethodName := ⟨RX12, "orders", "()I"⟩
abbrev cX12_set : ByteArray := prog_14_method_60_code
def yX12_set : MethodName := ⟨RX12, "set", "(II)I"⟩
abbrev cX12_delayOf : ByteArray := prog_14_method_61_code
def yX12_delayOf : MethodName := ⟨RX12, "delayOf", "(I)I"⟩
abbrev cX12_layOrder : ByteArray := prog_14_method_62_code
def yX12_layOrder : MethodName := ⟨RX12, "layOrder", "()V"⟩
abbrev cX12_findTicks : ByteArray := prog_14_method_63_code
def yX12_findTicks : MethodName := ⟨RX12, "findTicks", "()I"⟩
abbrev cX12_tick : ByteArray := prog_14_method_64_code
def yX12_tick : MethodName := ⟨RX12, "tick", "(I)I"⟩
abbrev cX12_time : ByteArray := prog_14_method_65_code
def yX12_time : MethodName := ⟨RX12, "time", "()I"⟩
abbrev cX12_nextOrder : ByteArray := prog_14_method_66_code
def yX12_nextOrder : MethodName := ⟨RX12, "nextOrder", "()Z"⟩
abbrev cX12_isLawful : ByteArray := prog_14_method_67_code
def yX12_isLawful : MethodName := ⟨RX12, "isLawful", "(Z)Z"⟩
abbrev cX12_findBest : ByteArray := prog_14_method_68_code
def yX12_findBest : MethodName := ⟨RX12, "findBest", "(Z)I"⟩
abbrev cX12_bestAt : ByteArray := prog_14_method_69_code
def yX12_bestAt : MethodName := ⟨RX12, "bestAt", "(IZ)I"⟩
abbrev cX12_quickest : ByteArray := prog_14_method_70_code
def yX12_quickest : MethodName := ⟨RX12, "quickest", "(I)I"⟩
abbrev cX12_valueIn : ByteArray := prog_14_method_71_code
def yX12_valueIn : MethodName := ⟨RX12, "valueIn", "(II)I"⟩
abbrev cX12_reads : ByteArray := prog_14_method_72_code
def yX12_reads : MethodName := ⟨RX12, "reads", "(II)I"⟩
abbrev cX12_holdFrom : ByteArray := prog_14_method_73_code
def yX12_holdFrom : MethodName := ⟨RX12, "holdFrom", "(III)V"⟩
abbrev cX12_findHeld : ByteArray := prog_14_method_74_code
def yX12_findHeld : MethodName := ⟨RX12, "findHeld", "()V"⟩
abbrev cX12_widthOf : ByteArray := prog_14_method_75_code
def yX12_widthOf : MethodName := ⟨RX12, "widthOf", "()I"⟩
abbrev cX12_held : ByteArray := prog_14_method_76_code
def yX12_held : MethodName := ⟨RX12, "held", "(I)I"⟩
abbrev cX12_width : ByteArray := prog_14_method_77_code
def yX12_width : MethodName := ⟨RX12, "width", "()I"⟩
abbrev cX12_fewest : ByteArray := prog_14_method_78_code
def yX12_fewest : MethodName := ⟨RX12, "fewest", "(I)I"⟩
abbrev cX12_readingsOf : ByteArray := prog_14_method_79_code
def yX12_readingsOf : MethodName := ⟨RX12, "readingsOf", "(I)I"⟩
abbrev cX12_spill : ByteArray := prog_14_method_80_code
def yX12_spill : MethodName := ⟨RX12, "spill", "(I)I"⟩
abbrev cX12_at : ByteArray := prog_14_method_81_code
def yX12_at : MethodName := ⟨RX12, "at", "(IIII)I"⟩
abbrev cX12_putPart : ByteArray := prog_14_method_82_code
def yX12_putPart : MethodName := ⟨RX12, "putPart", "(II)V"⟩
abbrev cX12_rule : ByteArray := prog_14_method_83_code
def yX12_rule : MethodName := ⟨RX12, "rule", "()I"⟩
abbrev cX12_free : ByteArray := prog_14_method_84_code
def yX12_free : MethodName := ⟨RX12, "free", "()I"⟩
abbrev cX12_isRule : ByteArray := prog_14_method_85_code
def yX12_isRule : MethodName := ⟨RX12, "isRule", "(I)Z"⟩
abbrev cX12_runPart : ByteArray := prog_14_method_86_code
def yX12_runPart : MethodName := ⟨RX12, "runPart", "(III)I"⟩
abbrev cX12_holds : ByteArray := prog_14_method_87_code
def yX12_holds : MethodName := ⟨RX12, "holds", "(I)I"⟩
abbrev cX12_isCalled : ByteArray := prog_14_method_88_code
def yX12_isCalled : MethodName := ⟨RX12, "isCalled", "(I)Z"⟩
abbrev cX12_isNamed : ByteArray := prog_14_method_89_code
def yX12_isNamed : MethodName := ⟨RX12, "isNamed", "(II)Z"⟩
abbrev cX12_isAt : ByteArray := prog_14_method_90_code
def yX12_isAt : MethodName := ⟨RX12, "isAt", "(II)Z"⟩
abbrev cX12_placeOfRule : ByteArray := prog_14_method_91_code
def yX12_placeOfRule : MethodName := ⟨RX12, "placeOfRule", "(I)I"⟩
abbrev cX12_fits : ByteArray := prog_14_method_92_code
def yX12_fits : MethodName := ⟨RX12, "fits", "(I)I"⟩
abbrev cX12_isInRight : ByteArray := prog_14_method_93_code
def yX12_isInRight : MethodName := ⟨RX12, "isInRight", "(II)Z"⟩
abbrev cX12_calledAs : ByteArray := prog_14_method_94_code
def yX12_calledAs : MethodName := ⟨RX12, "calledAs", "(I)I"⟩
abbrev cX12_move : ByteArray := prog_14_method_95_code
def yX12_move : MethodName := ⟨RX12, "move", "(II)V"⟩
abbrev cX12_put : ByteArray := prog_14_method_96_code
def yX12_put : MethodName := ⟨RX12, "put", "(II)V"⟩
abbrev cX12_hasRoom : ByteArray := prog_14_method_97_code
def yX12_hasRoom : MethodName := ⟨RX12, "hasRoom", "(I)Z"⟩
abbrev cX12_replace : ByteArray := prog_14_method_98_code
def yX12_replace : MethodName := ⟨RX12, "replace", "(I)I"⟩
abbrev cX12_go : ByteArray := prog_14_method_99_code
def yX12_go : MethodName := ⟨RX12, "go", "()I"⟩
abbrev cX12_digitOf : ByteArray := prog_14_method_100_code
def yX12_digitOf : MethodName := ⟨RX12, "digitOf", "(II)I"⟩
abbrev cX12_tried : ByteArray := prog_14_method_101_code
def yX12_tried : MethodName := ⟨RX12, "tried", "(I)I"⟩
abbrev cX12_signOf : ByteArray := prog_14_method_102_code
def yX12_signOf : MethodName := ⟨RX12, "signOf", "(I)I"⟩
abbrev cX12_doneSmall : ByteArray := prog_14_method_103_code
def yX12_doneSmall : MethodName := ⟨RX12, "doneSmall", "(II)I"⟩
abbrev cX12_isSmall : ByteArray := prog_14_method_104_code
def yX12_isSmall : MethodName := ⟨RX12, "isSmall", "()Z"⟩
abbrev cX12_layStep : ByteArray := prog_14_method_105_code
def yX12_layStep : MethodName := ⟨RX12, "layStep", "(II)V"⟩
abbrev cX12_isDue : ByteArray := prog_14_method_106_code
def yX12_isDue : MethodName := ⟨RX12, "isDue", "(I)Z"⟩
abbrev cX12_tryAll : ByteArray := prog_14_method_107_code
def yX12_tryAll : MethodName := ⟨RX12, "tryAll", "(I)Z"⟩
abbrev cX12_shortest : ByteArray := prog_14_method_108_code
def yX12_shortest : MethodName := ⟨RX12, "shortest", "(I)I"⟩
abbrev cX12_pass : ByteArray := prog_14_method_109_code
def yX12_pass : MethodName := ⟨RX12, "pass", "(I)I"⟩
abbrev cX12_passAll : ByteArray := prog_14_method_110_code
def yX12_passAll : MethodName := ⟨RX12, "passAll", "()V"⟩
abbrev cX12_image : ByteArray := prog_14_method_111_code
def yX12_image : MethodName := ⟨RX12, "image", "(I)I"⟩
abbrev cX12_restore : ByteArray := prog_14_method_112_code
def yX12_restore : MethodName := ⟨RX12, "restore", "(I)I"⟩
abbrev cX12_told : ByteArray := prog_14_method_113_code
def yX12_told : MethodName := ⟨RX12, "told", "(I)I"⟩
def RJ6 : String := "java/lang/Integer"
abbrev cJ6_bitCount_0f7a4 : ByteArray := prog_15_method_49_code
def yJ6_bitCount_0f7a4 : MethodName := ⟨RJ6, "bitCount", "(I)I"⟩
def RJ9 : String := "java/lang/Math"
abbrev cJ9_max_7cf53 : ByteArray := prog_16_method_65_code
def yJ9_max_7cf53 : MethodName := ⟨RJ9, "max", "(II)I"⟩
abbrev cJ9_min_7cf53 : ByteArray := prog_16_method_69_code
def yJ9_min_7cf53 : MethodName := ⟨RJ9, "min", "(II)I"⟩
def RJ10 : String := "java/lang/System"
def RJ7 : String := "java/util/Arrays"
abbrev cJ7_fill_53178 : ByteArray := prog_18_method_103_code
def yJ7_fill_53178 : MethodName := ⟨RJ7, "fill", "([II)V"⟩
def RL : String := "FewerStepsLaw"
abbrev cL_law : ByteArray := code
def yL_law : MethodName := ⟨RL, "law", "([I)Z"⟩
abbrev vwCl : List vw_C := [(RX0, TX0, 10), (RX1, TX1, 2), (RX2, TX2, 6), (RX3, TX3, 9), (RX4, TX4, 14), (RX5, TX5, 6), (RX6, TX6, 1), (RX7, TX7, 10), (RX8, TX8, 4), (RX9, TX9, 4), (RX10, TX10, 7), (RX11, TX11, 14), (RX12, TX12, 48)]
abbrev zX0_init : MethodName × ByteArray × Nat × Option FieldType × String := (yX0_init, cX0_init, 1, none, RX0)
abbrev zJ7_fill_53178 : MethodName × ByteArray × Nat × Option FieldType × String := (yJ7_fill_53178, cJ7_fill_53178, 4, none, RJ7)
abbrev zX5_mustFollow : MethodName × ByteArray × Nat × Option FieldType × String := (yX5_mustFollow, cX5_mustFollow, 2, (some .int), RX5)
abbrev zX0_countOrders : MethodName × ByteArray × Nat × Option FieldType × String := (yX0_countOrders, cX0_countOrders, 7, (some .int), RX0)
abbrev zX1_part : MethodName × ByteArray × Nat × Option FieldType × String := (yX1_part, cX1_part, 3, (some .int), RX1)
abbrev zX0_delayOf : MethodName × ByteArray × Nat × Option FieldType × String := (yX0_delayOf, cX0_delayOf, 3, (some .int), RX0)
abbrev zX0_wind : MethodName × ByteArray × Nat × Option FieldType × String := (yX0_wind, cX0_wind, 5, none, RX0)
abbrev zX0_firstTick : MethodName × ByteArray × Nat × Option FieldType × String := (yX0_firstTick, cX0_firstTick, 6, (some .int), RX0)
abbrev zX0_layAsWritten : MethodName × ByteArray × Nat × Option FieldType × String := (yX0_layAsWritten, cX0_layAsWritten, 6, (some .int), RX0)
abbrev zX0_layOn : MethodName × ByteArray × Nat × Option FieldType × String := (yX0_layOn, cX0_layOn, 9, none, RX0)
abbrev zX0_findQuickest : MethodName × ByteArray × Nat × Option FieldType × String := (yX0_findQuickest, cX0_findQuickest, 1, none, RX0)
abbrev zX1_init : MethodName × ByteArray × Nat × Option FieldType × String := (yX1_init, cX1_init, 1, none, RX1)
abbrev zX1_copyFrom : MethodName × ByteArray × Nat × Option FieldType × String := (yX1_copyFrom, cX1_copyFrom, 2, none, RX1)
abbrev zX11_isNoRegister : MethodName × ByteArray × Nat × Option FieldType × String := (yX11_isNoRegister, cX11_isNoRegister, 1, (some .boolean), RX11)
abbrev zX1_target : MethodName × ByteArray × Nat × Option FieldType × String := (yX1_target, cX1_target, 3, (some .int), RX1)
abbrev zX1_change : MethodName × ByteArray × Nat × Option FieldType × String := (yX1_change, cX1_change, 4, none, RX1)
abbrev zX1_rewrite : MethodName × ByteArray × Nat × Option FieldType × String := (yX1_rewrite, cX1_rewrite, 5, none, RX1)
abbrev zX1_add : MethodName × ByteArray × Nat × Option FieldType × String := (yX1_add, cX1_add, 5, none, RX1)
abbrev zX1_addFrom : MethodName × ByteArray × Nat × Option FieldType × String := (yX1_addFrom, cX1_addFrom, 3, none, RX1)
abbrev zX1_bitOf : MethodName × ByteArray × Nat × Option FieldType × String := (yX1_bitOf, cX1_bitOf, 1, (some .int), RX1)
abbrev zX1_readBits : MethodName × ByteArray × Nat × Option FieldType × String := (yX1_readBits, cX1_readBits, 2, (some .int), RX1)
abbrev zX1_named : MethodName × ByteArray × Nat × Option FieldType × String := (yX1_named, cX1_named, 3, (some .int), RX1)
abbrev zX9_init : MethodName × ByteArray × Nat × Option FieldType × String := (yX9_init, cX9_init, 1, none, RX9)
abbrev zX2_init : MethodName × ByteArray × Nat × Option FieldType × String := (yX2_init, cX2_init, 2, none, RX2)
abbrev zX9_copySides : MethodName × ByteArray × Nat × Option FieldType × String := (yX9_copySides, cX9_copySides, 3, none, RX9)
abbrev zX2_copyFrom : MethodName × ByteArray × Nat × Option FieldType × String := (yX2_copyFrom, cX2_copyFrom, 3, none, RX2)
abbrev zX3_init : MethodName × ByteArray × Nat × Option FieldType × String := (yX3_init, cX3_init, 1, none, RX3)
abbrev zX3_followLive : MethodName × ByteArray × Nat × Option FieldType × String := (yX3_followLive, cX3_followLive, 4, none, RX3)
abbrev zX3_isDead : MethodName × ByteArray × Nat × Option FieldType × String := (yX3_isDead, cX3_isDead, 3, (some .boolean), RX3)
abbrev zX11_isDigit : MethodName × ByteArray × Nat × Option FieldType × String := (yX11_isDigit, cX11_isDigit, 1, (some .boolean), RX11)
abbrev zX3_knownOperand : MethodName × ByteArray × Nat × Option FieldType × String := (yX3_knownOperand, cX3_knownOperand, 3, (some .int), RX3)
abbrev zX11_act : MethodName × ByteArray × Nat × Option FieldType × String := (yX11_act, cX11_act, 3, (some .int), RX11)
abbrev zX3_knownMade : MethodName × ByteArray × Nat × Option FieldType × String := (yX3_knownMade, cX3_knownMade, 6, (some .int), RX3)
abbrev zX3_followKnown : MethodName × ByteArray × Nat × Option FieldType × String := (yX3_followKnown, cX3_followKnown, 4, none, RX3)
abbrev zX3_sortOperand : MethodName × ByteArray × Nat × Option FieldType × String := (yX3_sortOperand, cX3_sortOperand, 4, (some .int), RX3)
abbrev zX3_sortOfAct : MethodName × ByteArray × Nat × Option FieldType × String := (yX3_sortOfAct, cX3_sortOfAct, 5, (some .int), RX3)
abbrev zX3_sortMade : MethodName × ByteArray × Nat × Option FieldType × String := (yX3_sortMade, cX3_sortMade, 7, (some .int), RX3)
abbrev zX3_followSorts : MethodName × ByteArray × Nat × Option FieldType × String := (yX3_followSorts, cX3_followSorts, 4, none, RX3)
abbrev zX3_holderOfMade : MethodName × ByteArray × Nat × Option FieldType × String := (yX3_holderOfMade, cX3_holderOfMade, 3, (some .int), RX3)
abbrev zX4_init : MethodName × ByteArray × Nat × Option FieldType × String := (yX4_init, cX4_init, 1, none, RX4)
abbrev zX4_valuesIn : MethodName × ByteArray × Nat × Option FieldType × String := (yX4_valuesIn, cX4_valuesIn, 5, (some .int), RX4)
abbrev zX4_take : MethodName × ByteArray × Nat × Option FieldType × String := (yX4_take, cX4_take, 5, none, RX4)
abbrev zX4_heldAt : MethodName × ByteArray × Nat × Option FieldType × String := (yX4_heldAt, cX4_heldAt, 2, (some .int), RX4)
abbrev zJ6_bitCount_0f7a4 : MethodName × ByteArray × Nat × Option FieldType × String := (yJ6_bitCount_0f7a4, cJ6_bitCount_0f7a4, 1, (some .int), RJ6)
abbrev zX4_widest : MethodName × ByteArray × Nat × Option FieldType × String := (yX4_widest, cX4_widest, 3, (some .int), RX4)
abbrev zX4_heldBehind : MethodName × ByteArray × Nat × Option FieldType × String := (yX4_heldBehind, cX4_heldBehind, 6, (some .int), RX4)
abbrev zX4_widthBy : MethodName × ByteArray × Nat × Option FieldType × String := (yX4_widthBy, cX4_widthBy, 6, (some .int), RX4)
abbrev zX4_tellFirstOrder : MethodName × ByteArray × Nat × Option FieldType × String := (yX4_tellFirstOrder, cX4_tellFirstOrder, 4, none, RX4)
abbrev zX4_findFewest : MethodName × ByteArray × Nat × Option FieldType × String := (yX4_findFewest, cX4_findFewest, 4, none, RX4)
abbrev zX4_costOf : MethodName × ByteArray × Nat × Option FieldType × String := (yX4_costOf, cX4_costOf, 4, (some .int), RX4)
abbrev zX4_passStep : MethodName × ByteArray × Nat × Option FieldType × String := (yX4_passStep, cX4_passStep, 6, none, RX4)
abbrev zX4_putBy : MethodName × ByteArray × Nat × Option FieldType × String := (yX4_putBy, cX4_putBy, 4, (some .int), RX4)
abbrev zX5_init : MethodName × ByteArray × Nat × Option FieldType × String := (yX5_init, cX5_init, 1, none, RX5)
abbrev zX5_noteReading : MethodName × ByteArray × Nat × Option FieldType × String := (yX5_noteReading, cX5_noteReading, 5, none, RX5)
abbrev zX5_usersAhead : MethodName × ByteArray × Nat × Option FieldType × String := (yX5_usersAhead, cX5_usersAhead, 5, (some .int), RX5)
abbrev zX5_follow : MethodName × ByteArray × Nat × Option FieldType × String := (yX5_follow, cX5_follow, 4, none, RX5)
abbrev zX6_init : MethodName × ByteArray × Nat × Option FieldType × String := (yX6_init, cX6_init, 1, none, RX6)
abbrev zX6_writeKnownOperand : MethodName × ByteArray × Nat × Option FieldType × String := (yX6_writeKnownOperand, cX6_writeKnownOperand, 6, (some .boolean), RX6)
abbrev zX6_writeKnown : MethodName × ByteArray × Nat × Option FieldType × String := (yX6_writeKnown, cX6_writeKnown, 6, (some .int), RX6)
abbrev zX11_isAct : MethodName × ByteArray × Nat × Option FieldType × String := (yX11_isAct, cX11_isAct, 1, (some .boolean), RX11)
abbrev zX6_workOutDigits : MethodName × ByteArray × Nat × Option FieldType × String := (yX6_workOutDigits, cX6_workOutDigits, 7, (some .int), RX6)
abbrev zX6_copyNeedless : MethodName × ByteArray × Nat × Option FieldType × String := (yX6_copyNeedless, cX6_copyNeedless, 5, (some .int), RX6)
abbrev zX6_dropUseless : MethodName × ByteArray × Nat × Option FieldType × String := (yX6_dropUseless, cX6_dropUseless, 7, (some .int), RX6)
abbrev zX6_mendOnce : MethodName × ByteArray × Nat × Option FieldType × String := (yX6_mendOnce, cX6_mendOnce, 4, (some .int), RX6)
abbrev zX6_mendAll : MethodName × ByteArray × Nat × Option FieldType × String := (yX6_mendAll, cX6_mendAll, 6, none, RX6)
abbrev zX7_init : MethodName × ByteArray × Nat × Option FieldType × String := (yX7_init, cX7_init, 1, none, RX7)
abbrev zX7_write : MethodName × ByteArray × Nat × Option FieldType × String := (yX7_write, cX7_write, 2, (some .int), RX7)
abbrev zX7_empty : MethodName × ByteArray × Nat × Option FieldType × String := (yX7_empty, cX7_empty, 2, (some .int), RX7)
abbrev zX7_operandOf : MethodName × ByteArray × Nat × Option FieldType × String := (yX7_operandOf, cX7_operandOf, 1, (some .int), RX7)
abbrev zX7_endsStep : MethodName × ByteArray × Nat × Option FieldType × String := (yX7_endsStep, cX7_endsStep, 5, (some .boolean), RX7)
abbrev zX7_takesMaking : MethodName × ByteArray × Nat × Option FieldType × String := (yX7_takesMaking, cX7_takesMaking, 2, (some .boolean), RX7)
abbrev zX7_takesMore : MethodName × ByteArray × Nat × Option FieldType × String := (yX7_takesMore, cX7_takesMore, 4, (some .boolean), RX7)
abbrev zX7_takes : MethodName × ByteArray × Nat × Option FieldType × String := (yX7_takes, cX7_takes, 2, (some .boolean), RX7)
abbrev zX7_parse : MethodName × ByteArray × Nat × Option FieldType × String := (yX7_parse, cX7_parse, 3, (some .int), RX7)
abbrev zX8_init : MethodName × ByteArray × Nat × Option FieldType × String := (yX8_init, cX8_init, 1, none, RX8)
abbrev zX8_beginBlock : MethodName × ByteArray × Nat × Option FieldType × String := (yX8_beginBlock, cX8_beginBlock, 3, none, RX8)
abbrev zX8_beginPairs : MethodName × ByteArray × Nat × Option FieldType × String := (yX8_beginPairs, cX8_beginPairs, 2, none, RX8)
abbrev zX8_copyFrom : MethodName × ByteArray × Nat × Option FieldType × String := (yX8_copyFrom, cX8_copyFrom, 2, none, RX8)
abbrev zX8_bit : MethodName × ByteArray × Nat × Option FieldType × String := (yX8_bit, cX8_bit, 3, (some .long), RX8)
abbrev zX8_sum : MethodName × ByteArray × Nat × Option FieldType × String := (yX8_sum, cX8_sum, 19, none, RX8)
abbrev zX8_lesser : MethodName × ByteArray × Nat × Option FieldType × String := (yX8_lesser, cX8_lesser, 19, none, RX8)
abbrev zX8_makeOf : MethodName × ByteArray × Nat × Option FieldType × String := (yX8_makeOf, cX8_makeOf, 14, none, RX8)
abbrev zX8_make : MethodName × ByteArray × Nat × Option FieldType × String := (yX8_make, cX8_make, 4, none, RX8)
abbrev zX8_storeMade : MethodName × ByteArray × Nat × Option FieldType × String := (yX8_storeMade, cX8_storeMade, 3, none, RX8)
abbrev zX8_perform : MethodName × ByteArray × Nat × Option FieldType × String := (yX8_perform, cX8_perform, 3, none, RX8)
abbrev zX8_hasMade : MethodName × ByteArray × Nat × Option FieldType × String := (yX8_hasMade, cX8_hasMade, 3, (some .boolean), RX8)
abbrev zX8_unlikeIn : MethodName × ByteArray × Nat × Option FieldType × String := (yX8_unlikeIn, cX8_unlikeIn, 6, (some .long), RX8)
abbrev zX9_countAfter : MethodName × ByteArray × Nat × Option FieldType × String := (yX9_countAfter, cX9_countAfter, 2, (some .int), RX9)
abbrev zX9_giveName : MethodName × ByteArray × Nat × Option FieldType × String := (yX9_giveName, cX9_giveName, 3, none, RX9)
abbrev zX9_mayBeCalled : MethodName × ByteArray × Nat × Option FieldType × String := (yX9_mayBeCalled, cX9_mayBeCalled, 3, (some .boolean), RX9)
abbrev zX9_fitsAt : MethodName × ByteArray × Nat × Option FieldType × String := (yX9_fitsAt, cX9_fitsAt, 8, (some .boolean), RX9)
abbrev zX9_firstFit : MethodName × ByteArray × Nat × Option FieldType × String := (yX9_firstFit, cX9_firstFit, 3, (some .int), RX9)
abbrev zX9_nameTheRest : MethodName × ByteArray × Nat × Option FieldType × String := (yX9_nameTheRest, cX9_nameTheRest, 4, none, RX9)
abbrev zX9_called : MethodName × ByteArray × Nat × Option FieldType × String := (yX9_called, cX9_called, 2, (some .int), RX9)
abbrev zX9_replaceAt : MethodName × ByteArray × Nat × Option FieldType × String := (yX9_replaceAt, cX9_replaceAt, 5, none, RX9)
abbrev zX10_init : MethodName × ByteArray × Nat × Option FieldType × String := (yX10_init, cX10_init, 2, none, RX10)
abbrev zX10_differs : MethodName × ByteArray × Nat × Option FieldType × String := (yX10_differs, cX10_differs, 3, (some .boolean), RX10)
abbrev zX10_reaches : MethodName × ByteArray × Nat × Option FieldType × String := (yX10_reaches, cX10_reaches, 6, (some .boolean), RX10)
abbrev zX10_reachesBy : MethodName × ByteArray × Nat × Option FieldType × String := (yX10_reachesBy, cX10_reachesBy, 9, (some .boolean), RX10)
abbrev zX10_find : MethodName × ByteArray × Nat × Option FieldType × String := (yX10_find, cX10_find, 4, none, RX10)
abbrev zX11_init : MethodName × ByteArray × Nat × Option FieldType × String := (yX11_init, cX11_init, 2, none, RX11)
abbrev zX11_say : MethodName × ByteArray × Nat × Option FieldType × String := (yX11_say, cX11_say, 2, (some .int), RX11)
abbrev zX11_wipe : MethodName × ByteArray × Nat × Option FieldType × String := (yX11_wipe, cX11_wipe, 1, (some .int), RX11)
abbrev zX11_fault : MethodName × ByteArray × Nat × Option FieldType × String := (yX11_fault, cX11_fault, 2, (some .int), RX11)
abbrev zX11_code : MethodName × ByteArray × Nat × Option FieldType × String := (yX11_code, cX11_code, 1, (some .int), RX11)
abbrev zX11_want : MethodName × ByteArray × Nat × Option FieldType × String := (yX11_want, cX11_want, 3, (some .int), RX11)
abbrev zX11_isNoStep : MethodName × ByteArray × Nat × Option FieldType × String := (yX11_isNoStep, cX11_isNoStep, 2, (some .boolean), RX11)
abbrev zX11_step : MethodName × ByteArray × Nat × Option FieldType × String := (yX11_step, cX11_step, 3, (some .int), RX11)
abbrev zX11_numberOf : MethodName × ByteArray × Nat × Option FieldType × String := (yX11_numberOf, cX11_numberOf, 2, (some .int), RX11)
abbrev zX11_madeBy : MethodName × ByteArray × Nat × Option FieldType × String := (yX11_madeBy, cX11_madeBy, 5, (some .int), RX11)
abbrev zX11_run : MethodName × ByteArray × Nat × Option FieldType × String := (yX11_run, cX11_run, 5, (some .int), RX11)
abbrev zX11_keep : MethodName × ByteArray × Nat × Option FieldType × String := (yX11_keep, cX11_keep, 1, (some .int), RX11)
abbrev zX11_lowestBit : MethodName × ByteArray × Nat × Option FieldType × String := (yX11_lowestBit, cX11_lowestBit, 3, (some .int), RX11)
abbrev zX11_firstUnlike : MethodName × ByteArray × Nat × Option FieldType × String := (yX11_firstUnlike, cX11_firstUnlike, 8, (some .int), RX11)
abbrev zX11_unlike : MethodName × ByteArray × Nat × Option FieldType × String := (yX11_unlike, cX11_unlike, 1, (some .int), RX11)
abbrev zX11_isNoPlace : MethodName × ByteArray × Nat × Option FieldType × String := (yX11_isNoPlace, cX11_isNoPlace, 2, (some .boolean), RX11)
abbrev zX11_live : MethodName × ByteArray × Nat × Option FieldType × String := (yX11_live, cX11_live, 2, (some .int), RX11)
abbrev zX11_bad : MethodName × ByteArray × Nat × Option FieldType × String := (yX11_bad, cX11_bad, 5, (some .int), RX11)
abbrev zX11_known : MethodName × ByteArray × Nat × Option FieldType × String := (yX11_known, cX11_known, 3, (some .int), RX11)
abbrev zX11_sort : MethodName × ByteArray × Nat × Option FieldType × String := (yX11_sort, cX11_sort, 3, (some .int), RX11)
abbrev zX11_mend : MethodName × ByteArray × Nat × Option FieldType × String := (yX11_mend, cX11_mend, 2, (some .int), RX11)
abbrev zX11_clean : MethodName × ByteArray × Nat × Option FieldType × String := (yX11_clean, cX11_clean, 1, (some .int), RX11)
abbrev zX11_behind : MethodName × ByteArray × Nat × Option FieldType × String := (yX11_behind, cX11_behind, 2, (some .int), RX11)
abbrev zX11_orders : MethodName × ByteArray × Nat × Option FieldType × String := (yX11_orders, cX11_orders, 1, (some .int), RX11)
abbrev zX11_set : MethodName × ByteArray × Nat × Option FieldType × String := (yX11_set, cX11_set, 5, (some .int), RX11)
abbrev zX11_windClock : MethodName × ByteArray × Nat × Option FieldType × String := (yX11_windClock, cX11_windClock, 1, none, RX11)
abbrev zX11_tick : MethodName × ByteArray × Nat × Option FieldType × String := (yX11_tick, cX11_tick, 2, (some .int), RX11)
abbrev zX11_time : MethodName × ByteArray × Nat × Option FieldType × String := (yX11_time, cX11_time, 1, (some .int), RX11)
abbrev zX11_quickest : MethodName × ByteArray × Nat × Option FieldType × String := (yX11_quickest, cX11_quickest, 2, (some .int), RX11)
abbrev zX11_reads : MethodName × ByteArray × Nat × Option FieldType × String := (yX11_reads, cX11_reads, 3, (some .int), RX11)
abbrev zX11_weighValues : MethodName × ByteArray × Nat × Option FieldType × String := (yX11_weighValues, cX11_weighValues, 1, none, RX11)
abbrev zX11_held : MethodName × ByteArray × Nat × Option FieldType × String := (yX11_held, cX11_held, 2, (some .int), RX11)
abbrev zX11_width : MethodName × ByteArray × Nat × Option FieldType × String := (yX11_width, cX11_width, 1, (some .int), RX11)
abbrev zX11_fewest : MethodName × ByteArray × Nat × Option FieldType × String := (yX11_fewest, cX11_fewest, 2, (some .int), RX11)
abbrev zX11_spill : MethodName × ByteArray × Nat × Option FieldType × String := (yX11_spill, cX11_spill, 2, (some .int), RX11)
abbrev zX11_rule : MethodName × ByteArray × Nat × Option FieldType × String := (yX11_rule, cX11_rule, 1, (some .int), RX11)
abbrev zX11_free : MethodName × ByteArray × Nat × Option FieldType × String := (yX11_free, cX11_free, 2, (some .int), RX11)
abbrev zX11_isNoRule : MethodName × ByteArray × Nat × Option FieldType × String := (yX11_isNoRule, cX11_isNoRule, 2, (some .boolean), RX11)
abbrev zX11_holds : MethodName × ByteArray × Nat × Option FieldType × String := (yX11_holds, cX11_holds, 3, (some .int), RX11)
abbrev zX11_fits : MethodName × ByteArray × Nat × Option FieldType × String := (yX11_fits, cX11_fits, 2, (some .int), RX11)
abbrev zX11_replace : MethodName × ByteArray × Nat × Option FieldType × String := (yX11_replace, cX11_replace, 4, (some .int), RX11)
abbrev zX11_replaceOnce : MethodName × ByteArray × Nat × Option FieldType × String := (yX11_replaceOnce, cX11_replaceOnce, 4, (some .boolean), RX11)
abbrev zX11_go : MethodName × ByteArray × Nat × Option FieldType × String := (yX11_go, cX11_go, 2, (some .int), RX11)
abbrev zX11_shortest : MethodName × ByteArray × Nat × Option FieldType × String := (yX11_shortest, cX11_shortest, 2, (some .int), RX11)
abbrev zX11_image : MethodName × ByteArray × Nat × Option FieldType × String := (yX11_image, cX11_image, 2, (some .int), RX11)
abbrev zX11_restore : MethodName × ByteArray × Nat × Option FieldType × String := (yX11_restore, cX11_restore, 2, (some .int), RX11)
abbrev zX11_told : MethodName × ByteArray × Nat × Option FieldType × String := (yX11_told, cX11_told, 2, (some .int), RX11)
abbrev zX12_init : MethodName × ByteArray × Nat × Option FieldType × String := (yX12_init, cX12_init, 2, none, RX12)
abbrev zX12_in : MethodName × ByteArray × Nat × Option FieldType × String := (yX12_in, cX12_in, 6, (some .boolean), RX12)
abbrev zX12_ones : MethodName × ByteArray × Nat × Option FieldType × String := (yX12_ones, cX12_ones, 3, (some .int), RX12)
abbrev zX12_isRegister : MethodName × ByteArray × Nat × Option FieldType × String := (yX12_isRegister, cX12_isRegister, 1, (some .boolean), RX12)
abbrev zX12_say : MethodName × ByteArray × Nat × Option FieldType × String := (yX12_say, cX12_say, 2, (some .int), RX12)
abbrev zX12_wipe : MethodName × ByteArray × Nat × Option FieldType × String := (yX12_wipe, cX12_wipe, 2, (some .int), RX12)
abbrev zX12_isOperand : MethodName × ByteArray × Nat × Option FieldType × String := (yX12_isOperand, cX12_isOperand, 1, (some .boolean), RX12)
abbrev zX12_isAct : MethodName × ByteArray × Nat × Option FieldType × String := (yX12_isAct, cX12_isAct, 1, (some .boolean), RX12)
abbrev zX12_stepOf : MethodName × ByteArray × Nat × Option FieldType × String := (yX12_stepOf, cX12_stepOf, 4, (some .int), RX12)
abbrev zX12_beginRead : MethodName × ByteArray × Nat × Option FieldType × String := (yX12_beginRead, cX12_beginRead, 2, none, RX12)
abbrev zX12_faultOf : MethodName × ByteArray × Nat × Option FieldType × String := (yX12_faultOf, cX12_faultOf, 4, (some .int), RX12)
abbrev zX12_fault : MethodName × ByteArray × Nat × Option FieldType × String := (yX12_fault, cX12_fault, 2, (some .int), RX12)
abbrev zX12_operandOf : MethodName × ByteArray × Nat × Option FieldType × String := (yX12_operandOf, cX12_operandOf, 1, (some .int), RX12)
abbrev zX12_readSteps : MethodName × ByteArray × Nat × Option FieldType × String := (yX12_readSteps, cX12_readSteps, 6, (some .int), RX12)
abbrev zX12_code : MethodName × ByteArray × Nat × Option FieldType × String := (yX12_code, cX12_code, 2, (some .int), RX12)
abbrev zX12_want : MethodName × ByteArray × Nat × Option FieldType × String := (yX12_want, cX12_want, 3, (some .int), RX12)
abbrev zX12_isStep : MethodName × ByteArray × Nat × Option FieldType × String := (yX12_isStep, cX12_isStep, 2, (some .boolean), RX12)
abbrev zX12_isPlace : MethodName × ByteArray × Nat × Option FieldType × String := (yX12_isPlace, cX12_isPlace, 2, (some .boolean), RX12)
abbrev zX12_step : MethodName × ByteArray × Nat × Option FieldType × String := (yX12_step, cX12_step, 3, (some .int), RX12)
abbrev zX12_scale : MethodName × ByteArray × Nat × Option FieldType × String := (yX12_scale, cX12_scale, 1, (some .int), RX12)
abbrev zX12_valueOf : MethodName × ByteArray × Nat × Option FieldType × String := (yX12_valueOf, cX12_valueOf, 2, (some .int), RX12)
abbrev zX12_acted : MethodName × ByteArray × Nat × Option FieldType × String := (yX12_acted, cX12_acted, 3, (some .int), RX12)
abbrev zX12_done : MethodName × ByteArray × Nat × Option FieldType × String := (yX12_done, cX12_done, 7, (some .int), RX12)
abbrev zX12_runOf : MethodName × ByteArray × Nat × Option FieldType × String := (yX12_runOf, cX12_runOf, 5, (some .int), RX12)
abbrev zX12_run : MethodName × ByteArray × Nat × Option FieldType × String := (yX12_run, cX12_run, 3, (some .int), RX12)
abbrev zX12_keep : MethodName × ByteArray × Nat × Option FieldType × String := (yX12_keep, cX12_keep, 2, (some .int), RX12)
abbrev zX12_areAlike : MethodName × ByteArray × Nat × Option FieldType × String := (yX12_areAlike, cX12_areAlike, 6, (some .boolean), RX12)
abbrev zX12_unlike : MethodName × ByteArray × Nat × Option FieldType × String := (yX12_unlike, cX12_unlike, 4, (some .int), RX12)
abbrev zX12_bitOf : MethodName × ByteArray × Nat × Option FieldType × String := (yX12_bitOf, cX12_bitOf, 1, (some .int), RX12)
abbrev zX12_liveAt : MethodName × ByteArray × Nat × Option FieldType × String := (yX12_liveAt, cX12_liveAt, 4, (some .int), RX12)
abbrev zX12_live : MethodName × ByteArray × Nat × Option FieldType × String := (yX12_live, cX12_live, 2, (some .int), RX12)
abbrev zX12_isDead : MethodName × ByteArray × Nat × Option FieldType × String := (yX12_isDead, cX12_isDead, 2, (some .boolean), RX12)
abbrev zX12_knownHere : MethodName × ByteArray × Nat × Option FieldType × String := (yX12_knownHere, cX12_knownHere, 2, (some .int), RX12)
abbrev zX12_knownOf : MethodName × ByteArray × Nat × Option FieldType × String := (yX12_knownOf, cX12_knownOf, 6, (some .int), RX12)
abbrev zX12_known : MethodName × ByteArray × Nat × Option FieldType × String := (yX12_known, cX12_known, 3, (some .int), RX12)
abbrev zX12_sortOf : MethodName × ByteArray × Nat × Option FieldType × String := (yX12_sortOf, cX12_sortOf, 2, (some .int), RX12)
abbrev zX12_madeOf : MethodName × ByteArray × Nat × Option FieldType × String := (yX12_madeOf, cX12_madeOf, 7, (some .int), RX12)
abbrev zX12_beginSorts : MethodName × ByteArray × Nat × Option FieldType × String := (yX12_beginSorts, cX12_beginSorts, 2, none, RX12)
abbrev zX12_sortMade : MethodName × ByteArray × Nat × Option FieldType × String := (yX12_sortMade, cX12_sortMade, 4, (some .int), RX12)
abbrev zX12_laySorts : MethodName × ByteArray × Nat × Option FieldType × String := (yX12_laySorts, cX12_laySorts, 3, none, RX12)
abbrev zX12_sort : MethodName × ByteArray × Nat × Option FieldType × String := (yX12_sort, cX12_sort, 3, (some .int), RX12)
abbrev zX12_holderOf : MethodName × ByteArray × Nat × Option FieldType × String := (yX12_holderOf, cX12_holderOf, 5, (some .int), RX12)
abbrev zX12_bad : MethodName × ByteArray × Nat × Option FieldType × String := (yX12_bad, cX12_bad, 4, (some .int), RX12)
abbrev zX12_knownAs : MethodName × ByteArray × Nat × Option FieldType × String := (yX12_knownAs, cX12_knownAs, 4, (some .int), RX12)
abbrev zX12_mendKnown : MethodName × ByteArray × Nat × Option FieldType × String := (yX12_mendKnown, cX12_mendKnown, 3, (some .int), RX12)
abbrev zX12_mendDigits : MethodName × ByteArray × Nat × Option FieldType × String := (yX12_mendDigits, cX12_mendDigits, 3, (some .int), RX12)
abbrev zX12_mendNeedless : MethodName × ByteArray × Nat × Option FieldType × String := (yX12_mendNeedless, cX12_mendNeedless, 3, (some .int), RX12)
abbrev zX12_mendDead : MethodName × ByteArray × Nat × Option FieldType × String := (yX12_mendDead, cX12_mendDead, 3, (some .int), RX12)
abbrev zX12_mendBy : MethodName × ByteArray × Nat × Option FieldType × String := (yX12_mendBy, cX12_mendBy, 2, (some .int), RX12)
abbrev zX12_mend : MethodName × ByteArray × Nat × Option FieldType × String := (yX12_mend, cX12_mend, 2, (some .int), RX12)
abbrev zX12_clean : MethodName × ByteArray × Nat × Option FieldType × String := (yX12_clean, cX12_clean, 3, (some .int), RX12)
abbrev zX12_doesRead : MethodName × ByteArray × Nat × Option FieldType × String := (yX12_doesRead, cX12_doesRead, 3, (some .boolean), RX12)
abbrev zX12_makerOf : MethodName × ByteArray × Nat × Option FieldType × String := (yX12_makerOf, cX12_makerOf, 5, (some .int), RX12)
abbrev zX12_sourcesOf : MethodName × ByteArray × Nat × Option FieldType × String := (yX12_sourcesOf, cX12_sourcesOf, 6, (some .int), RX12)
abbrev zX12_clashesOf : MethodName × ByteArray × Nat × Option FieldType × String := (yX12_clashesOf, cX12_clashesOf, 4, (some .int), RX12)
abbrev zX12_behind : MethodName × ByteArray × Nat × Option FieldType × String := (yX12_behind, cX12_behind, 2, (some .int), RX12)
abbrev zX12_findBehind : MethodName × ByteArray × Nat × Option FieldType × String := (yX12_findBehind, cX12_findBehind, 2, none, RX12)
abbrev zX12_orders : MethodName × ByteArray × Nat × Option FieldType × String := (yX12_orders, cX12_orders, 5, (some .int), RX12)
abbrev zX12_set : MethodName × ByteArray × Nat × Option FieldType × String := (yX12_set, cX12_set, 4, (some .int), RX12)
abbrev zX12_delayOf : MethodName × ByteArray × Nat × Option FieldType × String := (yX12_delayOf, cX12_delayOf, 2, (some .int), RX12)
abbrev zX12_layOrder : MethodName × ByteArray × Nat × Option FieldType × String := (yX12_layOrder, cX12_layOrder, 2, none, RX12)
abbrev zX12_findTicks : MethodName × ByteArray × Nat × Option FieldType × String := (yX12_findTicks, cX12_findTicks, 8, (some .int), RX12)
abbrev zX12_tick : MethodName × ByteArray × Nat × Option FieldType × String := (yX12_tick, cX12_tick, 2, (some .int), RX12)
abbrev zX12_time : MethodName × ByteArray × Nat × Option FieldType × String := (yX12_time, cX12_time, 1, (some .int), RX12)
abbrev zX12_nextOrder : MethodName × ByteArray × Nat × Option FieldType × String := (yX12_nextOrder, cX12_nextOrder, 6, (some .boolean), RX12)
abbrev zX12_isLawful : MethodName × ByteArray × Nat × Option FieldType × String := (yX12_isLawful, cX12_isLawful, 6, (some .boolean), RX12)
abbrev zX12_valueIn : MethodName × ByteArray × Nat × Option FieldType × String := (yX12_valueIn, cX12_valueIn, 4, (some .int), RX12)
abbrev zX12_reads : MethodName × ByteArray × Nat × Option FieldType × String := (yX12_reads, cX12_reads, 4, (some .int), RX12)
abbrev zX12_holdFrom : MethodName × ByteArray × Nat × Option FieldType × String := (yX12_holdFrom, cX12_holdFrom, 5, none, RX12)
abbrev zX12_findHeld : MethodName × ByteArray × Nat × Option FieldType × String := (yX12_findHeld, cX12_findHeld, 6, none, RX12)
abbrev zX12_widthOf : MethodName × ByteArray × Nat × Option FieldType × String := (yX12_widthOf, cX12_widthOf, 3, (some .int), RX12)
abbrev zX12_findBest : MethodName × ByteArray × Nat × Option FieldType × String := (yX12_findBest, cX12_findBest, 6, (some .int), RX12)
abbrev zX12_bestAt : MethodName × ByteArray × Nat × Option FieldType × String := (yX12_bestAt, cX12_bestAt, 4, (some .int), RX12)
abbrev zX12_quickest : MethodName × ByteArray × Nat × Option FieldType × String := (yX12_quickest, cX12_quickest, 2, (some .int), RX12)
abbrev zX12_held : MethodName × ByteArray × Nat × Option FieldType × String := (yX12_held, cX12_held, 2, (some .int), RX12)
abbrev zX12_width : MethodName × ByteArray × Nat × Option FieldType × String := (yX12_width, cX12_width, 1, (some .int), RX12)
abbrev zX12_fewest : MethodName × ByteArray × Nat × Option FieldType × String := (yX12_fewest, cX12_fewest, 2, (some .int), RX12)
abbrev zX12_readingsOf : MethodName × ByteArray × Nat × Option FieldType × String := (yX12_readingsOf, cX12_readingsOf, 6, (some .int), RX12)
abbrev zX12_spill : MethodName × ByteArray × Nat × Option FieldType × String := (yX12_spill, cX12_spill, 7, (some .int), RX12)
abbrev zX12_at : MethodName × ByteArray × Nat × Option FieldType × String := (yX12_at, cX12_at, 4, (some .int), RX12)
abbrev zX12_putPart : MethodName × ByteArray × Nat × Option FieldType × String := (yX12_putPart, cX12_putPart, 5, none, RX12)
abbrev zX12_rule : MethodName × ByteArray × Nat × Option FieldType × String := (yX12_rule, cX12_rule, 2, (some .int), RX12)
abbrev zX12_free : MethodName × ByteArray × Nat × Option FieldType × String := (yX12_free, cX12_free, 2, (some .int), RX12)
abbrev zX12_isRule : MethodName × ByteArray × Nat × Option FieldType × String := (yX12_isRule, cX12_isRule, 2, (some .boolean), RX12)
abbrev zX12_runPart : MethodName × ByteArray × Nat × Option FieldType × String := (yX12_runPart, cX12_runPart, 7, (some .int), RX12)
abbrev zX12_holds : MethodName × ByteArray × Nat × Option FieldType × String := (yX12_holds, cX12_holds, 3, (some .int), RX12)
abbrev zX12_isCalled : MethodName × ByteArray × Nat × Option FieldType × String := (yX12_isCalled, cX12_isCalled, 4, (some .boolean), RX12)
abbrev zX12_isNamed : MethodName × ByteArray × Nat × Option FieldType × String := (yX12_isNamed, cX12_isNamed, 3, (some .boolean), RX12)
abbrev zX12_isAt : MethodName × ByteArray × Nat × Option FieldType × String := (yX12_isAt, cX12_isAt, 5, (some .boolean), RX12)
abbrev zX12_placeOfRule : MethodName × ByteArray × Nat × Option FieldType × String := (yX12_placeOfRule, cX12_placeOfRule, 3, (some .int), RX12)
abbrev zX12_fits : MethodName × ByteArray × Nat × Option FieldType × String := (yX12_fits, cX12_fits, 2, (some .int), RX12)
abbrev zX12_isInRight : MethodName × ByteArray × Nat × Option FieldType × String := (yX12_isInRight, cX12_isInRight, 5, (some .boolean), RX12)
abbrev zX12_calledAs : MethodName × ByteArray × Nat × Option FieldType × String := (yX12_calledAs, cX12_calledAs, 2, (some .int), RX12)
abbrev zX12_move : MethodName × ByteArray × Nat × Option FieldType × String := (yX12_move, cX12_move, 3, none, RX12)
abbrev zX12_put : MethodName × ByteArray × Nat × Option FieldType × String := (yX12_put, cX12_put, 6, none, RX12)
abbrev zX12_hasRoom : MethodName × ByteArray × Nat × Option FieldType × String := (yX12_hasRoom, cX12_hasRoom, 2, (some .boolean), RX12)
abbrev zX12_replace : MethodName × ByteArray × Nat × Option FieldType × String := (yX12_replace, cX12_replace, 3, (some .int), RX12)
abbrev zX12_go : MethodName × ByteArray × Nat × Option FieldType × String := (yX12_go, cX12_go, 5, (some .int), RX12)
abbrev zX12_digitOf : MethodName × ByteArray × Nat × Option FieldType × String := (yX12_digitOf, cX12_digitOf, 2, (some .int), RX12)
abbrev zX12_tried : MethodName × ByteArray × Nat × Option FieldType × String := (yX12_tried, cX12_tried, 4, (some .int), RX12)
abbrev zX12_signOf : MethodName × ByteArray × Nat × Option FieldType × String := (yX12_signOf, cX12_signOf, 1, (some .int), RX12)
abbrev zX12_doneSmall : MethodName × ByteArray × Nat × Option FieldType × String := (yX12_doneSmall, cX12_doneSmall, 8, (some .int), RX12)
abbrev zX12_isSmall : MethodName × ByteArray × Nat × Option FieldType × String := (yX12_isSmall, cX12_isSmall, 3, (some .boolean), RX12)
abbrev zX12_layStep : MethodName × ByteArray × Nat × Option FieldType × String := (yX12_layStep, cX12_layStep, 4, none, RX12)
abbrev zX12_isDue : MethodName × ByteArray × Nat × Option FieldType × String := (yX12_isDue, cX12_isDue, 5, (some .boolean), RX12)
abbrev zX12_tryAll : MethodName × ByteArray × Nat × Option FieldType × String := (yX12_tryAll, cX12_tryAll, 5, (some .boolean), RX12)
abbrev zX12_shortest : MethodName × ByteArray × Nat × Option FieldType × String := (yX12_shortest, cX12_shortest, 4, (some .int), RX12)
abbrev zX12_pass : MethodName × ByteArray × Nat × Option FieldType × String := (yX12_pass, cX12_pass, 3, (some .int), RX12)
abbrev zX12_passAll : MethodName × ByteArray × Nat × Option FieldType × String := (yX12_passAll, cX12_passAll, 2, none, RX12)
abbrev zX12_image : MethodName × ByteArray × Nat × Option FieldType × String := (yX12_image, cX12_image, 2, (some .int), RX12)
abbrev zX12_restore : MethodName × ByteArray × Nat × Option FieldType × String := (yX12_restore, cX12_restore, 2, (some .int), RX12)
abbrev zX12_told : MethodName × ByteArray × Nat × Option FieldType × String := (yX12_told, cX12_told, 2, (some .int), RX12)
abbrev zJ9_max_7cf53 : MethodName × ByteArray × Nat × Option FieldType × String := (yJ9_max_7cf53, cJ9_max_7cf53, 2, (some .int), RJ9)
abbrev zJ9_min_7cf53 : MethodName × ByteArray × Nat × Option FieldType × String := (yJ9_min_7cf53, cJ9_min_7cf53, 2, (some .int), RJ9)
abbrev zL_law : MethodName × ByteArray × Nat × Option FieldType × String := (yL_law, cL_law, 4, some .boolean, RL)
def fk : Nat → List Nat := fun c => match c with
  | 0 => [2, 2, 2, 2, 2, 2, 2, 0, 0, 0]
  | 1 => [2, 0]
  | 2 => [2, 2, 2, 2, 0, 0]
  | 3 => [2, 2, 2, 2, 2, 2, 2, 2, 0]
  | 4 => [2, 2, 2, 2, 2, 2, 2, 2, 2, 2, 2, 0, 0, 0]
  | 5 => [2, 2, 2, 2, 2, 2]
  | 6 => [2]
  | 7 => [2, 2, 2, 0, 0, 0, 0, 0, 0, 0]
  | 8 => [2, 1, 1, 1]
  | 9 => [2, 2, 2, 0]
  | 10 => [2, 2, 2, 2, 2, 0, 0]
  | 11 => [2, 2, 2, 2, 2, 2, 2, 2, 2, 2, 2, 2, 2, 2]
  | 12 => [2, 0, 0, 0, 0, 2, 2, 2, 2, 0, 2, 0, 0, 0, 2, 2, 2, 2, 2, 2, 2, 2, 2, 0, 0, 2, 2, 2, 2, 2, 2, 2, 2, 2, 2, 2, 2, 2, 2, 0, 2, 2, 2, 2, 2, 2, 0, 0]
  | _ => []
end
section
/-- the kind and length of each cell, in the order in which the law's run makes them -/
def shL : List (Nat × Nat) := [(11, 14)]
def sh (k : Nat) : Nat × Nat := shL.getD k (99, 0)
end
section
/-! THE FLAT WORLD: cells by number (in the order of their making), a memory of ints, of longs, of references -/
abbrev AV : Type := Int32 ⊕ (Int64 ⊕ Option Nat)
abbrev vi (x : Int32) : AV := Sum.inl x
abbrev vl (x : Int64) : AV := Sum.inr (Sum.inl x)
abbrev vq (r : Option Nat) : AV := Sum.inr (Sum.inr r)
abbrev vr (k : Nat) : AV := Sum.inr (Sum.inr (some k))
abbrev Mm : Type := Nat × (Nat → Nat → Int32) × (Nat → Nat → Int64) × (Nat → Nat → Option Nat)
abbrev ZZ : Type := MethodName × ByteArray × Nat × Option FieldType × String
/-- launch, classes' numbers, slots, array classes, the first address, special addresses, the script's length and ints -/
abbrev GG : Type := Launch × (Nat → ClassId) × (Nat → Nat → Nat) × (Nat → ClassId) × Nat × (Nat → Nat) × Nat × (Nat → Int32)
abbrev gl (G : GG) : Launch := G.1
abbrev gC (G : GG) : Nat → ClassId := G.2.1
abbrev gI (G : GG) : Nat → Nat → Nat := G.2.2.1
abbrev gY (G : GG) : Nat → ClassId := G.2.2.2.1
abbrev gB (G : GG) : Nat := G.2.2.2.2.1
abbrev gS (G : GG) : Nat → Nat := G.2.2.2.2.2.1
abbrev gL (G : GG) : Nat := G.2.2.2.2.2.2.1
abbrev gX (G : GG) : Nat → Int32 := G.2.2.2.2.2.2.2
def gA (G : GG) : Nat → Prop := fun q => gB G ≤ q
def ad (G : GG) (k : Nat) : Nat := if k < 1000 then gB G + k else gS G (k - 1000)
def cv (G : GG) (v : AV) : Value := match v with
  | .inl x => .int x
  | .inr (.inl x) => .long x
  | .inr (.inr r) => va_rf (r.map (ad G))
theorem ad_lt {G : GG} {k : Nat} (h : k < 1000) : ad G k = gB G + k := if_pos h
def fvl (G : GG) (M : Mm) (k i kd : Nat) : Value := if kd = 0 then .int (M.2.1 k i) else if kd = 1 then .long (M.2.2.1 k i) else va_rf ((M.2.2.2 k i).map (ad G))
def fls (G : GG) (M : Mm) (k c : Nat) : List Value := (List.range (fk c).length).map (fun i => fvl G M k i ((fk c).getD i 0))
def cel (G : GG) (M : Mm) (k : Nat) : va_E :=
  if (sh k).1 < 13 then .inr ((sh k).1, fls G M k (sh k).1)
  else if (sh k).1 = 13 then .inl (gY G 0, (sh k).2, .inl (M.2.1 k))
  else if (sh k).1 = 14 then .inl (gY G 1, (sh k).2, .inr (.inl (M.2.2.1 k)))
  else if (sh k).1 = 15 then .inl (gY G 2, (sh k).2, .inl (M.2.1 k))
  else .inl (gY G ((sh k).1 - 13), (sh k).2, .inr (.inr (.inr (.inr (fun i => (M.2.2.2 k i).map (ad G))))))
def wsG (G : GG) (M : Mm) : va_W := (List.range M.1).map (fun k => (gB G + k, cel G M k))
theorem wsG_at {G : GG} {M : Mm} {k : Nat} (h : k < M.1) : (wsG G M)[k]? = some (gB G + k, cel G M k) := by
  simp [wsG, h]
theorem wsG_lt {G : GG} {M : Mm} {k : Nat} {q : Nat × va_E} (h : (wsG G M)[k]? = some q) : k < M.1 ∧ q = (gB G + k, cel G M k) := by
  have h1 : k < M.1 := by
    have := (List.getElem?_eq_some_iff.mp h).1
    simpa [wsG] using this
  refine ⟨h1, ?_⟩
  rw [wsG_at h1] at h
  exact (Option.some.inj h).symm
theorem wsG_D (G : GG) (M : Mm) : va_D (gA G) (wsG G M) := by
  refine ⟨fun i j p q hp hq he => ?_, fun k q hq => ?_⟩
  · obtain ⟨_, rfl⟩ := wsG_lt hp
    obtain ⟨_, rfl⟩ := wsG_lt hq
    dsimp only at he
    omega
  · obtain ⟨_, rfl⟩ := wsG_lt hq
    exact Nat.le_add_right _ _
theorem wsG_set {G : GG} {M M' : Mm} {k : Nat} {e : va_E} (hk : k < M.1) (hn : M'.1 = M.1) (he : cel G M' k = e) (ho : ∀ j, j ≠ k → cel G M' j = cel G M j) : (wsG G M).set k (gB G + k, e) = wsG G M' := by
  apply List.ext_getElem?
  intro j
  rw [List.getElem?_set]
  by_cases hj : k = j
  · subst hj
    rw [if_pos rfl, if_pos (by simpa [wsG] using hk), wsG_at (by omega), he]
  · rw [if_neg hj]
    by_cases hl : j < M.1
    · rw [wsG_at hl, wsG_at (by omega), ho j (fun q => hj q.symm)]
    · rw [List.getElem?_eq_none (by simp [wsG]; omega), List.getElem?_eq_none (by simp [wsG]; omega)]
theorem wsG_push {G : GG} {M M' : Mm} {e : va_E} (hn : M'.1 = M.1 + 1) (he : cel G M' M.1 = e) (ho : ∀ j, j < M.1 → cel G M' j = cel G M j) : wsG G M ++ [(gB G + M.1, e)] = wsG G M' := by
  apply List.ext_getElem?
  intro j
  have hz : (wsG G M).length = M.1 := by simp [wsG]
  by_cases hl : j < M.1
  · rw [List.getElem?_append_left (by omega), wsG_at hl, wsG_at (by omega), ho j hl]
  · rw [List.getElem?_append_right (by omega), hz]
    by_cases h2 : j = M.1
    · subst h2
      rw [Nat.sub_self, wsG_at (by omega), he]
      rfl
    · rw [List.getElem?_eq_none (by simp; omega), List.getElem?_eq_none (by simp [wsG]; omega)]
theorem fls_at {G : GG} {M : Mm} {k c i : Nat} (hi : i < (fk c).length) : (fls G M k c)[i]? = some (fvl G M k i ((fk c).getD i 0)) := by
  simp [fls, hi]
theorem fls_len {G : GG} {M : Mm} {k c : Nat} : (fls G M k c).length = (fk c).length := by simp [fls]
theorem fls_set {G : GG} {M M' : Mm} {k c i : Nat} {v : Value} (hi : i < (fk c).length) (hv : fvl G M' k i ((fk c).getD i 0) = v) (ho : ∀ j, j ≠ i → ∀ kd, fvl G M' k j kd = fvl G M k j kd) : (fls G M k c).set i v = fls G M' k c := by
  apply List.ext_getElem?
  intro j
  rw [List.getElem?_set]
  by_cases hj : i = j
  · subst hj
    rw [if_pos rfl, if_pos (by rw [fls_len]; exact hi), fls_at hi, hv]
  · rw [if_neg hj]
    by_cases hl : j < (fk c).length
    · rw [fls_at hl, fls_at hl, ho j (fun q => hj q.symm)]
    · rw [List.getElem?_eq_none (by rw [fls_len]; omega), List.getElem?_eq_none (by rw [fls_len]; omega)]
theorem cel_obj {G : GG} {M : Mm} {k c N : Nat} (hs : sh k = (c, N)) (hc : c < 13) : cel G M k = .inr (c, fls G M k c) := by
  unfold cel
  rw [hs]
  exact if_pos hc
theorem cel_int {G : GG} {M : Mm} {k N : Nat} (hs : sh k = (13, N)) : cel G M k = .inl (gY G 0, N, .inl (M.2.1 k)) := by
  unfold cel; rw [hs]; rfl
theorem cel_long {G : GG} {M : Mm} {k N : Nat} (hs : sh k = (14, N)) : cel G M k = .inl (gY G 1, N, .inr (.inl (M.2.2.1 k))) := by
  unfold cel; rw [hs]; rfl
theorem cel_bool {G : GG} {M : Mm} {k N : Nat} (hs : sh k = (15, N)) : cel G M k = .inl (gY G 2, N, .inl (M.2.1 k)) := by
  unfold cel; rw [hs]; rfl
theorem cel_ref {G : GG} {M : Mm} {k c N : Nat} (hs : sh k = (c, N)) (hc : 15 < c) : cel G M k = .inl (gY G (c - 13), N, .inr (.inr (.inr (.inr (fun i => (M.2.2.2 k i).map (ad G)))))) := by
  unfold cel; rw [hs]
  dsimp only
  rw [if_neg (by omega), if_neg (by omega), if_neg (by omega), if_neg (by omega)]
theorem cel_congr {G : GG} {M M' : Mm} {k : Nat} (h1 : M'.2.1 k = M.2.1 k) (h2 : M'.2.2.1 k = M.2.2.1 k) (h3 : M'.2.2.2 k = M.2.2.2 k) : cel G M' k = cel G M k := by
  unfold cel fls fvl
  simp only [h1, h2, h3]
/-- memory rows -/
def sr {α : Type} (I : Nat → Nat → α) (k : Nat) (f : Nat → α) : Nat → Nat → α := fun j => if j = k then f else I j
theorem sr_eq {α : Type} {I : Nat → Nat → α} {k : Nat} {f : Nat → α} : sr I k f k = f := if_pos rfl
theorem sr_ne {α : Type} {I : Nat → Nat → α} {k j : Nat} {f : Nat → α} (h : j ≠ k) : sr I k f j = I j := if_neg h
def up {α : Type} (f : Nat → α) (i : Nat) (x : α) : Nat → α := fun j => if j = i then x else f j
theorem up_eq {α : Type} {f : Nat → α} {i : Nat} {x : α} : up f i x i = x := if_pos rfl
theorem up_ne {α : Type} {f : Nat → α} {i j : Nat} {x : α} (h : j ≠ i) : up f i x j = f j := if_neg h
def actsF : Nat → Int32 := fun j => match j with | 0 => 43 | 1 => 45 | 2 => 42 | _ => 109
def movesF : Nat → Int32 := fun j => match j with | 0 => 0 | 1 => 100 | 2 => 200 | 3 => 201 | 4 => 202 | 5 => 211 | 6 => 212 | 7 => 301 | 8 => 302 | 9 => 310 | 10 => 312 | 11 => 400 | 12 => 401 | 13 => 411 | 14 => 501 | 15 => 502 | _ => 512
def highF : Nat → Int64 := fun j => match j with | 0 => -71777214294589696 | 1 => -281470681808896 | _ => -4294967296
def lowF : Nat → Int64 := fun j => match j with | 0 => -6148914691236517206 | 1 => -3689348814741910324 | _ => -1085102592571150096
def isNest (w : Cond) : Bool := match w with
  | .fieldLinkNest .. => true
  | .methodLinkNest .. => true
  | _ => false
def BIG : List Cond := lw_tbl.filter goodWord
def NST : List Cond := lw_tbl.filter isNest
def tysG (G : GG) : List (ClassId × FieldType) := [(gY G 0, .int), (gY G 1, .long), (gY G 2, .boolean), (gY G 3, .object "FewerSteps$Desk"), (gY G 4, .object "FewerSteps$Rows"), (gY G 5, .object "FewerSteps$Rule")]
def ST (G : GG) (U : State) : Prop :=
  (va_Z "FewerSteps" "ACTS" "[I" (.ref (gS G 1)) (gA G) U U.heap ∧ va_T .int (gS G 1) 4 (fun j => .int (actsF j)) (gA G) U U.heap) ∧
  (va_Z "FewerSteps$Search" "MOVES" "[I" (.ref (gS G 2)) (gA G) U U.heap ∧ va_T .int (gS G 2) 17 (fun j => .int (movesF j)) (gA G) U U.heap) ∧
  (va_Z "FewerSteps$Rows" "HIGH_DIGIT" "[J" (.ref (gS G 3)) (gA G) U U.heap ∧ va_T .long (gS G 3) 3 (fun j => .long (highF j)) (gA G) U U.heap) ∧
  (va_Z "FewerSteps$Rows" "LOW_DIGIT" "[J" (.ref (gS G 4)) (gA G) U U.heap ∧ va_T .long (gS G 4) 3 (fun j => .long (lowF j)) (gA G) U U.heap) ∧
  (va_X (gS G 0) (gL G) (gX G) U U.heap ∧ gS G 0 < gB G)
def KU (G : GG) (U : State) : Prop := va_K (gC G, gI G) vwCl (tysG G) U ∧ (∀ w ∈ NST, va_Nw w U) ∧ (va_AO "FewerSteps$Desk" U ∧ va_AO "FewerSteps$Rows" U ∧ va_AO "FewerSteps$Rule" U) ∧ ST G U ∧ gB G ≤ U.heap.size
theorem nest_moved {w : Cond} (hw : isNest w = true) {s U : State} (hW : s.WarmedH U.vm) (h : va_Nw w s) : va_Nw w U := by
  cases w <;> simp [isNest] at hw
  · exact va_Nw.warmM hW h
  · exact va_Nw.warmF hW h
theorem KU_moved {G : GG} {s U : State} (hW : s.WarmedH U.vm) (hz : s.heap.size ≤ U.heap.size) (hh : ∀ q : Nat, q < s.heap.size → ¬ gA G q → U.heap[q]? = s.heap[q]?) (h : KU G s) : KU G U := by
  obtain ⟨h1, h2, ⟨h3, h4, h5⟩, ⟨⟨a1, b1⟩, ⟨a2, b2⟩, ⟨a3, b3⟩, ⟨a4, b4⟩, hx, hx2⟩, hB⟩ := h
  have al := hW.alike
  refine ⟨va_K.moved al h1, fun w hw => nest_moved (List.mem_filter.mp hw).2 hW (h2 w hw), ⟨h3.moved al, h4.moved al, h5.moved al⟩, ⟨⟨(a1.moved al).kept hh, (b1.moved al).kept hh⟩, ⟨(a2.moved al).kept hh, (b2.moved al).kept hh⟩, ⟨(a3.moved al).kept hh, (b3.moved al).kept hh⟩, ⟨(a4.moved al).kept hh, (b4.moved al).kept hh⟩, (hx.moved al).kept (hh _ (Nat.lt_of_lt_of_le hx2 hB) (by unfold gA; omega)), hx2⟩, Nat.le_trans hB hz⟩
theorem KU_calling {G : GG} {U : State} {g : JFrame} {mk : MethodId} {a : Array Value} (h : KU G U) : KU G (U.calling g mk a) :=
  KU_moved (s := U) (U := U.calling g mk a) (State.WarmedH.refl U) (Nat.le_refl _) (fun _ _ _ => rfl) h
end
section
/-! THE JUDGEMENTS: X (a frame of a method runs to its end with Q), Y (a method's contract) -/
def wz (z : ZZ) : List Cond := Cond.code z.1 z.2.1 z.2.2.1 z.2.2.2.1 :: BIG
def rmz (d mc ms : Nat) : Room := { frames := d, cells := mc, slots := ms, locals := 64 * d }
def WU (G : GG) (M : Mm) (U : State) : Prop := KU G U ∧ va_P (gC G, gI G) vwCl (wsG G M) U.heap ∧ U.heap.size = gB G + M.1 ∧ M.1 ≤ 1000
def QQ (G : GG) (n : Nat) (Q : Option AV → Mm → Prop) : Array Value → State → Outcome → State → Prop := fun _ st oc t => (∃ (r : Option AV) (M' : Mm), oc = .returned (r.map (cv G)) ∧ Q r M' ∧ M'.1 = n ∧ WU G M' t) ∧ va_F (gA G) st t
def Y (G : GG) (d : Nat) (z : ZZ) (av : List AV) (M : Mm) (mc ms : Nat) (Q : Option AV → Mm → Prop) : Prop :=
  Met (gl G) z.1 (wz z) (rmz d mc ms) (va_Pc (av.map (cv G)) (WU G M)) (QQ G (M.1 + mc) Q) mc ms (gA G)
def CX (G : GG) (z : ZZ) (p : Program) (s : State) (m : MethodId) (args : Array Value) (meth : Method) (c : Code) : Prop :=
  p.tables.exec = Jvm.exec ∧ c.code = z.2.1 ∧ meth.sig.returnType = z.2.2.2.1 ∧ meth.locks = false ∧ c.maxLocals = z.2.2.1 ∧ s.vm.findClass z.2.2.2.2 = some m.cls ∧ (∀ w ∈ wz z, w.before args s = true) ∧ meth.name = z.1.name ∧ KU G s
def HX (G : GG) (M : Mm) (s : State) (H : Heap) (locs : List Loc) (cells : Nat) : Prop :=
  va_P (gC G, gI G) vwCl (wsG G M) H ∧ s.heap.size + cells = gB G + M.1 ∧ M.1 ≤ 1000 ∧ va_S (gA G) s.heap H locs
def LX (G : GG) (z : ZZ) (lv : List (Nat × AV)) (ls : Array Slot) : Prop := lv_has ls z.2.2.1 (lv.map (fun q => (q.1, cv G q.2)))
def X (G : GG) (d : Nat) (z : ZZ) (pc : Nat) (lv : List (Nat × AV)) (st : List AV) (M : Mm) (rc rs : Nat) (Q : Option AV → Mm → Prop) : Prop :=
  ∀ (p : Program) (e : Env) (s : State) (m : MethodId) (args : Array Value) (below : List Frame) (meth : Method) (c : Code) (H : Heap) (locs : List Loc) (ls : Array Slot) (cells slots : Nat),
    CX G z p s m args meth c → HX G M s H locs cells → LX G z lv ls →
    W p (gl G) e (rmz d (cells + rc) (slots + rs)) s m args below meth c H locs cells slots (MQ below (QQ G (M.1 + rc) Q) args s (cells + rc) (slots + rs) (gA G)) (F0 m pc ls (st.map (cv G)))
section XR
variable {G : GG} {d : Nat} {z : ZZ} {pc : Nat} {lv : List (Nat × AV)} {st : List AV} {M : Mm} {rc rs : Nat} {Q : Option AV → Mm → Prop}
def lk (lv : List (Nat × AV)) (i : Nat) : Option AV := match lv with
  | [] => none
  | q :: r => if q.1 = i then some q.2 else lk r i
def lst (lv : List (Nat × AV)) (i : Nat) (v : AV) : List (Nat × AV) := match lv with
  | [] => [(i, v)]
  | q :: r => if q.1 = i then (i, v) :: r else q :: lst r i v
theorem lk_mem {lv : List (Nat × AV)} {i : Nat} {v : AV} (h : lk lv i = some v) : (i, v) ∈ lv := by
  induction lv with
  | nil => cases h
  | cons q r ih =>
    unfold lk at h
    by_cases hq : q.1 = i
    · rw [if_pos hq] at h
      cases h
      subst hq
      exact List.mem_cons_self
    · rw [if_neg hq] at h
      exact List.mem_cons_of_mem _ (ih h)
theorem LX_at {ls : Array Slot} (h : LX G z lv ls) {i : Nat} {v : AV} (hk : lk lv i = some v) : ls[i]? = some (.val (cv G v)) :=
  h.2.2 (i, cv G v) (List.mem_map.mpr ⟨(i, v), lk_mem hk, rfl⟩)
theorem LX_size {ls : Array Slot} (h : LX G z lv ls) : ls.size = z.2.2.1 := h.1
/-- the known locals' numbers are all unlike, no long stands ahead of a stored one -/
def lok (lv : List (Nat × AV)) : Bool := match lv with
  | [] => true
  | q :: r => r.all (fun p => !(p.1 == q.1)) && lok r
def isL (v : AV) : Bool := match v with
  | .inr (.inl _) => true
  | _ => false
theorem cat_isL (v : AV) : (cv G v).category = (if isL v then 2 else 1) := by
  rcases v with x | x | r
  · rfl
  · rfl
  · cases r <;> rfl
theorem lst_mem {lv : List (Nat × AV)} {i : Nat} {v : AV} (hok : lok lv = true) : ∀ q ∈ lst lv i v, q = (i, v) ∨ (q ∈ lv ∧ q.1 ≠ i) := by
  induction lv with
  | nil =>
    intro q hq
    exact Or.inl (List.mem_singleton.mp hq)
  | cons a r ih =>
    intro q hq
    simp only [lok, Bool.and_eq_true] at hok
    unfold lst at hq
    by_cases ha : a.1 = i
    · rw [if_pos ha] at hq
      rcases List.mem_cons.mp hq with h | h
      · exact Or.inl h
      · refine Or.inr ⟨List.mem_cons_of_mem _ h, fun e => ?_⟩
        have := List.all_eq_true.mp hok.1 q h
        rw [e, ← ha] at this
        simp at this
    · rw [if_neg ha] at hq
      rcases List.mem_cons.mp hq with h | h
      · subst h
        exact Or.inr ⟨List.mem_cons_self, ha⟩
      · rcases ih hok.2 q h with h | h
        · exact Or.inl h
        · exact Or.inr ⟨List.mem_cons_of_mem _ h.1, h.2⟩
/-- a store of one slot: no long of the list begins just ahead of it -/
theorem LX_st1 {ls : Array Slot} {i : Nat} {v : AV} (hok : lok lv = true) (hnl : lv.all (fun q => !(q.1 + 1 == i && isL q.2)) = true)
    (h : lv_has ls z.2.2.1 ((i, cv G v) :: (lv.map (fun q => (q.1, cv G q.2))).filter (fun q => !(q.1 == i) && !(q.1 + 1 == i && q.2.category == 2)))) : LX G z (lst lv i v) ls := by
  refine ⟨h.1, h.2.1, fun q hq => ?_⟩
  obtain ⟨a, ha, rfl⟩ := List.mem_map.mp hq
  rcases lst_mem hok a ha with e | ⟨h1, h2⟩
  · rw [e]
    exact h.2.2 _ List.mem_cons_self
  · refine h.2.2 _ (List.mem_cons_of_mem _ (List.mem_filter.mpr ⟨List.mem_map.mpr ⟨a, h1, rfl⟩, ?_⟩))
    have h3 := List.all_eq_true.mp hnl a h1
    simp only [cat_isL]
    cases hl : isL a.2 <;> simp [hl] at h3 ⊢
    · exact h2
    · exact ⟨h2, h3⟩
theorem LX_st2 {ls : Array Slot} {i : Nat} {v : AV} (hok : lok lv = true) (hnl : lv.all (fun q => !(q.1 == i + 1) && !(q.1 + 1 == i && isL q.2)) = true)
    (h : lv_has ls z.2.2.1 ((i, cv G v) :: (lv.map (fun q => (q.1, cv G q.2))).filter (fun q => !(q.1 == i) && (!(q.1 == i + 1) && !(q.1 + 1 == i && q.2.category == 2))))) : LX G z (lst lv i v) ls := by
  refine ⟨h.1, h.2.1, fun q hq => ?_⟩
  obtain ⟨a, ha, rfl⟩ := List.mem_map.mp hq
  rcases lst_mem hok a ha with e | ⟨h1, h2⟩
  · rw [e]
    exact h.2.2 _ List.mem_cons_self
  · refine h.2.2 _ (List.mem_cons_of_mem _ (List.mem_filter.mpr ⟨List.mem_map.mpr ⟨a, h1, rfl⟩, ?_⟩))
    have h3 := List.all_eq_true.mp hnl a h1
    simp only [cat_isL]
    cases hl : isL a.2 <;> simp [hl] at h3 ⊢
    · exact ⟨h2, h3⟩
    · exact ⟨h2, h3⟩
/-- the heap's size is known -/
theorem W_size {p : Program} {e : Env} {s : State} {m : MethodId} {args : Array Value} {below : List Frame} {meth : Method} {c : Code} {H : Heap} {locs : List Loc} {cells slots : Nat} {R : Room} {Qw : State → Prop} {g : JFrame}
    (hH : HX G M s H locs cells) (hB : gB G ≤ s.heap.size) (k : H.size = gB G + M.1 → W p (gl G) e R s m args below meth c H locs cells slots Qw g) : W p (gl G) e R s m args below meth c H locs cells slots Qw g := by
  intro T hT Xx
  have h1 := Xx.heapSize
  rw [hT] at h1
  have h2 : gB G + M.1 ≤ H.size := by
    by_cases h0 : M.1 = 0
    · have := hH.2.2.2.1
      have := hH.2.1
      omega
    · have hl : M.1 - 1 < M.1 := by omega
      have := (hH.1 _ _ (wsG_at hl)).lt
      dsimp only at this
      omega
  have := hH.2.1
  exact k (by omega) T hT Xx
theorem weak {lv' : List (Nat × AV)} (hs : ∀ q ∈ lv', q ∈ lv) (h : X G d z pc lv' st M rc rs Q) : X G d z pc lv st M rc rs Q := by
  intro p e s m args below meth c H locs ls cells slots hC hH hl
  refine h p e s m args below meth c H locs ls cells slots hC hH ⟨hl.1, hl.2.1, fun q hq => ?_⟩
  obtain ⟨a, ha, rfl⟩ := List.mem_map.mp hq
  exact hl.2.2 _ (List.mem_map.mpr ⟨a, hs a ha, rfl⟩)
/-! constants, locals, arithmetic -/
theorem X_iconst {n : Int} (hd : decode z.2.1 pc = .ok (.iconst n, 1)) {v : Int32} (hv : Int32.ofInt n = v) (h : X G d z (pc + 1) lv (vi v :: st) M rc rs Q) : X G d z pc lv st M rc rs Q :=
  fun p e s m args below meth c H locs ls cells slots hC hH hl => lv_iconst hC.1 hC.2.1 hd hv (h p e s m args below meth c H locs ls cells slots hC hH hl)
theorem X_bipush {n : Int} (hd : decode z.2.1 pc = .ok (.bipush n, 2)) {v : Int32} (hv : (Int8.ofInt n).toInt32 = v) (h : X G d z (pc + 2) lv (vi v :: st) M rc rs Q) : X G d z pc lv st M rc rs Q :=
  fun p e s m args below meth c H locs ls cells slots hC hH hl => lv_bipush hC.1 hC.2.1 hd hv (h p e s m args below meth c H locs ls cells slots hC hH hl)
theorem X_sipush {n : Int} (hd : decode z.2.1 pc = .ok (.sipush n, 3)) {v : Int32} (hv : (Int16.ofInt n).toInt32 = v) (h : X G d z (pc + 3) lv (vi v :: st) M rc rs Q) : X G d z pc lv st M rc rs Q :=
  fun p e s m args below meth c H locs ls cells slots hC hH hl => lv_sipush hC.1 hC.2.1 hd hv (h p e s m args below meth c H locs ls cells slots hC hH hl)
theorem X_lconst {n : Fin 2} (hd : decode z.2.1 pc = .ok (.lconst n, 1)) {v : Int64} (hv : Int64.ofNat (n : Nat) = v) (h : X G d z (pc + 1) lv (vl v :: st) M rc rs Q) : X G d z pc lv st M rc rs Q :=
  fun p e s m args below meth c H locs ls cells slots hC hH hl => lv_lconst hC.1 hC.2.1 hd hv (h p e s m args below meth c H locs ls cells slots hC hH hl)
theorem X_ldc {idx : Nat} {v : Int32} (hd : decode z.2.1 pc = .ok (.ldc idx, 2)) (hw : Cond.constant z.2.2.2.2 idx v ∈ BIG) (h : X G d z (pc + 2) lv (vi v :: st) M rc rs Q) : X G d z pc lv st M rc rs Q :=
  fun p e s m args below meth c H locs ls cells slots hC hH hl => lv_ldc hC.1 hC.2.1 hC.2.2.2.2.2.1 (hC.2.2.2.2.2.2.1 _ (List.mem_cons_of_mem _ hw)) hd (h p e s m args below meth c H locs ls cells slots hC hH hl)
theorem X_ldcw {idx : Nat} {v : Int32} (hd : decode z.2.1 pc = .ok (.ldc_w idx, 3)) (hw : Cond.constant z.2.2.2.2 idx v ∈ BIG) (h : X G d z (pc + 3) lv (vi v :: st) M rc rs Q) : X G d z pc lv st M rc rs Q :=
  fun p e s m args below meth c H locs ls cells slots hC hH hl => lv_ldcw hC.1 hC.2.1 hC.2.2.2.2.2.1 (hC.2.2.2.2.2.2.1 _ (List.mem_cons_of_mem _ hw)) hd (h p e s m args below meth c H locs ls cells slots hC hH hl)
theorem X_ldc2 {idx : Nat} {v : Int64} (hd : decode z.2.1 pc = .ok (.ldc2_w idx, 3)) (hw : Cond.constantLong z.2.2.2.2 idx v ∈ BIG) (h : X G d z (pc + 3) lv (vl v :: st) M rc rs Q) : X G d z pc lv st M rc rs Q :=
  fun p e s m args below meth c H locs ls cells slots hC hH hl => lv_ldc2 hC.1 hC.2.1 hC.2.2.2.2.2.1 (hC.2.2.2.2.2.2.1 _ (List.mem_cons_of_mem _ hw)) hd (h p e s m args below meth c H locs ls cells slots hC hH hl)
theorem X_iload_n {k : Fin 4} {x : Int32} (hd : decode z.2.1 pc = .ok (.iload_n k, 1)) (hk : lk lv (k : Nat) = some (vi x)) (h : X G d z (pc + 1) lv (vi x :: st) M rc rs Q) : X G d z pc lv st M rc rs Q :=
  fun p e s m args below meth c H locs ls cells slots hC hH hl => lv_iload_n hC.1 hC.2.1 hd rfl (LX_at hl hk) (h p e s m args below meth c H locs ls cells slots hC hH hl)
theorem X_iload {i : Nat} {x : Int32} (hd : decode z.2.1 pc = .ok (.iload i, 2)) (hk : lk lv i = some (vi x)) (h : X G d z (pc + 2) lv (vi x :: st) M rc rs Q) : X G d z pc lv st M rc rs Q :=
  fun p e s m args below meth c H locs ls cells slots hC hH hl => lv_iload hC.1 hC.2.1 hd (LX_at hl hk) (h p e s m args below meth c H locs ls cells slots hC hH hl)
theorem X_lload_n {k : Fin 4} {x : Int64} (hd : decode z.2.1 pc = .ok (.lload_n k, 1)) (hk : lk lv (k : Nat) = some (vl x)) (h : X G d z (pc + 1) lv (vl x :: st) M rc rs Q) : X G d z pc lv st M rc rs Q :=
  fun p e s m args below meth c H locs ls cells slots hC hH hl => lv_lload_n hC.1 hC.2.1 hd rfl (LX_at hl hk) (h p e s m args below meth c H locs ls cells slots hC hH hl)
theorem X_lload {i : Nat} {x : Int64} (hd : decode z.2.1 pc = .ok (.lload i, 2)) (hk : lk lv i = some (vl x)) (h : X G d z (pc + 2) lv (vl x :: st) M rc rs Q) : X G d z pc lv st M rc rs Q :=
  fun p e s m args below meth c H locs ls cells slots hC hH hl => lv_lload hC.1 hC.2.1 hd (LX_at hl hk) (h p e s m args below meth c H locs ls cells slots hC hH hl)
theorem X_aload_n {k : Fin 4} {x : Nat} (hd : decode z.2.1 pc = .ok (.aload_n k, 1)) (hk : lk lv (k : Nat) = some (vr x)) (h : X G d z (pc + 1) lv (vr x :: st) M rc rs Q) : X G d z pc lv st M rc rs Q :=
  fun p e s m args below meth c H locs ls cells slots hC hH hl => lv_aload_n hC.1 hC.2.1 hd rfl (LX_at hl hk) (h p e s m args below meth c H locs ls cells slots hC hH hl)
theorem X_aload {i : Nat} {x : Nat} (hd : decode z.2.1 pc = .ok (.aload i, 2)) (hk : lk lv i = some (vr x)) (h : X G d z (pc + 2) lv (vr x :: st) M rc rs Q) : X G d z pc lv st M rc rs Q :=
  fun p e s m args below meth c H locs ls cells slots hC hH hl => lv_aload hC.1 hC.2.1 hd (LX_at hl hk) (h p e s m args below meth c H locs ls cells slots hC hH hl)
/-- which stores are lawful for a list of locals -/
def sok1 (lv : List (Nat × AV)) (i n : Nat) : Bool := lok lv && lv.all (fun q => !(q.1 + 1 == i && isL q.2)) && decide (i < n)
def sok2 (lv : List (Nat × AV)) (i n : Nat) : Bool := lok lv && lv.all (fun q => !(q.1 == i + 1) && !(q.1 + 1 == i && isL q.2)) && decide (i + 1 < n)
theorem sok1_ {i n : Nat} (h : sok1 lv i n = true) : lok lv = true ∧ lv.all (fun q => !(q.1 + 1 == i && isL q.2)) = true ∧ i < n := by
  simp only [sok1, Bool.and_eq_true, decide_eq_true_eq] at h
  exact ⟨h.1.1, h.1.2, h.2⟩
theorem sok2_ {i n : Nat} (h : sok2 lv i n = true) : lok lv = true ∧ lv.all (fun q => !(q.1 == i + 1) && !(q.1 + 1 == i && isL q.2)) = true ∧ i + 1 < n := by
  simp only [sok2, Bool.and_eq_true, decide_eq_true_eq] at h
  exact ⟨h.1.1, h.1.2, h.2⟩
theorem X_istore_n {k : Fin 4} {x : Int32} (hd : decode z.2.1 pc = .ok (.istore_n k, 1)) (ho : sok1 lv (k : Nat) z.2.2.1 = true) {lv' : List (Nat × AV)} (hl' : lst lv (k : Nat) (vi x) = lv') (h : X G d z (pc + 1) lv' st M rc rs Q) : X G d z pc lv (vi x :: st) M rc rs Q :=
  fun p e s m args below meth c H locs ls cells slots hC hH hl => lv_istore_n hC.1 hC.2.1 hd rfl hl (sok1_ ho).2.2 rfl (fun ls' hl2 => h p e s m args below meth c H locs ls' cells slots hC hH (hl' ▸ LX_st1 (v := vi x) (sok1_ ho).1 (sok1_ ho).2.1 hl2))
theorem X_istore {i : Nat} {x : Int32} (hd : decode z.2.1 pc = .ok (.istore i, 2)) (ho : sok1 lv i z.2.2.1 = true) {lv' : List (Nat × AV)} (hl' : lst lv i (vi x) = lv') (h : X G d z (pc + 2) lv' st M rc rs Q) : X G d z pc lv (vi x :: st) M rc rs Q :=
  fun p e s m args below meth c H locs ls cells slots hC hH hl => lv_istore hC.1 hC.2.1 hd hl (sok1_ ho).2.2 rfl (fun ls' hl2 => h p e s m args below meth c H locs ls' cells slots hC hH (hl' ▸ LX_st1 (v := vi x) (sok1_ ho).1 (sok1_ ho).2.1 hl2))
theorem X_astore_n {k : Fin 4} {x : Nat} (hd : decode z.2.1 pc = .ok (.astore_n k, 1)) (ho : sok1 lv (k : Nat) z.2.2.1 = true) {lv' : List (Nat × AV)} (hl' : lst lv (k : Nat) (vr x) = lv') (h : X G d z (pc + 1) lv' st M rc rs Q) : X G d z pc lv (vr x :: st) M rc rs Q :=
  fun p e s m args below meth c H locs ls cells slots hC hH hl => lv_astore_n hC.1 hC.2.1 hd rfl hl (sok1_ ho).2.2 rfl (fun ls' hl2 => h p e s m args below meth c H locs ls' cells slots hC hH (hl' ▸ LX_st1 (v := vr x) (sok1_ ho).1 (sok1_ ho).2.1 hl2))
theorem X_astore {i : Nat} {x : Nat} (hd : decode z.2.1 pc = .ok (.astore i, 2)) (ho : sok1 lv i z.2.2.1 = true) {lv' : List (Nat × AV)} (hl' : lst lv i (vr x) = lv') (h : X G d z (pc + 2) lv' st M rc rs Q) : X G d z pc lv (vr x :: st) M rc rs Q :=
  fun p e s m args below meth c H locs ls cells slots hC hH hl => lv_astore hC.1 hC.2.1 hd hl (sok1_ ho).2.2 rfl (fun ls' hl2 => h p e s m args below meth c H locs ls' cells slots hC hH (hl' ▸ LX_st1 (v := vr x) (sok1_ ho).1 (sok1_ ho).2.1 hl2))
theorem X_lstore_n {k : Fin 4} {x : Int64} (hd : decode z.2.1 pc = .ok (.lstore_n k, 1)) (ho : sok2 lv (k : Nat) z.2.2.1 = true) {lv' : List (Nat × AV)} (hl' : lst lv (k : Nat) (vl x) = lv') (h : X G d z (pc + 1) lv' st M rc rs Q) : X G d z pc lv (vl x :: st) M rc rs Q :=
  fun p e s m args below meth c H locs ls cells slots hC hH hl => lv_lstore_n hC.1 hC.2.1 hd rfl hl (sok2_ ho).2.2 rfl (fun ls' hl2 => h p e s m args below meth c H locs ls' cells slots hC hH (hl' ▸ LX_st2 (v := vl x) (sok2_ ho).1 (sok2_ ho).2.1 hl2))
theorem X_lstore {i : Nat} {x : Int64} (hd : decode z.2.1 pc = .ok (.lstore i, 2)) (ho : sok2 lv i z.2.2.1 = true) {lv' : List (Nat × AV)} (hl' : lst lv i (vl x) = lv') (h : X G d z (pc + 2) lv' st M rc rs Q) : X G d z pc lv (vl x :: st) M rc rs Q :=
  fun p e s m args below meth c H locs ls cells slots hC hH hl => lv_lstore hC.1 hC.2.1 hd hl (sok2_ ho).2.2 rfl (fun ls' hl2 => h p e s m args below meth c H locs ls' cells slots hC hH (hl' ▸ LX_st2 (v := vl x) (sok2_ ho).1 (sok2_ ho).2.1 hl2))
theorem X_iinc {i : Nat} {n : Int} {x v : Int32} (hd : decode z.2.1 pc = .ok (.iinc i n, 3)) (hk : lk lv i = some (vi x)) (hv : x + Int32.ofInt n = v) (ho : sok1 lv i z.2.2.1 = true) {lv' : List (Nat × AV)} (hl' : lst lv i (vi v) = lv') (h : X G d z (pc + 3) lv' st M rc rs Q) : X G d z pc lv st M rc rs Q := by
  intro p e s m args below meth c H locs ls cells slots hC hH hl
  obtain ⟨k, hk2⟩ := List.mem_iff_getElem?.mp (List.mem_map.mpr ⟨(i, vi x), lk_mem hk, rfl⟩ : (i, cv G (vi x)) ∈ lv.map (fun q => (q.1, cv G q.2)))
  exact lv_iinc hC.1 hC.2.1 hd hl hk2 hv (sok1_ ho).2.2 rfl (fun ls' hl2 => h p e s m args below meth c H locs ls' cells slots hC hH (hl' ▸ LX_st1 (v := vi v) (sok1_ ho).1 (sok1_ ho).2.1 hl2))
end XR
end
section
section XR
variable {G : GG} {d : Nat} {z : ZZ} {pc : Nat} {lv : List (Nat × AV)} {st : List AV} {M : Mm} {rc rs : Nat} {Q : Option AV → Mm → Prop}
theorem X_iadd {x y : Int32} (hd : decode z.2.1 pc = .ok (.iadd, 1)) (h : X G d z (pc + 1) lv (vi (x + y) :: st) M rc rs Q) : X G d z pc lv (vi y :: vi x :: st) M rc rs Q :=
  fun p e s m args below meth c H locs ls cells slots hC hH hl => lv_iadd hC.1 hC.2.1 hd (h p e s m args below meth c H locs ls cells slots hC hH hl)
theorem X_isub {x y : Int32} (hd : decode z.2.1 pc = .ok (.isub, 1)) (h : X G d z (pc + 1) lv (vi (x - y) :: st) M rc rs Q) : X G d z pc lv (vi y :: vi x :: st) M rc rs Q :=
  fun p e s m args below meth c H locs ls cells slots hC hH hl => lv_isub hC.1 hC.2.1 hd (h p e s m args below meth c H locs ls cells slots hC hH hl)
theorem X_imul {x y : Int32} (hd : decode z.2.1 pc = .ok (.imul, 1)) (h : X G d z (pc + 1) lv (vi (x * y) :: st) M rc rs Q) : X G d z pc lv (vi y :: vi x :: st) M rc rs Q :=
  fun p e s m args below meth c H locs ls cells slots hC hH hl => lv_imul hC.1 hC.2.1 hd (h p e s m args below meth c H locs ls cells slots hC hH hl)
theorem X_iand {x y : Int32} (hd : decode z.2.1 pc = .ok (.iand, 1)) (h : X G d z (pc + 1) lv (vi (x &&& y) :: st) M rc rs Q) : X G d z pc lv (vi y :: vi x :: st) M rc rs Q :=
  fun p e s m args below meth c H locs ls cells slots hC hH hl => lv_iand hC.1 hC.2.1 hd (h p e s m args below meth c H locs ls cells slots hC hH hl)
theorem X_ior {x y : Int32} (hd : decode z.2.1 pc = .ok (.ior, 1)) (h : X G d z (pc + 1) lv (vi (x ||| y) :: st) M rc rs Q) : X G d z pc lv (vi y :: vi x :: st) M rc rs Q :=
  fun p e s m args below meth c H locs ls cells slots hC hH hl => lv_ior hC.1 hC.2.1 hd (h p e s m args below meth c H locs ls cells slots hC hH hl)
theorem X_ixor {x y : Int32} (hd : decode z.2.1 pc = .ok (.ixor, 1)) (h : X G d z (pc + 1) lv (vi (x ^^^ y) :: st) M rc rs Q) : X G d z pc lv (vi y :: vi x :: st) M rc rs Q :=
  fun p e s m args below meth c H locs ls cells slots hC hH hl => lv_ixor hC.1 hC.2.1 hd (h p e s m args below meth c H locs ls cells slots hC hH hl)
theorem X_ishl {x y : Int32} (hd : decode z.2.1 pc = .ok (.ishl, 1)) (h : X G d z (pc + 1) lv (vi (x <<< (y &&& 31)) :: st) M rc rs Q) : X G d z pc lv (vi y :: vi x :: st) M rc rs Q :=
  fun p e s m args below meth c H locs ls cells slots hC hH hl => lv_ishl hC.1 hC.2.1 hd (h p e s m args below meth c H locs ls cells slots hC hH hl)
theorem X_ishr {x y : Int32} (hd : decode z.2.1 pc = .ok (.ishr, 1)) (h : X G d z (pc + 1) lv (vi (x >>> (y &&& 31)) :: st) M rc rs Q) : X G d z pc lv (vi y :: vi x :: st) M rc rs Q :=
  fun p e s m args below meth c H locs ls cells slots hC hH hl => lv_ishr hC.1 hC.2.1 hd (h p e s m args below meth c H locs ls cells slots hC hH hl)
theorem X_idiv {x y : Int32} (hd : decode z.2.1 pc = .ok (.idiv, 1)) (hne : ¬ y = 0) (h : X G d z (pc + 1) lv (vi (x / y) :: st) M rc rs Q) : X G d z pc lv (vi y :: vi x :: st) M rc rs Q :=
  fun p e s m args below meth c H locs ls cells slots hC hH hl => lv_idiv hC.1 hC.2.1 hd hne (h p e s m args below meth c H locs ls cells slots hC hH hl)
theorem X_irem {x y : Int32} (hd : decode z.2.1 pc = .ok (.irem, 1)) (hne : ¬ y = 0) (h : X G d z (pc + 1) lv (vi (x - x / y * y) :: st) M rc rs Q) : X G d z pc lv (vi y :: vi x :: st) M rc rs Q :=
  fun p e s m args below meth c H locs ls cells slots hC hH hl => lv_irem hC.1 hC.2.1 hd hne (h p e s m args below meth c H locs ls cells slots hC hH hl)
theorem X_iushr {x y v : Int32} (hd : decode z.2.1 pc = .ok (.iushr, 1)) (hv : (x.toUInt32 >>> (y.toUInt32 &&& Int32.toUInt32 31)).toInt32 = v) (h : X G d z (pc + 1) lv (vi v :: st) M rc rs Q) : X G d z pc lv (vi y :: vi x :: st) M rc rs Q :=
  fun p e s m args below meth c H locs ls cells slots hC hH hl => lv_iushr hC.1 hC.2.1 hd hv (h p e s m args below meth c H locs ls cells slots hC hH hl)
theorem X_land {x y : Int64} (hd : decode z.2.1 pc = .ok (.land, 1)) (h : X G d z (pc + 1) lv (vl (x &&& y) :: st) M rc rs Q) : X G d z pc lv (vl y :: vl x :: st) M rc rs Q :=
  fun p e s m args below meth c H locs ls cells slots hC hH hl => lv_land hC.1 hC.2.1 hd (h p e s m args below meth c H locs ls cells slots hC hH hl)
theorem X_lor {x y : Int64} (hd : decode z.2.1 pc = .ok (.lor, 1)) (h : X G d z (pc + 1) lv (vl (x ||| y) :: st) M rc rs Q) : X G d z pc lv (vl y :: vl x :: st) M rc rs Q :=
  fun p e s m args below meth c H locs ls cells slots hC hH hl => lv_lor hC.1 hC.2.1 hd (h p e s m args below meth c H locs ls cells slots hC hH hl)
theorem X_lxor {x y : Int64} (hd : decode z.2.1 pc = .ok (.lxor, 1)) (h : X G d z (pc + 1) lv (vl (x ^^^ y) :: st) M rc rs Q) : X G d z pc lv (vl y :: vl x :: st) M rc rs Q :=
  fun p e s m args below meth c H locs ls cells slots hC hH hl => lv_lxor hC.1 hC.2.1 hd (h p e s m args below meth c H locs ls cells slots hC hH hl)
theorem X_lneg {x : Int64} (hd : decode z.2.1 pc = .ok (.lneg, 1)) (h : X G d z (pc + 1) lv (vl (-x) :: st) M rc rs Q) : X G d z pc lv (vl x :: st) M rc rs Q :=
  fun p e s m args below meth c H locs ls cells slots hC hH hl => lv_lneg hC.1 hC.2.1 hd (h p e s m args below meth c H locs ls cells slots hC hH hl)
theorem X_lushr {x v : Int64} {y : Int32} (hd : decode z.2.1 pc = .ok (.lushr, 1)) (hv : (x.toUInt64 >>> (y.toInt64.toUInt64 &&& Int64.toUInt64 63)).toInt64 = v) (h : X G d z (pc + 1) lv (vl v :: st) M rc rs Q) : X G d z pc lv (vi y :: vl x :: st) M rc rs Q :=
  fun p e s m args below meth c H locs ls cells slots hC hH hl => lv_lushr hC.1 hC.2.1 hd hv (h p e s m args below meth c H locs ls cells slots hC hH hl)
theorem X_i2l {x : Int32} {v : Int64} (hd : decode z.2.1 pc = .ok (.i2l, 1)) (hv : x.toInt64 = v) (h : X G d z (pc + 1) lv (vl v :: st) M rc rs Q) : X G d z pc lv (vi x :: st) M rc rs Q :=
  fun p e s m args below meth c H locs ls cells slots hC hH hl => lv_i2l hC.1 hC.2.1 hd hv (h p e s m args below meth c H locs ls cells slots hC hH hl)
theorem X_lcmp {x y : Int64} (hd : decode z.2.1 pc = .ok (.lcmp, 1)) (h : X G d z (pc + 1) lv (vi (lg_cmp x y) :: st) M rc rs Q) : X G d z pc lv (vl y :: vl x :: st) M rc rs Q :=
  fun p e s m args below meth c H locs ls cells slots hC hH hl => W.lcmp hC.1 hC.2.1 hd (h p e s m args below meth c H locs ls cells slots hC hH hl)
theorem X_dup {v : AV} (hd : decode z.2.1 pc = .ok (.dup, 1)) (hv : isL v = false) (h : X G d z (pc + 1) lv (v :: v :: st) M rc rs Q) : X G d z pc lv (v :: st) M rc rs Q :=
  fun p e s m args below meth c H locs ls cells slots hC hH hl => lv_dup hC.1 hC.2.1 hd (by rw [cat_isL, hv]; rfl) (h p e s m args below meth c H locs ls cells slots hC hH hl)
theorem X_pop {v : AV} (hd : decode z.2.1 pc = .ok (.pop, 1)) (hv : isL v = false) (h : X G d z (pc + 1) lv st M rc rs Q) : X G d z pc lv (v :: st) M rc rs Q :=
  fun p e s m args below meth c H locs ls cells slots hC hH hl => lv_pop hC.1 hC.2.1 hd (by rw [cat_isL, hv]; rfl) (h p e s m args below meth c H locs ls cells slots hC hH hl)
theorem X_dup_x1 {v w : AV} (hd : decode z.2.1 pc = .ok (.dup_x1, 1)) (hv : isL v = false) (hw : isL w = false) (h : X G d z (pc + 1) lv (v :: w :: v :: st) M rc rs Q) : X G d z pc lv (v :: w :: st) M rc rs Q :=
  fun p e s m args below meth c H locs ls cells slots hC hH hl => lv_dup_x1 hC.1 hC.2.1 hd (by rw [cat_isL, hv]; rfl) (by rw [cat_isL, hw]; rfl) (h p e s m args below meth c H locs ls cells slots hC hH hl)
theorem X_dup2 {v w : AV} (hd : decode z.2.1 pc = .ok (.dup2, 1)) (hv : isL v = false) (hw : isL w = false) (h : X G d z (pc + 1) lv (v :: w :: v :: w :: st) M rc rs Q) : X G d z pc lv (v :: w :: st) M rc rs Q :=
  fun p e s m args below meth c H locs ls cells slots hC hH hl => lv_dup2_11 hC.1 hC.2.1 hd (by rw [cat_isL, hv]; rfl) (by rw [cat_isL, hw]; rfl) (h p e s m args below meth c H locs ls cells slots hC hH hl)
theorem X_if_eq {x : Int32} {off : Int} {tgt : Nat} (hd : decode z.2.1 pc = .ok (.ifCond .eq off, 3)) (ht : (pc : Int) + off = (tgt : Int)) (kt : x = 0 → X G d z tgt lv st M rc rs Q) (kf : ¬ x = 0 → X G d z (pc + 3) lv st M rc rs Q) : X G d z pc lv (vi x :: st) M rc rs Q :=
  fun p e s m args below meth c H locs ls cells slots hC hH hl => lv_if_eq hC.1 hC.2.1 hd ht (fun hc => kt hc p e s m args below meth c H locs ls cells slots hC hH hl) (fun hc => kf hc p e s m args below meth c H locs ls cells slots hC hH hl)
theorem X_if_ne {x : Int32} {off : Int} {tgt : Nat} (hd : decode z.2.1 pc = .ok (.ifCond .ne off, 3)) (ht : (pc : Int) + off = (tgt : Int)) (kt : ¬ x = 0 → X G d z tgt lv st M rc rs Q) (kf : x = 0 → X G d z (pc + 3) lv st M rc rs Q) : X G d z pc lv (vi x :: st) M rc rs Q :=
  fun p e s m args below meth c H locs ls cells slots hC hH hl => lv_if_ne hC.1 hC.2.1 hd ht (fun hc => kt hc p e s m args below meth c H locs ls cells slots hC hH hl) (fun hc => kf hc p e s m args below meth c H locs ls cells slots hC hH hl)
theorem X_if_lt {x : Int32} {off : Int} {tgt : Nat} (hd : decode z.2.1 pc = .ok (.ifCond .lt off, 3)) (ht : (pc : Int) + off = (tgt : Int)) (kt : x < 0 → X G d z tgt lv st M rc rs Q) (kf : ¬ x < 0 → X G d z (pc + 3) lv st M rc rs Q) : X G d z pc lv (vi x :: st) M rc rs Q :=
  fun p e s m args below meth c H locs ls cells slots hC hH hl => lv_if_lt hC.1 hC.2.1 hd ht (fun hc => kt hc p e s m args below meth c H locs ls cells slots hC hH hl) (fun hc => kf hc p e s m args below meth c H locs ls cells slots hC hH hl)
theorem X_if_ge {x : Int32} {off : Int} {tgt : Nat} (hd : decode z.2.1 pc = .ok (.ifCond .ge off, 3)) (ht : (pc : Int) + off = (tgt : Int)) (kt : 0 ≤ x → X G d z tgt lv st M rc rs Q) (kf : ¬ 0 ≤ x → X G d z (pc + 3) lv st M rc rs Q) : X G d z pc lv (vi x :: st) M rc rs Q :=
  fun p e s m args below meth c H locs ls cells slots hC hH hl => lv_if_ge hC.1 hC.2.1 hd ht (fun hc => kt hc p e s m args below meth c H locs ls cells slots hC hH hl) (fun hc => kf hc p e s m args below meth c H locs ls cells slots hC hH hl)
theorem X_if_gt {x : Int32} {off : Int} {tgt : Nat} (hd : decode z.2.1 pc = .ok (.ifCond .gt off, 3)) (ht : (pc : Int) + off = (tgt : Int)) (kt : 0 < x → X G d z tgt lv st M rc rs Q) (kf : ¬ 0 < x → X G d z (pc + 3) lv st M rc rs Q) : X G d z pc lv (vi x :: st) M rc rs Q :=
  fun p e s m args below meth c H locs ls cells slots hC hH hl => lv_if_gt hC.1 hC.2.1 hd ht (fun hc => kt hc p e s m args below meth c H locs ls cells slots hC hH hl) (fun hc => kf hc p e s m args below meth c H locs ls cells slots hC hH hl)
theorem X_if_le {x : Int32} {off : Int} {tgt : Nat} (hd : decode z.2.1 pc = .ok (.ifCond .le off, 3)) (ht : (pc : Int) + off = (tgt : Int)) (kt : x ≤ 0 → X G d z tgt lv st M rc rs Q) (kf : ¬ x ≤ 0 → X G d z (pc + 3) lv st M rc rs Q) : X G d z pc lv (vi x :: st) M rc rs Q :=
  fun p e s m args below meth c H locs ls cells slots hC hH hl => lv_if_le hC.1 hC.2.1 hd ht (fun hc => kt hc p e s m args below meth c H locs ls cells slots hC hH hl) (fun hc => kf hc p e s m args below meth c H locs ls cells slots hC hH hl)
theorem X_icmp_eq {x y : Int32} {off : Int} {tgt : Nat} (hd : decode z.2.1 pc = .ok (.if_icmp .eq off, 3)) (ht : (pc : Int) + off = (tgt : Int)) (kt : x = y → X G d z tgt lv st M rc rs Q) (kf : ¬ x = y → X G d z (pc + 3) lv st M rc rs Q) : X G d z pc lv (vi y :: vi x :: st) M rc rs Q :=
  fun p e s m args below meth c H locs ls cells slots hC hH hl => lv_icmp_eq hC.1 hC.2.1 hd ht (fun hc => kt hc p e s m args below meth c H locs ls cells slots hC hH hl) (fun hc => kf hc p e s m args below meth c H locs ls cells slots hC hH hl)
theorem X_icmp_ne {x y : Int32} {off : Int} {tgt : Nat} (hd : decode z.2.1 pc = .ok (.if_icmp .ne off, 3)) (ht : (pc : Int) + off = (tgt : Int)) (kt : ¬ x = y → X G d z tgt lv st M rc rs Q) (kf : x = y → X G d z (pc + 3) lv st M rc rs Q) : X G d z pc lv (vi y :: vi x :: st) M rc rs Q :=
  fun p e s m args below meth c H locs ls cells slots hC hH hl => lv_icmp_ne hC.1 hC.2.1 hd ht (fun hc => kt hc p e s m args below meth c H locs ls cells slots hC hH hl) (fun hc => kf hc p e s m args below meth c H locs ls cells slots hC hH hl)
theorem X_icmp_lt {x y : Int32} {off : Int} {tgt : Nat} (hd : decode z.2.1 pc = .ok (.if_icmp .lt off, 3)) (ht : (pc : Int) + off = (tgt : Int)) (kt : x < y → X G d z tgt lv st M rc rs Q) (kf : ¬ x < y → X G d z (pc + 3) lv st M rc rs Q) : X G d z pc lv (vi y :: vi x :: st) M rc rs Q :=
  fun p e s m args below meth c H locs ls cells slots hC hH hl => lv_icmp_lt hC.1 hC.2.1 hd ht (fun hc => kt hc p e s m args below meth c H locs ls cells slots hC hH hl) (fun hc => kf hc p e s m args below meth c H locs ls cells slots hC hH hl)
theorem X_icmp_ge {x y : Int32} {off : Int} {tgt : Nat} (hd : decode z.2.1 pc = .ok (.if_icmp .ge off, 3)) (ht : (pc : Int) + off = (tgt : Int)) (kt : y ≤ x → X G d z tgt lv st M rc rs Q) (kf : ¬ y ≤ x → X G d z (pc + 3) lv st M rc rs Q) : X G d z pc lv (vi y :: vi x :: st) M rc rs Q :=
  fun p e s m args below meth c H locs ls cells slots hC hH hl => lv_icmp_ge hC.1 hC.2.1 hd ht (fun hc => kt hc p e s m args below meth c H locs ls cells slots hC hH hl) (fun hc => kf hc p e s m args below meth c H locs ls cells slots hC hH hl)
theorem X_icmp_gt {x y : Int32} {off : Int} {tgt : Nat} (hd : decode z.2.1 pc = .ok (.if_icmp .gt off, 3)) (ht : (pc : Int) + off = (tgt : Int)) (kt : y < x → X G d z tgt lv st M rc rs Q) (kf : ¬ y < x → X G d z (pc + 3) lv st M rc rs Q) : X G d z pc lv (vi y :: vi x :: st) M rc rs Q :=
  fun p e s m args below meth c H locs ls cells slots hC hH hl => lv_icmp_gt hC.1 hC.2.1 hd ht (fun hc => kt hc p e s m args below meth c H locs ls cells slots hC hH hl) (fun hc => kf hc p e s m args below meth c H locs ls cells slots hC hH hl)
theorem X_icmp_le {x y : Int32} {off : Int} {tgt : Nat} (hd : decode z.2.1 pc = .ok (.if_icmp .le off, 3)) (ht : (pc : Int) + off = (tgt : Int)) (kt : x ≤ y → X G d z tgt lv st M rc rs Q) (kf : ¬ x ≤ y → X G d z (pc + 3) lv st M rc rs Q) : X G d z pc lv (vi y :: vi x :: st) M rc rs Q :=
  fun p e s m args below meth c H locs ls cells slots hC hH hl => lv_icmp_le hC.1 hC.2.1 hd ht (fun hc => kt hc p e s m args below meth c H locs ls cells slots hC hH hl) (fun hc => kf hc p e s m args below meth c H locs ls cells slots hC hH hl)
theorem X_goto {off : Int} {tgt : Nat} (hd : decode z.2.1 pc = .ok (.goto off, 3)) (ht : (pc : Int) + off = (tgt : Int)) (h : X G d z tgt lv st M rc rs Q) : X G d z pc lv st M rc rs Q :=
  fun p e s m args below meth c H locs ls cells slots hC hH hl => lv_goto hC.1 hC.2.1 hd ht (h p e s m args below meth c H locs ls cells slots hC hH hl)
theorem X_tableIn {dflt lo hi : Int} {offs : Array Int} {len : Nat} {x : Int32} {off : Int} {tgt : Nat} (hd : decode z.2.1 pc = .ok (.tableswitch dflt lo hi offs, len)) (h1 : ¬ x.toInt < lo) (h2 : ¬ hi < x.toInt) (ho : offs[(x.toInt - lo).toNat]? = some off) (ht : (pc : Int) + off = (tgt : Int)) (h : X G d z tgt lv st M rc rs Q) : X G d z pc lv (vi x :: st) M rc rs Q :=
  fun p e s m args below meth c H locs ls cells slots hC hH hl => lv_tableIn hC.1 hC.2.1 hd h1 h2 ho ht (h p e s m args below meth c H locs ls cells slots hC hH hl)
theorem X_tableOut {dflt lo hi : Int} {offs : Array Int} {len : Nat} {x : Int32} {tgt : Nat} (hd : decode z.2.1 pc = .ok (.tableswitch dflt lo hi offs, len)) (h1 : x.toInt < lo ∨ hi < x.toInt) (ht : (pc : Int) + dflt = (tgt : Int)) (h : X G d z tgt lv st M rc rs Q) : X G d z pc lv (vi x :: st) M rc rs Q :=
  fun p e s m args below meth c H locs ls cells slots hC hH hl => lv_tableOut hC.1 hC.2.1 hd h1 ht (h p e s m args below meth c H locs ls cells slots hC hH hl)
theorem X_lookup {dflt : Int} {ps : Array (Int × Int)} {len : Nat} {x : Int32} {off : Int} {tgt : Nat} (hd : decode z.2.1 pc = .ok (.lookupswitch dflt ps, len)) (hp : (ps.toList.zip (ps.toList.drop 1)).all (fun (a, next) => a.1 < next.1) = true) (ho : Op.lookupswitch.offset ps.toList dflt x.toInt = off) (ht : (pc : Int) + off = (tgt : Int)) (h : X G d z tgt lv st M rc rs Q) : X G d z pc lv (vi x :: st) M rc rs Q :=
  fun p e s m args below meth c H locs ls cells slots hC hH hl => lv_lookup hC.1 hC.2.1 hd hp ho ht (h p e s m args below meth c H locs ls cells slots hC hH hl)
theorem X_zret {x : Int32} {ty : FieldType} (hd : decode z.2.1 pc = .ok (.ireturn, 1)) (hr : z.2.2.2.1 = some ty) (hn : narrow ty (.int x) = .int x) (hq : Q (some (vi x)) M) : X G d z pc lv [vi x] M 0 rs Q := by
  intro p e s m args below meth c H locs ls cells slots hC hH hl
  refine W_size hH hC.2.2.2.2.2.2.2.2.2.2.2.2 (fun hz => ?_)
  refine W.widen (k := cells + 0) (n := slots + rs) (Nat.le_refl _) (Nat.le_add_right _ _) ?_
  refine W.zret hC.1 hC.2.1 (hC.2.2.1.trans hr) hn (fun t ht hW => ⟨⟨some (vi x), M, rfl, hq, rfl, ?_, ?_, ?_, hH.2.2.1⟩, hH.2.2.2.F ht⟩) hH.2.2.2.2.2 hd hC.2.2.2.1
  · exact KU_moved hW (by rw [ht]; exact hH.2.2.2.1) (fun q h1 h2 => by rw [ht]; exact hH.2.2.2.2.1 q h1 h2) hC.2.2.2.2.2.2.2.2
  · rw [ht]; exact hH.1
  · rw [ht]; exact hz
theorem X_iret {x : Int32} (hd : decode z.2.1 pc = .ok (.ireturn, 1)) (hr : z.2.2.2.1 = some .int) (hq : Q (some (vi x)) M) : X G d z pc lv [vi x] M 0 rs Q := X_zret hd hr rfl hq
theorem X_lret {x : Int64} (hd : decode z.2.1 pc = .ok (.lreturn, 1)) (hr : z.2.2.2.1 = some .long) (hq : Q (some (vl x)) M) : X G d z pc lv [vl x] M 0 rs Q := by
  intro p e s m args below meth c H locs ls cells slots hC hH hl
  refine W_size hH hC.2.2.2.2.2.2.2.2.2.2.2.2 (fun hz => ?_)
  refine W.widen (k := cells + 0) (n := slots + rs) (Nat.le_refl _) (Nat.le_add_right _ _) ?_
  refine W.lret hC.1 hC.2.1 (hC.2.2.1.trans hr) (fun t ht hW => ⟨⟨some (vl x), M, rfl, hq, rfl, ?_, ?_, ?_, hH.2.2.1⟩, hH.2.2.2.F ht⟩) hH.2.2.2.2.2 hd hC.2.2.2.1
  · exact KU_moved hW (by rw [ht]; exact hH.2.2.2.1) (fun q h1 h2 => by rw [ht]; exact hH.2.2.2.2.1 q h1 h2) hC.2.2.2.2.2.2.2.2
  · rw [ht]; exact hH.1
  · rw [ht]; exact hz
theorem X_vret (hd : decode z.2.1 pc = .ok (.return_, 1)) (hr : z.2.2.2.1 = none) (hq : Q none M) : X G d z pc lv [] M 0 rs Q := by
  intro p e s m args below meth c H locs ls cells slots hC hH hl
  refine W_size hH hC.2.2.2.2.2.2.2.2.2.2.2.2 (fun hz => ?_)
  refine W.widen (k := cells + 0) (n := slots + rs) (Nat.le_refl _) (Nat.le_add_right _ _) ?_
  refine W.vret hC.1 hC.2.1 (hC.2.2.1.trans hr) (fun t ht hW => ⟨⟨none, M, rfl, hq, rfl, ?_, ?_, ?_, hH.2.2.1⟩, hH.2.2.2.F ht⟩) hH.2.2.2.2.2 hd hC.2.2.2.1
  · exact KU_moved hW (by rw [ht]; exact hH.2.2.2.1) (fun q h1 h2 => by rw [ht]; exact hH.2.2.2.2.1 q h1 h2) hC.2.2.2.2.2.2.2.2
  · rw [ht]; exact hH.1
  · rw [ht]; exact hz
/-! entry -/
def lvA (n : Nat) (av : List AV) : List (Nat × AV) := match av with
  | [] => []
  | v :: r => (n, v) :: lvA (if isL v then n + 2 else n + 1) r
theorem lvA_map (av : List AV) : ∀ n, (lvA n av).map (fun q => (q.1, cv G q.2)) = lv_args n (av.map (cv G)) := by
  induction av with
  | nil => intro n; rfl
  | cons v r ih =>
    intro n
    simp only [lvA, List.map_cons, lv_args, cat_isL]
    rw [ih]
    cases isL v <;> rfl
def avW (av : List AV) : Nat := (av.map (fun v => if isL v then 2 else 1)).sum
theorem avW_len (av : List AV) : (lg_sl (av.map (cv G))).length = avW av := by
  induction av with
  | nil => rfl
  | cons v r ih =>
    simp only [lg_sl, List.map_cons, List.flatMap_cons, List.length_append, cat_isL, avW, List.sum_cons] at ih ⊢
    rw [ih]
    cases isL v <;> simp
theorem Y_of {av : List AV} {mc ms : Nat} (hy : plainName z.1.cls = true) (ho : z.2.2.2.2 = z.1.cls) (hw : avW av ≤ z.2.2.1) {lv : List (Nat × AV)} (hlv : lvA 0 av = lv) (h : X G d z 0 lv [] M mc ms Q) : Y G d z av M mc ms Q := by
  unfold Y
  refine Met.ofW (cc := z.2.1) (maxL := z.2.2.1) (ret := z.2.2.2.1) hy rfl ?_
  intro p e s m args below meth c s₁ B hml hv
  obtain ⟨rfl, hKU, hP, hsz, hn⟩ := hv
  have hl : LX G z lv ((lg_sl (av.map (cv G)) ++ List.replicate (z.2.2.1 - (lg_sl (av.map (cv G))).length) Slot.unset).toArray) := by
    have := lv_entry (av.map (cv G)) (n := z.2.2.1) (by rw [avW_len]; exact hw)
    unfold LX
    rw [← hlv, lvA_map]
    exact this
  rw [lg_entry_eq]
  have hC : CX G z p s m (av.map (cv G)).toArray meth c := ⟨B.exec, B.bytes, B.returns, B.notSynchronized, hml, by rw [ho]; exact findClass_of_methodNamed B.named, atoms_spec (ws := wz z) B.pre, (name_of_methodNamed B.named B.method).1, hKU⟩
  have := h p e s m (av.map (cv G)).toArray below meth c s.heap [] _ 0 0 hC ⟨hP, by omega, hn, va_S.rf⟩ hl
  simp only [Nat.zero_add] at this
  exact this
theorem Y_mono {av : List AV} {mc ms : Nat} {Q' : Option AV → Mm → Prop} (hq : ∀ r M', Q' r M' → Q r M') (h : X G d z pc lv st M mc ms Q') : X G d z pc lv st M mc ms Q := by
  intro p e s m args below meth c H locs ls cells slots hC hH hl
  intro T hT Xx
  obtain ⟨t, h1, o, h2, h3, ⟨⟨r, M', a1, a2, a3⟩, h5⟩, h6⟩ := h p e s m args below meth c H locs ls cells slots hC hH hl T hT Xx
  exact ⟨t, h1, o, h2, h3, ⟨⟨r, M', a1, hq _ _ a2, a3⟩, h5⟩, h6⟩
end XR
end
section
/-- a field link: class number c, field i, its type, whether it is final -/
def GF (own : String) (idx c i : Nat) (ty : FieldType) (fin nest : Bool) : Prop := ∃ (C : String) (T : u_T) (N : Nat) (ty0 : Nat → FieldType), vwCl[c]? = some (C, T, N) ∧ i < N ∧ (fk c).length = N ∧ c < 13 ∧ (∀ w ∈ u_ws C T N, w ∈ BIG) ∧ (∀ k, k < N → parseFieldDescriptor (T k).2.2.1 = some (ty0 k)) ∧ (∀ a, a < N → ∀ b, b < N → a ≠ b → (T a).2.1 ≠ (T b).2.1) ∧ (T i).1 = C ∧ ty0 i = ty ∧ (T i).2.2.2 = fin ∧ (nest = false → C = own) ∧
  ((nest = false ∧ Cond.fieldLink own idx C (T i).2.1 (T i).2.2.1 ∈ BIG) ∨ (nest = true ∧ ∃ host, Cond.fieldLinkNest own idx C (T i).2.1 (T i).2.2.1 host ∈ NST))
section XH
variable {G : GG} {d : Nat} {z : ZZ} {pc : Nat} {lv : List (Nat × AV)} {st : List AV} {n : Nat} {I : Nat → Nat → Int32} {J : Nat → Nat → Int64} {R : Nat → Nat → Option Nat} {rc rs : Nat} {Q : Option AV → Mm → Prop}
theorem X_getv {idx c i k N : Nat} {ty : FieldType} {fin nest : Bool} {v : AV} (hd : decode z.2.1 pc = .ok (.getfield idx, 3)) (hg : GF z.2.2.2.2 idx c i ty fin nest) (hs : sh k = (c, N)) (hk : k < n) (hv : cv G v = fvl G (n, I, J, R) k i ((fk c).getD i 0)) (h : X G d z (pc + 3) lv (v :: st) (n, I, J, R) rc rs Q) : X G d z pc lv (vr k :: st) (n, I, J, R) rc rs Q := by
  intro p e s m args below meth co H locs ls cells slots hC hH hl
  obtain ⟨C, T, N', ty0, g1, g2, g3, g4, g5, g6, g7, g8, g9, g10, g11, g12⟩ := hg
  have he : (wsG G (n, I, J, R))[k]? = some (gB G + k, .inr (c, fls G (n, I, J, R) k c)) := by rw [wsG_at hk, cel_obj hs g4]
  have hf : (fls G (n, I, J, R) k c)[i]? = some (cv G v) := by rw [fls_at (by omega), hv]
  have hts := hC.2.2.2.2.2.2.1
  have hin : ∀ w ∈ u_ws C T N', w ∈ wz z := fun w hw => List.mem_cons_of_mem _ (g5 w hw)
  have hk9 : k < 1000 := Nat.lt_of_lt_of_le hk hH.2.2.1
  have K := h p e s m args below meth co H locs ls cells slots hC hH hl
  show W _ _ _ _ _ _ _ _ _ _ _ _ _ _ _ (F0 m pc ls (.ref (ad G k) :: st.map (cv G)))
  rw [ad_lt hk9]
  rcases g12 with ⟨q0, q⟩ | ⟨q0, host, q⟩
  · exact va_get hC.1 hC.2.1 hts hin hC.2.2.2.2.2.1 hC.2.2.2.2.2.2.2.2.1 hH.1 k he g1 i g2 (hts _ (List.mem_cons_of_mem _ q)) (fun x hx => by rw [g8] at hx; exact hx) hf hd K
  · exact va_getN hC.1 hC.2.1 hts hin hC.2.2.2.2.2.1 hC.2.2.2.2.2.2.2.2.1 hH.1 k he g1 i g2 (va_Nw.use rfl (hC.2.2.2.2.2.2.2.2.2.1 _ q)) (fun x hx => by rw [g8] at hx; exact hx) hf hd K
theorem X_getI {idx c i k N : Nat} {ty : FieldType} {fin nest : Bool} (hd : decode z.2.1 pc = .ok (.getfield idx, 3)) (hg : GF z.2.2.2.2 idx c i ty fin nest) (hs : sh k = (c, N)) (hk : k < n) (hf : (fk c).getD i 0 = 0) (h : X G d z (pc + 3) lv (vi (I k i) :: st) (n, I, J, R) rc rs Q) : X G d z pc lv (vr k :: st) (n, I, J, R) rc rs Q :=
  X_getv hd hg hs hk (by rw [hf]; rfl) h
theorem X_getJ {idx c i k N : Nat} {ty : FieldType} {fin nest : Bool} (hd : decode z.2.1 pc = .ok (.getfield idx, 3)) (hg : GF z.2.2.2.2 idx c i ty fin nest) (hs : sh k = (c, N)) (hk : k < n) (hf : (fk c).getD i 0 = 1) (h : X G d z (pc + 3) lv (vl (J k i) :: st) (n, I, J, R) rc rs Q) : X G d z pc lv (vr k :: st) (n, I, J, R) rc rs Q :=
  X_getv hd hg hs hk (by rw [hf]; rfl) h
theorem X_getR {idx c i k N : Nat} {ty : FieldType} {fin nest : Bool} {r : Nat} (hd : decode z.2.1 pc = .ok (.getfield idx, 3)) (hg : GF z.2.2.2.2 idx c i ty fin nest) (hs : sh k = (c, N)) (hk : k < n) (hf : (fk c).getD i 0 = 2) (hr : R k i = some r) (h : X G d z (pc + 3) lv (vr r :: st) (n, I, J, R) rc rs Q) : X G d z pc lv (vr k :: st) (n, I, J, R) rc rs Q :=
  X_getv hd hg hs hk (by rw [hf]; show va_rf ((some r).map (ad G)) = va_rf ((R k i).map (ad G)); rw [hr]) h
/-- a write of a field, in general -/
theorem X_putv {idx c i k N : Nat} {ty : FieldType} {fin nest : Bool} {v : AV} {M' : Mm} (hd : decode z.2.1 pc = .ok (.putfield idx, 3)) (hg : GF z.2.2.2.2 idx c i ty fin nest) (hfin : fin = false ∨ (z.1.name = "<init>" ∧ nest = false)) (hs : sh k = (c, N)) (hk : k < n) (hn : narrow ty (cv G v) = cv G v) (hfit : fits ty (cv G v) = true)
    (hM : M'.1 = n) (hv : fvl G M' k i ((fk c).getD i 0) = cv G v) (ho : ∀ j, j ≠ i → ∀ kd, fvl G M' k j kd = fvl G (n, I, J, R) k j kd) (hother : ∀ j, j ≠ k → cel G M' j = cel G (n, I, J, R) j)
    (h : X G d z (pc + 3) lv st M' rc rs Q) : X G d z pc lv (v :: vr k :: st) (n, I, J, R) rc rs Q := by
  intro p e s m args below meth co H locs ls cells slots hC hH hl
  obtain ⟨C, T, N', ty0, g1, g2, g3, g4, g5, g6, g7, g8, g9, g10, g11, g12⟩ := hg
  have he : (wsG G (n, I, J, R))[k]? = some (gB G + k, .inr (c, fls G (n, I, J, R) k c)) := by rw [wsG_at hk, cel_obj hs g4]
  have hts := hC.2.2.2.2.2.2.1
  have hin : ∀ w ∈ u_ws C T N', w ∈ wz z := fun w hw => List.mem_cons_of_mem _ (g5 w hw)
  have hk9 : k < 1000 := Nat.lt_of_lt_of_le hk hH.2.2.1
  have hl1 : i < (fls G (n, I, J, R) k c).length := by rw [fls_len]; omega
  have e1 : (fls G (n, I, J, R) k c).set i (cv G v) = fls G M' k c := fls_set (by omega) hv ho
  have e2 : (wsG G (n, I, J, R)).set k (gB G + k, .inr (c, fls G M' k c)) = wsG G M' := wsG_set hk hM (cel_obj hs g4) hother
  have hd2 : parseFieldDescriptor (T i).2.2.1 = some ty := by rw [← g9]; exact g6 i g2
  have K : ∀ (H1 : Heap) (locs1 : List Loc), va_P (gC G, gI G) vwCl ((wsG G (n, I, J, R)).set k (gB G + k, .inr (c, (fls G (n, I, J, R) k c).set i (cv G v)))) H1 → va_D (gA G) ((wsG G (n, I, J, R)).set k (gB G + k, .inr (c, (fls G (n, I, J, R) k c).set i (cv G v)))) → va_S (gA G) s.heap H1 locs1 → W p (gl G) e (rmz d (cells + rc) (slots + rs)) s m args below meth co H1 locs1 cells slots (MQ below (QQ G (n + rc) Q) args s (cells + rc) (slots + rs) (gA G)) (F0 m (pc + 3) ls (st.map (cv G))) := by
    intro H1 locs1 a1 a2 a3
    rw [e1, e2] at a1
    have K := h p e s m args below meth co H1 locs1 ls cells slots hC ⟨a1, by rw [hM]; exact hH.2.1, by rw [hM]; exact hH.2.2.1, a3⟩ hl
    rw [hM] at K
    exact K
  show W _ _ _ _ _ _ _ _ _ _ _ _ _ _ _ (F0 m pc ls (cv G v :: .ref (ad G k) :: st.map (cv G)))
  rw [ad_lt hk9]
  cases fin with
  | false =>
    rcases g12 with ⟨q0, q⟩ | ⟨q0, host, q⟩
    · exact va_put hC.1 hC.2.1 hts hin ty0 g6 g7 hC.2.2.2.2.2.1 hC.2.2.2.2.2.2.2.2.1 hH.1 (wsG_D _ _) hH.2.2.2 k he g1 i g2 (hts _ (List.mem_cons_of_mem _ q)) (fun x hx => by rw [g8] at hx; exact hx) g10 hd2 hn hfit hl1 hd K
    · exact va_putN hC.1 hC.2.1 hts hin ty0 g6 g7 hC.2.2.2.2.2.1 hC.2.2.2.2.2.2.2.2.1 hH.1 (wsG_D _ _) hH.2.2.2 k he g1 i g2 (va_Nw.use rfl (hC.2.2.2.2.2.2.2.2.2.1 _ q)) (fun x hx => by rw [g8] at hx; exact hx) g10 hd2 hn hfit hl1 hd K
  | true =>
    have hini : z.1.name = "<init>" ∧ nest = false := by
      rcases hfin with q | q
      · cases q
      · exact q
    have hown : (T i).1 = z.2.2.2.2 := g8.trans (g11 hini.2)
    rcases g12 with ⟨q0, q⟩ | ⟨q0, host, q⟩
    · exact va_putF hC.1 hC.2.1 hts hin ty0 g6 g7 hC.2.2.2.2.2.1 hC.2.2.2.2.2.2.2.2.1 hH.1 (wsG_D _ _) hH.2.2.2 k he g1 i g2 (hts _ (List.mem_cons_of_mem _ q)) (fun x hx => by rw [g8] at hx; exact hx) g10 (hC.2.2.2.2.2.2.2.1.trans hini.1) hown hd2 hn hfit hl1 hd K
    · rw [hini.2] at q0
      cases q0
theorem X_putI {idx c i k N : Nat} {fin nest : Bool} {x : Int32} (hd : decode z.2.1 pc = .ok (.putfield idx, 3)) (hg : GF z.2.2.2.2 idx c i .int fin nest) (hfin : fin = false ∨ (z.1.name = "<init>" ∧ nest = false)) (hs : sh k = (c, N)) (hk : k < n) (hf : (fk c).getD i 0 = 0)
    (h : X G d z (pc + 3) lv st (n, sr I k (up (I k) i x), J, R) rc rs Q) : X G d z pc lv (vi x :: vr k :: st) (n, I, J, R) rc rs Q :=
  X_putv (M' := (n, sr I k (up (I k) i x), J, R)) hd hg hfin hs hk rfl rfl rfl (by rw [hf]; simp [fvl, sr, up, cv]) (fun j hj kd => by simp [fvl, sr, up, hj]) (fun j hj => cel_congr (sr_ne hj) rfl rfl) h
theorem nar01 {x : Int32} (h : x = 0 ∨ x = 1) : narrow .boolean (.int x) = .int x ∧ fits .boolean (.int x) = true ∧ vp_nar .boolean x = x := by
  rcases h with rfl | rfl <;> exact ⟨rfl, rfl, rfl⟩
theorem X_putZ {idx c i k N : Nat} {fin nest : Bool} {x : Int32} (hd : decode z.2.1 pc = .ok (.putfield idx, 3)) (hg : GF z.2.2.2.2 idx c i .boolean fin nest) (hfin : fin = false ∨ (z.1.name = "<init>" ∧ nest = false)) (hs : sh k = (c, N)) (hk : k < n) (hf : (fk c).getD i 0 = 0) (hx : x = 0 ∨ x = 1)
    (h : X G d z (pc + 3) lv st (n, sr I k (up (I k) i x), J, R) rc rs Q) : X G d z pc lv (vi x :: vr k :: st) (n, I, J, R) rc rs Q :=
  X_putv (M' := (n, sr I k (up (I k) i x), J, R)) hd hg hfin hs hk (nar01 hx).1 (nar01 hx).2.1 rfl (by rw [hf]; simp [fvl, sr, up, cv]) (fun j hj kd => by simp [fvl, sr, up, hj]) (fun j hj => cel_congr (sr_ne hj) rfl rfl) h
theorem X_putJ {idx c i k N : Nat} {fin nest : Bool} {x : Int64} (hd : decode z.2.1 pc = .ok (.putfield idx, 3)) (hg : GF z.2.2.2.2 idx c i .long fin nest) (hfin : fin = false ∨ (z.1.name = "<init>" ∧ nest = false)) (hs : sh k = (c, N)) (hk : k < n) (hf : (fk c).getD i 0 = 1)
    (h : X G d z (pc + 3) lv st (n, I, sr J k (up (J k) i x), R) rc rs Q) : X G d z pc lv (vl x :: vr k :: st) (n, I, J, R) rc rs Q :=
  X_putv (M' := (n, I, sr J k (up (J k) i x), R)) hd hg hfin hs hk rfl rfl rfl (by rw [hf]; simp [fvl, sr, up, cv]) (fun j hj kd => by simp [fvl, sr, up, hj]) (fun j hj => cel_congr rfl (sr_ne hj) rfl) h
def refTy (ty : FieldType) : Bool := match ty with
  | .object _ => true
  | .array _ => true
  | _ => false
theorem X_putR {idx c i k N : Nat} {ty : FieldType} {fin nest : Bool} {r : Nat} (hd : decode z.2.1 pc = .ok (.putfield idx, 3)) (hg : GF z.2.2.2.2 idx c i ty fin nest) (hfin : fin = false ∨ (z.1.name = "<init>" ∧ nest = false)) (hs : sh k = (c, N)) (hk : k < n) (hf : (fk c).getD i 0 = 2) (ht : refTy ty = true)
    (h : X G d z (pc + 3) lv st (n, I, J, sr R k (up (R k) i (some r))) rc rs Q) : X G d z pc lv (vr r :: vr k :: st) (n, I, J, R) rc rs Q :=
  X_putv (M' := (n, I, J, sr R k (up (R k) i (some r)))) hd hg hfin hs hk (by cases ty <;> first | rfl | cases ht) (by cases ty <;> first | rfl | cases ht) rfl (by rw [hf]; simp [fvl, sr, up, cv]) (fun j hj kd => by simp [fvl, sr, up, hj]) (fun j hj => cel_congr rfl rfl (sr_ne hj)) h
/-! arrays -/
theorem X_iald {k N a : Nat} {x : Int32} (hd : decode z.2.1 pc = .ok (.iaload, 1)) (hs : sh k = (13, N)) (hk : k < n) (hx : x = nI a) (ha : a < N) (hN : N < 2 ^ 31) (h : X G d z (pc + 1) lv (vi (I k a) :: st) (n, I, J, R) rc rs Q) : X G d z pc lv (vi x :: vr k :: st) (n, I, J, R) rc rs Q := by
  intro p e s m args below meth co H locs ls cells slots hC hH hl
  subst hx
  have he : (wsG G (n, I, J, R))[k]? = some (gB G + k, .inl (gY G 0, N, .inl (I k))) := by rw [wsG_at hk, cel_int hs]
  have K := h p e s m args below meth co H locs ls cells slots hC hH hl
  show W _ _ _ _ _ _ _ _ _ _ _ _ _ _ _ (F0 m pc ls (.int (nI a) :: .ref (ad G k) :: st.map (cv G)))
  rw [ad_lt (Nat.lt_of_lt_of_le hk hH.2.2.1)]
  refine va_iald hC.1 hC.2.1 hC.2.2.2.2.2.2.2.2.1 hH.1 k 0 he rfl (vp_in_nI ha hN) hd ?_
  rw [nI_clamp (by omega)]
  exact K
theorem X_zald {k N a : Nat} {x : Int32} (hd : decode z.2.1 pc = .ok (.baload, 1)) (hs : sh k = (15, N)) (hk : k < n) (hx : x = nI a) (ha : a < N) (hN : N < 2 ^ 31) (h : X G d z (pc + 1) lv (vi (I k a) :: st) (n, I, J, R) rc rs Q) : X G d z pc lv (vi x :: vr k :: st) (n, I, J, R) rc rs Q := by
  intro p e s m args below meth co H locs ls cells slots hC hH hl
  subst hx
  have he : (wsG G (n, I, J, R))[k]? = some (gB G + k, .inl (gY G 2, N, .inl (I k))) := by rw [wsG_at hk, cel_bool hs]
  have K := h p e s m args below meth co H locs ls cells slots hC hH hl
  show W _ _ _ _ _ _ _ _ _ _ _ _ _ _ _ (F0 m pc ls (.int (nI a) :: .ref (ad G k) :: st.map (cv G)))
  rw [ad_lt (Nat.lt_of_lt_of_le hk hH.2.2.1)]
  refine va_zald hC.1 hC.2.1 hC.2.2.2.2.2.2.2.2.1 hH.1 k 2 he rfl (vp_in_nI ha hN) hd ?_
  rw [nI_clamp (by omega)]
  exact K
theorem X_lald {k N a : Nat} {x : Int32} (hd : decode z.2.1 pc = .ok (.laload, 1)) (hs : sh k = (14, N)) (hk : k < n) (hx : x = nI a) (ha : a < N) (hN : N < 2 ^ 31) (h : X G d z (pc + 1) lv (vl (J k a) :: st) (n, I, J, R) rc rs Q) : X G d z pc lv (vi x :: vr k :: st) (n, I, J, R) rc rs Q := by
  intro p e s m args below meth co H locs ls cells slots hC hH hl
  subst hx
  have he : (wsG G (n, I, J, R))[k]? = some (gB G + k, .inl (gY G 1, N, .inr (.inl (J k)))) := by rw [wsG_at hk, cel_long hs]
  have K := h p e s m args below meth co H locs ls cells slots hC hH hl
  show W _ _ _ _ _ _ _ _ _ _ _ _ _ _ _ (F0 m pc ls (.int (nI a) :: .ref (ad G k) :: st.map (cv G)))
  rw [ad_lt (Nat.lt_of_lt_of_le hk hH.2.2.1)]
  refine va_lald hC.1 hC.2.1 hC.2.2.2.2.2.2.2.2.1 hH.1 k 1 he rfl (vp_in_nI ha hN) hd ?_
  rw [nI_clamp (by omega)]
  exact K
theorem tys_ref {c : Nat} (h1 : 15 < c) (h2 : c < 19) : ∃ C, (tysG G)[c - 13]? = some (gY G (c - 13), .object C) := by
  rcases (by omega : c = 16 ∨ c = 17 ∨ c = 18) with rfl | rfl | rfl <;> exact ⟨_, rfl⟩
theorem X_aald {k N a c r : Nat} {x : Int32} (hd : decode z.2.1 pc = .ok (.aaload, 1)) (hs : sh k = (c, N)) (hc : 15 < c ∧ c < 19) (hk : k < n) (hx : x = nI a) (ha : a < N) (hN : N < 2 ^ 31) (hr : R k a = some r) (h : X G d z (pc + 1) lv (vr r :: st) (n, I, J, R) rc rs Q) : X G d z pc lv (vi x :: vr k :: st) (n, I, J, R) rc rs Q := by
  intro p e s m args below meth co H locs ls cells slots hC hH hl
  subst hx
  have he : (wsG G (n, I, J, R))[k]? = some (gB G + k, .inl (gY G (c - 13), N, .inr (.inr (.inr (.inr (fun i => (R k i).map (ad G))))))) := by rw [wsG_at hk, cel_ref hs hc.1]
  obtain ⟨C, hC9⟩ := tys_ref (G := G) hc.1 hc.2
  have K := h p e s m args below meth co H locs ls cells slots hC hH hl
  show W _ _ _ _ _ _ _ _ _ _ _ _ _ _ _ (F0 m pc ls (.int (nI a) :: .ref (ad G k) :: st.map (cv G)))
  rw [ad_lt (Nat.lt_of_lt_of_le hk hH.2.2.1)]
  refine va_aldq hC.1 hC.2.1 hC.2.2.2.2.2.2.2.2.1 hH.1 k (c - 13) he hC9 (vp_in_nI ha hN) hd ?_
  rw [nI_clamp (by omega)]
  dsimp only
  rw [hr]
  exact K
theorem upd_up {f : Nat → Int32} {i : Nat} {x : Int32} : upd f i x = up f i x := rfl
theorem updL_up {f : Nat → Int64} {i : Nat} {x : Int64} : vp_updL f i x = up f i x := rfl
theorem X_iast {k N a : Nat} {x v : Int32} (hd : decode z.2.1 pc = .ok (.iastore, 1)) (hs : sh k = (13, N)) (hk : k < n) (hx : x = nI a) (ha : a < N) (hN : N < 2 ^ 31) (h : X G d z (pc + 1) lv st (n, sr I k (up (I k) a v), J, R) rc rs Q) : X G d z pc lv (vi v :: vi x :: vr k :: st) (n, I, J, R) rc rs Q := by
  intro p e s m args below meth co H locs ls cells slots hC hH hl
  subst hx
  have he : (wsG G (n, I, J, R))[k]? = some (gB G + k, .inl (gY G 0, N, .inl (I k))) := by rw [wsG_at hk, cel_int hs]
  show W _ _ _ _ _ _ _ _ _ _ _ _ _ _ _ (F0 m pc ls (.int v :: .int (nI a) :: .ref (ad G k) :: st.map (cv G)))
  rw [ad_lt (Nat.lt_of_lt_of_le hk hH.2.2.1)]
  refine va_iast hC.1 hC.2.1 hC.2.2.2.2.2.2.2.2.1 hH.1 (wsG_D _ _) hH.2.2.2 k 0 he rfl (vp_in_nI ha hN) hd (fun H1 locs1 a1 a2 a3 => ?_)
  have e2 : (wsG G (n, I, J, R)).set k (gB G + k, .inl (gY G 0, N, .inl (up (I k) a v))) = wsG G (n, sr I k (up (I k) a v), J, R) := wsG_set hk rfl (by rw [cel_int hs]; dsimp only; rw [sr_eq]) (fun j hj => cel_congr (sr_ne hj) rfl rfl)
  rw [nI_clamp (by omega), upd_up, e2] at a1
  exact h p e s m args below meth co H1 locs1 ls cells slots hC ⟨a1, hH.2.1, hH.2.2.1, a3⟩ hl
theorem X_zast {k N a : Nat} {x v : Int32} (hd : decode z.2.1 pc = .ok (.bastore, 1)) (hs : sh k = (15, N)) (hk : k < n) (hx : x = nI a) (ha : a < N) (hN : N < 2 ^ 31) (hv : v = 0 ∨ v = 1) (h : X G d z (pc + 1) lv st (n, sr I k (up (I k) a v), J, R) rc rs Q) : X G d z pc lv (vi v :: vi x :: vr k :: st) (n, I, J, R) rc rs Q := by
  intro p e s m args below meth co H locs ls cells slots hC hH hl
  subst hx
  have he : (wsG G (n, I, J, R))[k]? = some (gB G + k, .inl (gY G 2, N, .inl (I k))) := by rw [wsG_at hk, cel_bool hs]
  show W _ _ _ _ _ _ _ _ _ _ _ _ _ _ _ (F0 m pc ls (.int v :: .int (nI a) :: .ref (ad G k) :: st.map (cv G)))
  rw [ad_lt (Nat.lt_of_lt_of_le hk hH.2.2.1)]
  refine va_zast hC.1 hC.2.1 hC.2.2.2.2.2.2.2.2.1 hH.1 (wsG_D _ _) hH.2.2.2 k 2 he rfl (vp_in_nI ha hN) hd (fun H1 locs1 a1 a2 a3 => ?_)
  have e2 : (wsG G (n, I, J, R)).set k (gB G + k, .inl (gY G 2, N, .inl (up (I k) a v))) = wsG G (n, sr I k (up (I k) a v), J, R) := wsG_set hk rfl (by rw [cel_bool hs]; dsimp only; rw [sr_eq]) (fun j hj => cel_congr (sr_ne hj) rfl rfl)
  rw [nI_clamp (by omega), (nar01 hv).2.2, upd_up, e2] at a1
  exact h p e s m args below meth co H1 locs1 ls cells slots hC ⟨a1, hH.2.1, hH.2.2.1, a3⟩ hl
theorem X_last {k N a : Nat} {x : Int32} {v : Int64} (hd : decode z.2.1 pc = .ok (.lastore, 1)) (hs : sh k = (14, N)) (hk : k < n) (hx : x = nI a) (ha : a < N) (hN : N < 2 ^ 31) (h : X G d z (pc + 1) lv st (n, I, sr J k (up (J k) a v), R) rc rs Q) : X G d z pc lv (vl v :: vi x :: vr k :: st) (n, I, J, R) rc rs Q := by
  intro p e s m args below meth co H locs ls cells slots hC hH hl
  subst hx
  have he : (wsG G (n, I, J, R))[k]? = some (gB G + k, .inl (gY G 1, N, .inr (.inl (J k)))) := by rw [wsG_at hk, cel_long hs]
  show W _ _ _ _ _ _ _ _ _ _ _ _ _ _ _ (F0 m pc ls (.long v :: .int (nI a) :: .ref (ad G k) :: st.map (cv G)))
  rw [ad_lt (Nat.lt_of_lt_of_le hk hH.2.2.1)]
  refine va_last hC.1 hC.2.1 hC.2.2.2.2.2.2.2.2.1 hH.1 (wsG_D _ _) hH.2.2.2 k 1 he rfl (vp_in_nI ha hN) hd (fun H1 locs1 a1 a2 a3 => ?_)
  have e2 : (wsG G (n, I, J, R)).set k (gB G + k, .inl (gY G 1, N, .inr (.inl (up (J k) a v)))) = wsG G (n, I, sr J k (up (J k) a v), R) := wsG_set hk rfl (by rw [cel_long hs]; dsimp only; rw [sr_eq]) (fun j hj => cel_congr rfl (sr_ne hj) rfl)
  rw [nI_clamp (by omega), updL_up, e2] at a1
  exact h p e s m args below meth co H1 locs1 ls cells slots hC ⟨a1, hH.2.1, hH.2.2.1, a3⟩ hl
theorem X_alen {k N c : Nat} (hd : decode z.2.1 pc = .ok (.arraylength, 1)) (hs : sh k = (c, N)) (hc : c = 13 ∨ c = 14) (hk : k < n) (h : X G d z (pc + 1) lv (vi (nI N) :: st) (n, I, J, R) rc rs Q) : X G d z pc lv (vr k :: st) (n, I, J, R) rc rs Q := by
  intro p e s m args below meth co H locs ls cells slots hC hH hl
  have K := h p e s m args below meth co H locs ls cells slots hC hH hl
  show W _ _ _ _ _ _ _ _ _ _ _ _ _ _ _ (F0 m pc ls (.ref (ad G k) :: st.map (cv G)))
  rw [ad_lt (Nat.lt_of_lt_of_le hk hH.2.2.1)]
  rcases hc with rfl | rfl
  · exact va_alen hC.1 hC.2.1 hC.2.2.2.2.2.2.2.2.1 hH.1 k 0 (x := (N, .inl (I k))) (by rw [wsG_at hk, cel_int hs]) rfl rfl hd K
  · exact va_alen hC.1 hC.2.1 hC.2.2.2.2.2.2.2.2.1 hH.1 k 1 (x := (N, .inr (.inl (J k)))) (by rw [wsG_at hk, cel_long hs]) rfl rfl hd K
/-! the script and the static rows -/
theorem X_sld {a : Nat} {x : Int32} (hd : decode z.2.1 pc = .ok (.iaload, 1)) (hx : x = nI a) (ha : a < gL G) (hN : gL G < 2 ^ 31) (h : X G d z (pc + 1) lv (vi (gX G a) :: st) (n, I, J, R) rc rs Q) : X G d z pc lv (vi x :: vr 1000 :: st) (n, I, J, R) rc rs Q := by
  intro p e s m args below meth co H locs ls cells slots hC hH hl
  subst hx
  have K := h p e s m args below meth co H locs ls cells slots hC hH hl
  show W _ _ _ _ _ _ _ _ _ _ _ _ _ _ _ (F0 m pc ls (.int (nI a) :: .ref (gS G 0) :: st.map (cv G)))
  have hST := hC.2.2.2.2.2.2.2.2.2.2.2.1.2.2.2.2
  have hB := hC.2.2.2.2.2.2.2.2.2.2.2.2
  refine va_sld hC.1 hC.2.1 hST.1 (Nat.lt_of_lt_of_le hST.2 hB) (A := gA G) (by have := hST.2; unfold gA; omega) hH.2.2.2 (vp_in_nI ha hN) hd ?_
  rw [nI_clamp (by omega)]
  exact K
theorem X_slen (hd : decode z.2.1 pc = .ok (.arraylength, 1)) (h : X G d z (pc + 1) lv (vi (nI (gL G)) :: st) (n, I, J, R) rc rs Q) : X G d z pc lv (vr 1000 :: st) (n, I, J, R) rc rs Q := by
  intro p e s m args below meth co H locs ls cells slots hC hH hl
  have K := h p e s m args below meth co H locs ls cells slots hC hH hl
  show W _ _ _ _ _ _ _ _ _ _ _ _ _ _ _ (F0 m pc ls (.ref (gS G 0) :: st.map (cv G)))
  have hST := hC.2.2.2.2.2.2.2.2.2.2.2.1.2.2.2.2
  have hB := hC.2.2.2.2.2.2.2.2.2.2.2.2
  exact va_slen hC.1 hC.2.1 hST.1 (Nat.lt_of_lt_of_le hST.2 hB) (A := gA G) (by have := hST.2; unfold gA; omega) hH.2.2.2 hd K
theorem X_ildA {a : Nat} {x : Int32} (hd : decode z.2.1 pc = .ok (.iaload, 1)) (hx : x = nI a) (ha : a < 4) (h : X G d z (pc + 1) lv (vi (actsF a) :: st) (n, I, J, R) rc rs Q) : X G d z pc lv (vi x :: vr 1001 :: st) (n, I, J, R) rc rs Q := by
  intro p e s m args below meth co H locs ls cells slots hC hH hl
  subst hx
  have K := h p e s m args below meth co H locs ls cells slots hC hH hl
  show W _ _ _ _ _ _ _ _ _ _ _ _ _ _ _ (F0 m pc ls (.int (nI a) :: .ref (gS G 1) :: st.map (cv G)))
  exact va_ti hC.1 hC.2.1 hC.2.2.2.2.2.2.2.2.2.2.2.1.1.2 hH.2.2.2 (vp_in_nI ha (by omega)) (by rw [nI_clamp (by omega)]; rfl) hd K
theorem X_ildM {a : Nat} {x : Int32} (hd : decode z.2.1 pc = .ok (.iaload, 1)) (hx : x = nI a) (ha : a < 17) (h : X G d z (pc + 1) lv (vi (movesF a) :: st) (n, I, J, R) rc rs Q) : X G d z pc lv (vi x :: vr 1002 :: st) (n, I, J, R) rc rs Q := by
  intro p e s m args below meth co H locs ls cells slots hC hH hl
  subst hx
  have K := h p e s m args below meth co H locs ls cells slots hC hH hl
  show W _ _ _ _ _ _ _ _ _ _ _ _ _ _ _ (F0 m pc ls (.int (nI a) :: .ref (gS G 2) :: st.map (cv G)))
  exact va_ti hC.1 hC.2.1 hC.2.2.2.2.2.2.2.2.2.2.2.1.2.1.2 hH.2.2.2 (vp_in_nI ha (by omega)) (by rw [nI_clamp (by omega)]; rfl) hd K
theorem X_lldH {a : Nat} {x : Int32} (hd : decode z.2.1 pc = .ok (.laload, 1)) (hx : x = nI a) (ha : a < 3) (h : X G d z (pc + 1) lv (vl (highF a) :: st) (n, I, J, R) rc rs Q) : X G d z pc lv (vi x :: vr 1003 :: st) (n, I, J, R) rc rs Q := by
  intro p e s m args below meth co H locs ls cells slots hC hH hl
  subst hx
  have K := h p e s m args below meth co H locs ls cells slots hC hH hl
  show W _ _ _ _ _ _ _ _ _ _ _ _ _ _ _ (F0 m pc ls (.int (nI a) :: .ref (gS G 3) :: st.map (cv G)))
  exact va_tl hC.1 hC.2.1 hC.2.2.2.2.2.2.2.2.2.2.2.1.2.2.1.2 hH.2.2.2 (vp_in_nI ha (by omega)) (by rw [nI_clamp (by omega)]; rfl) hd K
theorem X_lldL {a : Nat} {x : Int32} (hd : decode z.2.1 pc = .ok (.laload, 1)) (hx : x = nI a) (ha : a < 3) (h : X G d z (pc + 1) lv (vl (lowF a) :: st) (n, I, J, R) rc rs Q) : X G d z pc lv (vi x :: vr 1004 :: st) (n, I, J, R) rc rs Q := by
  intro p e s m args below meth co H locs ls cells slots hC hH hl
  subst hx
  have K := h p e s m args below meth co H locs ls cells slots hC hH hl
  show W _ _ _ _ _ _ _ _ _ _ _ _ _ _ _ (F0 m pc ls (.int (nI a) :: .ref (gS G 4) :: st.map (cv G)))
  exact va_tl hC.1 hC.2.1 hC.2.2.2.2.2.2.2.2.2.2.2.1.2.2.2.1.2 hH.2.2.2 (vp_in_nI ha (by omega)) (by rw [nI_clamp (by omega)]; rfl) hd K
theorem X_alenA (hd : decode z.2.1 pc = .ok (.arraylength, 1)) (h : X G d z (pc + 1) lv (vi (nI 4) :: st) (n, I, J, R) rc rs Q) : X G d z pc lv (vr 1001 :: st) (n, I, J, R) rc rs Q := by
  intro p e s m args below meth co H locs ls cells slots hC hH hl
  have K := h p e s m args below meth co H locs ls cells slots hC hH hl
  show W _ _ _ _ _ _ _ _ _ _ _ _ _ _ _ (F0 m pc ls (.ref (gS G 1) :: st.map (cv G)))
  exact va_tlen hC.1 hC.2.1 hC.2.2.2.2.2.2.2.2.2.2.2.1.1.2 hH.2.2.2 rfl hd K
theorem X_alenM (hd : decode z.2.1 pc = .ok (.arraylength, 1)) (h : X G d z (pc + 1) lv (vi (nI 17) :: st) (n, I, J, R) rc rs Q) : X G d z pc lv (vr 1002 :: st) (n, I, J, R) rc rs Q := by
  intro p e s m args below meth co H locs ls cells slots hC hH hl
  have K := h p e s m args below meth co H locs ls cells slots hC hH hl
  show W _ _ _ _ _ _ _ _ _ _ _ _ _ _ _ (F0 m pc ls (.ref (gS G 2) :: st.map (cv G)))
  exact va_tlen hC.1 hC.2.1 hC.2.2.2.2.2.2.2.2.2.2.2.1.2.1.2 hH.2.2.2 rfl hd K
def GS (own : String) (idx : Nat) (C nm de : String) : Prop := Cond.fieldLink own idx C nm de ∈ BIG ∨ ∃ host, Cond.fieldLinkNest own idx C nm de host ∈ NST
theorem X_gets {idx : Nat} {C nm de : String} {a : Nat} (hd : decode z.2.1 pc = .ok (.getstatic idx, 3)) (hg : GS z.2.2.2.2 idx C nm de) (hZ : ∀ U : State, ST G U → va_Z C nm de (.ref (ad G a)) (gA G) U U.heap) (h : X G d z (pc + 3) lv (vr a :: st) (n, I, J, R) rc rs Q) : X G d z pc lv st (n, I, J, R) rc rs Q := by
  intro p e s m args below meth co H locs ls cells slots hC hH hl
  have K := h p e s m args below meth co H locs ls cells slots hC hH hl
  rcases hg with q | ⟨host, q⟩
  · exact va_gets hC.1 hC.2.1 (hZ s hC.2.2.2.2.2.2.2.2.2.2.2.1) hH.2.2.2 hC.2.2.2.2.2.1 (hC.2.2.2.2.2.2.1 _ (List.mem_cons_of_mem _ q)) (fun x hx => hx) hd K
  · exact va_getsN hC.1 hC.2.1 (hZ s hC.2.2.2.2.2.2.2.2.2.2.2.1) hH.2.2.2 hC.2.2.2.2.2.1 (va_Nw.use rfl (hC.2.2.2.2.2.2.2.2.2.1 _ q)) (fun x hx => hx) hd K
theorem hzA (U : State) (h : ST G U) : va_Z "FewerSteps" "ACTS" "[I" (.ref (ad G 1001)) (gA G) U U.heap := h.1.1
theorem hzM (U : State) (h : ST G U) : va_Z "FewerSteps$Search" "MOVES" "[I" (.ref (ad G 1002)) (gA G) U U.heap := h.2.1.1
theorem hzH (U : State) (h : ST G U) : va_Z "FewerSteps$Rows" "HIGH_DIGIT" "[J" (.ref (ad G 1003)) (gA G) U U.heap := h.2.2.1.1
theorem hzL (U : State) (h : ST G U) : va_Z "FewerSteps$Rows" "LOW_DIGIT" "[J" (.ref (ad G 1004)) (gA G) U U.heap := h.2.2.2.1.1
end XH
end
section
def GN (own : String) (idx c : Nat) : Prop := ∃ (C : String) (T : u_T) (N : Nat) (ty0 : Nat → FieldType), vwCl[c]? = some (C, T, N) ∧ (fk c).length = N ∧ c < 13 ∧ (∀ w ∈ u_ws C T N, w ∈ BIG) ∧ (∀ k, k < N → parseFieldDescriptor (T k).2.2.1 = some (ty0 k)) ∧
  Cond.classLink own idx C ∈ BIG ∧ Cond.instantiable C N ∈ BIG ∧ Cond.initialized C ∈ BIG ∧ (∀ j, j < N → defaultValue (ty0 j) = (if (fk c).getD j 0 = 0 then .int 0 else if (fk c).getD j 0 = 1 then .long 0 else .null))
section XN
variable {G : GG} {d : Nat} {z : ZZ} {pc : Nat} {lv : List (Nat × AV)} {st : List AV} {n : Nat} {I : Nat → Nat → Int32} {J : Nat → Nat → Int64} {R : Nat → Nat → Option Nat} {rc rs : Nat} {Q : Option AV → Mm → Prop}
abbrev Mz (n : Nat) (I : Nat → Nat → Int32) (J : Nat → Nat → Int64) (R : Nat → Nat → Option Nat) : Mm := (n + 1, sr I n (fun _ => 0), sr J n (fun _ => 0), sr R n (fun _ => none))
/-- where a new cell lies -/
theorem new_at {s : State} {H H1 : Heap} {locs locs1 : List Loc} {cells q : Nat} {e : va_E} {p : Program} {en : Env} {Rm : Room} {m : MethodId} {args : Array Value} {below : List Frame} {meth : Method} {c : Code} {slots : Nat} {T : State}
    (hH : HX G (n, I, J, R) s H locs cells) (h1 : va_P (gC G, gI G) vwCl (wsG G (n, I, J, R) ++ [(q, e)]) H1) (h2 : va_D (gA G) (wsG G (n, I, J, R) ++ [(q, e)])) (hT : T.heap = H1) (Xx : Stand p (gl G) en Rm s m args below meth c T locs1 (cells + 1) slots) : q = gB G + n := by
  have hz : (wsG G (n, I, J, R)).length = n := by simp [wsG]
  have hq : (wsG G (n, I, J, R) ++ [(q, e)])[n]? = some (q, e) := by
    rw [List.getElem?_append_right (by omega), hz, Nat.sub_self]; rfl
  have a1 := (h1 n _ hq).lt
  have a2 := Xx.heapSize
  have a3 : gB G ≤ q := h2.2 n _ hq
  have a4 := hH.2.1
  rw [hT] at a2
  dsimp only at a1 a4
  have a5 : ¬ q < gB G + n := by
    intro hlt
    have hk : q - gB G < n := by omega
    have hk2 : (wsG G (n, I, J, R) ++ [(q, e)])[q - gB G]? = some (gB G + (q - gB G), cel G (n, I, J, R) (q - gB G)) := by
      rw [List.getElem?_append_left (by omega)]
      exact wsG_at (M := (n, I, J, R)) hk
    have := h2.1 _ _ _ _ hk2 hq (by dsimp only; omega)
    omega
  omega
theorem X_new {idx c N : Nat} (hd : decode z.2.1 pc = .ok (.new idx, 3)) (hg : GN z.2.2.2.2 idx c) (hs : sh n = (c, N)) (hN : (fk c).length = N) (hn : n < 1000) (h : X G d z (pc + 3) lv (vr n :: st) (Mz n I J R) rc rs Q) : X G d z pc lv st (n, I, J, R) (rc + 1) (rs + N) Q := by
  intro p e s m args below meth co H locs ls cells slots hC hH hl
  obtain ⟨C, T, N', ty0, g1, g2, g3, g4, g5, g6, g7, g8, g9⟩ := hg
  obtain rfl : N = N' := hN.symm.trans g2
  have hts := hC.2.2.2.2.2.2.1
  have hin : ∀ w ∈ u_ws C T N, w ∈ wz z := fun w hw => List.mem_cons_of_mem _ (g4 w hw)
  have hA : ∀ q, s.heap.size ≤ q → gA G q := fun q hq => Nat.le_trans hC.2.2.2.2.2.2.2.2.2.2.2.2 hq
  refine va_new (fs := fls G (Mz n I J R) n c) hC.1 hC.2.1 hts hin ty0 g5 hC.2.2.2.2.2.1 (hts _ (List.mem_cons_of_mem _ g6)) (hts _ (List.mem_cons_of_mem _ g7)) (hts _ (List.mem_cons_of_mem _ g8)) hC.2.2.2.2.2.2.2.2.1 hH.1 (wsG_D _ _) hH.2.2.2 hA g1 (fun j hj => ?_) (show cells + 1 ≤ cells + (rc + 1) by omega) (show slots + N ≤ slots + (rs + N) by omega) hd (fun q H1 a1 a2 a3 => ?_)
  · unfold vp_V
    rw [List.getD_eq_getElem?_getD, fls_at (by omega), g9 j hj]
    simp [fvl, sr]
    split
    · rfl
    · split <;> rfl
  · intro T' hT' Xx
    have hq := new_at hH a1 a2 hT' Xx
    subst hq
    rw [wsG_push (M := (n, I, J, R)) (M' := Mz n I J R) rfl (cel_obj hs g3) (fun j hj => cel_congr (sr_ne (Nat.ne_of_lt hj)) (sr_ne (Nat.ne_of_lt hj)) (sr_ne (Nat.ne_of_lt hj)))] at a1
    have K := h p e s m args below meth co H1 locs ls (cells + 1) (slots + N) hC ⟨a1, by have := hH.2.1; dsimp only at this ⊢; omega, hn, a3⟩ hl
    have e1 : cells + 1 + rc = cells + (rc + 1) := by omega
    have e2 : slots + N + rs = slots + (rs + N) := by omega
    have e3 : n + 1 + rc = n + (rc + 1) := by omega
    dsimp only at K
    rw [e1, e2, e3] at K
    have e4 : (cv G (vr n)) = .ref (gB G + n) := by show va_rf (some (ad G n)) = _; rw [ad_lt hn]; rfl
    rw [List.map_cons, e4] at K
    exact K T' hT' Xx
/-- the class of an array, by its type -/
theorem arr_cls {s : State} {cA cB : ClassId} {ty : FieldType} (h1 : va_RA s cA ty) (h2 : va_RA s cB ty) : cA = cB := by
  cases ty with
  | object C =>
    obtain ⟨_, _, _, _, _, e1⟩ := h1
    obtain ⟨_, _, _, _, _, e2⟩ := h2
    exact Option.some.inj (e1.symm.trans e2)
  | _ => exact Option.some.inj (Eq.trans (Eq.symm h1) h2)
theorem X_newa {x : Int32} {N c t : Nat} {at_ : ArrayType} {ty : FieldType} {a0 : vp_A} (hd : decode z.2.1 pc = .ok (.newarray at_, 2)) (harr : Cond.arrayClass (newarray.typeOf at_) ∈ BIG) (hty : newarray.typeOf at_ = ty) (ht : (tysG G)[t]? = some (gY G t, ty))
    (ha : ∀ cA : ClassId, vp_cell cA a0 = arrV cA N (fun _ => defaultValue ty)) (hc : cel G (Mz n I J R) n = .inl (gY G t, a0)) (hx : x = nI N) (hN : N ≤ 65536) (hn : n < 1000) (hb : N * componentBytes ty ≤ 536870912)
    (h : X G d z (pc + 2) lv (vr n :: st) (Mz n I J R) rc rs Q) : X G d z pc lv (vi x :: st) (n, I, J, R) (rc + 1) (rs + N) Q := by
  intro p e s m args below meth co H locs ls cells slots hC hH hl
  have hts := hC.2.2.2.2.2.2.1
  have hA : ∀ q, s.heap.size ≤ q → gA G q := fun q hq => Nat.le_trans hC.2.2.2.2.2.2.2.2.2.2.2.2 hq
  subst hx
  refine va_newa (n := nI N) (N' := N) (a0 := a0) hC.1 hC.2.1 (hts _ (List.mem_cons_of_mem _ harr)) hty hC.2.2.2.2.2.2.2.2.1 hH.1 (wsG_D _ _) hH.2.2.2 hA ha (nI_pos (by omega)) (nI_clamp (by omega)) hb (show cells + 1 ≤ cells + (rc + 1) by omega) (show slots + N ≤ slots + (rs + N) by omega) hd (fun q cA H1 hK1 a1 a2 a3 => ?_)
  intro T' hT' Xx
  have hq := new_at hH a1 a2 hT' Xx
  subst hq
  have hcA : cA = gY G t := by
    have h1 := (hK1.2 (tysG G).length (cA, ty) (by rw [List.getElem?_append_right (Nat.le_refl _), Nat.sub_self]; rfl)).2
    exact arr_cls h1 (hC.2.2.2.2.2.2.2.2.1.2 t _ ht).2
  subst hcA
  rw [wsG_push (M := (n, I, J, R)) (M' := Mz n I J R) rfl hc (fun j hj => cel_congr (sr_ne (Nat.ne_of_lt hj)) (sr_ne (Nat.ne_of_lt hj)) (sr_ne (Nat.ne_of_lt hj)))] at a1
  have K := h p e s m args below meth co H1 locs ls (cells + 1) (slots + N) hC ⟨a1, by have := hH.2.1; dsimp only at this ⊢; omega, hn, a3⟩ hl
  have e1 : cells + 1 + rc = cells + (rc + 1) := by omega
  have e2 : slots + N + rs = slots + (rs + N) := by omega
  have e3 : n + 1 + rc = n + (rc + 1) := by omega
  dsimp only at K
  rw [e1, e2, e3] at K
  have e4 : (cv G (vr n)) = .ref (gB G + n) := by show va_rf (some (ad G n)) = _; rw [ad_lt hn]; rfl
  rw [List.map_cons, e4] at K
  exact K T' hT' Xx
theorem X_newI {x : Int32} {N : Nat} (hd : decode z.2.1 pc = .ok (.newarray .int, 2)) (harr : Cond.arrayClass .int ∈ BIG) (hs : sh n = (13, N)) (hx : x = nI N) (hN : N ≤ 65536) (hn : n < 1000) (h : X G d z (pc + 2) lv (vr n :: st) (Mz n I J R) rc rs Q) : X G d z pc lv (vi x :: st) (n, I, J, R) (rc + 1) (rs + N) Q :=
  X_newa (c := 13) (t := 0) (ty := .int) (a0 := (N, .inl (fun _ => 0))) hd harr rfl rfl (fun cA => rfl) (by rw [cel_int hs]; dsimp only; rw [sr_eq]) hx hN hn (by show N * 4 ≤ _; omega) h
theorem X_newZ {x : Int32} {N : Nat} (hd : decode z.2.1 pc = .ok (.newarray .boolean, 2)) (harr : Cond.arrayClass .boolean ∈ BIG) (hs : sh n = (15, N)) (hx : x = nI N) (hN : N ≤ 65536) (hn : n < 1000) (h : X G d z (pc + 2) lv (vr n :: st) (Mz n I J R) rc rs Q) : X G d z pc lv (vi x :: st) (n, I, J, R) (rc + 1) (rs + N) Q :=
  X_newa (c := 15) (t := 2) (ty := .boolean) (a0 := (N, .inl (fun _ => 0))) hd harr rfl rfl (fun cA => rfl) (by rw [cel_bool hs]; dsimp only; rw [sr_eq]) hx hN hn (by show N * 1 ≤ _; omega) h
theorem X_newJ {x : Int32} {N : Nat} (hd : decode z.2.1 pc = .ok (.newarray .long, 2)) (harr : Cond.arrayClass .long ∈ BIG) (hs : sh n = (14, N)) (hx : x = nI N) (hN : N ≤ 65536) (hn : n < 1000) (h : X G d z (pc + 2) lv (vr n :: st) (Mz n I J R) rc rs Q) : X G d z pc lv (vi x :: st) (n, I, J, R) (rc + 1) (rs + N) Q :=
  X_newa (c := 14) (t := 1) (ty := .long) (a0 := (N, .inr (.inl (fun _ => 0)))) hd harr rfl rfl (fun cA => rfl) (by rw [cel_long hs]; dsimp only; rw [sr_eq]) hx hN hn (by show N * 8 ≤ _; omega) h
theorem X_newq {x : Int32} {idx N c : Nat} {C : String} (hd : decode z.2.1 pc = .ok (.anewarray idx, 3)) (hl1 : Cond.classLink z.2.2.2.2 idx C ∈ BIG) (hao : ∀ U : State, KU G U → va_AO C U) (hs : sh n = (c, N)) (hc : 15 < c) (ht : (tysG G)[c - 13]? = some (gY G (c - 13), .object C)) (hx : x = nI N) (hN : N ≤ 65536) (hn : n < 1000)
    (h : X G d z (pc + 3) lv (vr n :: st) (Mz n I J R) rc rs Q) : X G d z pc lv (vi x :: st) (n, I, J, R) (rc + 1) (rs + N) Q := by
  intro p e s m args below meth co H locs ls cells slots hC hH hl
  have hts := hC.2.2.2.2.2.2.1
  have hA : ∀ q, s.heap.size ≤ q → gA G q := fun q hq => Nat.le_trans hC.2.2.2.2.2.2.2.2.2.2.2.2 hq
  subst hx
  refine va_newq (n := nI N) (N' := N) hC.1 hC.2.1 hC.2.2.2.2.2.1 (hts _ (List.mem_cons_of_mem _ hl1)) (hao s hC.2.2.2.2.2.2.2.2) hC.2.2.2.2.2.2.2.2.1 hH.1 (wsG_D _ _) hH.2.2.2 hA (nI_pos (by omega)) (nI_clamp (by omega)) (by omega) (show cells + 1 ≤ cells + (rc + 1) by omega) (show slots + N ≤ slots + (rs + N) by omega) hd (fun q cA H1 hK1 a1 a2 a3 => ?_)
  intro T' hT' Xx
  have hq := new_at hH a1 a2 hT' Xx
  subst hq
  have hcA : cA = gY G (c - 13) := by
    have h1 := (hK1.2 (tysG G).length (cA, .object C) (by rw [List.getElem?_append_right (Nat.le_refl _), Nat.sub_self]; rfl)).2
    exact arr_cls h1 (hC.2.2.2.2.2.2.2.2.1.2 (c - 13) _ ht).2
  subst hcA
  rw [wsG_push (M := (n, I, J, R)) (M' := Mz n I J R) rfl (by rw [cel_ref hs hc]; dsimp only; rw [sr_eq]; rfl) (fun j hj => cel_congr (sr_ne (Nat.ne_of_lt hj)) (sr_ne (Nat.ne_of_lt hj)) (sr_ne (Nat.ne_of_lt hj)))] at a1
  have K := h p e s m args below meth co H1 locs ls (cells + 1) (slots + N) hC ⟨a1, by have := hH.2.1; dsimp only at this ⊢; omega, hn, a3⟩ hl
  have e1 : cells + 1 + rc = cells + (rc + 1) := by omega
  have e2 : slots + N + rs = slots + (rs + N) := by omega
  have e3 : n + 1 + rc = n + (rc + 1) := by omega
  dsimp only at K
  rw [e1, e2, e3] at K
  have e4 : (cv G (vr n)) = .ref (gB G + n) := by show va_rf (some (ad G n)) = _; rw [ad_lt hn]; rfl
  rw [List.map_cons, e4] at K
  exact K T' hT' Xx
/-- a reference into a row of references: c the row's kind, c2 the object's class -/
theorem X_aast {k N a c c2 N2 v : Nat} {x : Int32} {C : String} {T : u_T} {Nc : Nat} (hd : decode z.2.1 pc = .ok (.aastore, 1)) (hs : sh k = (c, N)) (hc : 15 < c) (ht : (tysG G)[c - 13]? = some (gY G (c - 13), .object C)) (hk : k < n) (hv : v < n) (hs2 : sh v = (c2, N2)) (hc2 : c2 < 13) (hcl : vwCl[c2]? = some (C, T, Nc)) (hx : x = nI a) (ha : a < N) (hN : N < 2 ^ 31)
    (h : X G d z (pc + 1) lv st (n, I, J, sr R k (up (R k) a (some v))) rc rs Q) : X G d z pc lv (vr v :: vi x :: vr k :: st) (n, I, J, R) rc rs Q := by
  intro p e s m args below meth co H locs ls cells slots hC hH hl
  subst hx
  have hk9 : k < 1000 := Nat.lt_of_lt_of_le hk hH.2.2.1
  have hv9 : v < 1000 := Nat.lt_of_lt_of_le hv hH.2.2.1
  have he : (wsG G (n, I, J, R))[k]? = some (gB G + k, .inl (gY G (c - 13), N, .inr (.inr (.inr (.inr (fun i => (R k i).map (ad G))))))) := by rw [wsG_at hk, cel_ref hs hc]
  have hev : (wsG G (n, I, J, R))[v]? = some (gB G + v, .inr (c2, fls G (n, I, J, R) v c2)) := by rw [wsG_at hv, cel_obj hs2 hc2]
  show W _ _ _ _ _ _ _ _ _ _ _ _ _ _ _ (F0 m pc ls (.ref (ad G v) :: .int (nI a) :: .ref (ad G k) :: st.map (cv G)))
  rw [ad_lt hk9, ad_lt hv9]
  refine va_astq hC.1 hC.2.1 hC.2.2.2.2.2.2.2.2.1 hH.1 (wsG_D _ _) hH.2.2.2 k (c - 13) v c2 he ht hev hcl (vp_in_nI ha hN) hd (fun H1 locs1 a1 a2 a3 => ?_)
  have e1 : (va_up (fun i => (R k i).map (ad G)) (nI a).toNatClampNeg (some (gB G + v))) = (fun i => (sr R k (up (R k) a (some v)) k i).map (ad G)) := by
    funext i
    rw [nI_clamp (by omega), sr_eq]
    by_cases hi : i = a
    · subst hi
      rw [up_eq]
      simp [va_up, ad_lt hv9]
    · rw [up_ne hi]
      simp [va_up, hi]
  have e2 : (wsG G (n, I, J, R)).set k (gB G + k, .inl (gY G (c - 13), N, .inr (.inr (.inr (.inr (fun i => (sr R k (up (R k) a (some v)) k i).map (ad G))))))) = wsG G (n, I, J, sr R k (up (R k) a (some v))) := wsG_set hk rfl (by rw [cel_ref hs hc]) (fun j hj => cel_congr rfl rfl (sr_ne hj))
  rw [e1, e2] at a1
  exact h p e s m args below meth co H1 locs1 ls cells slots hC ⟨a1, hH.2.1, hH.2.2.1, a3⟩ hl
def catA (v : AV) : Nat := if isL v then 2 else 1
theorem cat_sum (st : List AV) : ((st.map (cv G)).map fun v => v.category).sum = (st.map catA).sum := by
  induction st with
  | nil => rfl
  | cons v r ih => simp only [List.map_cons, List.sum_cons, ih, cat_isL, catA]
theorem X_objInit {idx a : Nat} (hd : decode z.2.1 pc = .ok (.invokespecial idx, 3)) (h1 : Cond.methodLink z.2.2.2.2 idx objectInit ∈ BIG) (h2 : Cond.instanceMethod objectInit ∈ BIG) (h3 : Cond.code objectInit ⟨#[0xb1]⟩ 1 none ∈ BIG) (hd1 : 1 ≤ d) (hst : (st.map catA).sum ≤ 8) (h : X G d z (pc + 3) lv st (n, I, J, R) rc rs Q) : X G d z pc lv (vr a :: st) (n, I, J, R) rc rs Q := by
  intro p e s m args below meth co H locs ls cells slots hC hH hl
  have hts := hC.2.2.2.2.2.2.1
  have K := h p e s m args below meth co H locs ls cells slots hC hH hl
  refine W.objInit (a := ad G a) (rest := st.map (cv G)) hC.1 hC.2.1 hC.2.2.2.2.2.1 (hts _ (List.mem_cons_of_mem _ h1)) (hts _ (List.mem_cons_of_mem _ h2)) (hts _ (List.mem_cons_of_mem _ h3)) rfl (by rw [hC.2.2.2.2.1]; exact hl.1) rfl hd hd1 ?_ K
  have := lv_room (m := m) (pc := pc) (ls := ls) (rest := (vr a :: st).map (cv G)) (st := st.map (cv G)) (by rw [cat_sum]; exact hst)
  have e9 : (rmz d (cells + rc) (slots + rs)).locals = 64 * d := rfl
  rw [e9]
  omega
theorem X_copyI {idx k0 k1 n0 n1 sp dp l : Nat} {x1 x2 x3 : Int32} (hd : decode z.2.1 pc = .ok (.invokestatic idx, 3)) (h1 : Cond.methodLink z.2.2.2.2 idx arraycopyName ∈ BIG) (h2 : Cond.native arraycopyName ∈ BIG) (h3 : Cond.static arraycopyName ∈ BIG) (h4 : Cond.initialized "java/lang/System" ∈ BIG)
    (hs0 : sh k0 = (13, n0)) (hs1 : sh k1 = (13, n1)) (hk0 : k0 < n) (hk1 : k1 < n) (e1 : x1 = nI sp) (e2 : x2 = nI dp) (e3 : x3 = nI l) (hb0 : sp + l ≤ n0) (hb1 : dp + l ≤ n1) (hn0 : n0 ≤ 65536) (hn1 : n1 ≤ 65536) (hd1 : 2 ≤ d) (hst : (st.map catA).sum ≤ 8)
    (h : X G d z (pc + 3) lv st (n, sr I k1 (va_cpy (I k0) (I k1) sp dp l), J, R) rc rs Q) : X G d z pc lv (vi x3 :: vi x2 :: vr k1 :: vi x1 :: vr k0 :: st) (n, I, J, R) rc rs Q := by
  intro p e s m args below meth co H locs ls cells slots hC hH hl
  have hts := hC.2.2.2.2.2.2.1
  subst e1; subst e2; subst e3
  have he0 : (wsG G (n, I, J, R))[k0]? = some (gB G + k0, .inl (gY G 0, n0, .inl (I k0))) := by rw [wsG_at hk0, cel_int hs0]
  have he1 : (wsG G (n, I, J, R))[k1]? = some (gB G + k1, .inl (gY G 0, n1, .inl (I k1))) := by rw [wsG_at hk1, cel_int hs1]
  show W _ _ _ _ _ _ _ _ _ _ _ _ _ _ _ (F0 m pc ls (.int (nI l) :: .int (nI dp) :: .ref (ad G k1) :: .int (nI sp) :: .ref (ad G k0) :: st.map (cv G)))
  rw [ad_lt (Nat.lt_of_lt_of_le hk0 hH.2.2.1), ad_lt (Nat.lt_of_lt_of_le hk1 hH.2.2.1)]
  have c1 : (nI sp).toNatClampNeg = sp := nI_clamp (by omega)
  have c2 : (nI dp).toNatClampNeg = dp := nI_clamp (by omega)
  have c3 : (nI l).toNatClampNeg = l := nI_clamp (by omega)
  refine va_copyi hC.1 hC.2.1 (by rw [hC.2.2.2.2.1]; exact hl.1.symm) hC.2.2.2.2.2.1 (hts _ (List.mem_cons_of_mem _ h1)) (hts _ (List.mem_cons_of_mem _ h2)) (hts _ (List.mem_cons_of_mem _ h3)) (hts _ (List.mem_cons_of_mem _ h4)) hC.2.2.2.2.2.2.2.2.1 hH.1 (wsG_D _ _) hH.2.2.2 k0 k1 0 0 he0 he1 rfl rfl rfl (nI_pos (by omega)) (nI_pos (by omega)) (nI_pos (by omega)) (by rw [c1, c3]; exact hb0) (by rw [c2, c3]; exact hb1) (fun i _ => rfl) (show 1 ≤ d by omega) ?_ hd (fun H1 locs1 a1 a2 a3 => ?_)
  · have e9 : (rmz d (cells + rc) (slots + rs)).locals = 64 * d := rfl
    rw [e9, cat_sum]
    have : nativeFrameWords "java/lang/System" "arraycopy" 5 + 11 ≤ 120 := by decide +kernel
    omega
  · rw [c1, c2, c3] at a1
    have e4 : (wsG G (n, I, J, R)).set k1 (gB G + k1, .inl (gY G 0, n1, .inl (va_cpy (I k0) (I k1) sp dp l))) = wsG G (n, sr I k1 (va_cpy (I k0) (I k1) sp dp l), J, R) := wsG_set hk1 rfl (by rw [cel_int hs1]; dsimp only; rw [sr_eq]) (fun j hj => cel_congr (sr_ne hj) rfl rfl)
    rw [e4] at a1
    exact h p e s m args below meth co H1 locs1 ls cells slots hC ⟨a1, hH.2.1, hH.2.2.1, a3⟩ hl
theorem X_copyL {idx k0 k1 n0 n1 sp dp l : Nat} {x1 x2 x3 : Int32} (hd : decode z.2.1 pc = .ok (.invokestatic idx, 3)) (h1 : Cond.methodLink z.2.2.2.2 idx arraycopyName ∈ BIG) (h2 : Cond.native arraycopyName ∈ BIG) (h3 : Cond.static arraycopyName ∈ BIG) (h4 : Cond.initialized "java/lang/System" ∈ BIG)
    (hs0 : sh k0 = (14, n0)) (hs1 : sh k1 = (14, n1)) (hk0 : k0 < n) (hk1 : k1 < n) (e1 : x1 = nI sp) (e2 : x2 = nI dp) (e3 : x3 = nI l) (hb0 : sp + l ≤ n0) (hb1 : dp + l ≤ n1) (hn0 : n0 ≤ 65536) (hn1 : n1 ≤ 65536) (hd1 : 2 ≤ d) (hst : (st.map catA).sum ≤ 8)
    (h : X G d z (pc + 3) lv st (n, I, sr J k1 (va_cpy (J k0) (J k1) sp dp l), R) rc rs Q) : X G d z pc lv (vi x3 :: vi x2 :: vr k1 :: vi x1 :: vr k0 :: st) (n, I, J, R) rc rs Q := by
  intro p e s m args below meth co H locs ls cells slots hC hH hl
  have hts := hC.2.2.2.2.2.2.1
  subst e1; subst e2; subst e3
  have he0 : (wsG G (n, I, J, R))[k0]? = some (gB G + k0, .inl (gY G 1, n0, .inr (.inl (J k0)))) := by rw [wsG_at hk0, cel_long hs0]
  have he1 : (wsG G (n, I, J, R))[k1]? = some (gB G + k1, .inl (gY G 1, n1, .inr (.inl (J k1)))) := by rw [wsG_at hk1, cel_long hs1]
  show W _ _ _ _ _ _ _ _ _ _ _ _ _ _ _ (F0 m pc ls (.int (nI l) :: .int (nI dp) :: .ref (ad G k1) :: .int (nI sp) :: .ref (ad G k0) :: st.map (cv G)))
  rw [ad_lt (Nat.lt_of_lt_of_le hk0 hH.2.2.1), ad_lt (Nat.lt_of_lt_of_le hk1 hH.2.2.1)]
  have c1 : (nI sp).toNatClampNeg = sp := nI_clamp (by omega)
  have c2 : (nI dp).toNatClampNeg = dp := nI_clamp (by omega)
  have c3 : (nI l).toNatClampNeg = l := nI_clamp (by omega)
  refine va_copyl hC.1 hC.2.1 (by rw [hC.2.2.2.2.1]; exact hl.1.symm) hC.2.2.2.2.2.1 (hts _ (List.mem_cons_of_mem _ h1)) (hts _ (List.mem_cons_of_mem _ h2)) (hts _ (List.mem_cons_of_mem _ h3)) (hts _ (List.mem_cons_of_mem _ h4)) hC.2.2.2.2.2.2.2.2.1 hH.1 (wsG_D _ _) hH.2.2.2 k0 k1 1 1 he0 he1 rfl rfl rfl (nI_pos (by omega)) (nI_pos (by omega)) (nI_pos (by omega)) (by rw [c1, c3]; exact hb0) (by rw [c2, c3]; exact hb1) (fun i _ => rfl) (show 1 ≤ d by omega) ?_ hd (fun H1 locs1 a1 a2 a3 => ?_)
  · have e9 : (rmz d (cells + rc) (slots + rs)).locals = 64 * d := rfl
    rw [e9, cat_sum]
    have : nativeFrameWords "java/lang/System" "arraycopy" 5 + 11 ≤ 120 := by decide +kernel
    omega
  · rw [c1, c2, c3] at a1
    have e4 : (wsG G (n, I, J, R)).set k1 (gB G + k1, .inl (gY G 1, n1, .inr (.inl (va_cpy (J k0) (J k1) sp dp l)))) = wsG G (n, I, sr J k1 (va_cpy (J k0) (J k1) sp dp l), R) := wsG_set hk1 rfl (by rw [cel_long hs1]; dsimp only; rw [sr_eq]) (fun j hj => cel_congr rfl (sr_ne hj) rfl)
    rw [e4] at a1
    exact h p e s m args below meth co H1 locs1 ls cells slots hC ⟨a1, hH.2.1, hH.2.2.1, a3⟩ hl
end XN
end
section
def qi (Q : Int32 → Mm → Prop) : Option AV → Mm → Prop := fun r M => ∃ x, r = some (vi x) ∧ Q x M
def ql (Q : Int64 → Mm → Prop) : Option AV → Mm → Prop := fun r M => ∃ x, r = some (vl x) ∧ Q x M
def qv (Q : Mm → Prop) : Option AV → Mm → Prop := fun r M => r = none ∧ Q M
/-- what a call's words say: the callee, how many parameters -/
def CK (own : String) (idx : Nat) (z' : ZZ) (np : Nat) : Prop := goodWord (Cond.code z'.1 z'.2.1 z'.2.2.1 z'.2.2.2.1) = true ∧ Cond.code z'.1 z'.2.1 z'.2.2.1 z'.2.2.2.1 ∈ BIG ∧ Cond.initialized z'.1.cls ∈ BIG ∧
  (Cond.methodLink own idx z'.1 ∈ BIG ∨ ∃ host, Cond.methodLinkNest own idx z'.1 host ∈ NST) ∧ (z'.1.cls ≠ "java/lang/invoke/MethodHandle" ∧ z'.1.cls ≠ "java/lang/invoke/VarHandle" ∧ (parseMethodDescriptor z'.1.desc).map (fun d => d.parameters.length) = some np) ∧ z'.2.2.1 ≤ 45
def CKV (own : String) (idx : Nat) (z' : ZZ) (c np : Nat) : Prop := CK own idx z' np ∧ Cond.instanceMethod z'.1 ∈ BIG ∧ Cond.selects z'.1.cls z'.1 z'.1 ∈ BIG ∧ ∃ (T : u_T) (N : Nat), vwCl[c]? = some (z'.1.cls, T, N) ∧ c < 13
def CKS (own : String) (idx : Nat) (z' : ZZ) (np : Nat) : Prop := CK own idx z' np ∧ Cond.static z'.1 ∈ BIG
def CKI (own : String) (idx : Nat) (z' : ZZ) (np : Nat) : Prop := CK own idx z' np ∧ Cond.instanceMethod z'.1 ∈ BIG ∧ z'.1.name = "<init>" ∧ z'.2.2.2.1 = none
theorem big_good {w : Cond} (h : w ∈ BIG) : goodWord w = true := (List.mem_filter.mp h).2
theorem wz_good {z z' : ZZ} (h : Cond.code z'.1 z'.2.1 z'.2.2.1 z'.2.2.2.1 ∈ BIG) : GoodIn (wz z) (wz z') := by
  intro w hw
  rcases List.mem_cons.mp hw with e | hw
  · subst e
    exact ⟨List.mem_cons_of_mem _ h, good_of_word (big_good h)⟩
  · exact ⟨List.mem_cons_of_mem _ hw, good_of_word (big_good hw)⟩
section XC
variable {G : GG} {d : Nat} {z : ZZ} {pc : Nat} {lv : List (Nat × AV)} {st : List AV} {M : Mm} {rc rs : Nat} {Q : Option AV → Mm → Prop}
theorem WU_blind {av : List AV} : FrameBlind (va_Pc (av.map (cv G)) (WU G M)) := by
  intro a U g mk h
  obtain ⟨h1, h2, h3, h4, h5⟩ := h
  exact ⟨h1, KU_calling h2, h3, h4, h5⟩
/-- behind a call -/
theorem x_back {p : Program} {e : Env} {s : State} {m : MethodId} {args : Array Value} {below : List Frame} {meth : Method} {c : Code} {H : Heap} {locs : List Loc} {ls : Array Slot} {cells slots mc ms n' : Nat} {Rm : Room} {st0 rest : List Value} {a : Array Value} {Q' : Option AV → Mm → Prop} {Qw : State → Prop}
    (hr : va_Run p (gl G) e Rm s m args below meth c H locs cells slots mc ms (F0 m pc ls st0) rest (QQ G n' Q' a) (gA G)) (hS : va_S (gA G) s.heap H locs)
    (kk : ∀ (r : Option AV) (M' : Mm) (t : State) (H1 : Heap) (locs1 : List Loc), t.heap = H1 → Q' r M' → M'.1 = n' → WU G M' t → va_S (gA G) s.heap H1 locs1 → W p (gl G) e Rm s m args below meth c H1 locs1 (cells + mc) (slots + ms) Qw (F0 m (pc + 3) ls ((r.map (cv G)).toList ++ rest))) : W p (gl G) e Rm s m args below meth c H locs cells slots Qw (F0 m pc ls st0) := by
  intro T hT Xx
  obtain ⟨v, st₀, t, T', L, h0, X', hL, e1, e2, ⟨⟨r, M', hv, hp, hn, hb⟩, hz, hk⟩, sx⟩ := hr T hT Xx
  cases hv
  rw [h0] at hz hk
  obtain ⟨t2, a1, b1⟩ := kk r M' t T'.heap (locs ++ L) e1.symm hp hn hb
    ⟨Nat.le_trans hS.1 (by rw [e1]; exact hz), fun q h1 h2 => by rw [e1, hk q (Nat.lt_of_lt_of_le h1 hS.1) h2]; exact hS.2.1 q h1 h2, fun q hq => by
      rcases List.mem_append.mp hq with h | h
      · exact hS.2.2 q h
      · exact hL q h⟩ T' rfl X'
  exact ⟨t2, sx t2 a1, b1⟩
theorem x_room {mc ms mc' ms' ml : Nat} (h1 : 1 ≤ d) (h2 : ml ≤ 45) : (rmz (d - 1) mc' ms').frames + 1 ≤ (rmz d mc ms).frames ∧ 8 + (ml + 11) + (rmz (d - 1) mc' ms').locals ≤ (rmz d mc ms).locals := by
  refine ⟨show d - 1 + 1 ≤ d by omega, show 8 + (ml + 11) + 64 * (d - 1) ≤ 64 * d by omega⟩
/-- the callee's start, out of the caller's heap -/
theorem x_pre {p : Program} {s : State} {m : MethodId} {args : Array Value} {meth : Method} {c : Code} {H : Heap} {locs : List Loc} {cells : Nat} {av : List AV} (hC : CX G z p s m args meth c) (hH : HX G M s H locs cells) (hz : H.size = gB G + M.1) :
    ∀ U : State, U.heap = H → s.WarmedH U.vm → va_Pc (av.map (cv G)) (WU G M) (av.map (cv G)).toArray U := by
  intro U hU hW
  refine ⟨rfl, KU_moved hW (by rw [hU]; exact hH.2.2.2.1) (fun q h1 h2 => by rw [hU]; exact hH.2.2.2.2.1 q h1 h2) hC.2.2.2.2.2.2.2.2, by rw [hU]; exact hH.1, by rw [hU]; exact hz, hH.2.2.1⟩
/-- a call's continuation -/
theorem x_cont {p : Program} {e : Env} {s : State} {m : MethodId} {args : Array Value} {below : List Frame} {meth : Method} {c : Code} {ls : Array Slot} {cells slots mc ms : Nat} {H1 : Heap} {locs1 : List Loc} {r : Option AV} {M' : Mm} {t : State}
    (hC : CX G z p s m args meth c) (hl : LX G z lv ls) (hcel : s.heap.size + cells = gB G + M.1) (ht : t.heap = H1) (hn : M'.1 = M.1 + mc) (hb : WU G M' t) (hS : va_S (gA G) s.heap H1 locs1) (h : X G d z (pc + 3) lv (r.toList ++ st) M' rc rs Q) :
    W p (gl G) e (rmz d (cells + (mc + rc)) (slots + (ms + rs))) s m args below meth c H1 locs1 (cells + mc) (slots + ms) (MQ below (QQ G (M.1 + (mc + rc)) Q) args s (cells + (mc + rc)) (slots + (ms + rs)) (gA G)) (F0 m (pc + 3) ls ((r.map (cv G)).toList ++ st.map (cv G))) := by
  have K := h p e s m args below meth c H1 locs1 ls (cells + mc) (slots + ms) hC ⟨by rw [← ht]; exact hb.2.1, by omega, hb.2.2.2, hS⟩ hl
  rw [Nat.add_assoc cells, Nat.add_assoc slots, hn, Nat.add_assoc M.1] at K
  have e1 : (r.map (cv G)).toList ++ st.map (cv G) = (r.toList ++ st).map (cv G) := by cases r <;> rfl
  rw [e1]
  exact K
theorem X_callV {idx c np k N mc ms : Nat} {z' : ZZ} {As stk : List AV} {Q' : Option AV → Mm → Prop} (hd : decode z.2.1 pc = .ok (.invokevirtual idx, 3)) (hck : CKV z.2.2.2.2 idx z' c np) (hnp : As.length = np) (hstk : stk = As.reverse ++ vr k :: st) (hs : sh k = (c, N)) (hk : k < M.1) (hd1 : 1 ≤ d) (hst : (st.map catA).sum ≤ 8)
    (hY : Y G (d - 1) z' (vr k :: As) M mc ms Q') (h : ∀ r M', Q' r M' → X G d z (pc + 3) lv (r.toList ++ st) M' rc rs Q) : X G d z pc lv stk M (mc + rc) (ms + rs) Q := by
  intro p e s m args below meth co H locs ls cells slots hC hH hl
  obtain ⟨⟨g0, g1, g2, g3, g4, g5⟩, g6, g7, T, N', g8, g9⟩ := hck
  have hts := hC.2.2.2.2.2.2.1
  have ok : ∀ {w : Cond}, w ∈ BIG → w.before args s = true := fun hw => hts _ (List.mem_cons_of_mem _ hw)
  have hk9 : k < 1000 := Nat.lt_of_lt_of_le hk hH.2.2.1
  refine W_size hH hC.2.2.2.2.2.2.2.2.2.2.2.2 (fun hz => ?_)
  have hrecv : ∃ cell : Cell, H[ad G k]? = some cell ∧ cell.vm.isStatics = false ∧ s.vm.findClass z'.1.cls = some cell.cls := by
    rw [ad_lt hk9]
    exact va_recv (q := (z'.1.cls, T, N')) hC.2.2.2.2.2.2.2.2.1 hH.1 g8 (q0 := k) (fs := fls G M k c) (by rw [wsG_at hk, cel_obj hs g9])
  have hstack : (F0 m pc ls (stk.map (cv G))).stack = (As.map (cv G)).reverse ++ .ref (ad G k) :: st.map (cv G) := by
    show stk.map (cv G) = _
    rw [hstk, List.map_append, List.map_reverse]
    rfl
  have hroom := lv_room (m := m) (pc := pc) (ls := ls) (rest := stk.map (cv G)) (st := st.map (cv G)) (by rw [cat_sum]; exact hst)
  have hpre : PreV s H z'.1.cls (ad G k) (va_Pc ((vr k :: As).map (cv G)) (WU G M)) (As.map (cv G)) := ⟨WU_blind, hrecv, x_pre (av := vr k :: As) hC hH hz⟩
  have S : CallFix p m co z.2.1 z.2.2.1 s args (wz z) z.2.2.2.2 := ⟨hC.1, hC.2.1, hC.2.2.2.2.1, hC.2.2.2.2.2.1, hts⟩
  have hf : cells + mc ≤ (rmz d (cells + (mc + rc)) (slots + (ms + rs))).cells ∧ slots + ms ≤ (rmz d (cells + (mc + rc)) (slots + (ms + rs))).slots := ⟨show _ ≤ cells + (mc + rc) by omega, show _ ≤ slots + (ms + rs) by omega⟩
  have hrun : va_Run p (gl G) e (rmz d (cells + (mc + rc)) (slots + (ms + rs))) s m args below meth co H locs cells slots mc ms (F0 m pc ls (stk.map (cv G))) (st.map (cv G)) (QQ G (M.1 + mc) Q' (Value.ref (ad G k) :: As.map (cv G)).toArray) (gA G) := by
    rcases g3 with q | ⟨host, q⟩
    · exact va_runV S hY ⟨callB_of np hts (wz_good g1) rfl rfl rfl (ok g2) (ok q) g4 (x_room hd1 g5), ok g6, ok g7⟩ hpre rfl (by rw [List.length_map]; exact hnp) hl.1 hstack hroom hd hf
    · exact va_runVN S hY ⟨va_cnB np hts (wz_good g1) rfl rfl rfl (hC.2.2.2.2.2.2.2.2.2.1 _ q) (ok g2) g4 (x_room hd1 g5), ok g6, ok g7⟩ hpre rfl (by rw [List.length_map]; exact hnp) hl.1 hstack hroom hd hf
  exact x_back hrun hH.2.2.2 (fun r M' t H1 locs1 ht hq hn hb hS => x_cont hC hl hH.2.1 ht hn hb hS (h r M' hq))
theorem X_callS {idx np mc ms : Nat} {z' : ZZ} {As stk : List AV} {Q' : Option AV → Mm → Prop} (hd : decode z.2.1 pc = .ok (.invokestatic idx, 3)) (hck : CKS z.2.2.2.2 idx z' np) (hnp : As.length = np) (hstk : stk = As.reverse ++ st) (hd1 : 1 ≤ d) (hst : (st.map catA).sum ≤ 8)
    (hY : Y G (d - 1) z' As M mc ms Q') (h : ∀ r M', Q' r M' → X G d z (pc + 3) lv (r.toList ++ st) M' rc rs Q) : X G d z pc lv stk M (mc + rc) (ms + rs) Q := by
  intro p e s m args below meth co H locs ls cells slots hC hH hl
  obtain ⟨⟨g0, g1, g2, g3, g4, g5⟩, g6⟩ := hck
  have hts := hC.2.2.2.2.2.2.1
  have ok : ∀ {w : Cond}, w ∈ BIG → w.before args s = true := fun hw => hts _ (List.mem_cons_of_mem _ hw)
  refine W_size hH hC.2.2.2.2.2.2.2.2.2.2.2.2 (fun hz => ?_)
  have hstack : (F0 m pc ls (stk.map (cv G))).stack = (As.map (cv G)).reverse ++ st.map (cv G) := by
    show stk.map (cv G) = _
    rw [hstk, List.map_append, List.map_reverse]
  have hroom := lv_room (m := m) (pc := pc) (ls := ls) (rest := stk.map (cv G)) (st := st.map (cv G)) (by rw [cat_sum]; exact hst)
  have hpre : PreS s H (va_Pc (As.map (cv G)) (WU G M)) (As.map (cv G)) := ⟨WU_blind, x_pre (av := As) hC hH hz⟩
  have S : CallFix p m co z.2.1 z.2.2.1 s args (wz z) z.2.2.2.2 := ⟨hC.1, hC.2.1, hC.2.2.2.2.1, hC.2.2.2.2.2.1, hts⟩
  have hf : cells + mc ≤ (rmz d (cells + (mc + rc)) (slots + (ms + rs))).cells ∧ slots + ms ≤ (rmz d (cells + (mc + rc)) (slots + (ms + rs))).slots := ⟨show _ ≤ cells + (mc + rc) by omega, show _ ≤ slots + (ms + rs) by omega⟩
  have hrun : va_Run p (gl G) e (rmz d (cells + (mc + rc)) (slots + (ms + rs))) s m args below meth co H locs cells slots mc ms (F0 m pc ls (stk.map (cv G))) (st.map (cv G)) (QQ G (M.1 + mc) Q' (As.map (cv G)).toArray) (gA G) := by
    rcases g3 with q | ⟨host, q⟩
    · exact va_runS S hY ⟨callB_of np hts (wz_good g1) rfl rfl rfl (ok g2) (ok q) g4 (x_room hd1 g5), ok g6⟩ hpre rfl (by rw [List.length_map]; exact hnp) hl.1 hstack hroom hd hf
    · exact va_runSN S hY ⟨va_cnB np hts (wz_good g1) rfl rfl rfl (hC.2.2.2.2.2.2.2.2.2.1 _ q) (ok g2) g4 (x_room hd1 g5), ok g6, trivial⟩ hpre rfl (by rw [List.length_map]; exact hnp) hl.1 hstack hroom hd hf
  exact x_back hrun hH.2.2.2 (fun r M' t H1 locs1 ht hq hn hb hS => x_cont hC hl hH.2.1 ht hn hb hS (h r M' hq))
theorem X_callI {idx np k mc ms : Nat} {z' : ZZ} {As stk : List AV} {Q' : Option AV → Mm → Prop} (hd : decode z.2.1 pc = .ok (.invokespecial idx, 3)) (hck : CKI z.2.2.2.2 idx z' np) (hnp : As.length = np) (hstk : stk = As.reverse ++ vr k :: st) (hd1 : 1 ≤ d) (hst : (st.map catA).sum ≤ 8)
    (hY : Y G (d - 1) z' (vr k :: As) M mc ms Q') (h : ∀ r M', Q' r M' → X G d z (pc + 3) lv (r.toList ++ st) M' rc rs Q) : X G d z pc lv stk M (mc + rc) (ms + rs) Q := by
  intro p e s m args below meth co H locs ls cells slots hC hH hl
  obtain ⟨⟨g0, g1, g2, g3, g4, g5⟩, g6, g7, g8⟩ := hck
  have hts := hC.2.2.2.2.2.2.1
  have ok : ∀ {w : Cond}, w ∈ BIG → w.before args s = true := fun hw => hts _ (List.mem_cons_of_mem _ hw)
  refine W_size hH hC.2.2.2.2.2.2.2.2.2.2.2.2 (fun hz => ?_)
  have hstack : (F0 m pc ls (stk.map (cv G))).stack = (As.map (cv G)).reverse ++ .ref (ad G k) :: st.map (cv G) := by
    show stk.map (cv G) = _
    rw [hstk, List.map_append, List.map_reverse]
    rfl
  have hroom := lv_room (m := m) (pc := pc) (ls := ls) (rest := stk.map (cv G)) (st := st.map (cv G)) (by rw [cat_sum]; exact hst)
  have hpre : PreS s H (va_Pc ((vr k :: As).map (cv G)) (WU G M)) (.ref (ad G k) :: As.map (cv G)) := ⟨WU_blind, x_pre (av := vr k :: As) hC hH hz⟩
  have S : CallFix p m co z.2.1 z.2.2.1 s args (wz z) z.2.2.2.2 := ⟨hC.1, hC.2.1, hC.2.2.2.2.1, hC.2.2.2.2.2.1, hts⟩
  have hf : cells + mc ≤ (rmz d (cells + (mc + rc)) (slots + (ms + rs))).cells ∧ slots + ms ≤ (rmz d (cells + (mc + rc)) (slots + (ms + rs))).slots := ⟨show _ ≤ cells + (mc + rc) by omega, show _ ≤ slots + (ms + rs) by omega⟩
  have hw9 : wz z' = Cond.code z'.1 z'.2.1 z'.2.2.1 none :: BIG := by unfold wz; rw [g8]
  have hrun : va_Run p (gl G) e (rmz d (cells + (mc + rc)) (slots + (ms + rs))) s m args below meth co H locs cells slots mc ms (F0 m pc ls (stk.map (cv G))) (st.map (cv G)) (QQ G (M.1 + mc) Q' (Value.ref (ad G k) :: As.map (cv G)).toArray) (gA G) := by
    rcases g3 with q | ⟨host, q⟩
    · exact va_runI S hY ⟨callB_of np hts (wz_good g1) hw9 rfl rfl (ok g2) (ok q) g4 (x_room hd1 g5), g7, ok g6⟩ hpre rfl (by rw [List.length_map]; exact hnp) hl.1 hstack hroom hd hf
    · exact va_runIN S hY ⟨va_cnB np hts (wz_good g1) hw9 rfl rfl (hC.2.2.2.2.2.2.2.2.2.1 _ q) (ok g2) g4 (x_room hd1 g5), g7, ok g6⟩ hpre rfl (by rw [List.length_map]; exact hnp) hl.1 hstack hroom hd hf
  exact x_back hrun hH.2.2.2 (fun r M' t H1 locs1 ht hq hn hb hS => x_cont hC hl hH.2.1 ht hn hb hS (h r M' hq))
/-! calls that make nothing, by what they answer -/
theorem X_cVi {idx c np k N : Nat} {z' : ZZ} {As stk : List AV} (hd : decode z.2.1 pc = .ok (.invokevirtual idx, 3)) (hck : CKV z.2.2.2.2 idx z' c np) (hnp : As.length = np) (hstk : stk = As.reverse ++ vr k :: st) (hs : sh k = (c, N)) (hk : k < M.1) (hd1 : 1 ≤ d) (hst : (st.map catA).sum ≤ 8)
    (hY : Y G (d - 1) z' (vr k :: As) M 0 0 (qi (fun x M' => X G d z (pc + 3) lv (vi x :: st) M' rc rs Q))) : X G d z pc lv stk M rc rs Q := by
  have := X_callV (rc := rc) (rs := rs) hd hck hnp hstk hs hk hd1 hst hY (fun r M' hq => by obtain ⟨x, rfl, hx⟩ := hq; exact hx)
  rwa [Nat.zero_add, Nat.zero_add] at this
theorem X_cVl {idx c np k N : Nat} {z' : ZZ} {As stk : List AV} (hd : decode z.2.1 pc = .ok (.invokevirtual idx, 3)) (hck : CKV z.2.2.2.2 idx z' c np) (hnp : As.length = np) (hstk : stk = As.reverse ++ vr k :: st) (hs : sh k = (c, N)) (hk : k < M.1) (hd1 : 1 ≤ d) (hst : (st.map catA).sum ≤ 8)
    (hY : Y G (d - 1) z' (vr k :: As) M 0 0 (ql (fun x M' => X G d z (pc + 3) lv (vl x :: st) M' rc rs Q))) : X G d z pc lv stk M rc rs Q := by
  have := X_callV (rc := rc) (rs := rs) hd hck hnp hstk hs hk hd1 hst hY (fun r M' hq => by obtain ⟨x, rfl, hx⟩ := hq; exact hx)
  rwa [Nat.zero_add, Nat.zero_add] at this
theorem X_cVv {idx c np k N : Nat} {z' : ZZ} {As stk : List AV} (hd : decode z.2.1 pc = .ok (.invokevirtual idx, 3)) (hck : CKV z.2.2.2.2 idx z' c np) (hnp : As.length = np) (hstk : stk = As.reverse ++ vr k :: st) (hs : sh k = (c, N)) (hk : k < M.1) (hd1 : 1 ≤ d) (hst : (st.map catA).sum ≤ 8)
    (hY : Y G (d - 1) z' (vr k :: As) M 0 0 (qv (fun M' => X G d z (pc + 3) lv st M' rc rs Q))) : X G d z pc lv stk M rc rs Q := by
  have := X_callV (rc := rc) (rs := rs) hd hck hnp hstk hs hk hd1 hst hY (fun r M' hq => by obtain ⟨rfl, hx⟩ := hq; exact hx)
  rwa [Nat.zero_add, Nat.zero_add] at this
theorem X_cSi {idx np : Nat} {z' : ZZ} {As stk : List AV} (hd : decode z.2.1 pc = .ok (.invokestatic idx, 3)) (hck : CKS z.2.2.2.2 idx z' np) (hnp : As.length = np) (hstk : stk = As.reverse ++ st) (hd1 : 1 ≤ d) (hst : (st.map catA).sum ≤ 8)
    (hY : Y G (d - 1) z' As M 0 0 (qi (fun x M' => X G d z (pc + 3) lv (vi x :: st) M' rc rs Q))) : X G d z pc lv stk M rc rs Q := by
  have := X_callS (rc := rc) (rs := rs) hd hck hnp hstk hd1 hst hY (fun r M' hq => by obtain ⟨x, rfl, hx⟩ := hq; exact hx)
  rwa [Nat.zero_add, Nat.zero_add] at this
theorem X_cSv {idx np : Nat} {z' : ZZ} {As stk : List AV} (hd : decode z.2.1 pc = .ok (.invokestatic idx, 3)) (hck : CKS z.2.2.2.2 idx z' np) (hnp : As.length = np) (hstk : stk = As.reverse ++ st) (hd1 : 1 ≤ d) (hst : (st.map catA).sum ≤ 8)
    (hY : Y G (d - 1) z' As M 0 0 (qv (fun M' => X G d z (pc + 3) lv st M' rc rs Q))) : X G d z pc lv stk M rc rs Q := by
  have := X_callS (rc := rc) (rs := rs) hd hck hnp hstk hd1 hst hY (fun r M' hq => by obtain ⟨rfl, hx⟩ := hq; exact hx)
  rwa [Nat.zero_add, Nat.zero_add] at this
theorem X_cI {idx np k mc ms : Nat} {z' : ZZ} {As stk : List AV} (hd : decode z.2.1 pc = .ok (.invokespecial idx, 3)) (hck : CKI z.2.2.2.2 idx z' np) (hnp : As.length = np) (hstk : stk = As.reverse ++ vr k :: st) (hd1 : 1 ≤ d) (hst : (st.map catA).sum ≤ 8)
    (hY : Y G (d - 1) z' (vr k :: As) M mc ms (qv (fun M' => X G d z (pc + 3) lv st M' rc rs Q))) : X G d z pc lv stk M (rc + mc) (rs + ms) Q := by
  have := X_callI (rc := rc) (rs := rs) hd hck hnp hstk hd1 hst hY (fun r M' hq => by obtain ⟨rfl, hx⟩ := hq; exact hx)
  rwa [Nat.add_comm mc, Nat.add_comm ms] at this
end XC
end
