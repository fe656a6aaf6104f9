section
-- ===== PART A: goes FIRST, ahead of the names: the tables' words, and 'selects' of the private methods out of them =====
/-- a private method of a class that the tables say can be made, by its rows of tables_1 -/
def lw_okq (q : MethodName × Nat) : Prop := (q.1.cls ≠ "java/lang/invoke/MethodHandle" ∧ q.1.cls ≠ "java/lang/invoke/VarHandle") ∧ Cond.instantiable q.1.cls q.2 ∈ tables_1 ∧ Cond.privateMethod q.1 ∈ tables_1 ∧ Cond.instanceMethod q.1 ∈ tables_1
theorem lw_p0 : lw_okq (⟨"CueBoard", "enact", "(IIIIII)I"⟩, 3) := ⟨⟨by decide +kernel, by decide +kernel⟩, List.mem_of_getElem? (i := 18) (by decide +kernel), List.mem_of_getElem? (i := 485) (by decide +kernel), List.mem_of_getElem? (i := 486) (by decide +kernel)⟩
theorem lw_p1 : lw_okq (⟨"CueBoard$Lines", "blank", "(I)V"⟩, 7) := ⟨⟨by decide +kernel, by decide +kernel⟩, List.mem_of_getElem? (i := 62) (by decide +kernel), List.mem_of_getElem? (i := 504) (by decide +kernel), List.mem_of_getElem? (i := 505) (by decide +kernel)⟩
theorem lw_p2 : lw_okq (⟨"CueBoard$Rig", "heatOf", "(I)I"⟩, 14) := ⟨⟨by decide +kernel, by decide +kernel⟩, List.mem_of_getElem? (i := 98) (by decide +kernel), List.mem_of_getElem? (i := 520) (by decide +kernel), List.mem_of_getElem? (i := 521) (by decide +kernel)⟩
theorem lw_p3 : lw_okq (⟨"CueBoard$Rig", "mark", "(I)V"⟩, 14) := ⟨⟨by decide +kernel, by decide +kernel⟩, List.mem_of_getElem? (i := 98) (by decide +kernel), List.mem_of_getElem? (i := 524) (by decide +kernel), List.mem_of_getElem? (i := 525) (by decide +kernel)⟩
theorem lw_p4 : lw_okq (⟨"CueBoard$Rig", "spanOfOne", "(I)I"⟩, 14) := ⟨⟨by decide +kernel, by decide +kernel⟩, List.mem_of_getElem? (i := 98) (by decide +kernel), List.mem_of_getElem? (i := 528) (by decide +kernel), List.mem_of_getElem? (i := 529) (by decide +kernel)⟩
theorem lw_p5 : lw_okq (⟨"CueBoard$Rig", "mostOf", "(I)I"⟩, 14) := ⟨⟨by decide +kernel, by decide +kernel⟩, List.mem_of_getElem? (i := 98) (by decide +kernel), List.mem_of_getElem? (i := 532) (by decide +kernel), List.mem_of_getElem? (i := 533) (by decide +kernel)⟩
theorem lw_p6 : lw_okq (⟨"CueBoard$Rig", "fits", "(II)Z"⟩, 14) := ⟨⟨by decide +kernel, by decide +kernel⟩, List.mem_of_getElem? (i := 98) (by decide +kernel), List.mem_of_getElem? (i := 556) (by decide +kernel), List.mem_of_getElem? (i := 557) (by decide +kernel)⟩
theorem lw_p7 : lw_okq (⟨"CueBoard$Patching", "drop", "(I)V"⟩, 7) := ⟨⟨by decide +kernel, by decide +kernel⟩, List.mem_of_getElem? (i := 153) (by decide +kernel), List.mem_of_getElem? (i := 571) (by decide +kernel), List.mem_of_getElem? (i := 572) (by decide +kernel)⟩
theorem lw_p8 : lw_okq (⟨"CueBoard$Board", "loadList", "(II)I"⟩, 11) := ⟨⟨by decide +kernel, by decide +kernel⟩, List.mem_of_getElem? (i := 46) (by decide +kernel), List.mem_of_getElem? (i := 634) (by decide +kernel), List.mem_of_getElem? (i := 635) (by decide +kernel)⟩
theorem lw_p9 : lw_okq (⟨"CueBoard$Board", "goOn", "(I)I"⟩, 11) := ⟨⟨by decide +kernel, by decide +kernel⟩, List.mem_of_getElem? (i := 46) (by decide +kernel), List.mem_of_getElem? (i := 643) (by decide +kernel), List.mem_of_getElem? (i := 644) (by decide +kernel)⟩
theorem lw_p10 : lw_okq (⟨"CueBoard$Board", "startNext", "(LCueBoard$Playback;)V"⟩, 11) := ⟨⟨by decide +kernel, by decide +kernel⟩, List.mem_of_getElem? (i := 46) (by decide +kernel), List.mem_of_getElem? (i := 651) (by decide +kernel), List.mem_of_getElem? (i := 652) (by decide +kernel)⟩
theorem lw_p11 : lw_okq (⟨"CueBoard$Board", "startEntry", "(LCueBoard$Playback;I)V"⟩, 11) := ⟨⟨by decide +kernel, by decide +kernel⟩, List.mem_of_getElem? (i := 46) (by decide +kernel), List.mem_of_getElem? (i := 664) (by decide +kernel), List.mem_of_getElem? (i := 665) (by decide +kernel)⟩
theorem lw_p12 : lw_okq (⟨"CueBoard$Rig", "gather", "(II)V"⟩, 14) := ⟨⟨by decide +kernel, by decide +kernel⟩, List.mem_of_getElem? (i := 98) (by decide +kernel), List.mem_of_getElem? (i := 672) (by decide +kernel), List.mem_of_getElem? (i := 673) (by decide +kernel)⟩
theorem lw_p13 : lw_okq (⟨"CueBoard$Board", "stopFades", "(I)I"⟩, 11) := ⟨⟨by decide +kernel, by decide +kernel⟩, List.mem_of_getElem? (i := 46) (by decide +kernel), List.mem_of_getElem? (i := 685) (by decide +kernel), List.mem_of_getElem? (i := 686) (by decide +kernel)⟩
theorem lw_p14 : lw_okq (⟨"CueBoard$Board", "letGo", "(I)I"⟩, 11) := ⟨⟨by decide +kernel, by decide +kernel⟩, List.mem_of_getElem? (i := 46) (by decide +kernel), List.mem_of_getElem? (i := 693) (by decide +kernel), List.mem_of_getElem? (i := 694) (by decide +kernel)⟩
theorem lw_p15 : lw_okq (⟨"CueBoard$Board", "setMaster", "(II)I"⟩, 11) := ⟨⟨by decide +kernel, by decide +kernel⟩, List.mem_of_getElem? (i := 46) (by decide +kernel), List.mem_of_getElem? (i := 699) (by decide +kernel), List.mem_of_getElem? (i := 700) (by decide +kernel)⟩
def lw_privs_1 : List (MethodName × Nat) := [(⟨"CueBoard", "enact", "(IIIIII)I"⟩, 3), (⟨"CueBoard$Lines", "blank", "(I)V"⟩, 7), (⟨"CueBoard$Rig", "heatOf", "(I)I"⟩, 14), (⟨"CueBoard$Rig", "mark", "(I)V"⟩, 14), (⟨"CueBoard$Rig", "spanOfOne", "(I)I"⟩, 14), (⟨"CueBoard$Rig", "mostOf", "(I)I"⟩, 14), (⟨"CueBoard$Rig", "fits", "(II)Z"⟩, 14), (⟨"CueBoard$Patching", "drop", "(I)V"⟩, 7), (⟨"CueBoard$Board", "loadList", "(II)I"⟩, 11), (⟨"CueBoard$Board", "goOn", "(I)I"⟩, 11), (⟨"CueBoard$Board", "startNext", "(LCueBoard$Playback;)V"⟩, 11), (⟨"CueBoard$Board", "startEntry", "(LCueBoard$Playback;I)V"⟩, 11), (⟨"CueBoard$Rig", "gather", "(II)V"⟩, 14), (⟨"CueBoard$Board", "stopFades", "(I)I"⟩, 11), (⟨"CueBoard$Board", "letGo", "(I)I"⟩, 11), (⟨"CueBoard$Board", "setMaster", "(II)I"⟩, 11)]
theorem lw_r1 : ∀ q ∈ lw_privs_1, lw_okq q := List.forall_mem_cons.mpr ⟨lw_p0, List.forall_mem_cons.mpr ⟨lw_p1, List.forall_mem_cons.mpr ⟨lw_p2, List.forall_mem_cons.mpr ⟨lw_p3, List.forall_mem_cons.mpr ⟨lw_p4, List.forall_mem_cons.mpr ⟨lw_p5, List.forall_mem_cons.mpr ⟨lw_p6, List.forall_mem_cons.mpr ⟨lw_p7, List.forall_mem_cons.mpr ⟨lw_p8, List.forall_mem_cons.mpr ⟨lw_p9, List.forall_mem_cons.mpr ⟨lw_p10, List.forall_mem_cons.mpr ⟨lw_p11, List.forall_mem_cons.mpr ⟨lw_p12, List.forall_mem_cons.mpr ⟨lw_p13, List.forall_mem_cons.mpr ⟨lw_p14, List.forall_mem_cons.mpr ⟨lw_p15, fun _ h => absurd h List.not_mem_nil⟩⟩⟩⟩⟩⟩⟩⟩⟩⟩⟩⟩⟩⟩⟩⟩
theorem lw_p16 : lw_okq (⟨"CueBoard$Board", "runTicks", "(I)I"⟩, 11) := ⟨⟨by decide +kernel, by decide +kernel⟩, List.mem_of_getElem? (i := 46) (by decide +kernel), List.mem_of_getElem? (i := 715) (by decide +kernel), List.mem_of_getElem? (i := 716) (by decide +kernel)⟩
theorem lw_p17 : lw_okq (⟨"CueBoard$Board", "isFollowedNow", "(LCueBoard$Playback;)Z"⟩, 11) := ⟨⟨by decide +kernel, by decide +kernel⟩, List.mem_of_getElem? (i := 46) (by decide +kernel), List.mem_of_getElem? (i := 726) (by decide +kernel), List.mem_of_getElem? (i := 727) (by decide +kernel)⟩
theorem lw_p18 : lw_okq (⟨"CueBoard$Mixer", "merged", "(IZ)I"⟩, 13) := ⟨⟨by decide +kernel, by decide +kernel⟩, List.mem_of_getElem? (i := 260) (by decide +kernel), List.mem_of_getElem? (i := 746) (by decide +kernel), List.mem_of_getElem? (i := 747) (by decide +kernel)⟩
theorem lw_p19 : lw_okq (⟨"CueBoard$Curves", "seek", "(II)V"⟩, 7) := ⟨⟨by decide +kernel, by decide +kernel⟩, List.mem_of_getElem? (i := 190) (by decide +kernel), List.mem_of_getElem? (i := 757) (by decide +kernel), List.mem_of_getElem? (i := 758) (by decide +kernel)⟩
theorem lw_p20 : lw_okq (⟨"CueBoard$Curves", "isHole", "()Z"⟩, 7) := ⟨⟨by decide +kernel, by decide +kernel⟩, List.mem_of_getElem? (i := 190) (by decide +kernel), List.mem_of_getElem? (i := 761) (by decide +kernel), List.mem_of_getElem? (i := 762) (by decide +kernel)⟩
theorem lw_p21 : lw_okq (⟨"CueBoard$Curves", "height", "(I)F"⟩, 7) := ⟨⟨by decide +kernel, by decide +kernel⟩, List.mem_of_getElem? (i := 190) (by decide +kernel), List.mem_of_getElem? (i := 765) (by decide +kernel), List.mem_of_getElem? (i := 766) (by decide +kernel)⟩
theorem lw_p22 : lw_okq (⟨"CueBoard$Mixer", "isWhole", "(II)Z"⟩, 13) := ⟨⟨by decide +kernel, by decide +kernel⟩, List.mem_of_getElem? (i := 260) (by decide +kernel), List.mem_of_getElem? (i := 771) (by decide +kernel), List.mem_of_getElem? (i := 772) (by decide +kernel)⟩
theorem lw_p23 : lw_okq (⟨"CueBoard$Mixer", "heatOn", "(I)I"⟩, 13) := ⟨⟨by decide +kernel, by decide +kernel⟩, List.mem_of_getElem? (i := 260) (by decide +kernel), List.mem_of_getElem? (i := 783) (by decide +kernel), List.mem_of_getElem? (i := 784) (by decide +kernel)⟩
theorem lw_p24 : lw_okq (⟨"CueBoard$Mixer", "cut", "(II)I"⟩, 13) := ⟨⟨by decide +kernel, by decide +kernel⟩, List.mem_of_getElem? (i := 260) (by decide +kernel), List.mem_of_getElem? (i := 787) (by decide +kernel), List.mem_of_getElem? (i := 788) (by decide +kernel)⟩
theorem lw_p25 : lw_okq (⟨"CueBoard$Mixer", "cutChannel", "(IIII)I"⟩, 13) := ⟨⟨by decide +kernel, by decide +kernel⟩, List.mem_of_getElem? (i := 260) (by decide +kernel), List.mem_of_getElem? (i := 791) (by decide +kernel), List.mem_of_getElem? (i := 792) (by decide +kernel)⟩
theorem lw_p26 : lw_okq (⟨"CueBoard$Mixer", "writeChannel", "(II)V"⟩, 13) := ⟨⟨by decide +kernel, by decide +kernel⟩, List.mem_of_getElem? (i := 260) (by decide +kernel), List.mem_of_getElem? (i := 803) (by decide +kernel), List.mem_of_getElem? (i := 804) (by decide +kernel)⟩
theorem lw_p27 : lw_okq (⟨"CueBoard$Rig", "answerOf", "(II)I"⟩, 14) := ⟨⟨by decide +kernel, by decide +kernel⟩, List.mem_of_getElem? (i := 98) (by decide +kernel), List.mem_of_getElem? (i := 878) (by decide +kernel), List.mem_of_getElem? (i := 879) (by decide +kernel)⟩
theorem lw_p28 : lw_okq (⟨"CueBoard$Rig", "spanOf", "(II)I"⟩, 14) := ⟨⟨by decide +kernel, by decide +kernel⟩, List.mem_of_getElem? (i := 98) (by decide +kernel), List.mem_of_getElem? (i := 882) (by decide +kernel), List.mem_of_getElem? (i := 883) (by decide +kernel)⟩
theorem lw_p29 : lw_okq (⟨"CueBoard$Rig", "reachOf", "(I)I"⟩, 14) := ⟨⟨by decide +kernel, by decide +kernel⟩, List.mem_of_getElem? (i := 98) (by decide +kernel), List.mem_of_getElem? (i := 886) (by decide +kernel), List.mem_of_getElem? (i := 887) (by decide +kernel)⟩
theorem lw_p30 : lw_okq (⟨"CueBoard$Curves", "fadesBelowZero", "()Z"⟩, 7) := ⟨⟨by decide +kernel, by decide +kernel⟩, List.mem_of_getElem? (i := 190) (by decide +kernel), List.mem_of_getElem? (i := 938) (by decide +kernel), List.mem_of_getElem? (i := 939) (by decide +kernel)⟩
theorem lw_p31 : lw_okq (⟨"CueBoard", "playOn", "(LCueBoard$Board;)V"⟩, 3) := ⟨⟨by decide +kernel, by decide +kernel⟩, List.mem_of_getElem? (i := 18) (by decide +kernel), List.mem_of_getElem? (i := 1043) (by decide +kernel), List.mem_of_getElem? (i := 1044) (by decide +kernel)⟩
def lw_privs_2 : List (MethodName × Nat) := [(⟨"CueBoard$Board", "runTicks", "(I)I"⟩, 11), (⟨"CueBoard$Board", "isFollowedNow", "(LCueBoard$Playback;)Z"⟩, 11), (⟨"CueBoard$Mixer", "merged", "(IZ)I"⟩, 13), (⟨"CueBoard$Curves", "seek", "(II)V"⟩, 7), (⟨"CueBoard$Curves", "isHole", "()Z"⟩, 7), (⟨"CueBoard$Curves", "height", "(I)F"⟩, 7), (⟨"CueBoard$Mixer", "isWhole", "(II)Z"⟩, 13), (⟨"CueBoard$Mixer", "heatOn", "(I)I"⟩, 13), (⟨"CueBoard$Mixer", "cut", "(II)I"⟩, 13), (⟨"CueBoard$Mixer", "cutChannel", "(IIII)I"⟩, 13), (⟨"CueBoard$Mixer", "writeChannel", "(II)V"⟩, 13), (⟨"CueBoard$Rig", "answerOf", "(II)I"⟩, 14), (⟨"CueBoard$Rig", "spanOf", "(II)I"⟩, 14), (⟨"CueBoard$Rig", "reachOf", "(I)I"⟩, 14), (⟨"CueBoard$Curves", "fadesBelowZero", "()Z"⟩, 7), (⟨"CueBoard", "playOn", "(LCueBoard$Board;)V"⟩, 3)]
theorem lw_r2 : ∀ q ∈ lw_privs_2, lw_okq q := List.forall_mem_cons.mpr ⟨lw_p16, List.forall_mem_cons.mpr ⟨lw_p17, List.forall_mem_cons.mpr ⟨lw_p18, List.forall_mem_cons.mpr ⟨lw_p19, List.forall_mem_cons.mpr ⟨lw_p20, List.forall_mem_cons.mpr ⟨lw_p21, List.forall_mem_cons.mpr ⟨lw_p22, List.forall_mem_cons.mpr ⟨lw_p23, List.forall_mem_cons.mpr ⟨lw_p24, List.forall_mem_cons.mpr ⟨lw_p25, List.forall_mem_cons.mpr ⟨lw_p26, List.forall_mem_cons.mpr ⟨lw_p27, List.forall_mem_cons.mpr ⟨lw_p28, List.forall_mem_cons.mpr ⟨lw_p29, List.forall_mem_cons.mpr ⟨lw_p30, List.forall_mem_cons.mpr ⟨lw_p31, fun _ h => absurd h List.not_mem_nil⟩⟩⟩⟩⟩⟩⟩⟩⟩⟩⟩⟩⟩⟩⟩⟩
theorem lw_p32 : lw_okq (⟨"CueBoardModel", "begin", "()V"⟩, 13) := ⟨⟨by decide +kernel, by decide +kernel⟩, List.mem_of_getElem? (i := 1061) (by decide +kernel), List.mem_of_getElem? (i := 1067) (by decide +kernel), List.mem_of_getElem? (i := 1068) (by decide +kernel)⟩
theorem lw_p33 : lw_okq (⟨"CueBoardModel", "playBook", "()V"⟩, 13) := ⟨⟨by decide +kernel, by decide +kernel⟩, List.mem_of_getElem? (i := 1061) (by decide +kernel), List.mem_of_getElem? (i := 1116) (by decide +kernel), List.mem_of_getElem? (i := 1117) (by decide +kernel)⟩
theorem lw_p34 : lw_okq (⟨"CueBoardModel", "called", "(I)I"⟩, 13) := ⟨⟨by decide +kernel, by decide +kernel⟩, List.mem_of_getElem? (i := 1061) (by decide +kernel), List.mem_of_getElem? (i := 1120) (by decide +kernel), List.mem_of_getElem? (i := 1121) (by decide +kernel)⟩
theorem lw_p35 : lw_okq (⟨"CueBoardModel", "lined", "(II)I"⟩, 13) := ⟨⟨by decide +kernel, by decide +kernel⟩, List.mem_of_getElem? (i := 1061) (by decide +kernel), List.mem_of_getElem? (i := 1128) (by decide +kernel), List.mem_of_getElem? (i := 1129) (by decide +kernel)⟩
theorem lw_p36 : lw_okq (⟨"CueBoardModel", "finds", "(I)I"⟩, 13) := ⟨⟨by decide +kernel, by decide +kernel⟩, List.mem_of_getElem? (i := 1061) (by decide +kernel), List.mem_of_getElem? (i := 1138) (by decide +kernel), List.mem_of_getElem? (i := 1139) (by decide +kernel)⟩
theorem lw_p37 : lw_okq (⟨"CueBoardModel", "darken", "(I)V"⟩, 13) := ⟨⟨by decide +kernel, by decide +kernel⟩, List.mem_of_getElem? (i := 1061) (by decide +kernel), List.mem_of_getElem? (i := 1142) (by decide +kernel), List.mem_of_getElem? (i := 1143) (by decide +kernel)⟩
theorem lw_p38 : lw_okq (⟨"CueBoardModel", "noted", "(IIIIIII)I"⟩, 13) := ⟨⟨by decide +kernel, by decide +kernel⟩, List.mem_of_getElem? (i := 1061) (by decide +kernel), List.mem_of_getElem? (i := 1146) (by decide +kernel), List.mem_of_getElem? (i := 1147) (by decide +kernel)⟩
theorem lw_p39 : lw_okq (⟨"CueBoardModel", "turned", "(III)I"⟩, 13) := ⟨⟨by decide +kernel, by decide +kernel⟩, List.mem_of_getElem? (i := 1061) (by decide +kernel), List.mem_of_getElem? (i := 1154) (by decide +kernel), List.mem_of_getElem? (i := 1155) (by decide +kernel)⟩
theorem lw_p40 : lw_okq (⟨"CueBoardModel", "fixed", "(II)I"⟩, 13) := ⟨⟨by decide +kernel, by decide +kernel⟩, List.mem_of_getElem? (i := 1061) (by decide +kernel), List.mem_of_getElem? (i := 1166) (by decide +kernel), List.mem_of_getElem? (i := 1167) (by decide +kernel)⟩
theorem lw_p41 : lw_okq (⟨"CueBoardModel", "newFixture", "(II)I"⟩, 13) := ⟨⟨by decide +kernel, by decide +kernel⟩, List.mem_of_getElem? (i := 1061) (by decide +kernel), List.mem_of_getElem? (i := 1170) (by decide +kernel), List.mem_of_getElem? (i := 1171) (by decide +kernel)⟩
theorem lw_p42 : lw_okq (⟨"CueBoardModel", "grouped", "(II)I"⟩, 13) := ⟨⟨by decide +kernel, by decide +kernel⟩, List.mem_of_getElem? (i := 1061) (by decide +kernel), List.mem_of_getElem? (i := 1178) (by decide +kernel), List.mem_of_getElem? (i := 1179) (by decide +kernel)⟩
theorem lw_p43 : lw_okq (⟨"CueBoardModel", "placed", "(III)I"⟩, 13) := ⟨⟨by decide +kernel, by decide +kernel⟩, List.mem_of_getElem? (i := 1061) (by decide +kernel), List.mem_of_getElem? (i := 1186) (by decide +kernel), List.mem_of_getElem? (i := 1187) (by decide +kernel)⟩
theorem lw_p44 : lw_okq (⟨"CueBoardModel", "isFixture", "(I)Z"⟩, 13) := ⟨⟨by decide +kernel, by decide +kernel⟩, List.mem_of_getElem? (i := 1061) (by decide +kernel), List.mem_of_getElem? (i := 1190) (by decide +kernel), List.mem_of_getElem? (i := 1191) (by decide +kernel)⟩
theorem lw_p45 : lw_okq (⟨"CueBoardModel", "kindOf", "(I)I"⟩, 13) := ⟨⟨by decide +kernel, by decide +kernel⟩, List.mem_of_getElem? (i := 1061) (by decide +kernel), List.mem_of_getElem? (i := 1194) (by decide +kernel), List.mem_of_getElem? (i := 1195) (by decide +kernel)⟩
theorem lw_p46 : lw_okq (⟨"CueBoardModel", "isOf", "(II)Z"⟩, 13) := ⟨⟨by decide +kernel, by decide +kernel⟩, List.mem_of_getElem? (i := 1061) (by decide +kernel), List.mem_of_getElem? (i := 1198) (by decide +kernel), List.mem_of_getElem? (i := 1199) (by decide +kernel)⟩
theorem lw_p47 : lw_okq (⟨"CueBoardModel", "patched", "(III)I"⟩, 13) := ⟨⟨by decide +kernel, by decide +kernel⟩, List.mem_of_getElem? (i := 1061) (by decide +kernel), List.mem_of_getElem? (i := 1206) (by decide +kernel), List.mem_of_getElem? (i := 1207) (by decide +kernel)⟩
def lw_privs_3 : List (MethodName × Nat) := [(⟨"CueBoardModel", "begin", "()V"⟩, 13), (⟨"CueBoardModel", "playBook", "()V"⟩, 13), (⟨"CueBoardModel", "called", "(I)I"⟩, 13), (⟨"CueBoardModel", "lined", "(II)I"⟩, 13), (⟨"CueBoardModel", "finds", "(I)I"⟩, 13), (⟨"CueBoardModel", "darken", "(I)V"⟩, 13), (⟨"CueBoardModel", "noted", "(IIIIIII)I"⟩, 13), (⟨"CueBoardModel", "turned", "(III)I"⟩, 13), (⟨"CueBoardModel", "fixed", "(II)I"⟩, 13), (⟨"CueBoardModel", "newFixture", "(II)I"⟩, 13), (⟨"CueBoardModel", "grouped", "(II)I"⟩, 13), (⟨"CueBoardModel", "placed", "(III)I"⟩, 13), (⟨"CueBoardModel", "isFixture", "(I)Z"⟩, 13), (⟨"CueBoardModel", "kindOf", "(I)I"⟩, 13), (⟨"CueBoardModel", "isOf", "(II)Z"⟩, 13), (⟨"CueBoardModel", "patched", "(III)I"⟩, 13)]
theorem lw_r3 : ∀ q ∈ lw_privs_3, lw_okq q := List.forall_mem_cons.mpr ⟨lw_p32, List.forall_mem_cons.mpr ⟨lw_p33, List.forall_mem_cons.mpr ⟨lw_p34, List.forall_mem_cons.mpr ⟨lw_p35, List.forall_mem_cons.mpr ⟨lw_p36, List.forall_mem_cons.mpr ⟨lw_p37, List.forall_mem_cons.mpr ⟨lw_p38, List.forall_mem_cons.mpr ⟨lw_p39, List.forall_mem_cons.mpr ⟨lw_p40, List.forall_mem_cons.mpr ⟨lw_p41, List.forall_mem_cons.mpr ⟨lw_p42, List.forall_mem_cons.mpr ⟨lw_p43, List.forall_mem_cons.mpr ⟨lw_p44, List.forall_mem_cons.mpr ⟨lw_p45, List.forall_mem_cons.mpr ⟨lw_p46, List.forall_mem_cons.mpr ⟨lw_p47, fun _ h => absurd h List.not_mem_nil⟩⟩⟩⟩⟩⟩⟩⟩⟩⟩⟩⟩⟩⟩⟩⟩
theorem lw_p48 : lw_okq (⟨"CueBoardModel", "unpatched", "(I)I"⟩, 13) := ⟨⟨by decide +kernel, by decide +kernel⟩, List.mem_of_getElem? (i := 1061) (by decide +kernel), List.mem_of_getElem? (i := 1214) (by decide +kernel), List.mem_of_getElem? (i := 1215) (by decide +kernel)⟩
theorem lw_p49 : lw_okq (⟨"CueBoardModel", "pointed", "(III)I"⟩, 13) := ⟨⟨by decide +kernel, by decide +kernel⟩, List.mem_of_getElem? (i := 1061) (by decide +kernel), List.mem_of_getElem? (i := 1226) (by decide +kernel), List.mem_of_getElem? (i := 1227) (by decide +kernel)⟩
theorem lw_p50 : lw_okq (⟨"CueBoardModel", "bent", "(III)I"⟩, 13) := ⟨⟨by decide +kernel, by decide +kernel⟩, List.mem_of_getElem? (i := 1061) (by decide +kernel), List.mem_of_getElem? (i := 1236) (by decide +kernel), List.mem_of_getElem? (i := 1237) (by decide +kernel)⟩
theorem lw_p51 : lw_okq (⟨"CueBoardModel", "isChannel", "(II)Z"⟩, 13) := ⟨⟨by decide +kernel, by decide +kernel⟩, List.mem_of_getElem? (i := 1061) (by decide +kernel), List.mem_of_getElem? (i := 1240) (by decide +kernel), List.mem_of_getElem? (i := 1241) (by decide +kernel)⟩
theorem lw_p52 : lw_okq (⟨"CueBoardModel", "isWide", "(II)Z"⟩, 13) := ⟨⟨by decide +kernel, by decide +kernel⟩, List.mem_of_getElem? (i := 1061) (by decide +kernel), List.mem_of_getElem? (i := 1244) (by decide +kernel), List.mem_of_getElem? (i := 1245) (by decide +kernel)⟩
theorem lw_p53 : lw_okq (⟨"CueBoardModel", "entered", "(IIIII)I"⟩, 13) := ⟨⟨by decide +kernel, by decide +kernel⟩, List.mem_of_getElem? (i := 1061) (by decide +kernel), List.mem_of_getElem? (i := 1252) (by decide +kernel), List.mem_of_getElem? (i := 1253) (by decide +kernel)⟩
theorem lw_p54 : lw_okq (⟨"CueBoardModel", "listed", "(III)I"⟩, 13) := ⟨⟨by decide +kernel, by decide +kernel⟩, List.mem_of_getElem? (i := 1061) (by decide +kernel), List.mem_of_getElem? (i := 1261) (by decide +kernel), List.mem_of_getElem? (i := 1262) (by decide +kernel)⟩
theorem lw_p55 : lw_okq (⟨"CueBoardModel", "hasNext", "(I)Z"⟩, 13) := ⟨⟨by decide +kernel, by decide +kernel⟩, List.mem_of_getElem? (i := 1061) (by decide +kernel), List.mem_of_getElem? (i := 1276) (by decide +kernel), List.mem_of_getElem? (i := 1277) (by decide +kernel)⟩
theorem lw_p56 : lw_okq (⟨"CueBoardModel", "goes", "(I)I"⟩, 13) := ⟨⟨by decide +kernel, by decide +kernel⟩, List.mem_of_getElem? (i := 1061) (by decide +kernel), List.mem_of_getElem? (i := 1280) (by decide +kernel), List.mem_of_getElem? (i := 1281) (by decide +kernel)⟩
theorem lw_p57 : lw_okq (⟨"CueBoardModel", "gather", "(I)V"⟩, 13) := ⟨⟨by decide +kernel, by decide +kernel⟩, List.mem_of_getElem? (i := 1061) (by decide +kernel), List.mem_of_getElem? (i := 1284) (by decide +kernel), List.mem_of_getElem? (i := 1285) (by decide +kernel)⟩
theorem lw_p58 : lw_okq (⟨"CueBoardModel", "meet", "(I)V"⟩, 13) := ⟨⟨by decide +kernel, by decide +kernel⟩, List.mem_of_getElem? (i := 1061) (by decide +kernel), List.mem_of_getElem? (i := 1288) (by decide +kernel), List.mem_of_getElem? (i := 1289) (by decide +kernel)⟩
theorem lw_p59 : lw_okq (⟨"CueBoardModel", "open", "(I)V"⟩, 13) := ⟨⟨by decide +kernel, by decide +kernel⟩, List.mem_of_getElem? (i := 1061) (by decide +kernel), List.mem_of_getElem? (i := 1292) (by decide +kernel), List.mem_of_getElem? (i := 1293) (by decide +kernel)⟩
theorem lw_p60 : lw_okq (⟨"CueBoardModel", "next", "()I"⟩, 13) := ⟨⟨by decide +kernel, by decide +kernel⟩, List.mem_of_getElem? (i := 1061) (by decide +kernel), List.mem_of_getElem? (i := 1296) (by decide +kernel), List.mem_of_getElem? (i := 1297) (by decide +kernel)⟩
theorem lw_p61 : lw_okq (⟨"CueBoardModel", "fade", "(IIIII)V"⟩, 13) := ⟨⟨by decide +kernel, by decide +kernel⟩, List.mem_of_getElem? (i := 1061) (by decide +kernel), List.mem_of_getElem? (i := 1300) (by decide +kernel), List.mem_of_getElem? (i := 1301) (by decide +kernel)⟩
theorem lw_p62 : lw_okq (⟨"CueBoardModel", "fades", "(I)I"⟩, 13) := ⟨⟨by decide +kernel, by decide +kernel⟩, List.mem_of_getElem? (i := 1061) (by decide +kernel), List.mem_of_getElem? (i := 1308) (by decide +kernel), List.mem_of_getElem? (i := 1309) (by decide +kernel)⟩
theorem lw_p63 : lw_okq (⟨"CueBoardModel", "channels", "(I)I"⟩, 13) := ⟨⟨by decide +kernel, by decide +kernel⟩, List.mem_of_getElem? (i := 1061) (by decide +kernel), List.mem_of_getElem? (i := 1316) (by decide +kernel), List.mem_of_getElem? (i := 1317) (by decide +kernel)⟩
def lw_privs_4 : List (MethodName × Nat) := [(⟨"CueBoardModel", "unpatched", "(I)I"⟩, 13), (⟨"CueBoardModel", "pointed", "(III)I"⟩, 13), (⟨"CueBoardModel", "bent", "(III)I"⟩, 13), (⟨"CueBoardModel", "isChannel", "(II)Z"⟩, 13), (⟨"CueBoardModel", "isWide", "(II)Z"⟩, 13), (⟨"CueBoardModel", "entered", "(IIIII)I"⟩, 13), (⟨"CueBoardModel", "listed", "(III)I"⟩, 13), (⟨"CueBoardModel", "hasNext", "(I)Z"⟩, 13), (⟨"CueBoardModel", "goes", "(I)I"⟩, 13), (⟨"CueBoardModel", "gather", "(I)V"⟩, 13), (⟨"CueBoardModel", "meet", "(I)V"⟩, 13), (⟨"CueBoardModel", "open", "(I)V"⟩, 13), (⟨"CueBoardModel", "next", "()I"⟩, 13), (⟨"CueBoardModel", "fade", "(IIIII)V"⟩, 13), (⟨"CueBoardModel", "fades", "(I)I"⟩, 13), (⟨"CueBoardModel", "channels", "(I)I"⟩, 13)]
theorem lw_r4 : ∀ q ∈ lw_privs_4, lw_okq q := List.forall_mem_cons.mpr ⟨lw_p48, List.forall_mem_cons.mpr ⟨lw_p49, List.forall_mem_cons.mpr ⟨lw_p50, List.forall_mem_cons.mpr ⟨lw_p51, List.forall_mem_cons.mpr ⟨lw_p52, List.forall_mem_cons.mpr ⟨lw_p53, List.forall_mem_cons.mpr ⟨lw_p54, List.forall_mem_cons.mpr ⟨lw_p55, List.forall_mem_cons.mpr ⟨lw_p56, List.forall_mem_cons.mpr ⟨lw_p57, List.forall_mem_cons.mpr ⟨lw_p58, List.forall_mem_cons.mpr ⟨lw_p59, List.forall_mem_cons.mpr ⟨lw_p60, List.forall_mem_cons.mpr ⟨lw_p61, List.forall_mem_cons.mpr ⟨lw_p62, List.forall_mem_cons.mpr ⟨lw_p63, fun _ h => absurd h List.not_mem_nil⟩⟩⟩⟩⟩⟩⟩⟩⟩⟩⟩⟩⟩⟩⟩⟩
theorem lw_p64 : lw_okq (⟨"CueBoardModel", "merged", "(IIZ)I"⟩, 13) := ⟨⟨by decide +kernel, by decide +kernel⟩, List.mem_of_getElem? (i := 1061) (by decide +kernel), List.mem_of_getElem? (i := 1328) (by decide +kernel), List.mem_of_getElem? (i := 1329) (by decide +kernel)⟩
theorem lw_p65 : lw_okq (⟨"CueBoardModel", "tickOnce", "()V"⟩, 13) := ⟨⟨by decide +kernel, by decide +kernel⟩, List.mem_of_getElem? (i := 1061) (by decide +kernel), List.mem_of_getElem? (i := 1344) (by decide +kernel), List.mem_of_getElem? (i := 1345) (by decide +kernel)⟩
theorem lw_p66 : lw_okq (⟨"CueBoardModel", "play", "(I)V"⟩, 13) := ⟨⟨by decide +kernel, by decide +kernel⟩, List.mem_of_getElem? (i := 1061) (by decide +kernel), List.mem_of_getElem? (i := 1348) (by decide +kernel), List.mem_of_getElem? (i := 1349) (by decide +kernel)⟩
theorem lw_p67 : lw_okq (⟨"CueBoardModel", "work", "(II)V"⟩, 13) := ⟨⟨by decide +kernel, by decide +kernel⟩, List.mem_of_getElem? (i := 1061) (by decide +kernel), List.mem_of_getElem? (i := 1355) (by decide +kernel), List.mem_of_getElem? (i := 1356) (by decide +kernel)⟩
theorem lw_p68 : lw_okq (⟨"CueBoardModel", "isDimming", "(II)Z"⟩, 13) := ⟨⟨by decide +kernel, by decide +kernel⟩, List.mem_of_getElem? (i := 1061) (by decide +kernel), List.mem_of_getElem? (i := 1359) (by decide +kernel), List.mem_of_getElem? (i := 1360) (by decide +kernel)⟩
theorem lw_p69 : lw_okq (⟨"CueBoardModel", "mergedValue", "(II)I"⟩, 13) := ⟨⟨by decide +kernel, by decide +kernel⟩, List.mem_of_getElem? (i := 1061) (by decide +kernel), List.mem_of_getElem? (i := 1363) (by decide +kernel), List.mem_of_getElem? (i := 1364) (by decide +kernel)⟩
theorem lw_p70 : lw_okq (⟨"CueBoardModel", "bentValue", "(II)I"⟩, 13) := ⟨⟨by decide +kernel, by decide +kernel⟩, List.mem_of_getElem? (i := 1061) (by decide +kernel), List.mem_of_getElem? (i := 1367) (by decide +kernel), List.mem_of_getElem? (i := 1368) (by decide +kernel)⟩
theorem lw_p71 : lw_okq (⟨"CueBoardModel", "curveAt", "(II)I"⟩, 13) := ⟨⟨by decide +kernel, by decide +kernel⟩, List.mem_of_getElem? (i := 1061) (by decide +kernel), List.mem_of_getElem? (i := 1371) (by decide +kernel), List.mem_of_getElem? (i := 1372) (by decide +kernel)⟩
theorem lw_p72 : lw_okq (⟨"CueBoardModel", "mostOf", "(I)I"⟩, 13) := ⟨⟨by decide +kernel, by decide +kernel⟩, List.mem_of_getElem? (i := 1061) (by decide +kernel), List.mem_of_getElem? (i := 1393) (by decide +kernel), List.mem_of_getElem? (i := 1394) (by decide +kernel)⟩
theorem lw_p73 : lw_okq (⟨"CueBoardModel", "warm", "(I)V"⟩, 13) := ⟨⟨by decide +kernel, by decide +kernel⟩, List.mem_of_getElem? (i := 1061) (by decide +kernel), List.mem_of_getElem? (i := 1397) (by decide +kernel), List.mem_of_getElem? (i := 1398) (by decide +kernel)⟩
theorem lw_p74 : lw_okq (⟨"CueBoardModel", "isWarm", "(III)Z"⟩, 13) := ⟨⟨by decide +kernel, by decide +kernel⟩, List.mem_of_getElem? (i := 1061) (by decide +kernel), List.mem_of_getElem? (i := 1401) (by decide +kernel), List.mem_of_getElem? (i := 1402) (by decide +kernel)⟩
theorem lw_p75 : lw_okq (⟨"CueBoardModel", "isWhole", "(II)Z"⟩, 13) := ⟨⟨by decide +kernel, by decide +kernel⟩, List.mem_of_getElem? (i := 1061) (by decide +kernel), List.mem_of_getElem? (i := 1405) (by decide +kernel), List.mem_of_getElem? (i := 1406) (by decide +kernel)⟩
theorem lw_p76 : lw_okq (⟨"CueBoardModel", "placeOf", "(II)I"⟩, 13) := ⟨⟨by decide +kernel, by decide +kernel⟩, List.mem_of_getElem? (i := 1061) (by decide +kernel), List.mem_of_getElem? (i := 1409) (by decide +kernel), List.mem_of_getElem? (i := 1410) (by decide +kernel)⟩
theorem lw_p77 : lw_okq (⟨"CueBoardModel", "heatOf", "(I)I"⟩, 13) := ⟨⟨by decide +kernel, by decide +kernel⟩, List.mem_of_getElem? (i := 1061) (by decide +kernel), List.mem_of_getElem? (i := 1413) (by decide +kernel), List.mem_of_getElem? (i := 1414) (by decide +kernel)⟩
theorem lw_p78 : lw_okq (⟨"CueBoardModel", "patchedBefore", "(I)I"⟩, 13) := ⟨⟨by decide +kernel, by decide +kernel⟩, List.mem_of_getElem? (i := 1061) (by decide +kernel), List.mem_of_getElem? (i := 1417) (by decide +kernel), List.mem_of_getElem? (i := 1418) (by decide +kernel)⟩
theorem lw_p79 : lw_okq (⟨"CueBoardModel", "cut", "(III)I"⟩, 13) := ⟨⟨by decide +kernel, by decide +kernel⟩, List.mem_of_getElem? (i := 1061) (by decide +kernel), List.mem_of_getElem? (i := 1421) (by decide +kernel), List.mem_of_getElem? (i := 1422) (by decide +kernel)⟩
def lw_privs_5 : List (MethodName × Nat) := [(⟨"CueBoardModel", "merged", "(IIZ)I"⟩, 13), (⟨"CueBoardModel", "tickOnce", "()V"⟩, 13), (⟨"CueBoardModel", "play", "(I)V"⟩, 13), (⟨"CueBoardModel", "work", "(II)V"⟩, 13), (⟨"CueBoardModel", "isDimming", "(II)Z"⟩, 13), (⟨"CueBoardModel", "mergedValue", "(II)I"⟩, 13), (⟨"CueBoardModel", "bentValue", "(II)I"⟩, 13), (⟨"CueBoardModel", "curveAt", "(II)I"⟩, 13), (⟨"CueBoardModel", "mostOf", "(I)I"⟩, 13), (⟨"CueBoardModel", "warm", "(I)V"⟩, 13), (⟨"CueBoardModel", "isWarm", "(III)Z"⟩, 13), (⟨"CueBoardModel", "isWhole", "(II)Z"⟩, 13), (⟨"CueBoardModel", "placeOf", "(II)I"⟩, 13), (⟨"CueBoardModel", "heatOf", "(I)I"⟩, 13), (⟨"CueBoardModel", "patchedBefore", "(I)I"⟩, 13), (⟨"CueBoardModel", "cut", "(III)I"⟩, 13)]
theorem lw_r5 : ∀ q ∈ lw_privs_5, lw_okq q := List.forall_mem_cons.mpr ⟨lw_p64, List.forall_mem_cons.mpr ⟨lw_p65, List.forall_mem_cons.mpr ⟨lw_p66, List.forall_mem_cons.mpr ⟨lw_p67, List.forall_mem_cons.mpr ⟨lw_p68, List.forall_mem_cons.mpr ⟨lw_p69, List.forall_mem_cons.mpr ⟨lw_p70, List.forall_mem_cons.mpr ⟨lw_p71, List.forall_mem_cons.mpr ⟨lw_p72, List.forall_mem_cons.mpr ⟨lw_p73, List.forall_mem_cons.mpr ⟨lw_p74, List.forall_mem_cons.mpr ⟨lw_p75, List.forall_mem_cons.mpr ⟨lw_p76, List.forall_mem_cons.mpr ⟨lw_p77, List.forall_mem_cons.mpr ⟨lw_p78, List.forall_mem_cons.mpr ⟨lw_p79, fun _ h => absurd h List.not_mem_nil⟩⟩⟩⟩⟩⟩⟩⟩⟩⟩⟩⟩⟩⟩⟩⟩
theorem lw_p80 : lw_okq (⟨"CueBoardModel", "writeAll", "()V"⟩, 13) := ⟨⟨by decide +kernel, by decide +kernel⟩, List.mem_of_getElem? (i := 1061) (by decide +kernel), List.mem_of_getElem? (i := 1425) (by decide +kernel), List.mem_of_getElem? (i := 1426) (by decide +kernel)⟩
theorem lw_p81 : lw_okq (⟨"CueBoardModel", "write", "(II)V"⟩, 13) := ⟨⟨by decide +kernel, by decide +kernel⟩, List.mem_of_getElem? (i := 1061) (by decide +kernel), List.mem_of_getElem? (i := 1429) (by decide +kernel), List.mem_of_getElem? (i := 1430) (by decide +kernel)⟩
theorem lw_p82 : lw_okq (⟨"CueBoardModel", "asked", "(III)I"⟩, 13) := ⟨⟨by decide +kernel, by decide +kernel⟩, List.mem_of_getElem? (i := 1061) (by decide +kernel), List.mem_of_getElem? (i := 1444) (by decide +kernel), List.mem_of_getElem? (i := 1445) (by decide +kernel)⟩
theorem lw_p83 : lw_okq (⟨"CueBoardModel", "spanOfAll", "(I)I"⟩, 13) := ⟨⟨by decide +kernel, by decide +kernel⟩, List.mem_of_getElem? (i := 1061) (by decide +kernel), List.mem_of_getElem? (i := 1463) (by decide +kernel), List.mem_of_getElem? (i := 1464) (by decide +kernel)⟩
theorem lw_p84 : lw_okq (⟨"CueBoardModel", "span", "(I)I"⟩, 13) := ⟨⟨by decide +kernel, by decide +kernel⟩, List.mem_of_getElem? (i := 1061) (by decide +kernel), List.mem_of_getElem? (i := 1467) (by decide +kernel), List.mem_of_getElem? (i := 1468) (by decide +kernel)⟩
theorem lw_p85 : lw_okq (⟨"CueBoardModel", "by", "(II)I"⟩, 13) := ⟨⟨by decide +kernel, by decide +kernel⟩, List.mem_of_getElem? (i := 1061) (by decide +kernel), List.mem_of_getElem? (i := 1471) (by decide +kernel), List.mem_of_getElem? (i := 1472) (by decide +kernel)⟩
theorem lw_p86 : lw_okq (⟨"CueBoardModel", "heatByBodies", "(I)I"⟩, 13) := ⟨⟨by decide +kernel, by decide +kernel⟩, List.mem_of_getElem? (i := 1061) (by decide +kernel), List.mem_of_getElem? (i := 1475) (by decide +kernel), List.mem_of_getElem? (i := 1476) (by decide +kernel)⟩
theorem lw_p87 : lw_okq (⟨"CueBoardModel", "reach", "(I)I"⟩, 13) := ⟨⟨by decide +kernel, by decide +kernel⟩, List.mem_of_getElem? (i := 1061) (by decide +kernel), List.mem_of_getElem? (i := 1479) (by decide +kernel), List.mem_of_getElem? (i := 1480) (by decide +kernel)⟩
theorem lw_p88 : lw_okq (⟨"CueBoardModel", "mostByBodies", "(I)I"⟩, 13) := ⟨⟨by decide +kernel, by decide +kernel⟩, List.mem_of_getElem? (i := 1061) (by decide +kernel), List.mem_of_getElem? (i := 1483) (by decide +kernel), List.mem_of_getElem? (i := 1484) (by decide +kernel)⟩
def lw_privs_6 : List (MethodName × Nat) := [(⟨"CueBoardModel", "writeAll", "()V"⟩, 13), (⟨"CueBoardModel", "write", "(II)V"⟩, 13), (⟨"CueBoardModel", "asked", "(III)I"⟩, 13), (⟨"CueBoardModel", "spanOfAll", "(I)I"⟩, 13), (⟨"CueBoardModel", "span", "(I)I"⟩, 13), (⟨"CueBoardModel", "by", "(II)I"⟩, 13), (⟨"CueBoardModel", "heatByBodies", "(I)I"⟩, 13), (⟨"CueBoardModel", "reach", "(I)I"⟩, 13), (⟨"CueBoardModel", "mostByBodies", "(I)I"⟩, 13)]
theorem lw_r6 : ∀ q ∈ lw_privs_6, lw_okq q := List.forall_mem_cons.mpr ⟨lw_p80, List.forall_mem_cons.mpr ⟨lw_p81, List.forall_mem_cons.mpr ⟨lw_p82, List.forall_mem_cons.mpr ⟨lw_p83, List.forall_mem_cons.mpr ⟨lw_p84, List.forall_mem_cons.mpr ⟨lw_p85, List.forall_mem_cons.mpr ⟨lw_p86, List.forall_mem_cons.mpr ⟨lw_p87, List.forall_mem_cons.mpr ⟨lw_p88, fun _ h => absurd h List.not_mem_nil⟩⟩⟩⟩⟩⟩⟩⟩⟩
def lw_privs : List (MethodName × Nat) := lw_privs_1 ++ (lw_privs_2 ++ (lw_privs_3 ++ (lw_privs_4 ++ (lw_privs_5 ++ (lw_privs_6)))))
def lw_tbl : List Cond := k2_sels lw_privs ++ tables_1
theorem lw_privs_ok : ∀ q ∈ lw_privs, lw_okq q := by
  show ∀ q ∈ lw_privs_1 ++ (lw_privs_2 ++ (lw_privs_3 ++ (lw_privs_4 ++ (lw_privs_5 ++ (lw_privs_6))))), lw_okq q
  exact List.forall_mem_append.mpr ⟨lw_r1, List.forall_mem_append.mpr ⟨lw_r2, List.forall_mem_append.mpr ⟨lw_r3, List.forall_mem_append.mpr ⟨lw_r4, List.forall_mem_append.mpr ⟨lw_r5, lw_r6⟩⟩⟩⟩⟩
/-- the streams that the claim lets the run draw from -/
abbrev lw_cs : List Choice := [Jvm.Choice.named "NaN.bits", Jvm.Choice.named "NaN.copy"]
theorem lw_bits : nanBits ∈ lw_cs := by first | decide | exact List.mem_cons_self | simp [lw_cs, nanBits]

def RX0 : String := "CueBoard$Board"
def TX0 : u_T := fun k => match k with
  | 0 => ("CueBoard$Board", "findings", "LCueBoard$Findings;", true)
  | 1 => ("CueBoard$Board", "lines", "LCueBoard$Lines;", true)
  | 2 => ("CueBoard$Board", "rig", "LCueBoard$Rig;", true)
  | 3 => ("CueBoard$Board", "patching", "LCueBoard$Patching;", true)
  | 4 => ("CueBoard$Board", "curves", "LCueBoard$Curves;", true)
  | 5 => ("CueBoard$Board", "cues", "LCueBoard$Cues;", true)
  | 6 => ("CueBoard$Board", "playbacks", "[LCueBoard$Playback;", true)
  | 7 => ("CueBoard$Board", "mixer", "LCueBoard$Mixer;", true)
  | 8 => ("CueBoard$Board", "ticks", "I", false)
  | 9 => ("CueBoard$Board", "sum", "I", false)
  | _ => ("CueBoard$Board", "fadesEver", "I", false)
def tyX0 : Nat → FieldType := fun k => match k with
  | 0 => .object "CueBoard$Findings"
  | 1 => .object "CueBoard$Lines"
  | 2 => .object "CueBoard$Rig"
  | 3 => .object "CueBoard$Patching"
  | 4 => .object "CueBoard$Curves"
  | 5 => .object "CueBoard$Cues"
  | 6 => .array (.object "CueBoard$Playback")
  | 7 => .object "CueBoard$Mixer"
  | 8 => .int
  | 9 => .int
  | _ => .int
abbrev wsX00 : List Cond := u_ws RX0 TX0 11
theorem nmX0 : ∀ a, a < 11 → ∀ b, b < 11 → a ≠ b → (TX0 a).2.1 ≠ (TX0 b).2.1 := by decide +kernel
theorem tyX0_ok : ∀ k, k < 11 → parseFieldDescriptor (TX0 k).2.2.1 = some (tyX0 k) := by decide +kernel
def RX1 : String := "CueBoard$Book"
def TX1 : u_T := fun k => match k with
  | 0 => ("CueBoard$Book", "acts", "[I", true)
  | 1 => ("CueBoard$Book", "numbers", "[I", true)
  | _ => ("CueBoard$Book", "calls", "I", false)
def tyX1 : Nat → FieldType := fun k => match k with
  | 0 => .array .int
  | 1 => .array .int
  | _ => .int
abbrev wsX10 : List Cond := u_ws RX1 TX1 3
theorem nmX1 : ∀ a, a < 3 → ∀ b, b < 3 → a ≠ b → (TX1 a).2.1 ≠ (TX1 b).2.1 := by decide +kernel
theorem tyX1_ok : ∀ k, k < 3 → parseFieldDescriptor (TX1 k).2.2.1 = some (tyX1 k) := by decide +kernel
def RX2 : String := "CueBoard$Cues"
def TX2 : u_T := fun k => match k with
  | 0 => ("CueBoard$Cues", "rig", "LCueBoard$Rig;", true)
  | 1 => ("CueBoard$Cues", "entryCounts", "[I", true)
  | 2 => ("CueBoard$Cues", "fixtures", "[I", true)
  | 3 => ("CueBoard$Cues", "channels", "[I", true)
  | 4 => ("CueBoard$Cues", "values", "[I", true)
  | 5 => ("CueBoard$Cues", "lengths", "[I", true)
  | 6 => ("CueBoard$Cues", "stepCounts", "[I", true)
  | 7 => ("CueBoard$Cues", "steps", "[I", true)
  | _ => ("CueBoard$Cues", "follows", "[I", true)
def tyX2 : Nat → FieldType := fun k => match k with
  | 0 => .object "CueBoard$Rig"
  | 1 => .array .int
  | 2 => .array .int
  | 3 => .array .int
  | 4 => .array .int
  | 5 => .array .int
  | 6 => .array .int
  | 7 => .array .int
  | _ => .array .int
abbrev wsX20 : List Cond := u_ws RX2 TX2 9
theorem nmX2 : ∀ a, a < 9 → ∀ b, b < 9 → a ≠ b → (TX2 a).2.1 ≠ (TX2 b).2.1 := by decide +kernel
theorem tyX2_ok : ∀ k, k < 9 → parseFieldDescriptor (TX2 k).2.2.1 = some (tyX2 k) := by decide +kernel
def RX3 : String := "CueBoard$Curves"
def TX3 : u_T := fun k => match k with
  | 0 => ("CueBoard$Curves", "counts", "[I", true)
  | 1 => ("CueBoard$Curves", "xs", "[I", true)
  | 2 => ("CueBoard$Curves", "bits", "[I", true)
  | 3 => ("CueBoard$Curves", "holes", "[Z", true)
  | 4 => ("CueBoard$Curves", "ys", "[F", true)
  | 5 => ("CueBoard$Curves", "left", "I", false)
  | _ => ("CueBoard$Curves", "right", "I", false)
def tyX3 : Nat → FieldType := fun k => match k with
  | 0 => .array .int
  | 1 => .array .int
  | 2 => .array .int
  | 3 => .array .boolean
  | 4 => .array .float
  | 5 => .int
  | _ => .int
abbrev wsX30 : List Cond := u_ws RX3 TX3 7
theorem nmX3 : ∀ a, a < 7 → ∀ b, b < 7 → a ≠ b → (TX3 a).2.1 ≠ (TX3 b).2.1 := by decide +kernel
theorem tyX3_ok : ∀ k, k < 7 → parseFieldDescriptor (TX3 k).2.2.1 = some (tyX3 k) := by decide +kernel
def RX4 : String := "CueBoard$Findings"
def TX4 : u_T := fun k => match k with
  | _ => ("CueBoard$Findings", "counts", "[I", true)
def tyX4 : Nat → FieldType := fun k => match k with
  | _ => .array .int
abbrev wsX40 : List Cond := u_ws RX4 TX4 1
theorem nmX4 : ∀ a, a < 1 → ∀ b, b < 1 → a ≠ b → (TX4 a).2.1 ≠ (TX4 b).2.1 := by decide +kernel
theorem tyX4_ok : ∀ k, k < 1 → parseFieldDescriptor (TX4 k).2.2.1 = some (tyX4 k) := by decide +kernel
def RX5 : String := "CueBoard$Lines"
def TX5 : u_T := fun k => match k with
  | 0 => ("CueBoard$Lines", "findings", "LCueBoard$Findings;", true)
  | 1 => ("CueBoard$Lines", "bytes", "[I", true)
  | 2 => ("CueBoard$Lines", "places", "[I", true)
  | 3 => ("CueBoard$Lines", "plugged", "[Z", true)
  | 4 => ("CueBoard$Lines", "limits", "[I", true)
  | 5 => ("CueBoard$Lines", "heats", "[I", true)
  | _ => ("CueBoard$Lines", "overs", "[Z", true)
def tyX5 : Nat → FieldType := fun k => match k with
  | 0 => .object "CueBoard$Findings"
  | 1 => .array .int
  | 2 => .array .int
  | 3 => .array .boolean
  | 4 => .array .int
  | 5 => .array .int
  | _ => .array .boolean
abbrev wsX50 : List Cond := u_ws RX5 TX5 7
theorem nmX5 : ∀ a, a < 7 → ∀ b, b < 7 → a ≠ b → (TX5 a).2.1 ≠ (TX5 b).2.1 := by decide +kernel
theorem tyX5_ok : ∀ k, k < 7 → parseFieldDescriptor (TX5 k).2.2.1 = some (tyX5 k) := by decide +kernel
def RX6 : String := "CueBoard$Mixer"
def TX6 : u_T := fun k => match k with
  | 0 => ("CueBoard$Mixer", "findings", "LCueBoard$Findings;", true)
  | 1 => ("CueBoard$Mixer", "lines", "LCueBoard$Lines;", true)
  | 2 => ("CueBoard$Mixer", "rig", "LCueBoard$Rig;", true)
  | 3 => ("CueBoard$Mixer", "patching", "LCueBoard$Patching;", true)
  | 4 => ("CueBoard$Mixer", "curves", "LCueBoard$Curves;", true)
  | 5 => ("CueBoard$Mixer", "playbacks", "[LCueBoard$Playback;", true)
  | 6 => ("CueBoard$Mixer", "curveOf", "[I", true)
  | 7 => ("CueBoard$Mixer", "bents", "[I", true)
  | 8 => ("CueBoard$Mixer", "byLatest", "[Z", true)
  | 9 => ("CueBoard$Mixer", "levels", "[I", true)
  | 10 => ("CueBoard$Mixer", "wholes", "[Z", true)
  | 11 => ("CueBoard$Mixer", "grand", "I", false)
  | _ => ("CueBoard$Mixer", "dark", "Z", false)
def tyX6 : Nat → FieldType := fun k => match k with
  | 0 => .object "CueBoard$Findings"
  | 1 => .object "CueBoard$Lines"
  | 2 => .object "CueBoard$Rig"
  | 3 => .object "CueBoard$Patching"
  | 4 => .object "CueBoard$Curves"
  | 5 => .array (.object "CueBoard$Playback")
  | 6 => .array .int
  | 7 => .array .int
  | 8 => .array .boolean
  | 9 => .array .int
  | 10 => .array .boolean
  | 11 => .int
  | _ => .boolean
abbrev wsX60 : List Cond := u_ws RX6 TX6 13
theorem nmX6 : ∀ a, a < 13 → ∀ b, b < 13 → a ≠ b → (TX6 a).2.1 ≠ (TX6 b).2.1 := by decide +kernel
theorem tyX6_ok : ∀ k, k < 13 → parseFieldDescriptor (TX6 k).2.2.1 = some (tyX6 k) := by decide +kernel
def RX7 : String := "CueBoard$Patching"
def TX7 : u_T := fun k => match k with
  | 0 => ("CueBoard$Patching", "findings", "LCueBoard$Findings;", true)
  | 1 => ("CueBoard$Patching", "rig", "LCueBoard$Rig;", true)
  | 2 => ("CueBoard$Patching", "lineOf", "[I", true)
  | 3 => ("CueBoard$Patching", "placeOf", "[I", true)
  | 4 => ("CueBoard$Patching", "firms", "[Z", true)
  | 5 => ("CueBoard$Patching", "order", "[I", true)
  | _ => ("CueBoard$Patching", "count", "I", false)
def tyX7 : Nat → FieldType := fun k => match k with
  | 0 => .object "CueBoard$Findings"
  | 1 => .object "CueBoard$Rig"
  | 2 => .array .int
  | 3 => .array .int
  | 4 => .array .boolean
  | 5 => .array .int
  | _ => .int
abbrev wsX70 : List Cond := u_ws RX7 TX7 7
theorem nmX7 : ∀ a, a < 7 → ∀ b, b < 7 → a ≠ b → (TX7 a).2.1 ≠ (TX7 b).2.1 := by decide +kernel
theorem tyX7_ok : ∀ k, k < 7 → parseFieldDescriptor (TX7 k).2.2.1 = some (tyX7 k) := by decide +kernel
def RX8 : String := "CueBoard$Playback"
def TX8 : u_T := fun k => match k with
  | 0 => ("CueBoard$Playback", "list", "I", false)
  | 1 => ("CueBoard$Playback", "place", "I", false)
  | 2 => ("CueBoard$Playback", "share", "I", false)
  | 3 => ("CueBoard$Playback", "entries", "I", false)
  | 4 => ("CueBoard$Playback", "leavings", "I", false)
  | 5 => ("CueBoard$Playback", "channelCount", "I", false)
  | 6 => ("CueBoard$Playback", "fadeCount", "I", false)
  | 7 => ("CueBoard$Playback", "since", "I", false)
  | 8 => ("CueBoard$Playback", "mayFollow", "Z", false)
  | 9 => ("CueBoard$Playback", "values", "[I", true)
  | 10 => ("CueBoard$Playback", "began", "[I", true)
  | 11 => ("CueBoard$Playback", "from", "[I", true)
  | 12 => ("CueBoard$Playback", "to", "[I", true)
  | 13 => ("CueBoard$Playback", "lengths", "[I", true)
  | _ => ("CueBoard$Playback", "gone", "[I", true)
def tyX8 : Nat → FieldType := fun k => match k with
  | 0 => .int
  | 1 => .int
  | 2 => .int
  | 3 => .int
  | 4 => .int
  | 5 => .int
  | 6 => .int
  | 7 => .int
  | 8 => .boolean
  | 9 => .array .int
  | 10 => .array .int
  | 11 => .array .int
  | 12 => .array .int
  | 13 => .array .int
  | _ => .array .int
abbrev wsX80 : List Cond := u_ws RX8 TX8 15
theorem nmX8 : ∀ a, a < 15 → ∀ b, b < 15 → a ≠ b → (TX8 a).2.1 ≠ (TX8 b).2.1 := by decide +kernel
theorem tyX8_ok : ∀ k, k < 15 → parseFieldDescriptor (TX8 k).2.2.1 = some (tyX8 k) := by decide +kernel
def RX9 : String := "CueBoard$Rig"
def TX9 : u_T := fun k => match k with
  | 0 => ("CueBoard$Rig", "findings", "LCueBoard$Findings;", true)
  | 1 => ("CueBoard$Rig", "count", "I", false)
  | 2 => ("CueBoard$Rig", "groups", "I", false)
  | 3 => ("CueBoard$Rig", "kinds", "[I", true)
  | 4 => ("CueBoard$Rig", "numbers", "[I", true)
  | 5 => ("CueBoard$Rig", "seatCounts", "[I", true)
  | 6 => ("CueBoard$Rig", "seats", "[I", true)
  | 7 => ("CueBoard$Rig", "heats", "[I", true)
  | 8 => ("CueBoard$Rig", "mosts", "[I", true)
  | 9 => ("CueBoard$Rig", "members", "[I", true)
  | 10 => ("CueBoard$Rig", "memberCount", "I", false)
  | 11 => ("CueBoard$Rig", "marks", "[I", true)
  | 12 => ("CueBoard$Rig", "markCount", "I", false)
  | _ => ("CueBoard$Rig", "isAsked", "Z", false)
def tyX9 : Nat → FieldType := fun k => match k with
  | 0 => .object "CueBoard$Findings"
  | 1 => .int
  | 2 => .int
  | 3 => .array .int
  | 4 => .array .int
  | 5 => .array .int
  | 6 => .array .int
  | 7 => .array .int
  | 8 => .array .int
  | 9 => .array .int
  | 10 => .int
  | 11 => .array .int
  | 12 => .int
  | _ => .boolean
abbrev wsX90 : List Cond := u_ws RX9 TX9 14
theorem nmX9 : ∀ a, a < 14 → ∀ b, b < 14 → a ≠ b → (TX9 a).2.1 ≠ (TX9 b).2.1 := by decide +kernel
theorem tyX9_ok : ∀ k, k < 14 → parseFieldDescriptor (TX9 k).2.2.1 = some (tyX9 k) := by decide +kernel
def RX10 : String := "CueBoard"
def TX10 : u_T := fun k => match k with
  | 0 => ("CueBoard", "book", "LCueBoard$Book;", true)
  | 1 => ("CueBoard", "live", "LCueBoard$Board;", true)
  | _ => ("CueBoard", "again", "LCueBoard$Board;", true)
def tyX10 : Nat → FieldType := fun k => match k with
  | 0 => .object "CueBoard$Book"
  | 1 => .object "CueBoard$Board"
  | _ => .object "CueBoard$Board"
abbrev wsX100 : List Cond := u_ws RX10 TX10 3
theorem nmX10 : ∀ a, a < 3 → ∀ b, b < 3 → a ≠ b → (TX10 a).2.1 ≠ (TX10 b).2.1 := by decide +kernel
theorem tyX10_ok : ∀ k, k < 3 → parseFieldDescriptor (TX10 k).2.2.1 = some (tyX10 k) := by decide +kernel
def RX11 : String := "CueBoardModel"
def TX11 : u_T := fun k => match k with
  | 0 => ("CueBoardModel", "s", "[I", true)
  | 1 => ("CueBoardModel", "aside", "[I", true)
  | 2 => ("CueBoardModel", "book", "[I", true)
  | 3 => ("CueBoardModel", "booked", "I", false)
  | 4 => ("CueBoardModel", "isPlaying", "Z", false)
  | 5 => ("CueBoardModel", "members", "[I", true)
  | 6 => ("CueBoardModel", "memberMany", "I", false)
  | 7 => ("CueBoardModel", "piled", "I", false)
  | 8 => ("CueBoardModel", "pile", "[I", true)
  | 9 => ("CueBoardModel", "pileAt", "[I", true)
  | 10 => ("CueBoardModel", "trace", "[I", true)
  | 11 => ("CueBoardModel", "traced", "I", false)
  | _ => ("CueBoardModel", "level", "[I", true)
def tyX11 : Nat → FieldType := fun k => match k with
  | 0 => .array .int
  | 1 => .array .int
  | 2 => .array .int
  | 3 => .int
  | 4 => .boolean
  | 5 => .array .int
  | 6 => .int
  | 7 => .int
  | 8 => .array .int
  | 9 => .array .int
  | 10 => .array .int
  | 11 => .int
  | _ => .array .int
abbrev wsX110 : List Cond := u_ws RX11 TX11 13
theorem nmX11 : ∀ a, a < 13 → ∀ b, b < 13 → a ≠ b → (TX11 a).2.1 ≠ (TX11 b).2.1 := by decide +kernel
theorem tyX11_ok : ∀ k, k < 13 → parseFieldDescriptor (TX11 k).2.2.1 = some (tyX11 k) := by decide +kernel
abbrev vwCl : List vw_C := [(RX0, TX0, 11), (RX1, TX1, 3), (RX2, TX2, 9), (RX3, TX3, 7), (RX4, TX4, 1), (RX5, TX5, 7), (RX6, TX6, 13), (RX7, TX7, 7), (RX8, TX8, 15), (RX9, TX9, 14), (RX10, TX10, 3), (RX11, TX11, 13)]
end
section
/-! ===== the small machine: values, memory, one instruction, a run; it speaks of the cells by numbers (tag, place, sub) ===== -/
abbrev xId : Type := Nat × Nat × Nat
abbrev xV : Type := Int ⊕ (UInt32 ⊕ xId)
abbrev xB : Type := Nat → Nat → Int
abbrev xM : Type := xB × xB × xB × xB
abbrev xE : Type := Instr × List (Int × Nat) × Option (List Bool)
abbrev xL : Type := List (Option xV)
abbrev xR : Type := Option xV → xM → Prop
abbrev xH : Type := Nat → List xV → xM → xR → Prop
abbrev xN : Type := Nat → xL → List xV → xM → Prop
/-- 32 bits -/
def xw (z : Int) : Int := z.bmod 4294967296
def x_up (b : xB) (r i : Nat) (v : Int) : xB := fun r' i' => if r' = r ∧ i' = i then v else b r' i'
def x_rd (M : xM) (t r i : Nat) : Int := match t with
  | 0 => M.1 r i
  | 1 => M.2.1 r i
  | 2 => M.2.2.1 r i
  | _ => M.2.2.2 r i
def x_wr (M : xM) (t r i : Nat) (v : Int) : xM := match t with
  | 0 => (x_up M.1 r i v, M.2.1, M.2.2.1, M.2.2.2)
  | 1 => (M.1, x_up M.2.1 r i v, M.2.2.1, M.2.2.2)
  | 2 => (M.1, M.2.1, x_up M.2.2.1 r i v, M.2.2.2)
  | _ => (M.1, M.2.1, M.2.2.1, x_up M.2.2.2 r i v)
def x_sl (u n i : Nat) : Nat := match u with
  | 0 => i
  | u + 1 => i + (u + 1) * n
def x_i2f (x : Int) : UInt32 := (Int32.ofInt x).toUInt32
def x_f2i (f : UInt32) : Int := f.toInt32.toInt
def x_and (x y : Int) : Int := (Int32.ofInt x &&& Int32.ofInt y).toInt
def x_or (x y : Int) : Int := (Int32.ofInt x ||| Int32.ofInt y).toInt
def x_xor (x y : Int) : Int := (Int32.ofInt x ^^^ Int32.ofInt y).toInt
def x_shl (x y : Int) : Int := (Int32.ofInt x <<< (Int32.ofInt y &&& 31)).toInt
def x_ush (x y : Int) : Int := ((Int32.ofInt x).toUInt32 >>> ((Int32.ofInt y).toUInt32 &&& Int32.toUInt32 31)).toInt32.toInt
def x_isb (x : Int) : Bool := match x with
  | .ofNat 0 => true
  | .ofNat 1 => true
  | _ => false
def x_bg (x : Int) (P : Prop) : Prop := bif x_isb x then P else False
def x_isz (x : Int) : Bool := match x with
  | .ofNat 0 => true
  | _ => false
def x_nz (x : Int) (P : Prop) : Prop := bif x_isz x then False else P
def x_nth : xL → Nat → Option xV
  | [], _ => none
  | a :: _, 0 => a
  | _ :: l, n + 1 => x_nth l n
def x_set : xL → Nat → xV → xL
  | [], _, _ => []
  | _ :: l, 0, v => some v :: l
  | a :: l, n + 1, v => a :: x_set l n v
def x_mz : List Bool → xL → xL
  | [], L => L
  | _ :: _, [] => []
  | true :: bs, a :: L => a :: x_mz bs L
  | false :: bs, _ :: L => none :: x_mz bs L
def x_msk (m : Option (List Bool)) (L : xL) : xL := match m with
  | none => L
  | some bs => x_mz bs L
def x_pop : Nat → List xV → List xV → Option (List xV × List xV)
  | 0, acc, st => some (acc, st)
  | _ + 1, _, [] => none
  | n + 1, acc, v :: st => x_pop n (v :: acc) st
def x_ps (v : Option xV) (r : List xV) : List xV := match v with
  | none => r
  | some v => v :: r
def x_br (c A B : Prop) : Prop := (c → A) ∧ (¬ c → B)
def x_cmp (c : ClassFile.Cond) (x y : Int) (A B : Prop) : Prop := match c with
  | .eq => x_br (x = y) A B
  | .ne => x_br (x = y) B A
  | .lt => x_br (x < y) A B
  | .ge => x_br (x < y) B A
  | .gt => x_br (y < x) A B
  | .le => x_br (y < x) B A
def x_sw (P : Nat → Prop) (x : Int) (d : Nat) : List (Int × Nat) → Prop
  | [] => P d
  | (v, t) :: l => x_br (x = v) (P t) (x_sw P x d l)
/-- arrays by place: kind (0 int, 1 boolean, 2 float, 3 playbacks), length -/
def x_ar (o : Nat) : Option (Nat × Nat) := match o with
  | 7 => some (3, 4)
  | 10 => some (0, 7)
  | 11 => some (0, 256)
  | 12 => some (0, 4)
  | 13 => some (1, 4)
  | 14 => some (0, 4)
  | 15 => some (0, 4)
  | 16 => some (1, 4)
  | 17 => some (0, 24)
  | 18 => some (0, 24)
  | 19 => some (0, 24)
  | 20 => some (0, 144)
  | 21 => some (0, 24)
  | 22 => some (0, 24)
  | 23 => some (0, 216)
  | 24 => some (0, 475)
  | 25 => some (0, 24)
  | 26 => some (0, 24)
  | 27 => some (1, 24)
  | 28 => some (0, 24)
  | 29 => some (0, 4)
  | 30 => some (0, 32)
  | 31 => some (0, 32)
  | 32 => some (1, 32)
  | 33 => some (2, 32)
  | 34 => some (0, 16)
  | 35 => some (0, 192)
  | 36 => some (0, 192)
  | 37 => some (0, 192)
  | 38 => some (0, 192)
  | 39 => some (0, 4)
  | 40 => some (0, 32)
  | 41 => some (0, 32)
  | 42 => some (0, 72)
  | 43 => some (0, 72)
  | 44 => some (1, 72)
  | 45 => some (0, 72)
  | 46 => some (1, 72)
  | 47 => some (0, 72)
  | 48 => some (0, 72)
  | 49 => some (0, 72)
  | 50 => some (0, 72)
  | 51 => some (0, 72)
  | 52 => some (0, 72)
  | 62 => some (0, 120)
  | 63 => some (0, 600)
  | 71 => some (0, 3779)
  | 72 => some (0, 3779)
  | 73 => some (0, 720)
  | 74 => some (0, 216)
  | 75 => some (0, 4)
  | 76 => some (0, 4)
  | 77 => some (0, 600)
  | 78 => some (0, 72)
  | _ => none
/-- the fields of an object's place, in the order of the slots: kind (0 int, 1 boolean, 2 the place beside it, 3 the first board, 4 the second), the place -/
def x_fs (o : Nat) : List (Nat × Nat) := match o with
  | 0 => [(2, 1), (2, 2), (2, 3), (2, 4), (2, 5), (2, 6), (2, 7), (2, 8), (0, 0), (0, 0), (0, 0)]
  | 1 => [(2, 10)]
  | 2 => [(2, 1), (2, 11), (2, 12), (2, 13), (2, 14), (2, 15), (2, 16)]
  | 3 => [(2, 1), (0, 0), (0, 0), (2, 17), (2, 18), (2, 19), (2, 20), (2, 21), (2, 22), (2, 23), (0, 0), (2, 24), (0, 0), (1, 0)]
  | 4 => [(2, 1), (2, 3), (2, 25), (2, 26), (2, 27), (2, 28), (0, 0)]
  | 5 => [(2, 29), (2, 30), (2, 31), (2, 32), (2, 33), (0, 0), (0, 0)]
  | 6 => [(2, 3), (2, 34), (2, 35), (2, 36), (2, 37), (2, 38), (2, 39), (2, 40), (2, 41)]
  | 8 => [(2, 1), (2, 2), (2, 3), (2, 4), (2, 5), (2, 7), (2, 42), (2, 43), (2, 44), (2, 45), (2, 46), (0, 0), (1, 0)]
  | 9 => [(0, 0), (0, 0), (0, 0), (0, 0), (0, 0), (0, 0), (0, 0), (0, 0), (1, 0), (2, 47), (2, 48), (2, 49), (2, 50), (2, 51), (2, 52)]
  | 60 => [(2, 61), (3, 0), (4, 0)]
  | 61 => [(2, 62), (2, 63), (0, 0)]
  | 70 => [(2, 71), (2, 72), (2, 73), (0, 0), (1, 0), (2, 74), (0, 0), (0, 0), (2, 75), (2, 76), (2, 77), (0, 0), (2, 78)]
  | _ => []
/-- the number, in vwCl, of the kind of object at a place -/
def x_cn (o : Nat) : Nat := match o with
  | 0 => 0
  | 61 => 1
  | 6 => 2
  | 5 => 3
  | 1 => 4
  | 2 => 5
  | 8 => 6
  | 4 => 7
  | 9 => 8
  | 3 => 9
  | 60 => 10
  | 70 => 11
  | _ => 99
def x_fn : List (Nat × Nat) → Nat → Nat × Nat
  | [], _ => (9, 0)
  | a :: _, 0 => a
  | _ :: l, n + 1 => x_fn l n
def x_fk (o k : Nat) : Nat × Nat := x_fn (x_fs o) k
def x_ldi (N : xN) (pc i : Nat) (L : xL) (st : List xV) (M : xM) : Prop := match x_nth L i with
  | some (.inl x) => N pc L (.inl x :: st) M
  | _ => False
def x_ldf (N : xN) (pc i : Nat) (L : xL) (st : List xV) (M : xM) : Prop := match x_nth L i with
  | some (.inr (.inl x)) => N pc L (.inr (.inl x) :: st) M
  | _ => False
def x_lda (N : xN) (pc i : Nat) (L : xL) (st : List xV) (M : xM) : Prop := match x_nth L i with
  | some (.inr (.inr x)) => N pc L (.inr (.inr x) :: st) M
  | _ => False
def x_sti (N : xN) (pc i : Nat) (L : xL) (st : List xV) (M : xM) : Prop := match st with
  | .inl x :: r => bif Nat.blt i L.length then N pc (x_set L i (.inl x)) r M else False
  | _ => False
def x_stf (N : xN) (pc i : Nat) (L : xL) (st : List xV) (M : xM) : Prop := match st with
  | .inr (.inl x) :: r => bif Nat.blt i L.length then N pc (x_set L i (.inr (.inl x))) r M else False
  | _ => False
def x_sta (N : xN) (pc i : Nat) (L : xL) (st : List xV) (M : xM) : Prop := match st with
  | .inr (.inr x) :: r => bif Nat.blt i L.length then N pc (x_set L i (.inr (.inr x))) r M else False
  | _ => False
def x_inc (N : xN) (pc i : Nat) (z : Int) (L : xL) (st : List xV) (M : xM) : Prop := match x_nth L i with
  | some (.inl x) => bif Nat.blt i L.length then N pc (x_set L i (.inl (xw (x + z)))) st M else False
  | _ => False
def x_ii (N : xN) (pc : Nat) (f : Int → Int → Int) (L : xL) (st : List xV) (M : xM) : Prop := match st with
  | .inl y :: .inl x :: r => N pc L (.inl (f x y) :: r) M
  | _ => False
def x_iz (N : xN) (pc : Nat) (f : Int → Int → Int) (L : xL) (st : List xV) (M : xM) : Prop := match st with
  | .inl y :: .inl x :: r => x_nz y (N pc L (.inl (f x y) :: r) M)
  | _ => False
def x_ff (N : xN) (pc : Nat) (f : UInt32 → UInt32 → UInt32) (L : xL) (st : List xV) (M : xM) : Prop := match st with
  | .inr (.inl y) :: .inr (.inl x) :: r => vf_n32 (f x y) ∧ N pc L (.inr (.inl (f x y)) :: r) M
  | _ => False
def x_fl1 (N : xN) (pc : Nat) (f : UInt32 → xV) (L : xL) (st : List xV) (M : xM) : Prop := match st with
  | .inr (.inl x) :: r => N pc L (f x :: r) M
  | _ => False
def x_in1 (N : xN) (pc : Nat) (f : Int → xV) (L : xL) (st : List xV) (M : xM) : Prop := match st with
  | .inl x :: r => N pc L (f x :: r) M
  | _ => False
def x_fc (N : xN) (pc : Nat) (op : CmpOp) (L : xL) (st : List xV) (M : xM) : Prop := match st with
  | .inr (.inl y) :: .inr (.inl x) :: r => N pc L (.inl (Op.cmpValue (FP.fcmp x y) op).toInt :: r) M
  | _ => False
def x_if1 (N : xN) (pc : Nat) (c : ClassFile.Cond) (ex : List (Int × Nat)) (L : xL) (st : List xV) (M : xM) : Prop := match ex, st with
  | (_, t) :: _, .inl x :: r => x_cmp c x 0 (N t L r M) (N pc L r M)
  | _, _ => False
def x_if2 (N : xN) (pc : Nat) (c : ClassFile.Cond) (ex : List (Int × Nat)) (L : xL) (st : List xV) (M : xM) : Prop := match ex, st with
  | (_, t) :: _, .inl y :: .inl x :: r => x_cmp c x y (N t L r M) (N pc L r M)
  | _, _ => False
def x_go1 (N : xN) (ex : List (Int × Nat)) (L : xL) (st : List xV) (M : xM) : Prop := match ex with
  | (_, t) :: _ => N t L st M
  | _ => False
def x_swi (N : xN) (ex : List (Int × Nat)) (L : xL) (st : List xV) (M : xM) : Prop := match ex, st with
  | (_, d) :: ps, .inl x :: r => x_sw (fun t => N t L r M) x d ps
  | _, _ => False
def x_get (N : xN) (pc : Nat) (ex : List (Int × Nat)) (L : xL) (st : List xV) (M : xM) : Prop := match ex, st with
  | (_, k) :: (_, ci) :: _, .inr (.inr (t, o, u)) :: r => bif Nat.beq (x_cn o) ci then (match x_fk o k with
    | (0, _) => N pc L (.inl (x_rd M t (100 + 20 * o + k) u) :: r) M
    | (1, _) => N pc L (.inl (x_rd M t (100 + 20 * o + k) u) :: r) M
    | (2, o') => N pc L (.inr (.inr (t, o', u)) :: r) M
    | (3, o') => N pc L (.inr (.inr (1, o', 0)) :: r) M
    | (4, o') => N pc L (.inr (.inr (2, o', 0)) :: r) M
    | _ => False) else False
  | _, _ => False
def x_put (N : xN) (pc : Nat) (ex : List (Int × Nat)) (L : xL) (st : List xV) (M : xM) : Prop := match ex, st with
  | (_, k) :: (_, ci) :: _, .inl x :: .inr (.inr (t, o, u)) :: r => bif Nat.beq (x_cn o) ci then (match x_fk o k with
    | (0, _) => N pc L r (x_wr M t (100 + 20 * o + k) u x)
    | (1, _) => x_bg x (N pc L r (x_wr M t (100 + 20 * o + k) u x))
    | _ => False) else False
  | _, _ => False
def x_ald (q : Bool) (N : xN) (pc kd : Nat) (L : xL) (st : List xV) (M : xM) : Prop := match st with
  | .inl i :: .inr (.inr (t, o, u)) :: r => (match x_ar o with
    | some (k, n) => bif Nat.beq k kd then (0 ≤ i ∧ i < (n : Int)) ∧ N pc L (.inl (x_rd M t o (x_sl u n i.toNat)) :: r) M else False
    | none => bif q && Nat.beq kd 0 && Nat.beq o 64 then (0 ≤ i ∧ i < x_rd M 0 65 0) ∧ N pc L (.inl (x_rd M 0 64 i.toNat) :: r) M else False)
  | _ => False
def x_fld (N : xN) (pc : Nat) (L : xL) (st : List xV) (M : xM) : Prop := match st with
  | .inl i :: .inr (.inr (t, o, u)) :: r => (match x_ar o with
    | some (2, n) => (0 ≤ i ∧ i < (n : Int)) ∧ N pc L (.inr (.inl (x_i2f (x_rd M t o (x_sl u n i.toNat)))) :: r) M
    | _ => False)
  | _ => False
def x_rld (N : xN) (pc : Nat) (L : xL) (st : List xV) (M : xM) : Prop := match st with
  | .inl i :: .inr (.inr (t, o, _)) :: r => (match x_ar o with
    | some (3, n) => (0 ≤ i ∧ i < (n : Int)) ∧ N pc L (.inr (.inr (t, 9, i.toNat)) :: r) M
    | _ => False)
  | _ => False
def x_ist (N : xN) (pc : Nat) (L : xL) (st : List xV) (M : xM) : Prop := match st with
  | .inl x :: .inl i :: .inr (.inr (t, o, u)) :: r => (match x_ar o with
    | some (0, n) => (0 ≤ i ∧ i < (n : Int)) ∧ N pc L r (x_wr M t o (x_sl u n i.toNat) x)
    | _ => False)
  | _ => False
def x_bst (N : xN) (pc : Nat) (L : xL) (st : List xV) (M : xM) : Prop := match st with
  | .inl x :: .inl i :: .inr (.inr (t, o, u)) :: r => (match x_ar o with
    | some (1, n) => (0 ≤ i ∧ i < (n : Int)) ∧ x_bg x (N pc L r (x_wr M t o (x_sl u n i.toNat) x))
    | _ => False)
  | _ => False
def x_fst (N : xN) (pc : Nat) (L : xL) (st : List xV) (M : xM) : Prop := match st with
  | .inr (.inl x) :: .inl i :: .inr (.inr (t, o, u)) :: r => (match x_ar o with
    | some (2, n) => (0 ≤ i ∧ i < (n : Int)) ∧ N pc L r (x_wr M t o (x_sl u n i.toNat) (x_f2i x))
    | _ => False)
  | _ => False
def x_len1 (q : Bool) (N : xN) (pc : Nat) (L : xL) (st : List xV) (M : xM) : Prop := match st with
  | .inr (.inr (_, o, _)) :: r => (match x_ar o with
    | some (_, n) => N pc L (.inl (n : Int) :: r) M
    | none => bif q && Nat.beq o 64 then N pc L (.inl (x_rd M 0 65 0) :: r) M else False)
  | _ => False
def x_vir (C : xH) (N : xN) (pc : Nat) (ex : List (Int × Nat)) (L : xL) (st : List xV) (M : xM) : Prop := match ex with
  | (_, k) :: (_, n) :: (_, ci) :: _ => (match x_pop n [] st with
    | some (.inr (.inr (t, o, u)) :: as, r) => bif Nat.ble r.length 8 && Nat.beq (x_cn o) ci then C k (.inr (.inr (t, o, u)) :: as) M (fun v M' => N pc L (x_ps v r) M') else False
    | _ => False)
  | _ => False
def x_sta1 (C : xH) (N : xN) (pc : Nat) (ex : List (Int × Nat)) (L : xL) (st : List xV) (M : xM) : Prop := match ex with
  | (_, k) :: (_, n) :: (_, 0) :: _ => (match x_pop n [] st with
    | some (as, r) => bif Nat.ble r.length 8 then C k as M (fun v M' => N pc L (x_ps v r) M') else False
    | none => False)
  | _ :: _ :: (_, 1) :: _ => (match st with
    | .inr (.inl f) :: r => bif Nat.ble r.length 8 then N pc L (.inl (x_f2i f) :: r) M else False
    | _ => False)
  | _ :: _ :: (_, 2) :: _ => (match st with
    | .inl x :: r => bif Nat.ble r.length 8 then vn_sni2f (Int32.ofInt x) = false ∧ N pc L (.inr (.inl (x_i2f x)) :: r) M else False
    | _ => False)
  | _ => False
def x_irt (rb : Bool) (R : xR) (st : List xV) (M : xM) : Prop := match st with
  | [.inl v] => bif rb then x_bg v (R (some (.inl v)) M) else R (some (.inl v)) M
  | _ => False
def x_frt (R : xR) (st : List xV) (M : xM) : Prop := match st with
  | [.inr (.inl v)] => R (some (.inr (.inl v))) M
  | _ => False
def x_vrt (R : xR) (st : List xV) (M : xM) : Prop := match st with
  | [] => R none M
  | _ => False
def x_ldc (N : xN) (pc : Nat) (ex : List (Int × Nat)) (L : xL) (st : List xV) (M : xM) : Prop := match ex with
  | (v, 0) :: _ => N pc L (.inl v :: st) M
  | (v, 1) :: _ => N pc L (.inr (.inl (UInt32.ofNat v.toNat)) :: st) M
  | _ => False
def x_dup (N : xN) (pc : Nat) (L : xL) (st : List xV) (M : xM) : Prop := match st with
  | a :: r => N pc L (a :: a :: r) M
  | _ => False
def x_dup2 (N : xN) (pc : Nat) (L : xL) (st : List xV) (M : xM) : Prop := match st with
  | a :: b :: r => N pc L (a :: b :: a :: b :: r) M
  | _ => False
def x_popv (N : xN) (pc : Nat) (L : xL) (st : List xV) (M : xM) : Prop := match st with
  | _ :: r => N pc L r M
  | _ => False
/-- one instruction -/
def x1e (q : Bool) (C : xH) (rb : Bool) (R : xR) (N : xN) (i : Instr) (ex : List (Int × Nat)) (pc : Nat) (L : xL) (st : List xV) (M : xM) : Prop := match i with
  | .aload n => x_lda N (pc + 2) n L st M
  | .aload_n n => x_lda N (pc + 1) n.val L st M
  | .iload n => x_ldi N (pc + 2) n L st M
  | .iload_n n => x_ldi N (pc + 1) n.val L st M
  | .fload n => x_ldf N (pc + 2) n L st M
  | .fload_n n => x_ldf N (pc + 1) n.val L st M
  | .astore n => x_sta N (pc + 2) n L st M
  | .astore_n n => x_sta N (pc + 1) n.val L st M
  | .istore n => x_sti N (pc + 2) n L st M
  | .istore_n n => x_sti N (pc + 1) n.val L st M
  | .fstore n => x_stf N (pc + 2) n L st M
  | .fstore_n n => x_stf N (pc + 1) n.val L st M
  | .iinc n z => x_inc N (pc + 3) n z L st M
  | .iconst v => N (pc + 1) L (.inl v :: st) M
  | .bipush v => N (pc + 2) L (.inl v :: st) M
  | .sipush v => N (pc + 3) L (.inl v :: st) M
  | .ldc _ => x_ldc N (pc + 2) ex L st M
  | .ldc_w _ => x_ldc N (pc + 3) ex L st M
  | .fconst v => N (pc + 1) L (.inr (.inl (match v with | 0 => FP.fconst0 | 1 => FP.fconst1 | 2 => FP.fconst2)) :: st) M
  | .iadd => x_ii N (pc + 1) (fun x y => xw (x + y)) L st M
  | .isub => x_ii N (pc + 1) (fun x y => xw (x - y)) L st M
  | .imul => x_ii N (pc + 1) (fun x y => xw (x * y)) L st M
  | .idiv => x_iz N (pc + 1) (fun x y => xw (x.tdiv y)) L st M
  | .irem => x_iz N (pc + 1) (fun x y => x.tmod y) L st M
  | .iand => x_ii N (pc + 1) x_and L st M
  | .ior => x_ii N (pc + 1) x_or L st M
  | .ixor => x_ii N (pc + 1) x_xor L st M
  | .ishl => x_ii N (pc + 1) x_shl L st M
  | .iushr => x_ii N (pc + 1) x_ush L st M
  | .fadd => x_ff N (pc + 1) FP.fadd L st M
  | .fsub => x_ff N (pc + 1) FP.fsub L st M
  | .fmul => x_ff N (pc + 1) FP.fmul L st M
  | .fdiv => x_ff N (pc + 1) FP.fdiv L st M
  | .fneg => x_fl1 N (pc + 1) (fun f => .inr (.inl (FP.fneg f))) L st M
  | .f2i => x_fl1 N (pc + 1) (fun f => .inl (FP.f2i f).toInt) L st M
  | .i2f => x_in1 N (pc + 1) (fun x => .inr (.inl (FP.i2f (Int32.ofInt x)))) L st M
  | .fcmp op => x_fc N (pc + 1) op L st M
  | .ifCond c _ => x_if1 N (pc + 3) c ex L st M
  | .if_icmp c _ => x_if2 N (pc + 3) c ex L st M
  | .goto _ => x_go1 N ex L st M
  | .tableswitch _ _ _ _ => x_swi N ex L st M
  | .lookupswitch _ _ => x_swi N ex L st M
  | .getfield _ => x_get N (pc + 3) ex L st M
  | .putfield _ => x_put N (pc + 3) ex L st M
  | .iaload => x_ald q N (pc + 1) 0 L st M
  | .baload => x_ald q N (pc + 1) 1 L st M
  | .faload => x_fld N (pc + 1) L st M
  | .aaload => x_rld N (pc + 1) L st M
  | .iastore => x_ist N (pc + 1) L st M
  | .bastore => x_bst N (pc + 1) L st M
  | .fastore => x_fst N (pc + 1) L st M
  | .arraylength => x_len1 q N (pc + 1) L st M
  | .dup => x_dup N (pc + 1) L st M
  | .dup2 => x_dup2 N (pc + 1) L st M
  | .pop => x_popv N (pc + 1) L st M
  | .invokevirtual _ => x_vir C N (pc + 3) ex L st M
  | .invokestatic _ => x_sta1 C N (pc + 3) ex L st M
  | .ireturn => x_irt rb R st M
  | .freturn => x_frt R st M
  | .return_ => x_vrt R st M
  | _ => False
def x1 (q : Bool) (C : xH) (cd : Nat → Option xE) (rb : Bool) (R : xR) (N : xN) (pc : Nat) (L : xL) (st : List xV) (M : xM) : Prop := match cd pc with
  | none => False
  | some (i, ex, mq) => x1e q C rb R N i ex pc (x_msk mq L) st M
/-- a run comes to its return with R: the least such -/
def XW (q : Bool) (C : xH) (cd : Nat → Option xE) (rb : Bool) (R : xR) (pc : Nat) (L : xL) (st : List xV) (M : xM) : Prop :=
  ∀ P : xN, (∀ pc L st M, x1 q C cd rb R P pc L st M → P pc L st M) → P pc L st M
/-- goes up to the next cuts -/
def x_go (q : Bool) (C : xH) (cd : Nat → Option xE) (rb : Bool) (R : xR) : Nat → Bool → xN
  | 0, _ => XW q C cd rb R
  | n + 1, fst => fun pc L st M => match cd pc with
    | none => False
    | some (i, ex, mq) => (match fst, mq with
      | false, some bs => XW q C cd rb R pc (x_mz bs L) st M
      | _, _ => x1e q C rb R (x_go q C cd rb R n false) i ex pc (x_msk mq L) st M)
def x_mono (C C' : xH) : Prop := ∀ k as M (R R' : xR), (∀ v M, R v M → R' v M) → C k as M R → C' k as M R'
theorem x_br_mono {c A B A' B' : Prop} (ha : A → A') (hb : B → B') (h : x_br c A B) : x_br c A' B' := ⟨fun g => ha (h.1 g), fun g => hb (h.2 g)⟩
theorem x_cmp_mono {c : ClassFile.Cond} {x y : Int} {A B A' B' : Prop} (ha : A → A') (hb : B → B') (h : x_cmp c x y A B) : x_cmp c x y A' B' := by
  cases c
  · exact x_br_mono ha hb h
  · exact x_br_mono hb ha h
  · exact x_br_mono ha hb h
  · exact x_br_mono hb ha h
  · exact x_br_mono ha hb h
  · exact x_br_mono hb ha h
theorem x_sw_mono {P P' : Nat → Prop} {x : Int} {d : Nat} (hP : ∀ t, P t → P' t) : ∀ {l : List (Int × Nat)}, x_sw P x d l → x_sw P' x d l
  | [], h => hP _ h
  | _ :: _, h => x_br_mono (hP _) (x_sw_mono hP) h
theorem x_bg_mono {x : Int} {P P' : Prop} (h : P → P') (a : x_bg x P) : x_bg x P' := by
  unfold x_bg at *
  cases hx : x_isb x
  · rw [hx] at a; exact a
  · rw [hx] at a; exact h a
theorem x_nz_mono {x : Int} {P P' : Prop} (h : P → P') (a : x_nz x P) : x_nz x P' := by
  unfold x_nz at *
  cases hx : x_isz x
  · rw [hx] at a; exact h a
  · rw [hx] at a; exact a
theorem x_bif_mono {b : Bool} {A A' : Prop} (h : A → A') : (bif b then A else False) → (bif b then A' else False) := by cases b <;> first | exact id | exact h
theorem x_ldi_mono {N N' : xN} (hN : ∀ pc L st M, N pc L st M → N' pc L st M) {L : xL} {st : List xV} {M : xM} (pc i : Nat) : x_ldi N pc i L st M → x_ldi N' pc i L st M := by
  unfold x_ldi
  repeat' split
  all_goals first | exact hN _ _ _ _ | exact id | exact And.imp_right (hN _ _ _ _) | exact x_bif_mono (hN _ _ _ _) | exact x_nz_mono (hN _ _ _ _) | exact x_bg_mono (hN _ _ _ _) | exact And.imp_right (x_bg_mono (hN _ _ _ _)) | exact x_cmp_mono (hN _ _ _ _) (hN _ _ _ _) | exact x_sw_mono (fun _ => hN _ _ _ _) | exact x_bif_mono (And.imp_right (hN _ _ _ _)) | (cases Nat.beq _ _ <;> first | exact id | (dsimp only [cond]; repeat' split) <;> first | exact id | exact hN _ _ _ _ | exact x_bg_mono (hN _ _ _ _))
theorem x_ldf_mono {N N' : xN} (hN : ∀ pc L st M, N pc L st M → N' pc L st M) {L : xL} {st : List xV} {M : xM} (pc i : Nat) : x_ldf N pc i L st M → x_ldf N' pc i L st M := by
  unfold x_ldf
  repeat' split
  all_goals first | exact hN _ _ _ _ | exact id | exact And.imp_right (hN _ _ _ _) | exact x_bif_mono (hN _ _ _ _) | exact x_nz_mono (hN _ _ _ _) | exact x_bg_mono (hN _ _ _ _) | exact And.imp_right (x_bg_mono (hN _ _ _ _)) | exact x_cmp_mono (hN _ _ _ _) (hN _ _ _ _) | exact x_sw_mono (fun _ => hN _ _ _ _) | exact x_bif_mono (And.imp_right (hN _ _ _ _)) | (cases Nat.beq _ _ <;> first | exact id | (dsimp only [cond]; repeat' split) <;> first | exact id | exact hN _ _ _ _ | exact x_bg_mono (hN _ _ _ _))
theorem x_lda_mono {N N' : xN} (hN : ∀ pc L st M, N pc L st M → N' pc L st M) {L : xL} {st : List xV} {M : xM} (pc i : Nat) : x_lda N pc i L st M → x_lda N' pc i L st M := by
  unfold x_lda
  repeat' split
  all_goals first | exact hN _ _ _ _ | exact id | exact And.imp_right (hN _ _ _ _) | exact x_bif_mono (hN _ _ _ _) | exact x_nz_mono (hN _ _ _ _) | exact x_bg_mono (hN _ _ _ _) | exact And.imp_right (x_bg_mono (hN _ _ _ _)) | exact x_cmp_mono (hN _ _ _ _) (hN _ _ _ _) | exact x_sw_mono (fun _ => hN _ _ _ _) | exact x_bif_mono (And.imp_right (hN _ _ _ _)) | (cases Nat.beq _ _ <;> first | exact id | (dsimp only [cond]; repeat' split) <;> first | exact id | exact hN _ _ _ _ | exact x_bg_mono (hN _ _ _ _))
theorem x_sti_mono {N N' : xN} (hN : ∀ pc L st M, N pc L st M → N' pc L st M) {L : xL} {st : List xV} {M : xM} (pc i : Nat) : x_sti N pc i L st M → x_sti N' pc i L st M := by
  unfold x_sti
  repeat' split
  all_goals first | exact hN _ _ _ _ | exact id | exact And.imp_right (hN _ _ _ _) | exact x_bif_mono (hN _ _ _ _) | exact x_nz_mono (hN _ _ _ _) | exact x_bg_mono (hN _ _ _ _) | exact And.imp_right (x_bg_mono (hN _ _ _ _)) | exact x_cmp_mono (hN _ _ _ _) (hN _ _ _ _) | exact x_sw_mono (fun _ => hN _ _ _ _) | exact x_bif_mono (And.imp_right (hN _ _ _ _)) | (cases Nat.beq _ _ <;> first | exact id | (dsimp only [cond]; repeat' split) <;> first | exact id | exact hN _ _ _ _ | exact x_bg_mono (hN _ _ _ _))
theorem x_stf_mono {N N' : xN} (hN : ∀ pc L st M, N pc L st M → N' pc L st M) {L : xL} {st : List xV} {M : xM} (pc i : Nat) : x_stf N pc i L st M → x_stf N' pc i L st M := by
  unfold x_stf
  repeat' split
  all_goals first | exact hN _ _ _ _ | exact id | exact And.imp_right (hN _ _ _ _) | exact x_bif_mono (hN _ _ _ _) | exact x_nz_mono (hN _ _ _ _) | exact x_bg_mono (hN _ _ _ _) | exact And.imp_right (x_bg_mono (hN _ _ _ _)) | exact x_cmp_mono (hN _ _ _ _) (hN _ _ _ _) | exact x_sw_mono (fun _ => hN _ _ _ _) | exact x_bif_mono (And.imp_right (hN _ _ _ _)) | (cases Nat.beq _ _ <;> first | exact id | (dsimp only [cond]; repeat' split) <;> first | exact id | exact hN _ _ _ _ | exact x_bg_mono (hN _ _ _ _))
theorem x_sta_mono {N N' : xN} (hN : ∀ pc L st M, N pc L st M → N' pc L st M) {L : xL} {st : List xV} {M : xM} (pc i : Nat) : x_sta N pc i L st M → x_sta N' pc i L st M := by
  unfold x_sta
  repeat' split
  all_goals first | exact hN _ _ _ _ | exact id | exact And.imp_right (hN _ _ _ _) | exact x_bif_mono (hN _ _ _ _) | exact x_nz_mono (hN _ _ _ _) | exact x_bg_mono (hN _ _ _ _) | exact And.imp_right (x_bg_mono (hN _ _ _ _)) | exact x_cmp_mono (hN _ _ _ _) (hN _ _ _ _) | exact x_sw_mono (fun _ => hN _ _ _ _) | exact x_bif_mono (And.imp_right (hN _ _ _ _)) | (cases Nat.beq _ _ <;> first | exact id | (dsimp only [cond]; repeat' split) <;> first | exact id | exact hN _ _ _ _ | exact x_bg_mono (hN _ _ _ _))
theorem x_inc_mono {N N' : xN} (hN : ∀ pc L st M, N pc L st M → N' pc L st M) {L : xL} {st : List xV} {M : xM} (pc i : Nat) (z : Int) : x_inc N pc i z L st M → x_inc N' pc i z L st M := by
  unfold x_inc
  repeat' split
  all_goals first | exact hN _ _ _ _ | exact id | exact And.imp_right (hN _ _ _ _) | exact x_bif_mono (hN _ _ _ _) | exact x_nz_mono (hN _ _ _ _) | exact x_bg_mono (hN _ _ _ _) | exact And.imp_right (x_bg_mono (hN _ _ _ _)) | exact x_cmp_mono (hN _ _ _ _) (hN _ _ _ _) | exact x_sw_mono (fun _ => hN _ _ _ _) | exact x_bif_mono (And.imp_right (hN _ _ _ _)) | (cases Nat.beq _ _ <;> first | exact id | (dsimp only [cond]; repeat' split) <;> first | exact id | exact hN _ _ _ _ | exact x_bg_mono (hN _ _ _ _))
theorem x_ii_mono {N N' : xN} (hN : ∀ pc L st M, N pc L st M → N' pc L st M) {L : xL} {st : List xV} {M : xM} (pc : Nat) (f : Int → Int → Int) : x_ii N pc f L st M → x_ii N' pc f L st M := by
  unfold x_ii
  repeat' split
  all_goals first | exact hN _ _ _ _ | exact id | exact And.imp_right (hN _ _ _ _) | exact x_bif_mono (hN _ _ _ _) | exact x_nz_mono (hN _ _ _ _) | exact x_bg_mono (hN _ _ _ _) | exact And.imp_right (x_bg_mono (hN _ _ _ _)) | exact x_cmp_mono (hN _ _ _ _) (hN _ _ _ _) | exact x_sw_mono (fun _ => hN _ _ _ _) | exact x_bif_mono (And.imp_right (hN _ _ _ _)) | (cases Nat.beq _ _ <;> first | exact id | (dsimp only [cond]; repeat' split) <;> first | exact id | exact hN _ _ _ _ | exact x_bg_mono (hN _ _ _ _))
theorem x_iz_mono {N N' : xN} (hN : ∀ pc L st M, N pc L st M → N' pc L st M) {L : xL} {st : List xV} {M : xM} (pc : Nat) (f : Int → Int → Int) : x_iz N pc f L st M → x_iz N' pc f L st M := by
  unfold x_iz
  repeat' split
  all_goals first | exact hN _ _ _ _ | exact id | exact And.imp_right (hN _ _ _ _) | exact x_bif_mono (hN _ _ _ _) | exact x_nz_mono (hN _ _ _ _) | exact x_bg_mono (hN _ _ _ _) | exact And.imp_right (x_bg_mono (hN _ _ _ _)) | exact x_cmp_mono (hN _ _ _ _) (hN _ _ _ _) | exact x_sw_mono (fun _ => hN _ _ _ _) | exact x_bif_mono (And.imp_right (hN _ _ _ _)) | (cases Nat.beq _ _ <;> first | exact id | (dsimp only [cond]; repeat' split) <;> first | exact id | exact hN _ _ _ _ | exact x_bg_mono (hN _ _ _ _))
theorem x_ff_mono {N N' : xN} (hN : ∀ pc L st M, N pc L st M → N' pc L st M) {L : xL} {st : List xV} {M : xM} (pc : Nat) (f : UInt32 → UInt32 → UInt32) : x_ff N pc f L st M → x_ff N' pc f L st M := by
  unfold x_ff
  repeat' split
  all_goals first | exact hN _ _ _ _ | exact id | exact And.imp_right (hN _ _ _ _) | exact x_bif_mono (hN _ _ _ _) | exact x_nz_mono (hN _ _ _ _) | exact x_bg_mono (hN _ _ _ _) | exact And.imp_right (x_bg_mono (hN _ _ _ _)) | exact x_cmp_mono (hN _ _ _ _) (hN _ _ _ _) | exact x_sw_mono (fun _ => hN _ _ _ _) | exact x_bif_mono (And.imp_right (hN _ _ _ _)) | (cases Nat.beq _ _ <;> first | exact id | (dsimp only [cond]; repeat' split) <;> first | exact id | exact hN _ _ _ _ | exact x_bg_mono (hN _ _ _ _))
theorem x_fl1_mono {N N' : xN} (hN : ∀ pc L st M, N pc L st M → N' pc L st M) {L : xL} {st : List xV} {M : xM} (pc : Nat) (f : UInt32 → xV) : x_fl1 N pc f L st M → x_fl1 N' pc f L st M := by
  unfold x_fl1
  repeat' split
  all_goals first | exact hN _ _ _ _ | exact id | exact And.imp_right (hN _ _ _ _) | exact x_bif_mono (hN _ _ _ _) | exact x_nz_mono (hN _ _ _ _) | exact x_bg_mono (hN _ _ _ _) | exact And.imp_right (x_bg_mono (hN _ _ _ _)) | exact x_cmp_mono (hN _ _ _ _) (hN _ _ _ _) | exact x_sw_mono (fun _ => hN _ _ _ _) | exact x_bif_mono (And.imp_right (hN _ _ _ _)) | (cases Nat.beq _ _ <;> first | exact id | (dsimp only [cond]; repeat' split) <;> first | exact id | exact hN _ _ _ _ | exact x_bg_mono (hN _ _ _ _))
theorem x_in1_mono {N N' : xN} (hN : ∀ pc L st M, N pc L st M → N' pc L st M) {L : xL} {st : List xV} {M : xM} (pc : Nat) (f : Int → xV) : x_in1 N pc f L st M → x_in1 N' pc f L st M := by
  unfold x_in1
  repeat' split
  all_goals first | exact hN _ _ _ _ | exact id | exact And.imp_right (hN _ _ _ _) | exact x_bif_mono (hN _ _ _ _) | exact x_nz_mono (hN _ _ _ _) | exact x_bg_mono (hN _ _ _ _) | exact And.imp_right (x_bg_mono (hN _ _ _ _)) | exact x_cmp_mono (hN _ _ _ _) (hN _ _ _ _) | exact x_sw_mono (fun _ => hN _ _ _ _) | exact x_bif_mono (And.imp_right (hN _ _ _ _)) | (cases Nat.beq _ _ <;> first | exact id | (dsimp only [cond]; repeat' split) <;> first | exact id | exact hN _ _ _ _ | exact x_bg_mono (hN _ _ _ _))
theorem x_fc_mono {N N' : xN} (hN : ∀ pc L st M, N pc L st M → N' pc L st M) {L : xL} {st : List xV} {M : xM} (pc : Nat) (op : CmpOp) : x_fc N pc op L st M → x_fc N' pc op L st M := by
  unfold x_fc
  repeat' split
  all_goals first | exact hN _ _ _ _ | exact id | exact And.imp_right (hN _ _ _ _) | exact x_bif_mono (hN _ _ _ _) | exact x_nz_mono (hN _ _ _ _) | exact x_bg_mono (hN _ _ _ _) | exact And.imp_right (x_bg_mono (hN _ _ _ _)) | exact x_cmp_mono (hN _ _ _ _) (hN _ _ _ _) | exact x_sw_mono (fun _ => hN _ _ _ _) | exact x_bif_mono (And.imp_right (hN _ _ _ _)) | (cases Nat.beq _ _ <;> first | exact id | (dsimp only [cond]; repeat' split) <;> first | exact id | exact hN _ _ _ _ | exact x_bg_mono (hN _ _ _ _))
theorem x_go1_mono {N N' : xN} (hN : ∀ pc L st M, N pc L st M → N' pc L st M) {L : xL} {st : List xV} {M : xM} (ex : List (Int × Nat)) : x_go1 N ex L st M → x_go1 N' ex L st M := by
  unfold x_go1
  repeat' split
  all_goals first | exact hN _ _ _ _ | exact id | exact And.imp_right (hN _ _ _ _) | exact x_bif_mono (hN _ _ _ _) | exact x_nz_mono (hN _ _ _ _) | exact x_bg_mono (hN _ _ _ _) | exact And.imp_right (x_bg_mono (hN _ _ _ _)) | exact x_cmp_mono (hN _ _ _ _) (hN _ _ _ _) | exact x_sw_mono (fun _ => hN _ _ _ _) | exact x_bif_mono (And.imp_right (hN _ _ _ _)) | (cases Nat.beq _ _ <;> first | exact id | (dsimp only [cond]; repeat' split) <;> first | exact id | exact hN _ _ _ _ | exact x_bg_mono (hN _ _ _ _))
theorem x_get_mono {N N' : xN} (hN : ∀ pc L st M, N pc L st M → N' pc L st M) {L : xL} {st : List xV} {M : xM} (pc : Nat) (ex : List (Int × Nat)) : x_get N pc ex L st M → x_get N' pc ex L st M := by
  unfold x_get
  repeat' split
  all_goals first | exact hN _ _ _ _ | exact id | exact And.imp_right (hN _ _ _ _) | exact x_bif_mono (hN _ _ _ _) | exact x_nz_mono (hN _ _ _ _) | exact x_bg_mono (hN _ _ _ _) | exact And.imp_right (x_bg_mono (hN _ _ _ _)) | exact x_cmp_mono (hN _ _ _ _) (hN _ _ _ _) | exact x_sw_mono (fun _ => hN _ _ _ _) | exact x_bif_mono (And.imp_right (hN _ _ _ _)) | (cases Nat.beq _ _ <;> first | exact id | (dsimp only [cond]; repeat' split) <;> first | exact id | exact hN _ _ _ _ | exact x_bg_mono (hN _ _ _ _))
theorem x_put_mono {N N' : xN} (hN : ∀ pc L st M, N pc L st M → N' pc L st M) {L : xL} {st : List xV} {M : xM} (pc : Nat) (ex : List (Int × Nat)) : x_put N pc ex L st M → x_put N' pc ex L st M := by
  unfold x_put
  repeat' split
  all_goals first | exact hN _ _ _ _ | exact id | exact And.imp_right (hN _ _ _ _) | exact x_bif_mono (hN _ _ _ _) | exact x_nz_mono (hN _ _ _ _) | exact x_bg_mono (hN _ _ _ _) | exact And.imp_right (x_bg_mono (hN _ _ _ _)) | exact x_cmp_mono (hN _ _ _ _) (hN _ _ _ _) | exact x_sw_mono (fun _ => hN _ _ _ _) | exact x_bif_mono (And.imp_right (hN _ _ _ _)) | (cases Nat.beq _ _ <;> first | exact id | (dsimp only [cond]; repeat' split) <;> first | exact id | exact hN _ _ _ _ | exact x_bg_mono (hN _ _ _ _))
theorem x_fld_mono {N N' : xN} (hN : ∀ pc L st M, N pc L st M → N' pc L st M) {L : xL} {st : List xV} {M : xM} (pc : Nat) : x_fld N pc L st M → x_fld N' pc L st M := by
  unfold x_fld
  repeat' split
  all_goals first | exact hN _ _ _ _ | exact id | exact And.imp_right (hN _ _ _ _) | exact x_bif_mono (hN _ _ _ _) | exact x_nz_mono (hN _ _ _ _) | exact x_bg_mono (hN _ _ _ _) | exact And.imp_right (x_bg_mono (hN _ _ _ _)) | exact x_cmp_mono (hN _ _ _ _) (hN _ _ _ _) | exact x_sw_mono (fun _ => hN _ _ _ _) | exact x_bif_mono (And.imp_right (hN _ _ _ _)) | (cases Nat.beq _ _ <;> first | exact id | (dsimp only [cond]; repeat' split) <;> first | exact id | exact hN _ _ _ _ | exact x_bg_mono (hN _ _ _ _))
theorem x_rld_mono {N N' : xN} (hN : ∀ pc L st M, N pc L st M → N' pc L st M) {L : xL} {st : List xV} {M : xM} (pc : Nat) : x_rld N pc L st M → x_rld N' pc L st M := by
  unfold x_rld
  repeat' split
  all_goals first | exact hN _ _ _ _ | exact id | exact And.imp_right (hN _ _ _ _) | exact x_bif_mono (hN _ _ _ _) | exact x_nz_mono (hN _ _ _ _) | exact x_bg_mono (hN _ _ _ _) | exact And.imp_right (x_bg_mono (hN _ _ _ _)) | exact x_cmp_mono (hN _ _ _ _) (hN _ _ _ _) | exact x_sw_mono (fun _ => hN _ _ _ _) | exact x_bif_mono (And.imp_right (hN _ _ _ _)) | (cases Nat.beq _ _ <;> first | exact id | (dsimp only [cond]; repeat' split) <;> first | exact id | exact hN _ _ _ _ | exact x_bg_mono (hN _ _ _ _))
theorem x_ist_mono {N N' : xN} (hN : ∀ pc L st M, N pc L st M → N' pc L st M) {L : xL} {st : List xV} {M : xM} (pc : Nat) : x_ist N pc L st M → x_ist N' pc L st M := by
  unfold x_ist
  repeat' split
  all_goals first | exact hN _ _ _ _ | exact id | exact And.imp_right (hN _ _ _ _) | exact x_bif_mono (hN _ _ _ _) | exact x_nz_mono (hN _ _ _ _) | exact x_bg_mono (hN _ _ _ _) | exact And.imp_right (x_bg_mono (hN _ _ _ _)) | exact x_cmp_mono (hN _ _ _ _) (hN _ _ _ _) | exact x_sw_mono (fun _ => hN _ _ _ _) | exact x_bif_mono (And.imp_right (hN _ _ _ _)) | (cases Nat.beq _ _ <;> first | exact id | (dsimp only [cond]; repeat' split) <;> first | exact id | exact hN _ _ _ _ | exact x_bg_mono (hN _ _ _ _))
theorem x_bst_mono {N N' : xN} (hN : ∀ pc L st M, N pc L st M → N' pc L st M) {L : xL} {st : List xV} {M : xM} (pc : Nat) : x_bst N pc L st M → x_bst N' pc L st M := by
  unfold x_bst
  repeat' split
  all_goals first | exact hN _ _ _ _ | exact id | exact And.imp_right (hN _ _ _ _) | exact x_bif_mono (hN _ _ _ _) | exact x_nz_mono (hN _ _ _ _) | exact x_bg_mono (hN _ _ _ _) | exact And.imp_right (x_bg_mono (hN _ _ _ _)) | exact x_cmp_mono (hN _ _ _ _) (hN _ _ _ _) | exact x_sw_mono (fun _ => hN _ _ _ _) | exact x_bif_mono (And.imp_right (hN _ _ _ _)) | (cases Nat.beq _ _ <;> first | exact id | (dsimp only [cond]; repeat' split) <;> first | exact id | exact hN _ _ _ _ | exact x_bg_mono (hN _ _ _ _))
theorem x_fst_mono {N N' : xN} (hN : ∀ pc L st M, N pc L st M → N' pc L st M) {L : xL} {st : List xV} {M : xM} (pc : Nat) : x_fst N pc L st M → x_fst N' pc L st M := by
  unfold x_fst
  repeat' split
  all_goals first | exact hN _ _ _ _ | exact id | exact And.imp_right (hN _ _ _ _) | exact x_bif_mono (hN _ _ _ _) | exact x_nz_mono (hN _ _ _ _) | exact x_bg_mono (hN _ _ _ _) | exact And.imp_right (x_bg_mono (hN _ _ _ _)) | exact x_cmp_mono (hN _ _ _ _) (hN _ _ _ _) | exact x_sw_mono (fun _ => hN _ _ _ _) | exact x_bif_mono (And.imp_right (hN _ _ _ _)) | (cases Nat.beq _ _ <;> first | exact id | (dsimp only [cond]; repeat' split) <;> first | exact id | exact hN _ _ _ _ | exact x_bg_mono (hN _ _ _ _))
theorem x_ldc_mono {N N' : xN} (hN : ∀ pc L st M, N pc L st M → N' pc L st M) {L : xL} {st : List xV} {M : xM} (pc : Nat) (ex : List (Int × Nat)) : x_ldc N pc ex L st M → x_ldc N' pc ex L st M := by
  unfold x_ldc
  repeat' split
  all_goals first | exact hN _ _ _ _ | exact id | exact And.imp_right (hN _ _ _ _) | exact x_bif_mono (hN _ _ _ _) | exact x_nz_mono (hN _ _ _ _) | exact x_bg_mono (hN _ _ _ _) | exact And.imp_right (x_bg_mono (hN _ _ _ _)) | exact x_cmp_mono (hN _ _ _ _) (hN _ _ _ _) | exact x_sw_mono (fun _ => hN _ _ _ _) | exact x_bif_mono (And.imp_right (hN _ _ _ _)) | (cases Nat.beq _ _ <;> first | exact id | (dsimp only [cond]; repeat' split) <;> first | exact id | exact hN _ _ _ _ | exact x_bg_mono (hN _ _ _ _))
theorem x_dup_mono {N N' : xN} (hN : ∀ pc L st M, N pc L st M → N' pc L st M) {L : xL} {st : List xV} {M : xM} (pc : Nat) : x_dup N pc L st M → x_dup N' pc L st M := by
  unfold x_dup
  repeat' split
  all_goals first | exact hN _ _ _ _ | exact id | exact And.imp_right (hN _ _ _ _) | exact x_bif_mono (hN _ _ _ _) | exact x_nz_mono (hN _ _ _ _) | exact x_bg_mono (hN _ _ _ _) | exact And.imp_right (x_bg_mono (hN _ _ _ _)) | exact x_cmp_mono (hN _ _ _ _) (hN _ _ _ _) | exact x_sw_mono (fun _ => hN _ _ _ _) | exact x_bif_mono (And.imp_right (hN _ _ _ _)) | (cases Nat.beq _ _ <;> first | exact id | (dsimp only [cond]; repeat' split) <;> first | exact id | exact hN _ _ _ _ | exact x_bg_mono (hN _ _ _ _))
theorem x_dup2_mono {N N' : xN} (hN : ∀ pc L st M, N pc L st M → N' pc L st M) {L : xL} {st : List xV} {M : xM} (pc : Nat) : x_dup2 N pc L st M → x_dup2 N' pc L st M := by
  unfold x_dup2
  repeat' split
  all_goals first | exact hN _ _ _ _ | exact id | exact And.imp_right (hN _ _ _ _) | exact x_bif_mono (hN _ _ _ _) | exact x_nz_mono (hN _ _ _ _) | exact x_bg_mono (hN _ _ _ _) | exact And.imp_right (x_bg_mono (hN _ _ _ _)) | exact x_cmp_mono (hN _ _ _ _) (hN _ _ _ _) | exact x_sw_mono (fun _ => hN _ _ _ _) | exact x_bif_mono (And.imp_right (hN _ _ _ _)) | (cases Nat.beq _ _ <;> first | exact id | (dsimp only [cond]; repeat' split) <;> first | exact id | exact hN _ _ _ _ | exact x_bg_mono (hN _ _ _ _))
theorem x_popv_mono {N N' : xN} (hN : ∀ pc L st M, N pc L st M → N' pc L st M) {L : xL} {st : List xV} {M : xM} (pc : Nat) : x_popv N pc L st M → x_popv N' pc L st M := by
  unfold x_popv
  repeat' split
  all_goals first | exact hN _ _ _ _ | exact id | exact And.imp_right (hN _ _ _ _) | exact x_bif_mono (hN _ _ _ _) | exact x_nz_mono (hN _ _ _ _) | exact x_bg_mono (hN _ _ _ _) | exact And.imp_right (x_bg_mono (hN _ _ _ _)) | exact x_cmp_mono (hN _ _ _ _) (hN _ _ _ _) | exact x_sw_mono (fun _ => hN _ _ _ _) | exact x_bif_mono (And.imp_right (hN _ _ _ _)) | (cases Nat.beq _ _ <;> first | exact id | (dsimp only [cond]; repeat' split) <;> first | exact id | exact hN _ _ _ _ | exact x_bg_mono (hN _ _ _ _))
theorem x_if1_mono {N N' : xN} (hN : ∀ pc L st M, N pc L st M → N' pc L st M) {L : xL} {st : List xV} {M : xM} (pc : Nat) (c : ClassFile.Cond) (ex : List (Int × Nat)) : x_if1 N pc c ex L st M → x_if1 N' pc c ex L st M := by
  unfold x_if1
  repeat' split
  all_goals first | exact hN _ _ _ _ | exact id | exact And.imp_right (hN _ _ _ _) | exact x_bif_mono (hN _ _ _ _) | exact x_nz_mono (hN _ _ _ _) | exact x_bg_mono (hN _ _ _ _) | exact And.imp_right (x_bg_mono (hN _ _ _ _)) | exact x_cmp_mono (hN _ _ _ _) (hN _ _ _ _) | exact x_sw_mono (fun _ => hN _ _ _ _) | exact x_bif_mono (And.imp_right (hN _ _ _ _)) | (cases Nat.beq _ _ <;> first | exact id | (dsimp only [cond]; repeat' split) <;> first | exact id | exact hN _ _ _ _ | exact x_bg_mono (hN _ _ _ _))
theorem x_if2_mono {N N' : xN} (hN : ∀ pc L st M, N pc L st M → N' pc L st M) {L : xL} {st : List xV} {M : xM} (pc : Nat) (c : ClassFile.Cond) (ex : List (Int × Nat)) : x_if2 N pc c ex L st M → x_if2 N' pc c ex L st M := by
  unfold x_if2
  repeat' split
  all_goals first | exact hN _ _ _ _ | exact id | exact And.imp_right (hN _ _ _ _) | exact x_bif_mono (hN _ _ _ _) | exact x_nz_mono (hN _ _ _ _) | exact x_bg_mono (hN _ _ _ _) | exact And.imp_right (x_bg_mono (hN _ _ _ _)) | exact x_cmp_mono (hN _ _ _ _) (hN _ _ _ _) | exact x_sw_mono (fun _ => hN _ _ _ _) | exact x_bif_mono (And.imp_right (hN _ _ _ _)) | (cases Nat.beq _ _ <;> first | exact id | (dsimp only [cond]; repeat' split) <;> first | exact id | exact hN _ _ _ _ | exact x_bg_mono (hN _ _ _ _))
theorem x_swi_mono {N N' : xN} (hN : ∀ pc L st M, N pc L st M → N' pc L st M) {L : xL} {st : List xV} {M : xM} (ex : List (Int × Nat)) : x_swi N ex L st M → x_swi N' ex L st M := by
  unfold x_swi
  repeat' split
  all_goals first | exact hN _ _ _ _ | exact id | exact And.imp_right (hN _ _ _ _) | exact x_bif_mono (hN _ _ _ _) | exact x_nz_mono (hN _ _ _ _) | exact x_bg_mono (hN _ _ _ _) | exact And.imp_right (x_bg_mono (hN _ _ _ _)) | exact x_cmp_mono (hN _ _ _ _) (hN _ _ _ _) | exact x_sw_mono (fun _ => hN _ _ _ _) | exact x_bif_mono (And.imp_right (hN _ _ _ _)) | (cases Nat.beq _ _ <;> first | exact id | (dsimp only [cond]; repeat' split) <;> first | exact id | exact hN _ _ _ _ | exact x_bg_mono (hN _ _ _ _))
theorem x_ald_mono {N N' : xN} (hN : ∀ pc L st M, N pc L st M → N' pc L st M) {L : xL} {st : List xV} {M : xM} (q : Bool) (pc kd : Nat) : x_ald q N pc kd L st M → x_ald q N' pc kd L st M := by
  unfold x_ald
  repeat' split
  all_goals first | exact hN _ _ _ _ | exact id | exact And.imp_right (hN _ _ _ _) | exact x_bif_mono (hN _ _ _ _) | exact x_nz_mono (hN _ _ _ _) | exact x_bg_mono (hN _ _ _ _) | exact And.imp_right (x_bg_mono (hN _ _ _ _)) | exact x_cmp_mono (hN _ _ _ _) (hN _ _ _ _) | exact x_sw_mono (fun _ => hN _ _ _ _) | exact x_bif_mono (And.imp_right (hN _ _ _ _)) | (cases Nat.beq _ _ <;> first | exact id | (dsimp only [cond]; repeat' split) <;> first | exact id | exact hN _ _ _ _ | exact x_bg_mono (hN _ _ _ _))
theorem x_len1_mono {N N' : xN} (hN : ∀ pc L st M, N pc L st M → N' pc L st M) {L : xL} {st : List xV} {M : xM} (q : Bool) (pc : Nat) : x_len1 q N pc L st M → x_len1 q N' pc L st M := by
  unfold x_len1
  repeat' split
  all_goals first | exact hN _ _ _ _ | exact id | exact And.imp_right (hN _ _ _ _) | exact x_bif_mono (hN _ _ _ _) | exact x_nz_mono (hN _ _ _ _) | exact x_bg_mono (hN _ _ _ _) | exact And.imp_right (x_bg_mono (hN _ _ _ _)) | exact x_cmp_mono (hN _ _ _ _) (hN _ _ _ _) | exact x_sw_mono (fun _ => hN _ _ _ _) | exact x_bif_mono (And.imp_right (hN _ _ _ _)) | (cases Nat.beq _ _ <;> first | exact id | (dsimp only [cond]; repeat' split) <;> first | exact id | exact hN _ _ _ _ | exact x_bg_mono (hN _ _ _ _))
theorem x_vir_mono {C C' : xH} (hC : x_mono C C') {N N' : xN} (hN : ∀ pc L st M, N pc L st M → N' pc L st M) {L : xL} {st : List xV} {M : xM} (pc : Nat) (ex : List (Int × Nat)) : x_vir C N pc ex L st M → x_vir C' N' pc ex L st M := by
  unfold x_vir
  repeat' split
  all_goals first | exact id | exact x_bif_mono (hC _ _ _ _ _ (fun _ _ => hN _ _ _ _))
theorem x_sta1_mono {C C' : xH} (hC : x_mono C C') {N N' : xN} (hN : ∀ pc L st M, N pc L st M → N' pc L st M) {L : xL} {st : List xV} {M : xM} (pc : Nat) (ex : List (Int × Nat)) : x_sta1 C N pc ex L st M → x_sta1 C' N' pc ex L st M := by
  unfold x_sta1
  repeat' split
  all_goals first | exact id | exact x_bif_mono (hC _ _ _ _ _ (fun _ _ => hN _ _ _ _)) | exact x_bif_mono (hN _ _ _ _) | exact x_bif_mono (And.imp_right (hN _ _ _ _))
theorem x_irt_mono {rb : Bool} {R R' : xR} (hR : ∀ v M, R v M → R' v M) {st : List xV} {M : xM} : x_irt rb R st M → x_irt rb R' st M := by
  unfold x_irt
  split
  · cases rb
    · exact hR _ _
    · exact x_bg_mono (hR _ _)
  · exact id
theorem x_frt_mono {R R' : xR} (hR : ∀ v M, R v M → R' v M) {st : List xV} {M : xM} : x_frt R st M → x_frt R' st M := by
  unfold x_frt
  split
  · exact hR _ _
  · exact id
theorem x_vrt_mono {R R' : xR} (hR : ∀ v M, R v M → R' v M) {st : List xV} {M : xM} : x_vrt R st M → x_vrt R' st M := by
  unfold x_vrt
  split
  · exact hR _ _
  · exact id
set_option maxHeartbeats 1000000 in
theorem x1e_mono {q : Bool} {C C' : xH} {rb : Bool} {R R' : xR} {N N' : xN} {i : Instr} {ex : List (Int × Nat)} {pc : Nat} {L : xL} {st : List xV} {M : xM} (hC : x_mono C C') (hR : ∀ v M, R v M → R' v M) (hN : ∀ pc L st M, N pc L st M → N' pc L st M) : x1e q C rb R N i ex pc L st M → x1e q C' rb R' N' i ex pc L st M := by
  cases i
  all_goals first | exact id | exact hN _ _ _ _ | exact x_ldi_mono hN _ _ | exact x_ldf_mono hN _ _ | exact x_lda_mono hN _ _ | exact x_sti_mono hN _ _ | exact x_stf_mono hN _ _ | exact x_sta_mono hN _ _ | exact x_inc_mono hN _ _ _ | exact x_ii_mono hN _ _ | exact x_iz_mono hN _ _ | exact x_ff_mono hN _ _ | exact x_fl1_mono hN _ _ | exact x_in1_mono hN _ _ | exact x_fc_mono hN _ _ | exact x_go1_mono hN _ | exact x_get_mono hN _ _ | exact x_put_mono hN _ _ | exact x_fld_mono hN _ | exact x_rld_mono hN _ | exact x_ist_mono hN _ | exact x_bst_mono hN _ | exact x_fst_mono hN _ | exact x_ldc_mono hN _ _ | exact x_dup_mono hN _ | exact x_dup2_mono hN _ | exact x_popv_mono hN _ | exact x_if1_mono hN _ _ _ | exact x_if2_mono hN _ _ _ | exact x_swi_mono hN _ | exact x_ald_mono hN _ _ _ | exact x_len1_mono hN _ _ | exact x_vir_mono hC hN _ _ | exact x_sta1_mono hC hN _ _ | exact x_irt_mono hR | exact x_frt_mono hR | exact x_vrt_mono hR
theorem x1_mono {q : Bool} {C C' : xH} {cd : Nat → Option xE} {rb : Bool} {R R' : xR} {N N' : xN} {pc : Nat} {L : xL} {st : List xV} {M : xM} (hC : x_mono C C') (hR : ∀ v M, R v M → R' v M) (hN : ∀ pc L st M, N pc L st M → N' pc L st M) : x1 q C cd rb R N pc L st M → x1 q C' cd rb R' N' pc L st M := by
  unfold x1
  split
  · exact id
  · exact x1e_mono hC hR hN
theorem XW.mono {q : Bool} {C C' : xH} {cd : Nat → Option xE} {rb : Bool} {R R' : xR} (hC : x_mono C C') (hR : ∀ v M, R v M → R' v M) {pc : Nat} {L : xL} {st : List xV} {M : xM} (h : XW q C cd rb R pc L st M) : XW q C' cd rb R' pc L st M :=
  fun P hP => h P (fun pc L st M g => hP pc L st M (x1_mono hC hR (fun _ _ _ _ => id) g))
theorem XW.intro {q : Bool} {C : xH} {cd : Nat → Option xE} {rb : Bool} {R : xR} (hC : x_mono C C) {pc : Nat} {L : xL} {st : List xV} {M : xM} (h : x1 q C cd rb R (XW q C cd rb R) pc L st M) : XW q C cd rb R pc L st M :=
  fun P hP => hP pc L st M (x1_mono hC (fun _ _ => id) (fun pc L st M g => g P hP) h)
theorem XW.out {q : Bool} {C : xH} {cd : Nat → Option xE} {rb : Bool} {R : xR} (hC : x_mono C C) {pc : Nat} {L : xL} {st : List xV} {M : xM} (h : XW q C cd rb R pc L st M) : x1 q C cd rb R (XW q C cd rb R) pc L st M :=
  h (x1 q C cd rb R (XW q C cd rb R)) (fun _ _ _ _ g => x1_mono hC (fun _ _ => id) (fun _ _ _ _ g => XW.intro hC g) g)
theorem x_mz_mz : ∀ (bs : List Bool) (L : xL), x_mz bs (x_mz bs L) = x_mz bs L
  | [], _ => rfl
  | true :: _, [] => rfl
  | false :: _, [] => rfl
  | true :: bs, a :: L => congrArg (a :: ·) (x_mz_mz bs L)
  | false :: bs, _ :: L => congrArg (none :: ·) (x_mz_mz bs L)
theorem XW.msk {q : Bool} {C : xH} {cd : Nat → Option xE} {rb : Bool} {R : xR} (hC : x_mono C C) {pc : Nat} {L : xL} {st : List xV} {M : xM} {i : Instr} {ex : List (Int × Nat)} {bs : List Bool} (hc : cd pc = some (i, ex, some bs)) (h : XW q C cd rb R pc (x_mz bs L) st M) : XW q C cd rb R pc L st M := by
  refine XW.intro hC ?_
  have g := XW.out hC h
  unfold x1 at g ⊢
  rw [hc] at g ⊢
  dsimp only [x_msk] at g ⊢
  rw [x_mz_mz] at g
  exact g
theorem XW.go {q : Bool} {C : xH} {cd : Nat → Option xE} {rb : Bool} {R : xR} (hC : x_mono C C) : ∀ (n : Nat) (f : Bool) {pc : Nat} {L : xL} {st : List xV} {M : xM}, x_go q C cd rb R n f pc L st M → XW q C cd rb R pc L st M
  | 0, _, _, _, _, _, h => h
  | n + 1, f, pc, L, st, M, h => by
    unfold x_go at h
    split at h
    · exact h.elim
    · rename_i i ex mq hc
      split at h
      · exact XW.msk hC hc h
      · refine XW.intro hC ?_
        unfold x1
        rw [hc]
        exact x1e_mono hC (fun _ _ => id) (fun _ _ _ _ g => XW.go hC n false g) h
end
