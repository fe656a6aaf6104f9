-- ===== PART A: goes FIRST, ahead of the names: the tables' words, and 'selects' of the private methods out of them =====
/-- a private method of a class that the tables say can be made, by its rows of tables_1 -/
def lw_okq (q : MethodName × Nat) : Prop := (q.1.cls ≠ "java/lang/invoke/MethodHandle" ∧ q.1.cls ≠ "java/lang/invoke/VarHandle") ∧ Cond.instantiable q.1.cls q.2 ∈ tables_1 ∧ Cond.privateMethod q.1 ∈ tables_1 ∧ Cond.instanceMethod q.1 ∈ tables_1
theorem lw_p0 : lw_okq (⟨"CueBoard", "enact", "(IIIIII)I"⟩, 3) := ⟨⟨by decide +kernel, by decide +kernel⟩, List.mem_of_getElem? (i := 18) (by decide +kernel), List.mem_of_getElem? (i := 485) (by decide +kernel), List.mem_of_getElem? (i := 486) (by decide +kernel)⟩
theorem lw_p1 : lw_okq (⟨"CueBoard$Lines", "blank", "(I)V"⟩, 7) := ⟨⟨by decide +kernel, by decide +kernel⟩, List.mem_of_getElem? (i := 62) (by decide +kernel), List.mem_of_getElem? (i := 504) (by decide +kernel), List.mem_of_getElem? (i := 505) (by decide +kernel)⟩
theorem lw_p2 : lw_okq (⟨"CueBoard$Rig", "heatOf", "(I)I"⟩, 14) := ⟨⟨by decide +kernel, by decide +kernel⟩, List.mem_of_getElem? (i := 98) (by decide +kernel), List.mem_of_getElem? (i := 520) (by decide +kernel), List.mem_of_getElem? (i := 521) (by decide +kernel)⟩
theorem lw_p3 : lw_okq (⟨"CueBoard$Rig", "mark", "(I)V"⟩, 14) := ⟨⟨by decide +kernel, by decide +kernel⟩, List.mem_of_getElem? (i := 98) (by decide +kernel), List.mem_of_getElem? (i := 524) (by decide +kernel), List.mem_of_getElem? (i := 525) (by decide +kernel)⟩
theorem lw_p4 : lw_okq (⟨"CueBoard$Rig", "spanOfOne", "(I)I"⟩, 14) := ⟨⟨by decide +kernel, by decide +kernel⟩, List.mem_of_getElem? (i := 98) (by decide +kernel), List.mem_of_getElem? (i := 528) (by decide +kernel), List.mem_of_getElem? (i := 529) (by decide +kernel)⟩
theorem lw_p5 : lw_okq (⟨"CueBoard$Rig", "mostOf", "(I)I"⟩, 14) := ⟨⟨by decide +kernel, by decide +kernel⟩, List.mem_of_getElem? (i := 98) (by decide +kernel), List.mem_of_getElem? (i := 532) (by decide +kernel), List.mem_of_getElem? (i := 533) (by decide +kernel)⟩
theorem lw_p6 : lw_okq (⟨"CueBoard$Rig", "fits", "(II)Z"⟩, 14) := ⟨⟨by decide +kernel, by decide +kernel⟩, List.mem_of_getElem? (i := 98) (by decide +kernel), List.mem_of_getElem? (i := 556) (by decide +kernel), List.mem_of_getElem? (i := 557) (by decide +kernel)⟩
theorem lw_p7 : lw_okq (⟨"CueBoard$Patching", "drop", "(I)V"⟩, 7) := ⟨⟨by decide +kernel, by decide +kernel⟩, List.mem_of_getElem? (i := 153) (by decide +kernel), List.mem_of_getElem? (i := 571) (by decide +kernel), List.mem_of_getElem? (i := 572) (by decide +kernel)⟩
theorem lw_p8 : lw_okq (⟨"CueBoard$Board", "loadList", "(II)I"⟩, 11) := ⟨⟨by decide +kernel, by decide +kernel⟩, List.mem_of_getElem? (i := 46) (by decide +kernel), List.mem_of_getElem? (i := 634) (by decide +kernel), List.mem_of_getElem? (i := 635) (by decide +kernel)⟩
theorem lw_p9 : lw_okq (⟨"CueBoard$Board", "goOn", "(I)I"⟩, 11) := ⟨⟨by decide +kernel, by decide +kernel⟩, List.mem_of_getElem? (i := 46) (by decide +kernel), List.mem_of_getElem? (i := 643) (by decide +kernel), List.mem_of_getElem? (i := 644) (by decide +kernel)⟩
theorem lw_p10 : lw_okq (⟨"CueBoard$Board", "startNext", "(LCueBoard$Playback;)V"⟩, 11) := ⟨⟨by decide +kernel, by decide +kernel⟩, List.mem_of_getElem? (i := 46) (by decide +kernel), List.mem_of_getElem? (i := 651) (by decide +kernel), List.mem_of_getElem? (i := 652) (by decide +kernel)⟩
theorem lw_p11 : lw_okq (⟨"CueBoard$Board", "startEntry", "(LCueBoard$Playback;I)V"⟩, 11) := ⟨⟨by decide +kernel, by decide +kernel⟩, List.mem_of_getElem? (i := 46) (by decide +kernel), List.mem_of_getElem? (i := 664) (by decide +kernel), List.mem_of_getElem? (i := 665) (by decide +kernel)⟩
theorem lw_p12 : lw_okq (⟨"CueBoard$Rig", "gather", "(II)V"⟩, 14) := ⟨⟨by decide +kernel, by decide +kernel⟩, List.mem_of_getElem? (i := 98) (by decide +kernel), List.mem_of_getElem? (i := 672) (by decide +kernel), List.mem_of_getElem? (i := 673) (by decide +kernel)⟩
theorem lw_p13 : lw_okq (⟨"CueBoard$Board", "stopFades", "(I)I"⟩, 11) := ⟨⟨by decide +kernel, by decide +kernel⟩, List.mem_of_getElem? (i := 46) (by decide +kernel), List.mem_of_getElem? (i := 685) (by decide +kernel), List.mem_of_getElem? (i := 686) (by decide +kernel)⟩
theorem lw_p14 : lw_okq (⟨"CueBoard$Board", "letGo", "(I)I"⟩, 11) := ⟨⟨by decide +kernel, by decide +kernel⟩, List.mem_of_getElem? (i := 46) (by decide +kernel), List.mem_of_getElem? (i := 693) (by decide +kernel), List.mem_of_getElem? (i := 694) (by decide +kernel)⟩
theorem lw_p15 : lw_okq (⟨"CueBoard$Board", "setMaster", "(II)I"⟩, 11) := ⟨⟨by decide +kernel, by decide +kernel⟩, List.mem_of_getElem? (i := 46) (by decide +kernel), List.mem_of_getElem? (i := 699) (by decide +kernel), List.mem_of_getElem? (i := 700) (by decide +kernel)⟩
def lw_privs_1 : List (MethodName × Nat) := [(⟨"CueBoard", "enact", "(IIIIII)I"⟩, 3), (⟨"CueBoard$Lines", "blank", "(I)V"⟩, 7), (⟨"CueBoard$Rig", "heatOf", "(I)I"⟩, 14), (⟨"CueBoard$Rig", "mark", "(I)V"⟩, 14), (⟨"CueBoard$Rig", "spanOfOne", "(I)I"⟩, 14), (⟨"CueBoard$Rig", "mostOf", "(I)I"⟩, 14), (⟨"CueBoard$Rig", "fits", "(II)Z"⟩, 14), (⟨"CueBoard$Patching", "drop", "(I)V"⟩, 7), (⟨"CueBoard$Board", "loadList", "(II)I"⟩, 11), (⟨"CueBoard$Board", "goOn", "(I)I"⟩, 11), (⟨"CueBoard$Board", "startNext", "(LCueBoard$Playback;)V"⟩, 11), (⟨"CueBoard$Board", "startEntry", "(LCueBoard$Playback;I)V"⟩, 11), (⟨"CueBoard$Rig", "gather", "(II)V"⟩, 14), (⟨"CueBoard$Board", "stopFades", "(I)I"⟩, 11), (⟨"CueBoard$Board", "letGo", "(I)I"⟩, 11), (⟨"CueBoard$Board", "setMaster", "(II)I"⟩, 11)]
theorem lw_r1 : ∀ q ∈ lw_privs_1, lw_okq q := List.forall_mem_cons.mpr ⟨lw_p0, List.forall_mem_cons.mpr ⟨lw_p1, List.forall_mem_cons.mpr ⟨lw_p2, List.forall_mem_cons.mpr ⟨lw_p3, List.forall_mem_cons.mpr ⟨lw_p4, List.forall_mem_cons.mpr ⟨lw_p5, List.forall_mem_cons.mpr ⟨lw_p6, List.forall_mem_cons.mpr ⟨lw_p7, List.forall_mem_cons.mpr ⟨lw_p8, List.forall_mem_cons.mpr ⟨lw_p9, List.forall_mem_cons.mpr ⟨lw_p10, List.forall_mem_cons.mpr ⟨lw_p11, List.forall_mem_cons.mpr ⟨lw_p12, List.forall_mem_cons.mpr ⟨lw_p13, List.forall_mem_cons.mpr ⟨lw_p14, List.forall_mem_cons.mpr ⟨lw_p15, fun _ h => absurd h List.not_mem_nil⟩⟩⟩⟩⟩⟩⟩⟩⟩⟩⟩⟩⟩⟩⟩⟩
theorem lw_p16 : lw_okq (⟨"CueBoard$Board", "runTicks", "(I)I"⟩, 11) := ⟨⟨by decide +kernel, by decide +kernel⟩, List.mem_of_getElem? (i := 46) (by decide +kernel), List.mem_of_getElem? (i := 715) (by decide +kernel), List.mem_of_getElem? (i := 716) (by decide +kernel)⟩
theorem lw_p17 : lw_okq (⟨"CueBoard$Board", "isFollowedNow", "(LCueBoard$Playback;)Z"⟩, 11) := ⟨⟨by decide +kernel, by decide +kernel⟩, List.mem_of_getElem? (i := 46) (by decide +kernel), List.mem_of_getElem? (i := 726) (by decide +kernel), List.mem_of_getElem? (i := 727) (by decide +kernel)⟩
theorem lw_p18 : lw_okq (⟨"CueBoard$Mixer", "merged", "(IZ)I"⟩, 13) := ⟨⟨by decide +kernel, by decide +kernel⟩, List.mem_of_getElem? (i := 260) (by decide +kernel), List.mem_of_getElem? (i := 746) (by decide +kernel), List.mem_of_getElem? (i := 747) (by decide +kernel)⟩
theorem lw_p19 : lw_okq (⟨"CueBoard$Curves", "seek", "(II)V"⟩, 7) := ⟨⟨by decide +kernel, by decide +kernel⟩, List.mem_of_getElem? (i := 190) (by decide +kernel), List.mem_of_getElem? (i := 757) (by decide +kernel), List.mem_of_getElem? (i := 758) (by decide +kernel)⟩
theorem lw_p20 : lw_okq (⟨"CueBoard$Curves", "isHole", "()Z"⟩, 7) := ⟨⟨by decide +kernel, by decide +kernel⟩, List.mem_of_getElem? (i := 190) (by decide +kernel), List.mem_of_getElem? (i := 761) (by decide +kernel), List.mem_of_getElem? (i := 762) (by decide +kernel)⟩
theorem lw_p21 : lw_okq (⟨"CueBoard$Curves", "height", "(I)F"⟩, 7) := ⟨⟨by decide +kernel, by decide +kernel⟩, List.mem_of_getElem? (i := 190) (by decide +kernel), List.mem_of_getElem? (i := 765) (by decide +kernel), List.mem_of_getElem? (i := 766) (by decide +kernel)⟩
theorem lw_p22 : lw_okq (⟨"CueBoard$Mixer", "isWhole", "(II)Z"⟩, 13) := ⟨⟨by decide +kernel, by decide +kernel⟩, List.mem_of_getElem? (i := 260) (by decide +kernel), List.mem_of_getElem? (i := 771) (by decide +kernel), List.mem_of_getElem? (i := 772) (by decide +kernel)⟩
theorem lw_p23 : lw_okq (⟨"CueBoard$Mixer", "heatOn", "(I)I"⟩, 13) := ⟨⟨by decide +kernel, by decide +kernel⟩, List.mem_of_getElem? (i := 260) (by decide +kernel), List.mem_of_getElem? (i := 783) (by decide +kernel), List.mem_of_getElem? (i := 784) (by decide +kernel)⟩
theorem lw_p24 : lw_okq (⟨"CueBoard$Mixer", "cut", "(II)I"⟩, 13) := ⟨⟨by decide +kernel, by decide +kernel⟩, List.mem_of_getElem? (i := 260) (by decide +kernel), List.mem_of_getElem? (i := 787) (by decide +kernel), List.mem_of_getElem? (i := 788) (by decide +kernel)⟩
theorem lw_p25 : lw_okq (⟨"CueBoard$Mixer", "cutChannel", "(IIII)I"⟩, 13) := ⟨⟨by decide +kernel, by decide +kernel⟩, List.mem_of_getElem? (i := 260) (by decide +kernel), List.mem_of_getElem? (i := 791) (by decide +kernel), List.mem_of_getElem? (i := 792) (by decide +kernel)⟩
theorem lw_p26 : lw_okq (⟨"CueBoard$Mixer", "writeChannel", "(II)V"⟩, 13) := ⟨⟨by decide +kernel, by decide +kernel⟩, List.mem_of_getElem? (i := 260) (by decide +kernel), List.mem_of_getElem? (i := 803) (by decide +kernel), List.mem_of_getElem? (i := 804) (by decide +kernel)⟩
theorem lw_p27 : lw_okq (⟨"CueBoard$Rig", "answerOf", "(II)I"⟩, 14) := ⟨⟨by decide +kernel, by decide +kernel⟩, List.mem_of_getElem? (i := 98) (by decide +kernel), List.mem_of_getElem? (i := 878) (by decide +kernel), List.mem_of_getElem? (i := 879) (by decide +kernel)⟩
theorem lw_p28 : lw_okq (⟨"CueBoard$Rig", "spanOf", "(II)I"⟩, 14) := ⟨⟨by decide +kernel, by decide +kernel⟩, List.mem_of_getElem? (i := 98) (by decide +kernel), List.mem_of_getElem? (i := 882) (by decide +kernel), List.mem_of_getElem? (i := 883) (by decide +kernel)⟩
theorem lw_p29 : lw_okq (⟨"CueBoard$Rig", "reachOf", "(I)I"⟩, 14) := ⟨⟨by decide +kernel, by decide +kernel⟩, List.mem_of_getElem? (i := 98) (by decide +kernel), List.mem_of_getElem? (i := 886) (by decide +kernel), List.mem_of_getElem? (i := 887) (by decide +kernel)⟩
theorem lw_p30 : lw_okq (⟨"CueBoard$Curves", "fadesBelowZero", "()Z"⟩, 7) := ⟨⟨by decide +kernel, by decide +kernel⟩, List.mem_of_getElem? (i := 190) (by decide +kernel), List.mem_of_getElem? (i := 938) (by decide +kernel), List.mem_of_getElem? (i := 939) (by decide +kernel)⟩
theorem lw_p31 : lw_okq (⟨"CueBoard", "playOn", "(LCueBoard$Board;)V"⟩, 3) := ⟨⟨by decide +kernel, by decide +kernel⟩, List.mem_of_getElem? (i := 18) (by decide +kernel), List.mem_of_getElem? (i := 1043) (by decide +kernel), List.mem_of_getElem? (i := 1044) (by decide +kernel)⟩
def lw_privs_2 : List (MethodName × Nat) := [(⟨"CueBoard$Board", "runTicks", "(I)I"⟩, 11), (⟨"CueBoard$Board", "isFollowedNow", "(LCueBoard$Playback;)Z"⟩, 11), (⟨"CueBoard$Mixer", "merged", "(IZ)I"⟩, 13), (⟨"CueBoard$Curves", "seek", "(II)V"⟩, 7), (⟨"CueBoard$Curves", "isHole", "()Z"⟩, 7), (⟨"CueBoard$Curves", "height", "(I)F"⟩, 7), (⟨"CueBoard$Mixer", "isWhole", "(II)Z"⟩, 13), (⟨"CueBoard$Mixer", "heatOn", "(I)I"⟩, 13), (⟨"CueBoard$Mixer", "cut", "(II)I"⟩, 13), (⟨"CueBoard$Mixer", "cutChannel", "(IIII)I"⟩, 13), (⟨"CueBoard$Mixer", "writeChannel", "(II)V"⟩, 13), (⟨"CueBoard$Rig", "answerOf", "(II)I"⟩, 14), (⟨"CueBoard$Rig", "spanOf", "(II)I"⟩, 14), (⟨"CueBoard$Rig", "reachOf", "(I)I"⟩, 14), (⟨"CueBoard$Curves", "fadesBelowZero", "()Z"⟩, 7), (⟨"CueBoard", "playOn", "(LCueBoard$Board;)V"⟩, 3)]
theorem lw_r2 : ∀ q ∈ lw_privs_2, lw_okq q := List.forall_mem_cons.mpr ⟨lw_p16, List.forall_mem_cons.mpr ⟨lw_p17, List.forall_mem_cons.mpr ⟨lw_p18, List.forall_mem_cons.mpr ⟨lw_p19, List.forall_mem_cons.mpr ⟨lw_p20, List.forall_mem_cons.mpr ⟨lw_p21, List.forall_mem_cons.mpr ⟨lw_p22, List.forall_mem_cons.mpr ⟨lw_p23, List.forall_mem_cons.mpr ⟨lw_p24, List.forall_mem_cons.mpr ⟨lw_p25, List.forall_mem_cons.mpr ⟨lw_p26, List.forall_mem_cons.mpr ⟨lw_p27, List.forall_mem_cons.mpr ⟨lw_p28, List.forall_mem_cons.mpr ⟨lw_p29, List.forall_mem_cons.mpr ⟨lw_p30, List.forall_mem_cons.mpr ⟨lw_p31, fun _ h => absurd h List.not_mem_nil⟩⟩⟩⟩⟩⟩⟩⟩⟩⟩⟩⟩⟩⟩⟩⟩
theorem lw_p32 : lw_okq (⟨"CueBoardModel", "begin", "()V"⟩, 13) := ⟨⟨by decide +kernel, by decide +kernel⟩, List.mem_of_getElem? (i := 1061) (by decide +kernel), List.mem_of_getElem? (i := 1067) (by decide +kernel), List.mem_of_getElem? (i := 1068) (by decide +kernel)⟩
theorem lw_p33 : lw_okq (⟨"CueBoardModel", "playBook", "()V"⟩, 13) := ⟨⟨by decide +kernel, by decide +kernel⟩, List.mem_of_getElem? (i := 1061) (by decide +kernel), List.mem_of_getElem? (i := 1116) (by decide +kernel), List.mem_of_getElem? (i := 1117) (by decide +kernel)⟩
theorem lw_p34 : lw_okq (⟨"CueBoardModel", "called", "(I)I"⟩, 13) := ⟨⟨by decide +kernel, by decide +kernel⟩, List.mem_of_getElem? (i := 1061) (by decide +kernel), List.mem_of_getElem? (i := 1120) (by decide +kernel), List.mem_of_getElem? (i := 1121) (by decide +kernel)⟩
theorem lw_p35 : lw_okq (⟨"CueBoardModel", "lined", "(II)I"⟩, 13) := ⟨⟨by decide +kernel, by decide +kernel⟩, List.mem_of_getElem? (i := 1061) (by decide +kernel), List.mem_of_getElem? (i := 1128) (by decide +kernel), List.mem_of_getElem? (i := 1129) (by decide +kernel)⟩
theorem lw_p36 : lw_okq (⟨"CueBoardModel", "finds", "(I)I"⟩, 13) := ⟨⟨by decide +kernel, by decide +kernel⟩, List.mem_of_getElem? (i := 1061) (by decide +kernel), List.mem_of_getElem? (i := 1138) (by decide +kernel), List.mem_of_getElem? (i := 1139) (by decide +kernel)⟩
theorem lw_p37 : lw_okq (⟨"CueBoardModel", "darken", "(I)V"⟩, 13) := ⟨⟨by decide +kernel, by decide +kernel⟩, List.mem_of_getElem? (i := 1061) (by decide +kernel), List.mem_of_getElem? (i := 1142) (by decide +kernel), List.mem_of_getElem? (i := 1143) (by decide +kernel)⟩
theorem lw_p38 : lw_okq (⟨"CueBoardModel", "noted", "(IIIIIII)I"⟩, 13) := ⟨⟨by decide +kernel, by decide +kernel⟩, List.mem_of_getElem? (i := 1061) (by decide +kernel), List.mem_of_getElem? (i := 1146) (by decide +kernel), List.mem_of_getElem? (i := 1147) (by decide +kernel)⟩
theorem lw_p39 : lw_okq (⟨"CueBoardModel", "turned", "(III)I"⟩, 13) := ⟨⟨by decide +kernel, by decide +kernel⟩, List.mem_of_getElem? (i := 1061) (by decide +kernel), List.mem_of_getElem? (i := 1154) (by decide +kernel), List.mem_of_getElem? (i := 1155) (by decide +kernel)⟩
theorem lw_p40 : lw_okq (⟨"CueBoardModel", "fixed", "(II)I"⟩, 13) := ⟨⟨by decide +kernel, by decide +kernel⟩, List.mem_of_getElem? (i := 1061) (by decide +kernel), List.mem_of_getElem? (i := 1166) (by decide +kernel), List.mem_of_getElem? (i := 1167) (by decide +kernel)⟩
theorem lw_p41 : lw_okq (⟨"CueBoardModel", "newFixture", "(II)I"⟩, 13) := ⟨⟨by decide +kernel, by decide +kernel⟩, List.mem_of_getElem? (i := 1061) (by decide +kernel), List.mem_of_getElem? (i := 1170) (by decide +kernel), List.mem_of_getElem? (i := 1171) (by decide +kernel)⟩
theorem lw_p42 : lw_okq (⟨"CueBoardModel", "grouped", "(II)I"⟩, 13) := ⟨⟨by decide +kernel, by decide +kernel⟩, List.mem_of_getElem? (i := 1061) (by decide +kernel), List.mem_of_getElem? (i := 1178) (by decide +kernel), List.mem_of_getElem? (i := 1179) (by decide +kernel)⟩
theorem lw_p43 : lw_okq (⟨"CueBoardModel", "placed", "(III)I"⟩, 13) := ⟨⟨by decide +kernel, by decide +kernel⟩, List.mem_of_getElem? (i := 1061) (by decide +kernel), List.mem_of_getElem? (i := 1186) (by decide +kernel), List.mem_of_getElem? (i := 1187) (by decide +kernel)⟩
theorem lw_p44 : lw_okq (⟨"CueBoardModel", "isFixture", "(I)Z"⟩, 13) := ⟨⟨by decide +kernel, by decide +kernel⟩, List.mem_of_getElem? (i := 1061) (by decide +kernel), List.mem_of_getElem? (i := 1190) (by decide +kernel), List.mem_of_getElem? (i := 1191) (by decide +kernel)⟩
theorem lw_p45 : lw_okq (⟨"CueBoardModel", "kindOf", "(I)I"⟩, 13) := ⟨⟨by decide +kernel, by decide +kernel⟩, List.mem_of_getElem? (i := 1061) (by decide +kernel), List.mem_of_getElem? (i := 1194) (by decide +kernel), List.mem_of_getElem? (i := 1195) (by decide +kernel)⟩
theorem lw_p46 : lw_okq (⟨"CueBoardModel", "isOf", "(II)Z"⟩, 13) := ⟨⟨by decide +kernel, by decide +kernel⟩, List.mem_of_getElem? (i := 1061) (by decide +kernel), List.mem_of_getElem? (i := 1198) (by decide +kernel), List.mem_of_getElem? (i := 1199) (by decide +kernel)⟩
theorem lw_p47 : lw_okq (⟨"CueBoardModel", "patched", "(III)I"⟩, 13) := ⟨⟨by decide +kernel, by decide +kernel⟩, List.mem_of_getElem? (i := 1061) (by decide +kernel), List.mem_of_getElem? (i := 1206) (by decide +kernel), List.mem_of_getElem? (i := 1207) (by decide +kernel)⟩
def lw_privs_3 : List (MethodName × Nat) := [(⟨"CueBoardModel", "begin", "()V"⟩, 13), (⟨"CueBoardModel", "playBook", "()V"⟩, 13), (⟨"CueBoardModel", "called", "(I)I"⟩, 13), (⟨"CueBoardModel", "lined", "(II)I"⟩, 13), (⟨"CueBoardModel", "finds", "(I)I"⟩, 13), (⟨"CueBoardModel", "darken", "(I)V"⟩, 13), (⟨"CueBoardModel", "noted", "(IIIIIII)I"⟩, 13), (⟨"CueBoardModel", "turned", "(III)I"⟩, 13), (⟨"CueBoardModel", "fixed", "(II)I"⟩, 13), (⟨"CueBoardModel", "newFixture", "(II)I"⟩, 13), (⟨"CueBoardModel", "grouped", "(II)I"⟩, 13), (⟨"CueBoardModel", "placed", "(III)I"⟩, 13), (⟨"CueBoardModel", "isFixture", "(I)Z"⟩, 13), (⟨"CueBoardModel", "kindOf", "(I)I"⟩, 13), (⟨"CueBoardModel", "isOf", "(II)Z"⟩, 13), (⟨"CueBoardModel", "patched", "(III)I"⟩, 13)]
theorem lw_r3 : ∀ q ∈ lw_privs_3, lw_okq q := List.forall_mem_cons.mpr ⟨lw_p32, List.forall_mem_cons.mpr ⟨lw_p33, List.forall_mem_cons.mpr ⟨lw_p34, List.forall_mem_cons.mpr ⟨lw_p35, List.forall_mem_cons.mpr ⟨lw_p36, List.forall_mem_cons.mpr ⟨lw_p37, List.forall_mem_cons.mpr ⟨lw_p38, List.forall_mem_cons.mpr ⟨lw_p39, List.forall_mem_cons.mpr ⟨lw_p40, List.forall_mem_cons.mpr ⟨lw_p41, List.forall_mem_cons.mpr ⟨lw_p42, List.forall_mem_cons.mpr ⟨lw_p43, List.forall_mem_cons.mpr ⟨lw_p44, List.forall_mem_cons.mpr ⟨lw_p45, List.forall_mem_cons.mpr ⟨lw_p46, List.forall_mem_cons.mpr ⟨lw_p47, fun _ h => absurd h List.not_mem_nil⟩⟩⟩⟩⟩⟩⟩⟩⟩⟩⟩⟩⟩⟩⟩⟩
theorem lw_p48 : lw_okq (⟨"CueBoardModel", "unpatched", "(I)I"⟩, 13) := ⟨⟨by decide +kernel, by decide +kernel⟩, List.mem_of_getElem? (i := 1061) (by decide +kernel), List.mem_of_getElem? (i := 1214) (by decide +kernel), List.mem_of_getElem? (i := 1215) (by decide +kernel)⟩
theorem lw_p49 : lw_okq (⟨"CueBoardModel", "pointed", "(III)I"⟩, 13) := ⟨⟨by decide +kernel, by decide +kernel⟩, List.mem_of_getElem? (i := 1061) (by decide +kernel), List.mem_of_getElem? (i := 1226) (by decide +kernel), List.mem_of_getElem? (i := 1227) (by decide +kernel)⟩
theorem lw_p50 : lw_okq (⟨"CueBoardModel", "bent", "(III)I"⟩, 13) := ⟨⟨by decide +kernel, by decide +kernel⟩, List.mem_of_getElem? (i := 1061) (by decide +kernel), List.mem_of_getElem? (i := 1236) (by decide +kernel), List.mem_of_getElem? (i := 1237) (by decide +kernel)⟩
theorem lw_p51 : lw_okq (⟨"CueBoardModel", "isChannel", "(II)Z"⟩, 13) := ⟨⟨by decide +kernel, by decide +kernel⟩, List.mem_of_getElem? (i := 1061) (by decide +kernel), List.mem_of_getElem? (i := 1240) (by decide +kernel), List.mem_of_getElem? (i := 1241) (by decide +kernel)⟩
theorem lw_p52 : lw_okq (⟨"CueBoardModel", "isWide", "(II)Z"⟩, 13) := ⟨⟨by decide +kernel, by decide +kernel⟩, List.mem_of_getElem? (i := 1061) (by decide +kernel), List.mem_of_getElem? (i := 1244) (by decide +kernel), List.mem_of_getElem? (i := 1245) (by decide +kernel)⟩
theorem lw_p53 : lw_okq (⟨"CueBoardModel", "entered", "(IIIII)I"⟩, 13) := ⟨⟨by decide +kernel, by decide +kernel⟩, List.mem_of_getElem? (i := 1061) (by decide +kernel), List.mem_of_getElem? (i := 1252) (by decide +kernel), List.mem_of_getElem? (i := 1253) (by decide +kernel)⟩
theorem lw_p54 : lw_okq (⟨"CueBoardModel", "listed", "(III)I"⟩, 13) := ⟨⟨by decide +kernel, by decide +kernel⟩, List.mem_of_getElem? (i := 1061) (by decide +kernel), List.mem_of_getElem? (i := 1261) (by decide +kernel), List.mem_of_getElem? (i := 1262) (by decide +kernel)⟩
theorem lw_p55 : lw_okq (⟨"CueBoardModel", "hasNext", "(I)Z"⟩, 13) := ⟨⟨by decide +kernel, by decide +kernel⟩, List.mem_of_getElem? (i := 1061) (by decide +kernel), List.mem_of_getElem? (i := 1276) (by decide +kernel), List.mem_of_getElem? (i := 1277) (by decide +kernel)⟩
theorem lw_p56 : lw_okq (⟨"CueBoardModel", "goes", "(I)I"⟩, 13) := ⟨⟨by decide +kernel, by decide +kernel⟩, List.mem_of_getElem? (i := 1061) (by decide +kernel), List.mem_of_getElem? (i := 1280) (by decide +kernel), List.mem_of_getElem? (i := 1281) (by decide +kernel)⟩
theorem lw_p57 : lw_okq (⟨"CueBoardModel", "gather", "(I)V"⟩, 13) := ⟨⟨by decide +kernel, by decide +kernel⟩, List.mem_of_getElem? (i := 1061) (by decide +kernel), List.mem_of_getElem? (i := 1284) (by decide +kernel), List.mem_of_getElem? (i := 1285) (by decide +kernel)⟩
theorem lw_p58 : lw_okq (⟨"CueBoardModel", "meet", "(I)V"⟩, 13) := ⟨⟨by decide +kernel, by decide +kernel⟩, List.mem_of_getElem? (i := 1061) (by decide +kernel), List.mem_of_getElem? (i := 1288) (by decide +kernel), List.mem_of_getElem? (i := 1289) (by decide +kernel)⟩
theorem lw_p59 : lw_okq (⟨"CueBoardModel", "open", "(I)V"⟩, 13) := ⟨⟨by decide +kernel, by decide +kernel⟩, List.mem_of_getElem? (i := 1061) (by decide +kernel), List.mem_of_getElem? (i := 1292) (by decide +kernel), List.mem_of_getElem? (i := 1293) (by decide +kernel)⟩
theorem lw_p60 : lw_okq (⟨"CueBoardModel", "next", "()I"⟩, 13) := ⟨⟨by decide +kernel, by decide +kernel⟩, List.mem_of_getElem? (i := 1061) (by decide +kernel), List.mem_of_getElem? (i := 1296) (by decide +kernel), List.mem_of_getElem? (i := 1297) (by decide +kernel)⟩
theorem lw_p61 : lw_okq (⟨"CueBoardModel", "fade", "(IIIII)V"⟩, 13) := ⟨⟨by decide +kernel, by decide +kernel⟩, List.mem_of_getElem? (i := 1061) (by decide +kernel), List.mem_of_getElem? (i := 1300) (by decide +kernel), List.mem_of_getElem? (i := 1301) (by decide +kernel)⟩
theorem lw_p62 : lw_okq (⟨"CueBoardModel", "fades", "(I)I"⟩, 13) := ⟨⟨by decide +kernel, by decide +kernel⟩, List.mem_of_getElem? (i := 1061) (by decide +kernel), List.mem_of_getElem? (i := 1308) (by decide +kernel), List.mem_of_getElem? (i := 1309) (by decide +kernel)⟩
theorem lw_p63 : lw_okq (⟨"CueBoardModel", "channels", "(I)I"⟩, 13) := ⟨⟨by decide +kernel, by decide +kernel⟩, List.mem_of_getElem? (i := 1061) (by decide +kernel), List.mem_of_getElem? (i := 1316) (by decide +kernel), List.mem_of_getElem? (i := 1317) (by decide +kernel)⟩
def lw_privs_4 : List (MethodName × Nat) := [(⟨"CueBoardModel", "unpatched", "(I)I"⟩, 13), (⟨"CueBoardModel", "pointed", "(III)I"⟩, 13), (⟨"CueBoardModel", "bent", "(III)I"⟩, 13), (⟨"CueBoardModel", "isChannel", "(II)Z"⟩, 13), (⟨"CueBoardModel", "isWide", "(II)Z"⟩, 13), (⟨"CueBoardModel", "entered", "(IIIII)I"⟩, 13), (⟨"CueBoardModel", "listed", "(III)I"⟩, 13), (⟨"CueBoardModel", "hasNext", "(I)Z"⟩, 13), (⟨"CueBoardModel", "goes", "(I)I"⟩, 13), (⟨"CueBoardModel", "gather", "(I)V"⟩, 13), (⟨"CueBoardModel", "meet", "(I)V"⟩, 13), (⟨"CueBoardModel", "open", "(I)V"⟩, 13), (⟨"CueBoardModel", "next", "()I"⟩, 13), (⟨"CueBoardModel", "fade", "(IIIII)V"⟩, 13), (⟨"CueBoardModel", "fades", "(I)I"⟩, 13), (⟨"CueBoardModel", "channels", "(I)I"⟩, 13)]
theorem lw_r4 : ∀ q ∈ lw_privs_4, lw_okq q := List.forall_mem_cons.mpr ⟨lw_p48, List.forall_mem_cons.mpr ⟨lw_p49, List.forall_mem_cons.mpr ⟨lw_p50, List.forall_mem_cons.mpr ⟨lw_p51, List.forall_mem_cons.mpr ⟨lw_p52, List.forall_mem_cons.mpr ⟨lw_p53, List.forall_mem_cons.mpr ⟨lw_p54, List.forall_mem_cons.mpr ⟨lw_p55, List.forall_mem_cons.mpr ⟨lw_p56, List.forall_mem_cons.mpr ⟨lw_p57, List.forall_mem_cons.mpr ⟨lw_p58, List.forall_mem_cons.mpr ⟨lw_p59, List.forall_mem_cons.mpr ⟨lw_p60, List.forall_mem_cons.mpr ⟨lw_p61, List.forall_mem_cons.mpr ⟨lw_p62, List.forall_mem_cons.mpr ⟨lw_p63, fun _ h => absurd h List.not_mem_nil⟩⟩⟩⟩⟩⟩⟩⟩⟩⟩⟩⟩⟩⟩⟩⟩
theorem lw_p64 : lw_okq (⟨"CueBoardModel", "merged", "(IIZ)I"⟩, 13) := ⟨⟨by decide +kernel, by decide +kernel⟩, List.mem_of_getElem? (i := 1061) (by decide +kernel), List.mem_of_getElem? (i := 1328) (by decide +kernel), List.mem_of_getElem? (i := 1329) (by decide +kernel)⟩
theorem lw_p65 : lw_okq (⟨"CueBoardModel", "tickOnce", "()V"⟩, 13) := ⟨⟨by decide +kernel, by decide +kernel⟩, List.mem_of_getElem? (i := 1061) (by decide +kernel), List.mem_of_getElem? (i := 1344) (by decide +kernel), List.mem_of_getElem? (i := 1345) (by decide +kernel)⟩
theorem lw_p66 : lw_okq (⟨"CueBoardModel", "play", "(I)V"⟩, 13) := ⟨⟨by decide +kernel, by decide +kernel⟩, List.mem_of_getElem? (i := 1061) (by decide +kernel), List.mem_of_getElem? (i := 1348) (by decide +kernel), List.mem_of_getElem? (i := 1349) (by decide +kernel)⟩
theorem lw_p67 : lw_okq (⟨"CueBoardModel", "work", "(II)V"⟩, 13) := ⟨⟨by decide +kernel, by decide +kernel⟩, List.mem_of_getElem? (i := 1061) (by decide +kernel), List.mem_of_getElem? (i := 1355) (by decide +kernel), List.mem_of_getElem? (i := 1356) (by decide +kernel)⟩
theorem lw_p68 : lw_okq (⟨"CueBoardModel", "isDimming", "(II)Z"⟩, 13) := ⟨⟨by decide +kernel, by decide +kernel⟩, List.mem_of_getElem? (i := 1061) (by decide +kernel), List.mem_of_getElem? (i := 1359) (by decide +kernel), List.mem_of_getElem? (i := 1360) (by decide +kernel)⟩
theorem lw_p69 : lw_okq (⟨"CueBoardModel", "mergedValue", "(II)I"⟩, 13) := ⟨⟨by decide +kernel, by decide +kernel⟩, List.mem_of_getElem? (i := 1061) (by decide +kernel), List.mem_of_getElem? (i := 1363) (by decide +kernel), List.mem_of_getElem? (i := 1364) (by decide +kernel)⟩
theorem lw_p70 : lw_okq (⟨"CueBoardModel", "bentValue", "(II)I"⟩, 13) := ⟨⟨by decide +kernel, by decide +kernel⟩, List.mem_of_getElem? (i := 1061) (by decide +kernel), List.mem_of_getElem? (i := 1367) (by decide +kernel), List.mem_of_getElem? (i := 1368) (by decide +kernel)⟩
theorem lw_p71 : lw_okq (⟨"CueBoardModel", "curveAt", "(II)I"⟩, 13) := ⟨⟨by decide +kernel, by decide +kernel⟩, List.mem_of_getElem? (i := 1061) (by decide +kernel), List.mem_of_getElem? (i := 1371) (by decide +kernel), List.mem_of_getElem? (i := 1372) (by decide +kernel)⟩
theorem lw_p72 : lw_okq (⟨"CueBoardModel", "mostOf", "(I)I"⟩, 13) := ⟨⟨by decide +kernel, by decide +kernel⟩, List.mem_of_getElem? (i := 1061) (by decide +kernel), List.mem_of_getElem? (i := 1393) (by decide +kernel), List.mem_of_getElem? (i := 1394) (by decide +kernel)⟩
theorem lw_p73 : lw_okq (⟨"CueBoardModel", "warm", "(I)V"⟩, 13) := ⟨⟨by decide +kernel, by decide +kernel⟩, List.mem_of_getElem? (i := 1061) (by decide +kernel), List.mem_of_getElem? (i := 1397) (by decide +kernel), List.mem_of_getElem? (i := 1398) (by decide +kernel)⟩
theorem lw_p74 : lw_okq (⟨"CueBoardModel", "isWarm", "(III)Z"⟩, 13) := ⟨⟨by decide +kernel, by decide +kernel⟩, List.mem_of_getElem? (i := 1061) (by decide +kernel), List.mem_of_getElem? (i := 1401) (by decide +kernel), List.mem_of_getElem? (i := 1402) (by decide +kernel)⟩
theorem lw_p75 : lw_okq (⟨"CueBoardModel", "isWhole", "(II)Z"⟩, 13) := ⟨⟨by decide +kernel, by decide +kernel⟩, List.mem_of_getElem? (i := 1061) (by decide +kernel), List.mem_of_getElem? (i := 1405) (by decide +kernel), List.mem_of_getElem? (i := 1406) (by decide +kernel)⟩
theorem lw_p76 : lw_okq (⟨"CueBoardModel", "placeOf", "(II)I"⟩, 13) := ⟨⟨by decide +kernel, by decide +kernel⟩, List.mem_of_getElem? (i := 1061) (by decide +kernel), List.mem_of_getElem? (i := 1409) (by decide +kernel), List.mem_of_getElem? (i := 1410) (by decide +kernel)⟩
theorem lw_p77 : lw_okq (⟨"CueBoardModel", "heatOf", "(I)I"⟩, 13) := ⟨⟨by decide +kernel, by decide +kernel⟩, List.mem_of_getElem? (i := 1061) (by decide +kernel), List.mem_of_getElem? (i := 1413) (by decide +kernel), List.mem_of_getElem? (i := 1414) (by decide +kernel)⟩
theorem lw_p78 : lw_okq (⟨"CueBoardModel", "patchedBefore", "(I)I"⟩, 13) := ⟨⟨by decide +kernel, by decide +kernel⟩, List.mem_of_getElem? (i := 1061) (by decide +kernel), List.mem_of_getElem? (i := 1417) (by decide +kernel), List.mem_of_getElem? (i := 1418) (by decide +kernel)⟩
theorem lw_p79 : lw_okq (⟨"CueBoardModel", "cut", "(III)I"⟩, 13) := ⟨⟨by decide +kernel, by decide +kernel⟩, List.mem_of_getElem? (i := 1061) (by decide +kernel), List.mem_of_getElem? (i := 1421) (by decide +kernel), List.mem_of_getElem? (i := 1422) (by decide +kernel)⟩
def lw_privs_5 : List (MethodName × Nat) := [(⟨"CueBoardModel", "merged", "(IIZ)I"⟩, 13), (⟨"CueBoardModel", "tickOnce", "()V"⟩, 13), (⟨"CueBoardModel", "play", "(I)V"⟩, 13), (⟨"CueBoardModel", "work", "(II)V"⟩, 13), (⟨"CueBoardModel", "isDimming", "(II)Z"⟩, 13), (⟨"CueBoardModel", "mergedValue", "(II)I"⟩, 13), (⟨"CueBoardModel", "bentValue", "(II)I"⟩, 13), (⟨"CueBoardModel", "curveAt", "(II)I"⟩, 13), (⟨"CueBoardModel", "mostOf", "(I)I"⟩, 13), (⟨"CueBoardModel", "warm", "(I)V"⟩, 13), (⟨"CueBoardModel", "isWarm", "(III)Z"⟩, 13), (⟨"CueBoardModel", "isWhole", "(II)Z"⟩, 13), (⟨"CueBoardModel", "placeOf", "(II)I"⟩, 13), (⟨"CueBoardModel", "heatOf", "(I)I"⟩, 13), (⟨"CueBoardModel", "patchedBefore", "(I)I"⟩, 13), (⟨"CueBoardModel", "cut", "(III)I"⟩, 13)]
theorem lw_r5 : ∀ q ∈ lw_privs_5, lw_okq q := List.forall_mem_cons.mpr ⟨lw_p64, List.forall_mem_cons.mpr ⟨lw_p65, List.forall_mem_cons.mpr ⟨lw_p66, List.forall_mem_cons.mpr ⟨lw_p67, List.forall_mem_cons.mpr ⟨lw_p68, List.forall_mem_cons.mpr ⟨lw_p69, List.forall_mem_cons.mpr ⟨lw_p70, List.forall_mem_cons.mpr ⟨lw_p71, List.forall_mem_cons.mpr ⟨lw_p72, List.forall_mem_cons.mpr ⟨lw_p73, List.forall_mem_cons.mpr ⟨lw_p74, List.forall_mem_cons.mpr ⟨lw_p75, List.forall_mem_cons.mpr ⟨lw_p76, List.forall_mem_cons.mpr ⟨lw_p77, List.forall_mem_cons.mpr ⟨lw_p78, List.forall_mem_cons.mpr ⟨lw_p79, fun _ h => absurd h List.not_mem_nil⟩⟩⟩⟩⟩⟩⟩⟩⟩⟩⟩⟩⟩⟩⟩⟩
theorem lw_p80 : lw_okq (⟨"CueBoardModel", "writeAll", "()V"⟩, 13) := ⟨⟨by decide +kernel, by decide +kernel⟩, List.mem_of_getElem? (i := 1061) (by decide +kernel), List.mem_of_getElem? (i := 1425) (by decide +kernel), List.mem_of_getElem? (i := 1426) (by decide +kernel)⟩
theorem lw_p81 : lw_okq (⟨"CueBoardModel", "write", "(II)V"⟩, 13) := ⟨⟨by decide +kernel, by decide +kernel⟩, List.mem_of_getElem? (i := 1061) (by decide +kernel), List.mem_of_getElem? (i := 1429) (by decide +kernel), List.mem_of_getElem? (i := 1430) (by decide +kernel)⟩
theorem lw_p82 : lw_okq (⟨"CueBoardModel", "asked", "(III)I"⟩, 13) := ⟨⟨by decide +kernel, by decide +kernel⟩, List.mem_of_getElem? (i := 1061) (by decide +kernel), List.mem_of_getElem? (i := 1444) (by decide +kernel), List.mem_of_getElem? (i := 1445) (by decide +kernel)⟩
theorem lw_p83 : lw_okq (⟨"CueBoardModel", "spanOfAll", "(I)I"⟩, 13) := ⟨⟨by decide +kernel, by decide +kernel⟩, List.mem_of_getElem? (i := 1061) (by decide +kernel), List.mem_of_getElem? (i := 1463) (by decide +kernel), List.mem_of_getElem? (i := 1464) (by decide +kernel)⟩
theorem lw_p84 : lw_okq (⟨"CueBoardModel", "span", "(I)I"⟩, 13) := ⟨⟨by decide +kernel, by decide +kernel⟩, List.mem_of_getElem? (i := 1061) (by decide +kernel), List.mem_of_getElem? (i := 1467) (by decide +kernel), List.mem_of_getElem? (i := 1468) (by decide +kernel)⟩
theorem lw_p85 : lw_okq (⟨"CueBoardModel", "by", "(II)I"⟩, 13) := ⟨⟨by decide +kernel, by decide +kernel⟩, List.mem_of_getElem? (i := 1061) (by decide +kernel), List.mem_of_getElem? (i := 1471) (by decide +kernel), List.mem_of_getElem? (i := 1472) (by decide +kernel)⟩
theorem lw_p86 : lw_okq (⟨"CueBoardModel", "heatByBodies", "(I)I"⟩, 13) := ⟨⟨by decide +kernel, by decide +kernel⟩, List.mem_of_getElem? (i := 1061) (by decide +kernel), List.mem_of_getElem? (i := 1475) (by decide +kernel), List.mem_of_getElem? (i := 1476) (by decide +kernel)⟩
theorem lw_p87 : lw_okq (⟨"CueBoardModel", "reach", "(I)I"⟩, 13) := ⟨⟨by decide +kernel, by decide +kernel⟩, List.mem_of_getElem? (i := 1061) (by decide +kernel), List.mem_of_getElem? (i := 1479) (by decide +kernel), List.mem_of_getElem? (i := 1480) (by decide +kernel)⟩
theorem lw_p88 : lw_okq (⟨"CueBoardModel", "mostByBodies", "(I)I"⟩, 13) := ⟨⟨by decide +kernel, by decide +kernel⟩, List.mem_of_getElem? (i := 1061) (by decide +kernel), List.mem_of_getElem? (i := 1483) (by decide +kernel), List.mem_of_getElem? (i := 1484) (by decide +kernel)⟩
def lw_privs_6 : List (MethodName × Nat) := [(⟨"CueBoardModel", "writeAll", "()V"⟩, 13), (⟨"CueBoardModel", "write", "(II)V"⟩, 13), (⟨"CueBoardModel", "asked", "(III)I"⟩, 13), (⟨"CueBoardModel", "spanOfAll", "(I)I"⟩, 13), (⟨"CueBoardModel", "span", "(I)I"⟩, 13), (⟨"CueBoardModel", "by", "(II)I"⟩, 13), (⟨"CueBoardModel", "heatByBodies", "(I)I"⟩, 13), (⟨"CueBoardModel", "reach", "(I)I"⟩, 13), (⟨"CueBoardModel", "mostByBodies", "(I)I"⟩, 13)]
theorem lw_r6 : ∀ q ∈ lw_privs_6, lw_okq q := List.forall_mem_cons.mpr ⟨lw_p80, List.forall_mem_cons.mpr ⟨lw_p81, List.forall_mem_cons.mpr ⟨lw_p82, List.forall_mem_cons.mpr ⟨lw_p83, List.forall_mem_cons.mpr ⟨lw_p84, List.forall_mem_cons.mpr ⟨lw_p85, List.forall_mem_cons.mpr ⟨lw_p86, List.forall_mem_cons.mpr ⟨lw_p87, List.forall_mem_cons.mpr ⟨lw_p88, fun _ h => absurd h List.not_mem_nil⟩⟩⟩⟩⟩⟩⟩⟩⟩
def lw_privs : List (MethodName × Nat) := lw_privs_1 ++ (lw_privs_2 ++ (lw_privs_3 ++ (lw_privs_4 ++ (lw_privs_5 ++ (lw_privs_6)))))
def lw_tbl : List Cond := k2_sels lw_privs ++ tables_1
theorem lw_privs_ok : ∀ q ∈ lw_privs, lw_okq q := by
  show ∀ q ∈ lw_privs_1 ++ (lw_privs_2 ++ (lw_privs_3 ++ (lw_privs_4 ++ (lw_privs_5 ++ (lw_privs_6))))), lw_okq q
  exact List.forall_mem_append.mpr ⟨lw_r1, List.forall_mem_append.mpr ⟨lw_r2, List.forall_mem_append.mpr ⟨lw_r3, List.forall_mem_append.mpr ⟨lw_r4, List.forall_mem_append.mpr ⟨lw_r5, lw_r6⟩⟩⟩⟩⟩
/-- the streams that the claim lets the run draw from -/
abbrev lw_cs : List Choice := [Jvm.Choice.named "NaN.bits", Jvm.Choice.named "NaN.copy"]
theorem lw_bits : nanBits ∈ lw_cs := by first | decide | exact List.mem_cons_self | simp [lw_cs, nanBits]

def RX0 : String := "CueBoard$Board"
def TX0 : u_T := fun k => match k with
  | 0 => ("CueBoard$Board", "findings", "LCueBoard$Findings;", true)
  | 1 => ("CueBoard$Board", "lines", "LCueBoard$Lines;", true)
  | 2 => ("CueBoard$Board", "rig", "LCueBoard$Rig;", true)
  | 3 => ("CueBoard$Board", "patching", "LCueBoard$Patching;", true)
  | 4 => ("CueBoard$Board", "curves", "LCueBoard$Curves;", true)
  | 5 => ("CueBoard$Board", "cues", "LCueBoard$Cues;", true)
  | 6 => ("CueBoard$Board", "playbacks", "[LCueBoard$Playback;", true)
  | 7 => ("CueBoard$Board", "mixer", "LCueBoard$Mixer;", true)
  | 8 => ("CueBoard$Board", "ticks", "I", false)
  | 9 => ("CueBoard$Board", "sum", "I", false)
  | _ => ("CueBoard$Board", "fadesEver", "I", false)
def tyX0 : Nat → FieldType := fun k => match k with
  | 0 => .object "CueBoard$Findings"
  | 1 => .object "CueBoard$Lines"
  | 2 => .object "CueBoard$Rig"
  | 3 => .object "CueBoard$Patching"
  | 4 => .object "CueBoard$Curves"
  | 5 => .object "CueBoard$Cues"
  | 6 => .array (.object "CueBoard$Playback")
  | 7 => .object "CueBoard$Mixer"
  | 8 => .int
  | 9 => .int
  | _ => .int
abbrev wsX00 : List Cond := u_ws RX0 TX0 11
theorem nmX0 : ∀ a, a < 11 → ∀ b, b < 11 → a ≠ b → (TX0 a).2.1 ≠ (TX0 b).2.1 := by decide +kernel
theorem tyX0_ok : ∀ k, k < 11 → parseFieldDescriptor (TX0 k).2.2.1 = some (tyX0 k) := by decide +kernel
def RX1 : String := "CueBoard$Book"
def TX1 : u_T := fun k => match k with
  | 0 => ("CueBoard$Book", "acts", "[I", true)
  | 1 => ("CueBoard$Book", "numbers", "[I", true)
  | _ => ("CueBoard$Book", "calls", "I", false)
def tyX1 : Nat → FieldType := fun k => match k with
  | 0 => .array .int
  | 1 => .array .int
  | _ => .int
abbrev wsX10 : List Cond := u_ws RX1 TX1 3
theorem nmX1 : ∀ a, a < 3 → ∀ b, b < 3 → a ≠ b → (TX1 a).2.1 ≠ (TX1 b).2.1 := by decide +kernel
theorem tyX1_ok : ∀ k, k < 3 → parseFieldDescriptor (TX1 k).2.2.1 = some (tyX1 k) := by decide +kernel
def RX2 : String := "CueBoard$Cues"
def TX2 : u_T := fun k => match k with
  | 0 => ("CueBoard$Cues", "rig", "LCueBoard$Rig;", true)
  | 1 => ("CueBoard$Cues", "entryCounts", "[I", true)
  | 2 => ("CueBoard$Cues", "fixtures", "[I", true)
  | 3 => ("CueBoard$Cues", "channels", "[I", true)
  | 4 => ("CueBoard$Cues", "values", "[I", true)
  | 5 => ("CueBoard$Cues", "lengths", "[I", true)
  | 6 => ("CueBoard$Cues", "stepCounts", "[I", true)
  | 7 => ("CueBoard$Cues", "steps", "[I", true)
  | _ => ("CueBoard$Cues", "follows", "[I", true)
def tyX2 : Nat → FieldType := fun k => match k with
  | 0 => .object "CueBoard$Rig"
  | 1 => .array .int
  | 2 => .array .int
  | 3 => .array .int
  | 4 => .array .int
  | 5 => .array .int
  | 6 => .array .int
  | 7 => .array .int
  | _ => .array .int
abbrev wsX20 : List Cond := u_ws RX2 TX2 9
theorem nmX2 : ∀ a, a < 9 → ∀ b, b < 9 → a ≠ b → (TX2 a).2.1 ≠ (TX2 b).2.1 := by decide +kernel
theorem tyX2_ok : ∀ k, k < 9 → parseFieldDescriptor (TX2 k).2.2.1 = some (tyX2 k) := by decide +kernel
def RX3 : String := "CueBoard$Curves"
def TX3 : u_T := fun k => match k with
  | 0 => ("CueBoard$Curves", "counts", "[I", true)
  | 1 => ("CueBoard$Curves", "xs", "[I", true)
  | 2 => ("CueBoard$Curves", "bits", "[I", true)
  | 3 => ("CueBoard$Curves", "holes", "[Z", true)
  | 4 => ("CueBoard$Curves", "ys", "[F", true)
  | 5 => ("CueBoard$Curves", "left", "I", false)
  | _ => ("CueBoard$Curves", "right", "I", false)
def tyX3 : Nat → FieldType := fun k => match k with
  | 0 => .array .int
  | 1 => .array .int
  | 2 => .array .int
  | 3 => .array .boolean
  | 4 => .array .float
  | 5 => .int
  | _ => .int
abbrev wsX30 : List Cond := u_ws RX3 TX3 7
theorem nmX3 : ∀ a, a < 7 → ∀ b, b < 7 → a ≠ b → (TX3 a).2.1 ≠ (TX3 b).2.1 := by decide +kernel
theorem tyX3_ok : ∀ k, k < 7 → parseFieldDescriptor (TX3 k).2.2.1 = some (tyX3 k) := by decide +kernel
def RX4 : String := "CueBoard$Findings"
def TX4 : u_T := fun k => match k with
  | _ => ("CueBoard$Findings", "counts", "[I", true)
def tyX4 : Nat → FieldType := fun k => match k with
  | _ => .array .int
abbrev wsX40 : List Cond := u_ws RX4 TX4 1
theorem nmX4 : ∀ a, a < 1 → ∀ b, b < 1 → a ≠ b → (TX4 a).2.1 ≠ (TX4 b).2.1 := by decide +kernel
theorem tyX4_ok : ∀ k, k < 1 → parseFieldDescriptor (TX4 k).2.2.1 = some (tyX4 k) := by decide +kernel
def RX5 : String := "CueBoard$Lines"
def TX5 : u_T := fun k => match k with
  | 0 => ("CueBoard$Lines", "findings", "LCueBoard$Findings;", true)
  | 1 => ("CueBoard$Lines", "bytes", "[I", true)
  | 2 => ("CueBoard$Lines", "places", "[I", true)
  | 3 => ("CueBoard$Lines", "plugged", "[Z", true)
  | 4 => ("CueBoard$Lines", "limits", "[I", true)
  | 5 => ("CueBoard$Lines", "heats", "[I", true)
  | _ => ("CueBoard$Lines", "overs", "[Z", true)
def tyX5 : Nat → FieldType := fun k => match k with
  | 0 => .object "CueBoard$Findings"
  | 1 => .array .int
  | 2 => .array .int
  | 3 => .array .boolean
  | 4 => .array .int
  | 5 => .array .int
  | _ => .array .boolean
abbrev wsX50 : List Cond := u_ws RX5 TX5 7
theorem nmX5 : ∀ a, a < 7 → ∀ b, b < 7 → a ≠ b → (TX5 a).2.1 ≠ (TX5 b).2.1 := by decide +kernel
theorem tyX5_ok : ∀ k, k < 7 → parseFieldDescriptor (TX5 k).2.2.1 = some (tyX5 k) := by decide +kernel
def RX6 : String := "CueBoard$Mixer"
def TX6 : u_T := fun k => match k with
  | 0 => ("CueBoard$Mixer", "findings", "LCueBoard$Findings;", true)
  | 1 => ("CueBoard$Mixer", "lines", "LCueBoard$Lines;", true)
  | 2 => ("CueBoard$Mixer", "rig", "LCueBoard$Rig;", true)
  | 3 => ("CueBoard$Mixer", "patching", "LCueBoard$Patching;", true)
  | 4 => ("CueBoard$Mixer", "curves", "LCueBoard$Curves;", true)
  | 5 => ("CueBoard$Mixer", "playbacks", "[LCueBoard$Playback;", true)
  | 6 => ("CueBoard$Mixer", "curveOf", "[I", true)
  | 7 => ("CueBoard$Mixer", "bents", "[I", true)
  | 8 => ("CueBoard$Mixer", "byLatest", "[Z", true)
  | 9 => ("CueBoard$Mixer", "levels", "[I", true)
  | 10 => ("CueBoard$Mixer", "wholes", "[Z", true)
  | 11 => ("CueBoard$Mixer", "grand", "I", false)
  | _ => ("CueBoard$Mixer", "dark", "Z", false)
def tyX6 : Nat → FieldType := fun k => match k with
  | 0 => .object "CueBoard$Findings"
  | 1 => .object "CueBoard$Lines"
  | 2 => .object "CueBoard$Rig"
  | 3 => .object "CueBoard$Patching"
  | 4 => .object "CueBoard$Curves"
  | 5 => .array (.object "CueBoard$Playback")
  | 6 => .array .int
  | 7 => .array .int
  | 8 => .array .boolean
  | 9 => .array .int
  | 10 => .array .boolean
  | 11 => .int
  | _ => .boolean
abbrev wsX60 : List Cond := u_ws RX6 TX6 13
theorem nmX6 : ∀ a, a < 13 → ∀ b, b < 13 → a ≠ b → (TX6 a).2.1 ≠ (TX6 b).2.1 := by decide +kernel
theorem tyX6_ok : ∀ k, k < 13 → parseFieldDescriptor (TX6 k).2.2.1 = some (tyX6 k) := by decide +kernel
def RX7 : String := "CueBoard$Patching"
def TX7 : u_T := fun k => match k with
  | 0 => ("CueBoard$Patching", "findings", "LCueBoard$Findings;", true)
  | 1 => ("CueBoard$Patching", "rig", "LCueBoard$Rig;", true)
  | 2 => ("CueBoard$Patching", "lineOf", "[I", true)
  | 3 => ("CueBoard$Patching", "placeOf", "[I", true)
  | 4 => ("CueBoard$Patching", "firms", "[Z", true)
  | 5 => ("CueBoard$Patching", "order", "[I", true)
  | _ => ("CueBoard$Patching", "count", "I", false)
def tyX7 : Nat → FieldType := fun k => match k with
  | 0 => .object "CueBoard$Findings"
  | 1 => .object "CueBoard$Rig"
  | 2 => .array .int
  | 3 => .array .int
  | 4 => .array .boolean
  | 5 => .array .int
  | _ => .int
abbrev wsX70 : List Cond := u_ws RX7 TX7 7
theorem nmX7 : ∀ a, a < 7 → ∀ b, b < 7 → a ≠ b → (TX7 a).2.1 ≠ (TX7 b).2.1 := by decide +kernel
theorem tyX7_ok : ∀ k, k < 7 → parseFieldDescriptor (TX7 k).2.2.1 = some (tyX7 k) := by decide +kernel
def RX8 : String := "CueBoard$Playback"
def TX8 : u_T := fun k => match k with
  | 0 => ("CueBoard$Playback", "list", "I", false)
  | 1 => ("CueBoard$Playback", "place", "I", false)
  | 2 => ("CueBoard$Playback", "share", "I", false)
  | 3 => ("CueBoard$Playback", "entries", "I", false)
  | 4 => ("CueBoard$Playback", "leavings", "I", false)
  | 5 => ("CueBoard$Playback", "channelCount", "I", false)
  | 6 => ("CueBoard$Playback", "fadeCount", "I", false)
  | 7 => ("CueBoard$Playback", "since", "I", false)
  | 8 => ("CueBoard$Playback", "mayFollow", "Z", false)
  | 9 => ("CueBoard$Playback", "values", "[I", true)
  | 10 => ("CueBoard$Playback", "began", "[I", true)
  | 11 => ("CueBoard$Playback", "from", "[I", true)
  | 12 => ("CueBoard$Playback", "to", "[I", true)
  | 13 => ("CueBoard$Playback", "lengths", "[I", true)
  | _ => ("CueBoard$Playback", "gone", "[I", true)
def tyX8 : Nat → FieldType := fun k => match k with
  | 0 => .int
  | 1 => .int
  | 2 => .int
  | 3 => .int
  | 4 => .int
  | 5 => .int
  | 6 => .int
  | 7 => .int
  | 8 => .boolean
  | 9 => .array .int
  | 10 => .array .int
  | 11 => .array .int
  | 12 => .array .int
  | 13 => .array .int
  | _ => .array .int
abbrev wsX80 : List Cond := u_ws RX8 TX8 15
theorem nmX8 : ∀ a, a < 15 → ∀ b, b < 15 → a ≠ b → (TX8 a).2.1 ≠ (TX8 b).2.1 := by decide +kernel
theorem tyX8_ok : ∀ k, k < 15 → parseFieldDescriptor (TX8 k).2.2.1 = some (tyX8 k) := by decide +kernel
def RX9 : String := "CueBoard$Rig"
def TX9 : u_T := fun k => match k with
  | 0 => ("CueBoard$Rig", "findings", "LCueBoard$Findings;", true)
  | 1 => ("CueBoard$Rig", "count", "I", false)
  | 2 => ("CueBoard$Rig", "groups", "I", false)
  | 3 => ("CueBoard$Rig", "kinds", "[I", true)
  | 4 => ("CueBoard$Rig", "numbers", "[I", true)
  | 5 => ("CueBoard$Rig", "seatCounts", "[I", true)
  | 6 => ("CueBoard$Rig", "seats", "[I", true)
  | 7 => ("CueBoard$Rig", "heats", "[I", true)
  | 8 => ("CueBoard$Rig", "mosts", "[I", true)
  | 9 => ("CueBoard$Rig", "members", "[I", true)
  | 10 => ("CueBoard$Rig", "memberCount", "I", false)
  | 11 => ("CueBoard$Rig", "marks", "[I", true)
  | 12 => ("CueBoard$Rig", "markCount", "I", false)
  | _ => ("CueBoard$Rig", "isAsked", "Z", false)
def tyX9 : Nat → FieldType := fun k => match k with
  | 0 => .object "CueBoard$Findings"
  | 1 => .int
  | 2 => .int
  | 3 => .array .int
  | 4 => .array .int
  | 5 => .array .int
  | 6 => .array .int
  | 7 => .array .int
  | 8 => .array .int
  | 9 => .array .int
  | 10 => .int
  | 11 => .array .int
  | 12 => .int
  | _ => .boolean
abbrev wsX90 : List Cond := u_ws RX9 TX9 14
theorem nmX9 : ∀ a, a < 14 → ∀ b, b < 14 → a ≠ b → (TX9 a).2.1 ≠ (TX9 b).2.1 := by decide +kernel
theorem tyX9_ok : ∀ k, k < 14 → parseFieldDescriptor (TX9 k).2.2.1 = some (tyX9 k) := by decide +kernel
def RX10 : String := "CueBoard"
def TX10 : u_T := fun k => match k with
  | 0 => ("CueBoard", "book", "LCueBoard$Book;", true)
  | 1 => ("CueBoard", "live", "LCueBoard$Board;", true)
  | _ => ("CueBoard", "again", "LCueBoard$Board;", true)
def tyX10 : Nat → FieldType := fun k => match k with
  | 0 => .object "CueBoard$Book"
  | 1 => .object "CueBoard$Board"
  | _ => .object "CueBoard$Board"
abbrev wsX100 : List Cond := u_ws RX10 TX10 3
theorem nmX10 : ∀ a, a < 3 → ∀ b, b < 3 → a ≠ b → (TX10 a).2.1 ≠ (TX10 b).2.1 := by decide +kernel
theorem tyX10_ok : ∀ k, k < 3 → parseFieldDescriptor (TX10 k).2.2.1 = some (tyX10 k) := by decide +kernel
def RX11 : String := "CueBoardModel"
def TX11 : u_T := fun k => match k with
  | 0 => ("CueBoardModel", "s", "[I", true)
  | 1 => ("CueBoardModel", "aside", "[I", true)
  | 2 => ("CueBoardModel", "book", "[I", true)
  | 3 => ("CueBoardModel", "booked", "I", false)
  | 4 => ("CueBoardModel", "isPlaying", "Z", false)
  | 5 => ("CueBoardModel", "members", "[I", true)
  | 6 => ("CueBoardModel", "memberMany", "I", false)
  | 7 => ("CueBoardModel", "piled", "I", false)
  | 8 => ("CueBoardModel", "pile", "[I", true)
  | 9 => ("CueBoardModel", "pileAt", "[I", true)
  | 10 => ("CueBoardModel", "trace", "[I", true)
  | 11 => ("CueBoardModel", "traced", "I", false)
  | _ => ("CueBoardModel", "level", "[I", true)
def tyX11 : Nat → FieldType := fun k => match k with
  | 0 => .array .int
  | 1 => .array .int
  | 2 => .array .int
  | 3 => .int
  | 4 => .boolean
  | 5 => .array .int
  | 6 => .int
  | 7 => .int
  | 8 => .array .int
  | 9 => .array .int
  | 10 => .array .int
  | 11 => .int
  | _ => .array .int
abbrev wsX110 : List Cond := u_ws RX11 TX11 13
theorem nmX11 : ∀ a, a < 13 → ∀ b, b < 13 → a ≠ b → (TX11 a).2.1 ≠ (TX11 b).2.1 := by decide +kernel
theorem tyX11_ok : ∀ k, k < 13 → parseFieldDescriptor (TX11 k).2.2.1 = some (tyX11 k) := by decide +kernel
abbrev vwCl : List vw_C := [(RX0, TX0, 11), (RX1, TX1, 3), (RX2, TX2, 9), (RX3, TX3, 7), (RX4, TX4, 1), (RX5, TX5, 7), (RX6, TX6, 13), (RX7, TX7, 7), (RX8, TX8, 15), (RX9, TX9, 14), (RX10, TX10, 3), (RX11, TX11, 13)]
