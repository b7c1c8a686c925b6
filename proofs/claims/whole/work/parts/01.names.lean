-- ===== PART A: goes FIRST, ahead of the names: the tables' words, and 'selects' of the private methods out of them =====
/-- a private method of a class that the tables say can be made, by its rows of tables_1 -/
def lw_okq (q : MethodName × Nat) : Prop := (q.1.cls ≠ "java/lang/invoke/MethodHandle" ∧ q.1.cls ≠ "java/lang/invoke/VarHandle") ∧ Cond.instantiable q.1.cls q.2 ∈ tables_1 ∧ Cond.privateMethod q.1 ∈ tables_1 ∧ Cond.instanceMethod q.1 ∈ tables_1
theorem lw_p0 : lw_okq (⟨"PastSleep$Tokens", "readWord", "()V"⟩, 7) := ⟨⟨by decide +kernel, by decide +kernel⟩, List.mem_of_getElem? (i := 35) (by decide +kernel), List.mem_of_getElem? (i := 575) (by decide +kernel), List.mem_of_getElem? (i := 576) (by decide +kernel)⟩
theorem lw_p1 : lw_okq (⟨"PastSleep$Tokens", "readNumber", "()V"⟩, 7) := ⟨⟨by decide +kernel, by decide +kernel⟩, List.mem_of_getElem? (i := 35) (by decide +kernel), List.mem_of_getElem? (i := 636) (by decide +kernel), List.mem_of_getElem? (i := 637) (by decide +kernel)⟩
theorem lw_p2 : lw_okq (⟨"PastSleep$Reader", "readRow", "()V"⟩, 5) := ⟨⟨by decide +kernel, by decide +kernel⟩, List.mem_of_getElem? (i := 69) (by decide +kernel), List.mem_of_getElem? (i := 643) (by decide +kernel), List.mem_of_getElem? (i := 644) (by decide +kernel)⟩
theorem lw_p3 : lw_okq (⟨"PastSleep$Reader", "readWord", "(I)V"⟩, 5) := ⟨⟨by decide +kernel, by decide +kernel⟩, List.mem_of_getElem? (i := 69) (by decide +kernel), List.mem_of_getElem? (i := 647) (by decide +kernel), List.mem_of_getElem? (i := 648) (by decide +kernel)⟩
theorem lw_p4 : lw_okq (⟨"PastSleep$Reader", "stands", "(II)Z"⟩, 5) := ⟨⟨by decide +kernel, by decide +kernel⟩, List.mem_of_getElem? (i := 69) (by decide +kernel), List.mem_of_getElem? (i := 651) (by decide +kernel), List.mem_of_getElem? (i := 652) (by decide +kernel)⟩
theorem lw_p5 : lw_okq (⟨"PastSleep$Reader", "wrong", "(I)V"⟩, 5) := ⟨⟨by decide +kernel, by decide +kernel⟩, List.mem_of_getElem? (i := 69) (by decide +kernel), List.mem_of_getElem? (i := 656) (by decide +kernel), List.mem_of_getElem? (i := 657) (by decide +kernel)⟩
theorem lw_p6 : lw_okq (⟨"PastSleep$Reader", "readNumber", "(II)I"⟩, 5) := ⟨⟨by decide +kernel, by decide +kernel⟩, List.mem_of_getElem? (i := 69) (by decide +kernel), List.mem_of_getElem? (i := 660) (by decide +kernel), List.mem_of_getElem? (i := 661) (by decide +kernel)⟩
theorem lw_p7 : lw_okq (⟨"PastSleep$Reader", "readSign", "(C)V"⟩, 5) := ⟨⟨by decide +kernel, by decide +kernel⟩, List.mem_of_getElem? (i := 69) (by decide +kernel), List.mem_of_getElem? (i := 664) (by decide +kernel), List.mem_of_getElem? (i := 665) (by decide +kernel)⟩
theorem lw_p8 : lw_okq (⟨"PastSleep$Reader", "checkTimes", "(I)V"⟩, 5) := ⟨⟨by decide +kernel, by decide +kernel⟩, List.mem_of_getElem? (i := 69) (by decide +kernel), List.mem_of_getElem? (i := 668) (by decide +kernel), List.mem_of_getElem? (i := 669) (by decide +kernel)⟩
theorem lw_p9 : lw_okq (⟨"PastSleep$Reader", "readSitter", "()V"⟩, 5) := ⟨⟨by decide +kernel, by decide +kernel⟩, List.mem_of_getElem? (i := 69) (by decide +kernel), List.mem_of_getElem? (i := 672) (by decide +kernel), List.mem_of_getElem? (i := 673) (by decide +kernel)⟩
theorem lw_p10 : lw_okq (⟨"PastSleep$Reader", "readName", "()V"⟩, 5) := ⟨⟨by decide +kernel, by decide +kernel⟩, List.mem_of_getElem? (i := 69) (by decide +kernel), List.mem_of_getElem? (i := 679) (by decide +kernel), List.mem_of_getElem? (i := 680) (by decide +kernel)⟩
theorem lw_p11 : lw_okq (⟨"PastSleep$Reader", "readKind", "(LPastSleep$Sitter;)V"⟩, 5) := ⟨⟨by decide +kernel, by decide +kernel⟩, List.mem_of_getElem? (i := 69) (by decide +kernel), List.mem_of_getElem? (i := 686) (by decide +kernel), List.mem_of_getElem? (i := 687) (by decide +kernel)⟩
theorem lw_p12 : lw_okq (⟨"PastSleep$Reader", "readSeat", "(Z)I"⟩, 5) := ⟨⟨by decide +kernel, by decide +kernel⟩, List.mem_of_getElem? (i := 69) (by decide +kernel), List.mem_of_getElem? (i := 690) (by decide +kernel), List.mem_of_getElem? (i := 691) (by decide +kernel)⟩
theorem lw_p13 : lw_okq (⟨"PastSleep$Reader", "readCup", "()V"⟩, 5) := ⟨⟨by decide +kernel, by decide +kernel⟩, List.mem_of_getElem? (i := 69) (by decide +kernel), List.mem_of_getElem? (i := 694) (by decide +kernel), List.mem_of_getElem? (i := 695) (by decide +kernel)⟩
theorem lw_p14 : lw_okq (⟨"PastSleep$Reader", "readShut", "(I)V"⟩, 5) := ⟨⟨by decide +kernel, by decide +kernel⟩, List.mem_of_getElem? (i := 69) (by decide +kernel), List.mem_of_getElem? (i := 698) (by decide +kernel), List.mem_of_getElem? (i := 699) (by decide +kernel)⟩
theorem lw_p15 : lw_okq (⟨"PastSleep$Reader", "readPrices", "()V"⟩, 5) := ⟨⟨by decide +kernel, by decide +kernel⟩, List.mem_of_getElem? (i := 69) (by decide +kernel), List.mem_of_getElem? (i := 702) (by decide +kernel), List.mem_of_getElem? (i := 703) (by decide +kernel)⟩
def lw_privs_1 : List (MethodName × Nat) := [(⟨"PastSleep$Tokens", "readWord", "()V"⟩, 7), (⟨"PastSleep$Tokens", "readNumber", "()V"⟩, 7), (⟨"PastSleep$Reader", "readRow", "()V"⟩, 5), (⟨"PastSleep$Reader", "readWord", "(I)V"⟩, 5), (⟨"PastSleep$Reader", "stands", "(II)Z"⟩, 5), (⟨"PastSleep$Reader", "wrong", "(I)V"⟩, 5), (⟨"PastSleep$Reader", "readNumber", "(II)I"⟩, 5), (⟨"PastSleep$Reader", "readSign", "(C)V"⟩, 5), (⟨"PastSleep$Reader", "checkTimes", "(I)V"⟩, 5), (⟨"PastSleep$Reader", "readSitter", "()V"⟩, 5), (⟨"PastSleep$Reader", "readName", "()V"⟩, 5), (⟨"PastSleep$Reader", "readKind", "(LPastSleep$Sitter;)V"⟩, 5), (⟨"PastSleep$Reader", "readSeat", "(Z)I"⟩, 5), (⟨"PastSleep$Reader", "readCup", "()V"⟩, 5), (⟨"PastSleep$Reader", "readShut", "(I)V"⟩, 5), (⟨"PastSleep$Reader", "readPrices", "()V"⟩, 5)]
theorem lw_r1 : ∀ q ∈ lw_privs_1, lw_okq q := List.forall_mem_cons.mpr ⟨lw_p0, List.forall_mem_cons.mpr ⟨lw_p1, List.forall_mem_cons.mpr ⟨lw_p2, List.forall_mem_cons.mpr ⟨lw_p3, List.forall_mem_cons.mpr ⟨lw_p4, List.forall_mem_cons.mpr ⟨lw_p5, List.forall_mem_cons.mpr ⟨lw_p6, List.forall_mem_cons.mpr ⟨lw_p7, List.forall_mem_cons.mpr ⟨lw_p8, List.forall_mem_cons.mpr ⟨lw_p9, List.forall_mem_cons.mpr ⟨lw_p10, List.forall_mem_cons.mpr ⟨lw_p11, List.forall_mem_cons.mpr ⟨lw_p12, List.forall_mem_cons.mpr ⟨lw_p13, List.forall_mem_cons.mpr ⟨lw_p14, List.forall_mem_cons.mpr ⟨lw_p15, fun _ h => absurd h List.not_mem_nil⟩⟩⟩⟩⟩⟩⟩⟩⟩⟩⟩⟩⟩⟩⟩⟩
theorem lw_p16 : lw_okq (⟨"PastSleep$Reader", "readLaw", "(I)V"⟩, 5) := ⟨⟨by decide +kernel, by decide +kernel⟩, List.mem_of_getElem? (i := 69) (by decide +kernel), List.mem_of_getElem? (i := 706) (by decide +kernel), List.mem_of_getElem? (i := 707) (by decide +kernel)⟩
theorem lw_p17 : lw_okq (⟨"PastSleep$Reader", "readJoined", "(III)V"⟩, 5) := ⟨⟨by decide +kernel, by decide +kernel⟩, List.mem_of_getElem? (i := 69) (by decide +kernel), List.mem_of_getElem? (i := 714) (by decide +kernel), List.mem_of_getElem? (i := 715) (by decide +kernel)⟩
theorem lw_p18 : lw_okq (⟨"PastSleep$Reader", "readPart", "(II)V"⟩, 5) := ⟨⟨by decide +kernel, by decide +kernel⟩, List.mem_of_getElem? (i := 69) (by decide +kernel), List.mem_of_getElem? (i := 718) (by decide +kernel), List.mem_of_getElem? (i := 719) (by decide +kernel)⟩
theorem lw_p19 : lw_okq (⟨"PastSleep$Reader", "joinOf", "(I)I"⟩, 5) := ⟨⟨by decide +kernel, by decide +kernel⟩, List.mem_of_getElem? (i := 69) (by decide +kernel), List.mem_of_getElem? (i := 729) (by decide +kernel), List.mem_of_getElem? (i := 730) (by decide +kernel)⟩
theorem lw_p20 : lw_okq (⟨"PastSleep", "forgetPast", "()V"⟩, 17) := ⟨⟨by decide +kernel, by decide +kernel⟩, List.mem_of_getElem? (i := 27) (by decide +kernel), List.mem_of_getElem? (i := 754) (by decide +kernel), List.mem_of_getElem? (i := 755) (by decide +kernel)⟩
theorem lw_p21 : lw_okq (⟨"PastSleep", "known", "(I)Z"⟩, 17) := ⟨⟨by decide +kernel, by decide +kernel⟩, List.mem_of_getElem? (i := 27) (by decide +kernel), List.mem_of_getElem? (i := 763) (by decide +kernel), List.mem_of_getElem? (i := 764) (by decide +kernel)⟩
theorem lw_p22 : lw_okq (⟨"PastSleep", "rightWays", "(I)Z"⟩, 17) := ⟨⟨by decide +kernel, by decide +kernel⟩, List.mem_of_getElem? (i := 27) (by decide +kernel), List.mem_of_getElem? (i := 795) (by decide +kernel), List.mem_of_getElem? (i := 796) (by decide +kernel)⟩
theorem lw_p23 : lw_okq (⟨"PastSleep", "rightLuck", "(I)Z"⟩, 17) := ⟨⟨by decide +kernel, by decide +kernel⟩, List.mem_of_getElem? (i := 27) (by decide +kernel), List.mem_of_getElem? (i := 801) (by decide +kernel), List.mem_of_getElem? (i := 802) (by decide +kernel)⟩
theorem lw_p24 : lw_okq (⟨"PastSleep", "keepPast", "()V"⟩, 17) := ⟨⟨by decide +kernel, by decide +kernel⟩, List.mem_of_getElem? (i := 27) (by decide +kernel), List.mem_of_getElem? (i := 805) (by decide +kernel), List.mem_of_getElem? (i := 806) (by decide +kernel)⟩
theorem lw_p25 : lw_okq (⟨"PastSleep", "passOut", "(III)Z"⟩, 17) := ⟨⟨by decide +kernel, by decide +kernel⟩, List.mem_of_getElem? (i := 27) (by decide +kernel), List.mem_of_getElem? (i := 814) (by decide +kernel), List.mem_of_getElem? (i := 815) (by decide +kernel)⟩
theorem lw_p26 : lw_okq (⟨"PastSleep", "passSeat", "(III)Z"⟩, 17) := ⟨⟨by decide +kernel, by decide +kernel⟩, List.mem_of_getElem? (i := 27) (by decide +kernel), List.mem_of_getElem? (i := 818) (by decide +kernel), List.mem_of_getElem? (i := 819) (by decide +kernel)⟩
theorem lw_p27 : lw_okq (⟨"PastSleep$Laws", "factOf", "(I)I"⟩, 7) := ⟨⟨by decide +kernel, by decide +kernel⟩, List.mem_of_getElem? (i := 299) (by decide +kernel), List.mem_of_getElem? (i := 862) (by decide +kernel), List.mem_of_getElem? (i := 863) (by decide +kernel)⟩
theorem lw_p28 : lw_okq (⟨"PastSleep", "passIn", "(III)Z"⟩, 17) := ⟨⟨by decide +kernel, by decide +kernel⟩, List.mem_of_getElem? (i := 27) (by decide +kernel), List.mem_of_getElem? (i := 880) (by decide +kernel), List.mem_of_getElem? (i := 881) (by decide +kernel)⟩
theorem lw_p29 : lw_okq (⟨"PastSleep$Cabin", "setSleeper", "(LPastSleep$State;II)V"⟩, 11) := ⟨⟨by decide +kernel, by decide +kernel⟩, List.mem_of_getElem? (i := 291) (by decide +kernel), List.mem_of_getElem? (i := 923) (by decide +kernel), List.mem_of_getElem? (i := 924) (by decide +kernel)⟩
theorem lw_p30 : lw_okq (⟨"PastSleep", "movable", "(I)Z"⟩, 17) := ⟨⟨by decide +kernel, by decide +kernel⟩, List.mem_of_getElem? (i := 27) (by decide +kernel), List.mem_of_getElem? (i := 936) (by decide +kernel), List.mem_of_getElem? (i := 937) (by decide +kernel)⟩
theorem lw_p31 : lw_okq (⟨"PastSleep$Ahead", "addSleeper", "(III)V"⟩, 6) := ⟨⟨by decide +kernel, by decide +kernel⟩, List.mem_of_getElem? (i := 93) (by decide +kernel), List.mem_of_getElem? (i := 948) (by decide +kernel), List.mem_of_getElem? (i := 949) (by decide +kernel)⟩
def lw_privs_2 : List (MethodName × Nat) := [(⟨"PastSleep$Reader", "readLaw", "(I)V"⟩, 5), (⟨"PastSleep$Reader", "readJoined", "(III)V"⟩, 5), (⟨"PastSleep$Reader", "readPart", "(II)V"⟩, 5), (⟨"PastSleep$Reader", "joinOf", "(I)I"⟩, 5), (⟨"PastSleep", "forgetPast", "()V"⟩, 17), (⟨"PastSleep", "known", "(I)Z"⟩, 17), (⟨"PastSleep", "rightWays", "(I)Z"⟩, 17), (⟨"PastSleep", "rightLuck", "(I)Z"⟩, 17), (⟨"PastSleep", "keepPast", "()V"⟩, 17), (⟨"PastSleep", "passOut", "(III)Z"⟩, 17), (⟨"PastSleep", "passSeat", "(III)Z"⟩, 17), (⟨"PastSleep$Laws", "factOf", "(I)I"⟩, 7), (⟨"PastSleep", "passIn", "(III)Z"⟩, 17), (⟨"PastSleep$Cabin", "setSleeper", "(LPastSleep$State;II)V"⟩, 11), (⟨"PastSleep", "movable", "(I)Z"⟩, 17), (⟨"PastSleep$Ahead", "addSleeper", "(III)V"⟩, 6)]
theorem lw_r2 : ∀ q ∈ lw_privs_2, lw_okq q := List.forall_mem_cons.mpr ⟨lw_p16, List.forall_mem_cons.mpr ⟨lw_p17, List.forall_mem_cons.mpr ⟨lw_p18, List.forall_mem_cons.mpr ⟨lw_p19, List.forall_mem_cons.mpr ⟨lw_p20, List.forall_mem_cons.mpr ⟨lw_p21, List.forall_mem_cons.mpr ⟨lw_p22, List.forall_mem_cons.mpr ⟨lw_p23, List.forall_mem_cons.mpr ⟨lw_p24, List.forall_mem_cons.mpr ⟨lw_p25, List.forall_mem_cons.mpr ⟨lw_p26, List.forall_mem_cons.mpr ⟨lw_p27, List.forall_mem_cons.mpr ⟨lw_p28, List.forall_mem_cons.mpr ⟨lw_p29, List.forall_mem_cons.mpr ⟨lw_p30, List.forall_mem_cons.mpr ⟨lw_p31, fun _ h => absurd h List.not_mem_nil⟩⟩⟩⟩⟩⟩⟩⟩⟩⟩⟩⟩⟩⟩⟩⟩
theorem lw_p32 : lw_okq (⟨"PastSleep$Ahead", "waysPast", "(I)I"⟩, 6) := ⟨⟨by decide +kernel, by decide +kernel⟩, List.mem_of_getElem? (i := 93) (by decide +kernel), List.mem_of_getElem? (i := 979) (by decide +kernel), List.mem_of_getElem? (i := 980) (by decide +kernel)⟩
theorem lw_p33 : lw_okq (⟨"PastSleep$Plans", "plan", "(LPastSleep$Cabin;LPastSleep$State;II)V"⟩, 8) := ⟨⟨by decide +kernel, by decide +kernel⟩, List.mem_of_getElem? (i := 119) (by decide +kernel), List.mem_of_getElem? (i := 999) (by decide +kernel), List.mem_of_getElem? (i := 1000) (by decide +kernel)⟩
theorem lw_p34 : lw_okq (⟨"PastSleep$Plans", "lesser", "(III)I"⟩, 8) := ⟨⟨by decide +kernel, by decide +kernel⟩, List.mem_of_getElem? (i := 119) (by decide +kernel), List.mem_of_getElem? (i := 1008) (by decide +kernel), List.mem_of_getElem? (i := 1009) (by decide +kernel)⟩
theorem lw_p35 : lw_okq (⟨"PastSleep$Habits", "comeBack", "(LPastSleep$Cabin;I)V"⟩, 13) := ⟨⟨by decide +kernel, by decide +kernel⟩, List.mem_of_getElem? (i := 153) (by decide +kernel), List.mem_of_getElem? (i := 1050) (by decide +kernel), List.mem_of_getElem? (i := 1051) (by decide +kernel)⟩
theorem lw_p36 : lw_okq (⟨"PastSleep$Habits", "rouse", "(LPastSleep$Cabin;I)Z"⟩, 13) := ⟨⟨by decide +kernel, by decide +kernel⟩, List.mem_of_getElem? (i := 153) (by decide +kernel), List.mem_of_getElem? (i := 1054) (by decide +kernel), List.mem_of_getElem? (i := 1055) (by decide +kernel)⟩
theorem lw_p37 : lw_okq (⟨"PastSleep$Habits", "drawBelow", "(I)I"⟩, 13) := ⟨⟨by decide +kernel, by decide +kernel⟩, List.mem_of_getElem? (i := 153) (by decide +kernel), List.mem_of_getElem? (i := 1059) (by decide +kernel), List.mem_of_getElem? (i := 1060) (by decide +kernel)⟩
theorem lw_p38 : lw_okq (⟨"PastSleep$Habits", "goOut", "(LPastSleep$Cabin;I)V"⟩, 13) := ⟨⟨by decide +kernel, by decide +kernel⟩, List.mem_of_getElem? (i := 153) (by decide +kernel), List.mem_of_getElem? (i := 1070) (by decide +kernel), List.mem_of_getElem? (i := 1071) (by decide +kernel)⟩
theorem lw_p39 : lw_okq (⟨"PastSleep$Habits", "seatAsTried", "(LPastSleep$Cabin;)V"⟩, 13) := ⟨⟨by decide +kernel, by decide +kernel⟩, List.mem_of_getElem? (i := 153) (by decide +kernel), List.mem_of_getElem? (i := 1088) (by decide +kernel), List.mem_of_getElem? (i := 1089) (by decide +kernel)⟩
theorem lw_p40 : lw_okq (⟨"PastSleep$Habits", "nextTrial", "(I)Z"⟩, 13) := ⟨⟨by decide +kernel, by decide +kernel⟩, List.mem_of_getElem? (i := 153) (by decide +kernel), List.mem_of_getElem? (i := 1094) (by decide +kernel), List.mem_of_getElem? (i := 1095) (by decide +kernel)⟩
theorem lw_p41 : lw_okq (⟨"PastSleep$Habits", "swapTrials", "(II)V"⟩, 13) := ⟨⟨by decide +kernel, by decide +kernel⟩, List.mem_of_getElem? (i := 153) (by decide +kernel), List.mem_of_getElem? (i := 1098) (by decide +kernel), List.mem_of_getElem? (i := 1099) (by decide +kernel)⟩
theorem lw_p42 : lw_okq (⟨"PastSleep$Rests", "addChooser", "(LPastSleep$Cabin;LPastSleep$State;I)V"⟩, 4) := ⟨⟨by decide +kernel, by decide +kernel⟩, List.mem_of_getElem? (i := 272) (by decide +kernel), List.mem_of_getElem? (i := 1116) (by decide +kernel), List.mem_of_getElem? (i := 1117) (by decide +kernel)⟩
theorem lw_p43 : lw_okq (⟨"PastSleep$Rests", "choices", "()I"⟩, 4) := ⟨⟨by decide +kernel, by decide +kernel⟩, List.mem_of_getElem? (i := 272) (by decide +kernel), List.mem_of_getElem? (i := 1125) (by decide +kernel), List.mem_of_getElem? (i := 1126) (by decide +kernel)⟩
theorem lw_p44 : lw_okq (⟨"PastSleep$Rests", "rest", "(I)Z"⟩, 4) := ⟨⟨by decide +kernel, by decide +kernel⟩, List.mem_of_getElem? (i := 272) (by decide +kernel), List.mem_of_getElem? (i := 1129) (by decide +kernel), List.mem_of_getElem? (i := 1130) (by decide +kernel)⟩
theorem lw_p45 : lw_okq (⟨"PastSleep$Rests", "pays", "(II)I"⟩, 4) := ⟨⟨by decide +kernel, by decide +kernel⟩, List.mem_of_getElem? (i := 272) (by decide +kernel), List.mem_of_getElem? (i := 1133) (by decide +kernel), List.mem_of_getElem? (i := 1134) (by decide +kernel)⟩
theorem lw_p46 : lw_okq (⟨"java/lang/Throwable", "fillInStackTrace", "(I)Ljava/lang/Throwable;"⟩, 6) := ⟨⟨by decide +kernel, by decide +kernel⟩, List.mem_of_getElem? (i := 1261) (by decide +kernel), List.mem_of_getElem? (i := 1259) (by decide +kernel), List.mem_of_getElem? (i := 1260) (by decide +kernel)⟩
theorem lw_p47 : lw_okq (⟨"PastSleep$Habits", "penceOf", "(LPastSleep$Cabin;I)I"⟩, 13) := ⟨⟨by decide +kernel, by decide +kernel⟩, List.mem_of_getElem? (i := 153) (by decide +kernel), List.mem_of_getElem? (i := 1294) (by decide +kernel), List.mem_of_getElem? (i := 1295) (by decide +kernel)⟩
def lw_privs_3 : List (MethodName × Nat) := [(⟨"PastSleep$Ahead", "waysPast", "(I)I"⟩, 6), (⟨"PastSleep$Plans", "plan", "(LPastSleep$Cabin;LPastSleep$State;II)V"⟩, 8), (⟨"PastSleep$Plans", "lesser", "(III)I"⟩, 8), (⟨"PastSleep$Habits", "comeBack", "(LPastSleep$Cabin;I)V"⟩, 13), (⟨"PastSleep$Habits", "rouse", "(LPastSleep$Cabin;I)Z"⟩, 13), (⟨"PastSleep$Habits", "drawBelow", "(I)I"⟩, 13), (⟨"PastSleep$Habits", "goOut", "(LPastSleep$Cabin;I)V"⟩, 13), (⟨"PastSleep$Habits", "seatAsTried", "(LPastSleep$Cabin;)V"⟩, 13), (⟨"PastSleep$Habits", "nextTrial", "(I)Z"⟩, 13), (⟨"PastSleep$Habits", "swapTrials", "(II)V"⟩, 13), (⟨"PastSleep$Rests", "addChooser", "(LPastSleep$Cabin;LPastSleep$State;I)V"⟩, 4), (⟨"PastSleep$Rests", "choices", "()I"⟩, 4), (⟨"PastSleep$Rests", "rest", "(I)Z"⟩, 4), (⟨"PastSleep$Rests", "pays", "(II)I"⟩, 4), (⟨"java/lang/Throwable", "fillInStackTrace", "(I)Ljava/lang/Throwable;"⟩, 6), (⟨"PastSleep$Habits", "penceOf", "(LPastSleep$Cabin;I)I"⟩, 13)]
theorem lw_r3 : ∀ q ∈ lw_privs_3, lw_okq q := List.forall_mem_cons.mpr ⟨lw_p32, List.forall_mem_cons.mpr ⟨lw_p33, List.forall_mem_cons.mpr ⟨lw_p34, List.forall_mem_cons.mpr ⟨lw_p35, List.forall_mem_cons.mpr ⟨lw_p36, List.forall_mem_cons.mpr ⟨lw_p37, List.forall_mem_cons.mpr ⟨lw_p38, List.forall_mem_cons.mpr ⟨lw_p39, List.forall_mem_cons.mpr ⟨lw_p40, List.forall_mem_cons.mpr ⟨lw_p41, List.forall_mem_cons.mpr ⟨lw_p42, List.forall_mem_cons.mpr ⟨lw_p43, List.forall_mem_cons.mpr ⟨lw_p44, List.forall_mem_cons.mpr ⟨lw_p45, List.forall_mem_cons.mpr ⟨lw_p46, List.forall_mem_cons.mpr ⟨lw_p47, fun _ h => absurd h List.not_mem_nil⟩⟩⟩⟩⟩⟩⟩⟩⟩⟩⟩⟩⟩⟩⟩⟩
theorem lw_p48 : lw_okq (⟨"PastSleepModel", "plain", "(I)V"⟩, 76) := ⟨⟨by decide +kernel, by decide +kernel⟩, List.mem_of_getElem? (i := 1306) (by decide +kernel), List.mem_of_getElem? (i := 1312) (by decide +kernel), List.mem_of_getElem? (i := 1313) (by decide +kernel)⟩
theorem lw_p49 : lw_okq (⟨"PastSleepModel", "readsAll", "()Z"⟩, 76) := ⟨⟨by decide +kernel, by decide +kernel⟩, List.mem_of_getElem? (i := 1306) (by decide +kernel), List.mem_of_getElem? (i := 1558) (by decide +kernel), List.mem_of_getElem? (i := 1559) (by decide +kernel)⟩
theorem lw_p50 : lw_okq (⟨"PastSleepModel", "nextToken", "()V"⟩, 76) := ⟨⟨by decide +kernel, by decide +kernel⟩, List.mem_of_getElem? (i := 1306) (by decide +kernel), List.mem_of_getElem? (i := 1562) (by decide +kernel), List.mem_of_getElem? (i := 1563) (by decide +kernel)⟩
theorem lw_p51 : lw_okq (⟨"PastSleepModel", "signAt", "(I)I"⟩, 76) := ⟨⟨by decide +kernel, by decide +kernel⟩, List.mem_of_getElem? (i := 1306) (by decide +kernel), List.mem_of_getElem? (i := 1566) (by decide +kernel), List.mem_of_getElem? (i := 1567) (by decide +kernel)⟩
theorem lw_p52 : lw_okq (⟨"PastSleepModel", "needsBoth", "(JII)Z"⟩, 76) := ⟨⟨by decide +kernel, by decide +kernel⟩, List.mem_of_getElem? (i := 1306) (by decide +kernel), List.mem_of_getElem? (i := 1573) (by decide +kernel), List.mem_of_getElem? (i := 1574) (by decide +kernel)⟩
theorem lw_p53 : lw_okq (⟨"PastSleepModel", "needsWord", "(J)Z"⟩, 76) := ⟨⟨by decide +kernel, by decide +kernel⟩, List.mem_of_getElem? (i := 1306) (by decide +kernel), List.mem_of_getElem? (i := 1577) (by decide +kernel), List.mem_of_getElem? (i := 1578) (by decide +kernel)⟩
theorem lw_p54 : lw_okq (⟨"PastSleepModel", "isWord", "(J)Z"⟩, 76) := ⟨⟨by decide +kernel, by decide +kernel⟩, List.mem_of_getElem? (i := 1306) (by decide +kernel), List.mem_of_getElem? (i := 1581) (by decide +kernel), List.mem_of_getElem? (i := 1582) (by decide +kernel)⟩
theorem lw_p55 : lw_okq (⟨"PastSleepModel", "fails", "(I)Z"⟩, 76) := ⟨⟨by decide +kernel, by decide +kernel⟩, List.mem_of_getElem? (i := 1306) (by decide +kernel), List.mem_of_getElem? (i := 1585) (by decide +kernel), List.mem_of_getElem? (i := 1586) (by decide +kernel)⟩
theorem lw_p56 : lw_okq (⟨"PastSleepModel", "needsNumber", "(II)Z"⟩, 76) := ⟨⟨by decide +kernel, by decide +kernel⟩, List.mem_of_getElem? (i := 1306) (by decide +kernel), List.mem_of_getElem? (i := 1589) (by decide +kernel), List.mem_of_getElem? (i := 1590) (by decide +kernel)⟩
theorem lw_p57 : lw_okq (⟨"PastSleepModel", "ends", "()Z"⟩, 76) := ⟨⟨by decide +kernel, by decide +kernel⟩, List.mem_of_getElem? (i := 1306) (by decide +kernel), List.mem_of_getElem? (i := 1597) (by decide +kernel), List.mem_of_getElem? (i := 1598) (by decide +kernel)⟩
theorem lw_p58 : lw_okq (⟨"PastSleepModel", "isSign", "(I)Z"⟩, 76) := ⟨⟨by decide +kernel, by decide +kernel⟩, List.mem_of_getElem? (i := 1306) (by decide +kernel), List.mem_of_getElem? (i := 1601) (by decide +kernel), List.mem_of_getElem? (i := 1602) (by decide +kernel)⟩
theorem lw_p59 : lw_okq (⟨"PastSleepModel", "readsSitter", "()Z"⟩, 76) := ⟨⟨by decide +kernel, by decide +kernel⟩, List.mem_of_getElem? (i := 1306) (by decide +kernel), List.mem_of_getElem? (i := 1606) (by decide +kernel), List.mem_of_getElem? (i := 1607) (by decide +kernel)⟩
theorem lw_p60 : lw_okq (⟨"PastSleepModel", "isKept", "()Z"⟩, 76) := ⟨⟨by decide +kernel, by decide +kernel⟩, List.mem_of_getElem? (i := 1306) (by decide +kernel), List.mem_of_getElem? (i := 1610) (by decide +kernel), List.mem_of_getElem? (i := 1611) (by decide +kernel)⟩
theorem lw_p61 : lw_okq (⟨"PastSleepModel", "kindAt", "()I"⟩, 76) := ⟨⟨by decide +kernel, by decide +kernel⟩, List.mem_of_getElem? (i := 1306) (by decide +kernel), List.mem_of_getElem? (i := 1639) (by decide +kernel), List.mem_of_getElem? (i := 1640) (by decide +kernel)⟩
theorem lw_p62 : lw_okq (⟨"PastSleepModel", "isTaken", "(I)Z"⟩, 76) := ⟨⟨by decide +kernel, by decide +kernel⟩, List.mem_of_getElem? (i := 1306) (by decide +kernel), List.mem_of_getElem? (i := 1643) (by decide +kernel), List.mem_of_getElem? (i := 1644) (by decide +kernel)⟩
theorem lw_p63 : lw_okq (⟨"PastSleepModel", "readsCup", "()Z"⟩, 76) := ⟨⟨by decide +kernel, by decide +kernel⟩, List.mem_of_getElem? (i := 1306) (by decide +kernel), List.mem_of_getElem? (i := 1647) (by decide +kernel), List.mem_of_getElem? (i := 1648) (by decide +kernel)⟩
def lw_privs_4 : List (MethodName × Nat) := [(⟨"PastSleepModel", "plain", "(I)V"⟩, 76), (⟨"PastSleepModel", "readsAll", "()Z"⟩, 76), (⟨"PastSleepModel", "nextToken", "()V"⟩, 76), (⟨"PastSleepModel", "signAt", "(I)I"⟩, 76), (⟨"PastSleepModel", "needsBoth", "(JII)Z"⟩, 76), (⟨"PastSleepModel", "needsWord", "(J)Z"⟩, 76), (⟨"PastSleepModel", "isWord", "(J)Z"⟩, 76), (⟨"PastSleepModel", "fails", "(I)Z"⟩, 76), (⟨"PastSleepModel", "needsNumber", "(II)Z"⟩, 76), (⟨"PastSleepModel", "ends", "()Z"⟩, 76), (⟨"PastSleepModel", "isSign", "(I)Z"⟩, 76), (⟨"PastSleepModel", "readsSitter", "()Z"⟩, 76), (⟨"PastSleepModel", "isKept", "()Z"⟩, 76), (⟨"PastSleepModel", "kindAt", "()I"⟩, 76), (⟨"PastSleepModel", "isTaken", "(I)Z"⟩, 76), (⟨"PastSleepModel", "readsCup", "()Z"⟩, 76)]
theorem lw_r4 : ∀ q ∈ lw_privs_4, lw_okq q := List.forall_mem_cons.mpr ⟨lw_p48, List.forall_mem_cons.mpr ⟨lw_p49, List.forall_mem_cons.mpr ⟨lw_p50, List.forall_mem_cons.mpr ⟨lw_p51, List.forall_mem_cons.mpr ⟨lw_p52, List.forall_mem_cons.mpr ⟨lw_p53, List.forall_mem_cons.mpr ⟨lw_p54, List.forall_mem_cons.mpr ⟨lw_p55, List.forall_mem_cons.mpr ⟨lw_p56, List.forall_mem_cons.mpr ⟨lw_p57, List.forall_mem_cons.mpr ⟨lw_p58, List.forall_mem_cons.mpr ⟨lw_p59, List.forall_mem_cons.mpr ⟨lw_p60, List.forall_mem_cons.mpr ⟨lw_p61, List.forall_mem_cons.mpr ⟨lw_p62, List.forall_mem_cons.mpr ⟨lw_p63, fun _ h => absurd h List.not_mem_nil⟩⟩⟩⟩⟩⟩⟩⟩⟩⟩⟩⟩⟩⟩⟩⟩
theorem lw_p64 : lw_okq (⟨"PastSleepModel", "readsShut", "(I)Z"⟩, 76) := ⟨⟨by decide +kernel, by decide +kernel⟩, List.mem_of_getElem? (i := 1306) (by decide +kernel), List.mem_of_getElem? (i := 1651) (by decide +kernel), List.mem_of_getElem? (i := 1652) (by decide +kernel)⟩
theorem lw_p65 : lw_okq (⟨"PastSleepModel", "readsOne", "(III)Z"⟩, 76) := ⟨⟨by decide +kernel, by decide +kernel⟩, List.mem_of_getElem? (i := 1306) (by decide +kernel), List.mem_of_getElem? (i := 1655) (by decide +kernel), List.mem_of_getElem? (i := 1656) (by decide +kernel)⟩
theorem lw_p66 : lw_okq (⟨"PastSleepModel", "isTwice", "(I)Z"⟩, 76) := ⟨⟨by decide +kernel, by decide +kernel⟩, List.mem_of_getElem? (i := 1306) (by decide +kernel), List.mem_of_getElem? (i := 1659) (by decide +kernel), List.mem_of_getElem? (i := 1660) (by decide +kernel)⟩
theorem lw_p67 : lw_okq (⟨"PastSleepModel", "readsPrice", "()Z"⟩, 76) := ⟨⟨by decide +kernel, by decide +kernel⟩, List.mem_of_getElem? (i := 1306) (by decide +kernel), List.mem_of_getElem? (i := 1663) (by decide +kernel), List.mem_of_getElem? (i := 1664) (by decide +kernel)⟩
theorem lw_p68 : lw_okq (⟨"PastSleepModel", "readsLaw", "(I)Z"⟩, 76) := ⟨⟨by decide +kernel, by decide +kernel⟩, List.mem_of_getElem? (i := 1306) (by decide +kernel), List.mem_of_getElem? (i := 1667) (by decide +kernel), List.mem_of_getElem? (i := 1668) (by decide +kernel)⟩
theorem lw_p69 : lw_okq (⟨"PastSleepModel", "reads", "()Z"⟩, 76) := ⟨⟨by decide +kernel, by decide +kernel⟩, List.mem_of_getElem? (i := 1306) (by decide +kernel), List.mem_of_getElem? (i := 1671) (by decide +kernel), List.mem_of_getElem? (i := 1672) (by decide +kernel)⟩
theorem lw_p70 : lw_okq (⟨"PastSleepModel", "fact", "()I"⟩, 76) := ⟨⟨by decide +kernel, by decide +kernel⟩, List.mem_of_getElem? (i := 1306) (by decide +kernel), List.mem_of_getElem? (i := 1675) (by decide +kernel), List.mem_of_getElem? (i := 1676) (by decide +kernel)⟩
theorem lw_p71 : lw_okq (⟨"PastSleepModel", "puts", "(I)V"⟩, 76) := ⟨⟨by decide +kernel, by decide +kernel⟩, List.mem_of_getElem? (i := 1306) (by decide +kernel), List.mem_of_getElem? (i := 1683) (by decide +kernel), List.mem_of_getElem? (i := 1684) (by decide +kernel)⟩
theorem lw_p72 : lw_okq (⟨"PastSleepModel", "lays", "(II)V"⟩, 76) := ⟨⟨by decide +kernel, by decide +kernel⟩, List.mem_of_getElem? (i := 1306) (by decide +kernel), List.mem_of_getElem? (i := 1687) (by decide +kernel), List.mem_of_getElem? (i := 1688) (by decide +kernel)⟩
theorem lw_p73 : lw_okq (⟨"PastSleepModel", "isSitter", "(I)Z"⟩, 76) := ⟨⟨by decide +kernel, by decide +kernel⟩, List.mem_of_getElem? (i := 1306) (by decide +kernel), List.mem_of_getElem? (i := 1698) (by decide +kernel), List.mem_of_getElem? (i := 1699) (by decide +kernel)⟩
theorem lw_p74 : lw_okq (⟨"PastSleepModel", "isAsleep", "(I)Z"⟩, 76) := ⟨⟨by decide +kernel, by decide +kernel⟩, List.mem_of_getElem? (i := 1306) (by decide +kernel), List.mem_of_getElem? (i := 1702) (by decide +kernel), List.mem_of_getElem? (i := 1703) (by decide +kernel)⟩
theorem lw_p75 : lw_okq (⟨"PastSleepModel", "isAsleepAt", "(II)Z"⟩, 76) := ⟨⟨by decide +kernel, by decide +kernel⟩, List.mem_of_getElem? (i := 1306) (by decide +kernel), List.mem_of_getElem? (i := 1706) (by decide +kernel), List.mem_of_getElem? (i := 1707) (by decide +kernel)⟩
theorem lw_p76 : lw_okq (⟨"PastSleepModel", "depthOf", "(I)I"⟩, 76) := ⟨⟨by decide +kernel, by decide +kernel⟩, List.mem_of_getElem? (i := 1306) (by decide +kernel), List.mem_of_getElem? (i := 1710) (by decide +kernel), List.mem_of_getElem? (i := 1711) (by decide +kernel)⟩
theorem lw_p77 : lw_okq (⟨"PastSleepModel", "legsOf", "(I)I"⟩, 76) := ⟨⟨by decide +kernel, by decide +kernel⟩, List.mem_of_getElem? (i := 1306) (by decide +kernel), List.mem_of_getElem? (i := 1714) (by decide +kernel), List.mem_of_getElem? (i := 1715) (by decide +kernel)⟩
theorem lw_p78 : lw_okq (⟨"PastSleepModel", "sitterOf", "(I)I"⟩, 76) := ⟨⟨by decide +kernel, by decide +kernel⟩, List.mem_of_getElem? (i := 1306) (by decide +kernel), List.mem_of_getElem? (i := 1722) (by decide +kernel), List.mem_of_getElem? (i := 1723) (by decide +kernel)⟩
theorem lw_p79 : lw_okq (⟨"PastSleepModel", "inSeat", "(I)I"⟩, 76) := ⟨⟨by decide +kernel, by decide +kernel⟩, List.mem_of_getElem? (i := 1306) (by decide +kernel), List.mem_of_getElem? (i := 1726) (by decide +kernel), List.mem_of_getElem? (i := 1727) (by decide +kernel)⟩
def lw_privs_5 : List (MethodName × Nat) := [(⟨"PastSleepModel", "readsShut", "(I)Z"⟩, 76), (⟨"PastSleepModel", "readsOne", "(III)Z"⟩, 76), (⟨"PastSleepModel", "isTwice", "(I)Z"⟩, 76), (⟨"PastSleepModel", "readsPrice", "()Z"⟩, 76), (⟨"PastSleepModel", "readsLaw", "(I)Z"⟩, 76), (⟨"PastSleepModel", "reads", "()Z"⟩, 76), (⟨"PastSleepModel", "fact", "()I"⟩, 76), (⟨"PastSleepModel", "puts", "(I)V"⟩, 76), (⟨"PastSleepModel", "lays", "(II)V"⟩, 76), (⟨"PastSleepModel", "isSitter", "(I)Z"⟩, 76), (⟨"PastSleepModel", "isAsleep", "(I)Z"⟩, 76), (⟨"PastSleepModel", "isAsleepAt", "(II)Z"⟩, 76), (⟨"PastSleepModel", "depthOf", "(I)I"⟩, 76), (⟨"PastSleepModel", "legsOf", "(I)I"⟩, 76), (⟨"PastSleepModel", "sitterOf", "(I)I"⟩, 76), (⟨"PastSleepModel", "inSeat", "(I)I"⟩, 76)]
theorem lw_r5 : ∀ q ∈ lw_privs_5, lw_okq q := List.forall_mem_cons.mpr ⟨lw_p64, List.forall_mem_cons.mpr ⟨lw_p65, List.forall_mem_cons.mpr ⟨lw_p66, List.forall_mem_cons.mpr ⟨lw_p67, List.forall_mem_cons.mpr ⟨lw_p68, List.forall_mem_cons.mpr ⟨lw_p69, List.forall_mem_cons.mpr ⟨lw_p70, List.forall_mem_cons.mpr ⟨lw_p71, List.forall_mem_cons.mpr ⟨lw_p72, List.forall_mem_cons.mpr ⟨lw_p73, List.forall_mem_cons.mpr ⟨lw_p74, List.forall_mem_cons.mpr ⟨lw_p75, List.forall_mem_cons.mpr ⟨lw_p76, List.forall_mem_cons.mpr ⟨lw_p77, List.forall_mem_cons.mpr ⟨lw_p78, List.forall_mem_cons.mpr ⟨lw_p79, fun _ h => absurd h List.not_mem_nil⟩⟩⟩⟩⟩⟩⟩⟩⟩⟩⟩⟩⟩⟩⟩⟩
theorem lw_p80 : lw_okq (⟨"PastSleepModel", "isShut", "(I)Z"⟩, 76) := ⟨⟨by decide +kernel, by decide +kernel⟩, List.mem_of_getElem? (i := 1306) (by decide +kernel), List.mem_of_getElem? (i := 1734) (by decide +kernel), List.mem_of_getElem? (i := 1735) (by decide +kernel)⟩
theorem lw_p81 : lw_okq (⟨"PastSleepModel", "areWays", "(II)Z"⟩, 76) := ⟨⟨by decide +kernel, by decide +kernel⟩, List.mem_of_getElem? (i := 1306) (by decide +kernel), List.mem_of_getElem? (i := 1742) (by decide +kernel), List.mem_of_getElem? (i := 1743) (by decide +kernel)⟩
theorem lw_p82 : lw_okq (⟨"PastSleepModel", "keeps", "()V"⟩, 76) := ⟨⟨by decide +kernel, by decide +kernel⟩, List.mem_of_getElem? (i := 1306) (by decide +kernel), List.mem_of_getElem? (i := 1749) (by decide +kernel), List.mem_of_getElem? (i := 1750) (by decide +kernel)⟩
theorem lw_p83 : lw_okq (⟨"PastSleepModel", "passesBy", "(IIIZ)Z"⟩, 76) := ⟨⟨by decide +kernel, by decide +kernel⟩, List.mem_of_getElem? (i := 1306) (by decide +kernel), List.mem_of_getElem? (i := 1756) (by decide +kernel), List.mem_of_getElem? (i := 1757) (by decide +kernel)⟩
theorem lw_p84 : lw_okq (⟨"PastSleepModel", "comesBy", "(IIZ)Z"⟩, 76) := ⟨⟨by decide +kernel, by decide +kernel⟩, List.mem_of_getElem? (i := 1306) (by decide +kernel), List.mem_of_getElem? (i := 1763) (by decide +kernel), List.mem_of_getElem? (i := 1764) (by decide +kernel)⟩
theorem lw_p85 : lw_okq (⟨"PastSleepModel", "wakes", "(I)V"⟩, 76) := ⟨⟨by decide +kernel, by decide +kernel⟩, List.mem_of_getElem? (i := 1306) (by decide +kernel), List.mem_of_getElem? (i := 1767) (by decide +kernel), List.mem_of_getElem? (i := 1768) (by decide +kernel)⟩
theorem lw_p86 : lw_okq (⟨"PastSleepModel", "outNow", "()I"⟩, 76) := ⟨⟨by decide +kernel, by decide +kernel⟩, List.mem_of_getElem? (i := 1306) (by decide +kernel), List.mem_of_getElem? (i := 1771) (by decide +kernel), List.mem_of_getElem? (i := 1772) (by decide +kernel)⟩
theorem lw_p87 : lw_okq (⟨"PastSleepModel", "queueAt", "(II)I"⟩, 76) := ⟨⟨by decide +kernel, by decide +kernel⟩, List.mem_of_getElem? (i := 1306) (by decide +kernel), List.mem_of_getElem? (i := 1775) (by decide +kernel), List.mem_of_getElem? (i := 1776) (by decide +kernel)⟩
theorem lw_p88 : lw_okq (⟨"PastSleepModel", "worked", "(I)I"⟩, 76) := ⟨⟨by decide +kernel, by decide +kernel⟩, List.mem_of_getElem? (i := 1306) (by decide +kernel), List.mem_of_getElem? (i := 1779) (by decide +kernel), List.mem_of_getElem? (i := 1780) (by decide +kernel)⟩
theorem lw_p89 : lw_okq (⟨"PastSleepModel", "opens", "(I)V"⟩, 76) := ⟨⟨by decide +kernel, by decide +kernel⟩, List.mem_of_getElem? (i := 1306) (by decide +kernel), List.mem_of_getElem? (i := 1783) (by decide +kernel), List.mem_of_getElem? (i := 1784) (by decide +kernel)⟩
theorem lw_p90 : lw_okq (⟨"PastSleepModel", "sums", "(I)V"⟩, 76) := ⟨⟨by decide +kernel, by decide +kernel⟩, List.mem_of_getElem? (i := 1306) (by decide +kernel), List.mem_of_getElem? (i := 1787) (by decide +kernel), List.mem_of_getElem? (i := 1788) (by decide +kernel)⟩
theorem lw_p91 : lw_okq (⟨"PastSleepModel", "tests", "(I)V"⟩, 76) := ⟨⟨by decide +kernel, by decide +kernel⟩, List.mem_of_getElem? (i := 1306) (by decide +kernel), List.mem_of_getElem? (i := 1791) (by decide +kernel), List.mem_of_getElem? (i := 1792) (by decide +kernel)⟩
theorem lw_p92 : lw_okq (⟨"PastSleepModel", "passes", "()V"⟩, 76) := ⟨⟨by decide +kernel, by decide +kernel⟩, List.mem_of_getElem? (i := 1306) (by decide +kernel), List.mem_of_getElem? (i := 1810) (by decide +kernel), List.mem_of_getElem? (i := 1811) (by decide +kernel)⟩
theorem lw_p93 : lw_okq (⟨"PastSleepModel", "growth", "(I)I"⟩, 76) := ⟨⟨by decide +kernel, by decide +kernel⟩, List.mem_of_getElem? (i := 1306) (by decide +kernel), List.mem_of_getElem? (i := 1814) (by decide +kernel), List.mem_of_getElem? (i := 1815) (by decide +kernel)⟩
theorem lw_p94 : lw_okq (⟨"PastSleepModel", "needBehind", "(II)I"⟩, 76) := ⟨⟨by decide +kernel, by decide +kernel⟩, List.mem_of_getElem? (i := 1306) (by decide +kernel), List.mem_of_getElem? (i := 1823) (by decide +kernel), List.mem_of_getElem? (i := 1824) (by decide +kernel)⟩
theorem lw_p95 : lw_okq (⟨"PastSleepModel", "waking", "(II)I"⟩, 76) := ⟨⟨by decide +kernel, by decide +kernel⟩, List.mem_of_getElem? (i := 1306) (by decide +kernel), List.mem_of_getElem? (i := 1835) (by decide +kernel), List.mem_of_getElem? (i := 1836) (by decide +kernel)⟩
def lw_privs_6 : List (MethodName × Nat) := [(⟨"PastSleepModel", "isShut", "(I)Z"⟩, 76), (⟨"PastSleepModel", "areWays", "(II)Z"⟩, 76), (⟨"PastSleepModel", "keeps", "()V"⟩, 76), (⟨"PastSleepModel", "passesBy", "(IIIZ)Z"⟩, 76), (⟨"PastSleepModel", "comesBy", "(IIZ)Z"⟩, 76), (⟨"PastSleepModel", "wakes", "(I)V"⟩, 76), (⟨"PastSleepModel", "outNow", "()I"⟩, 76), (⟨"PastSleepModel", "queueAt", "(II)I"⟩, 76), (⟨"PastSleepModel", "worked", "(I)I"⟩, 76), (⟨"PastSleepModel", "opens", "(I)V"⟩, 76), (⟨"PastSleepModel", "sums", "(I)V"⟩, 76), (⟨"PastSleepModel", "tests", "(I)V"⟩, 76), (⟨"PastSleepModel", "passes", "()V"⟩, 76), (⟨"PastSleepModel", "growth", "(I)I"⟩, 76), (⟨"PastSleepModel", "needBehind", "(II)I"⟩, 76), (⟨"PastSleepModel", "waking", "(II)I"⟩, 76)]
theorem lw_r6 : ∀ q ∈ lw_privs_6, lw_okq q := List.forall_mem_cons.mpr ⟨lw_p80, List.forall_mem_cons.mpr ⟨lw_p81, List.forall_mem_cons.mpr ⟨lw_p82, List.forall_mem_cons.mpr ⟨lw_p83, List.forall_mem_cons.mpr ⟨lw_p84, List.forall_mem_cons.mpr ⟨lw_p85, List.forall_mem_cons.mpr ⟨lw_p86, List.forall_mem_cons.mpr ⟨lw_p87, List.forall_mem_cons.mpr ⟨lw_p88, List.forall_mem_cons.mpr ⟨lw_p89, List.forall_mem_cons.mpr ⟨lw_p90, List.forall_mem_cons.mpr ⟨lw_p91, List.forall_mem_cons.mpr ⟨lw_p92, List.forall_mem_cons.mpr ⟨lw_p93, List.forall_mem_cons.mpr ⟨lw_p94, List.forall_mem_cons.mpr ⟨lw_p95, fun _ h => absurd h List.not_mem_nil⟩⟩⟩⟩⟩⟩⟩⟩⟩⟩⟩⟩⟩⟩⟩⟩
theorem lw_p96 : lw_okq (⟨"PastSleepModel", "wakingBy", "(IIII)I"⟩, 76) := ⟨⟨by decide +kernel, by decide +kernel⟩, List.mem_of_getElem? (i := 1306) (by decide +kernel), List.mem_of_getElem? (i := 1839) (by decide +kernel), List.mem_of_getElem? (i := 1840) (by decide +kernel)⟩
theorem lw_p97 : lw_okq (⟨"PastSleepModel", "facts", "(IIII)V"⟩, 76) := ⟨⟨by decide +kernel, by decide +kernel⟩, List.mem_of_getElem? (i := 1306) (by decide +kernel), List.mem_of_getElem? (i := 1843) (by decide +kernel), List.mem_of_getElem? (i := 1844) (by decide +kernel)⟩
theorem lw_p98 : lw_okq (⟨"PastSleepModel", "spilling", "(III)I"⟩, 76) := ⟨⟨by decide +kernel, by decide +kernel⟩, List.mem_of_getElem? (i := 1306) (by decide +kernel), List.mem_of_getElem? (i := 1847) (by decide +kernel), List.mem_of_getElem? (i := 1848) (by decide +kernel)⟩
theorem lw_p99 : lw_okq (⟨"PastSleepModel", "isAble", "(I)Z"⟩, 76) := ⟨⟨by decide +kernel, by decide +kernel⟩, List.mem_of_getElem? (i := 1306) (by decide +kernel), List.mem_of_getElem? (i := 1855) (by decide +kernel), List.mem_of_getElem? (i := 1856) (by decide +kernel)⟩
theorem lw_p100 : lw_okq (⟨"PastSleepModel", "weighs", "(III)V"⟩, 76) := ⟨⟨by decide +kernel, by decide +kernel⟩, List.mem_of_getElem? (i := 1306) (by decide +kernel), List.mem_of_getElem? (i := 1859) (by decide +kernel), List.mem_of_getElem? (i := 1860) (by decide +kernel)⟩
theorem lw_p101 : lw_okq (⟨"PastSleepModel", "costOf", "(III)I"⟩, 76) := ⟨⟨by decide +kernel, by decide +kernel⟩, List.mem_of_getElem? (i := 1306) (by decide +kernel), List.mem_of_getElem? (i := 1867) (by decide +kernel), List.mem_of_getElem? (i := 1868) (by decide +kernel)⟩
theorem lw_p102 : lw_okq (⟨"PastSleepModel", "bestWays", "(II)I"⟩, 76) := ⟨⟨by decide +kernel, by decide +kernel⟩, List.mem_of_getElem? (i := 1306) (by decide +kernel), List.mem_of_getElem? (i := 1875) (by decide +kernel), List.mem_of_getElem? (i := 1876) (by decide +kernel)⟩
theorem lw_p103 : lw_okq (⟨"PastSleepModel", "regimes", "(I)V"⟩, 76) := ⟨⟨by decide +kernel, by decide +kernel⟩, List.mem_of_getElem? (i := 1306) (by decide +kernel), List.mem_of_getElem? (i := 1887) (by decide +kernel), List.mem_of_getElem? (i := 1888) (by decide +kernel)⟩
theorem lw_p104 : lw_okq (⟨"PastSleepModel", "fewests", "(I)V"⟩, 76) := ⟨⟨by decide +kernel, by decide +kernel⟩, List.mem_of_getElem? (i := 1306) (by decide +kernel), List.mem_of_getElem? (i := 1896) (by decide +kernel), List.mem_of_getElem? (i := 1897) (by decide +kernel)⟩
theorem lw_p105 : lw_okq (⟨"PastSleepModel", "asleepAhead", "(II)I"⟩, 76) := ⟨⟨by decide +kernel, by decide +kernel⟩, List.mem_of_getElem? (i := 1306) (by decide +kernel), List.mem_of_getElem? (i := 1900) (by decide +kernel), List.mem_of_getElem? (i := 1901) (by decide +kernel)⟩
theorem lw_p106 : lw_okq (⟨"PastSleepModel", "seatsAll", "()V"⟩, 76) := ⟨⟨by decide +kernel, by decide +kernel⟩, List.mem_of_getElem? (i := 1306) (by decide +kernel), List.mem_of_getElem? (i := 1917) (by decide +kernel), List.mem_of_getElem? (i := 1918) (by decide +kernel)⟩
theorem lw_p107 : lw_okq (⟨"PastSleepModel", "pence", "()I"⟩, 76) := ⟨⟨by decide +kernel, by decide +kernel⟩, List.mem_of_getElem? (i := 1306) (by decide +kernel), List.mem_of_getElem? (i := 1921) (by decide +kernel), List.mem_of_getElem? (i := 1922) (by decide +kernel)⟩
theorem lw_p108 : lw_okq (⟨"PastSleepModel", "livesFlight", "()V"⟩, 76) := ⟨⟨by decide +kernel, by decide +kernel⟩, List.mem_of_getElem? (i := 1306) (by decide +kernel), List.mem_of_getElem? (i := 1925) (by decide +kernel), List.mem_of_getElem? (i := 1926) (by decide +kernel)⟩
theorem lw_p109 : lw_okq (⟨"PastSleepModel", "livesTick", "(I)V"⟩, 76) := ⟨⟨by decide +kernel, by decide +kernel⟩, List.mem_of_getElem? (i := 1306) (by decide +kernel), List.mem_of_getElem? (i := 1929) (by decide +kernel), List.mem_of_getElem? (i := 1930) (by decide +kernel)⟩
theorem lw_p110 : lw_okq (⟨"PastSleepModel", "rousesAll", "(IIZ)Z"⟩, 76) := ⟨⟨by decide +kernel, by decide +kernel⟩, List.mem_of_getElem? (i := 1306) (by decide +kernel), List.mem_of_getElem? (i := 1933) (by decide +kernel), List.mem_of_getElem? (i := 1934) (by decide +kernel)⟩
theorem lw_p111 : lw_okq (⟨"PastSleepModel", "rouses", "(II)Z"⟩, 76) := ⟨⟨by decide +kernel, by decide +kernel⟩, List.mem_of_getElem? (i := 1306) (by decide +kernel), List.mem_of_getElem? (i := 1937) (by decide +kernel), List.mem_of_getElem? (i := 1938) (by decide +kernel)⟩
def lw_privs_7 : List (MethodName × Nat) := [(⟨"PastSleepModel", "wakingBy", "(IIII)I"⟩, 76), (⟨"PastSleepModel", "facts", "(IIII)V"⟩, 76), (⟨"PastSleepModel", "spilling", "(III)I"⟩, 76), (⟨"PastSleepModel", "isAble", "(I)Z"⟩, 76), (⟨"PastSleepModel", "weighs", "(III)V"⟩, 76), (⟨"PastSleepModel", "costOf", "(III)I"⟩, 76), (⟨"PastSleepModel", "bestWays", "(II)I"⟩, 76), (⟨"PastSleepModel", "regimes", "(I)V"⟩, 76), (⟨"PastSleepModel", "fewests", "(I)V"⟩, 76), (⟨"PastSleepModel", "asleepAhead", "(II)I"⟩, 76), (⟨"PastSleepModel", "seatsAll", "()V"⟩, 76), (⟨"PastSleepModel", "pence", "()I"⟩, 76), (⟨"PastSleepModel", "livesFlight", "()V"⟩, 76), (⟨"PastSleepModel", "livesTick", "(I)V"⟩, 76), (⟨"PastSleepModel", "rousesAll", "(IIZ)Z"⟩, 76), (⟨"PastSleepModel", "rouses", "(II)Z"⟩, 76)]
theorem lw_r7 : ∀ q ∈ lw_privs_7, lw_okq q := List.forall_mem_cons.mpr ⟨lw_p96, List.forall_mem_cons.mpr ⟨lw_p97, List.forall_mem_cons.mpr ⟨lw_p98, List.forall_mem_cons.mpr ⟨lw_p99, List.forall_mem_cons.mpr ⟨lw_p100, List.forall_mem_cons.mpr ⟨lw_p101, List.forall_mem_cons.mpr ⟨lw_p102, List.forall_mem_cons.mpr ⟨lw_p103, List.forall_mem_cons.mpr ⟨lw_p104, List.forall_mem_cons.mpr ⟨lw_p105, List.forall_mem_cons.mpr ⟨lw_p106, List.forall_mem_cons.mpr ⟨lw_p107, List.forall_mem_cons.mpr ⟨lw_p108, List.forall_mem_cons.mpr ⟨lw_p109, List.forall_mem_cons.mpr ⟨lw_p110, List.forall_mem_cons.mpr ⟨lw_p111, fun _ h => absurd h List.not_mem_nil⟩⟩⟩⟩⟩⟩⟩⟩⟩⟩⟩⟩⟩⟩⟩⟩
theorem lw_p112 : lw_okq (⟨"PastSleepModel", "sleepsAt", "(II)Z"⟩, 76) := ⟨⟨by decide +kernel, by decide +kernel⟩, List.mem_of_getElem? (i := 1306) (by decide +kernel), List.mem_of_getElem? (i := 1941) (by decide +kernel), List.mem_of_getElem? (i := 1942) (by decide +kernel)⟩
theorem lw_p113 : lw_okq (⟨"PastSleepModel", "draws", "(I)I"⟩, 76) := ⟨⟨by decide +kernel, by decide +kernel⟩, List.mem_of_getElem? (i := 1306) (by decide +kernel), List.mem_of_getElem? (i := 1945) (by decide +kernel), List.mem_of_getElem? (i := 1946) (by decide +kernel)⟩
theorem lw_p114 : lw_okq (⟨"PastSleepModel", "outsNow", "()I"⟩, 76) := ⟨⟨by decide +kernel, by decide +kernel⟩, List.mem_of_getElem? (i := 1306) (by decide +kernel), List.mem_of_getElem? (i := 1953) (by decide +kernel), List.mem_of_getElem? (i := 1954) (by decide +kernel)⟩
theorem lw_p115 : lw_okq (⟨"PastSleepModel", "orders", "(II)V"⟩, 76) := ⟨⟨by decide +kernel, by decide +kernel⟩, List.mem_of_getElem? (i := 1306) (by decide +kernel), List.mem_of_getElem? (i := 1961) (by decide +kernel), List.mem_of_getElem? (i := 1962) (by decide +kernel)⟩
theorem lw_p116 : lw_okq (⟨"PastSleepModel", "ownPence", "(I)I"⟩, 76) := ⟨⟨by decide +kernel, by decide +kernel⟩, List.mem_of_getElem? (i := 1306) (by decide +kernel), List.mem_of_getElem? (i := 1969) (by decide +kernel), List.mem_of_getElem? (i := 1970) (by decide +kernel)⟩
theorem lw_p117 : lw_okq (⟨"PastSleepModel", "isRest", "()Z"⟩, 76) := ⟨⟨by decide +kernel, by decide +kernel⟩, List.mem_of_getElem? (i := 1306) (by decide +kernel), List.mem_of_getElem? (i := 1981) (by decide +kernel), List.mem_of_getElem? (i := 1982) (by decide +kernel)⟩
theorem lw_p118 : lw_okq (⟨"PastSleepModel", "paysBy", "(I)I"⟩, 76) := ⟨⟨by decide +kernel, by decide +kernel⟩, List.mem_of_getElem? (i := 1306) (by decide +kernel), List.mem_of_getElem? (i := 1985) (by decide +kernel), List.mem_of_getElem? (i := 1986) (by decide +kernel)⟩
theorem lw_p119 : lw_okq (⟨"PastSleepModel", "likely", "(II)J"⟩, 76) := ⟨⟨by decide +kernel, by decide +kernel⟩, List.mem_of_getElem? (i := 1306) (by decide +kernel), List.mem_of_getElem? (i := 1998) (by decide +kernel), List.mem_of_getElem? (i := 1999) (by decide +kernel)⟩
theorem lw_p120 : lw_okq (⟨"PastSleepModel", "isFit", "(III)Z"⟩, 76) := ⟨⟨by decide +kernel, by decide +kernel⟩, List.mem_of_getElem? (i := 1306) (by decide +kernel), List.mem_of_getElem? (i := 2013) (by decide +kernel), List.mem_of_getElem? (i := 2014) (by decide +kernel)⟩
def lw_privs_8 : List (MethodName × Nat) := [(⟨"PastSleepModel", "sleepsAt", "(II)Z"⟩, 76), (⟨"PastSleepModel", "draws", "(I)I"⟩, 76), (⟨"PastSleepModel", "outsNow", "()I"⟩, 76), (⟨"PastSleepModel", "orders", "(II)V"⟩, 76), (⟨"PastSleepModel", "ownPence", "(I)I"⟩, 76), (⟨"PastSleepModel", "isRest", "()Z"⟩, 76), (⟨"PastSleepModel", "paysBy", "(I)I"⟩, 76), (⟨"PastSleepModel", "likely", "(II)J"⟩, 76), (⟨"PastSleepModel", "isFit", "(III)Z"⟩, 76)]
theorem lw_r8 : ∀ q ∈ lw_privs_8, lw_okq q := List.forall_mem_cons.mpr ⟨lw_p112, List.forall_mem_cons.mpr ⟨lw_p113, List.forall_mem_cons.mpr ⟨lw_p114, List.forall_mem_cons.mpr ⟨lw_p115, List.forall_mem_cons.mpr ⟨lw_p116, List.forall_mem_cons.mpr ⟨lw_p117, List.forall_mem_cons.mpr ⟨lw_p118, List.forall_mem_cons.mpr ⟨lw_p119, List.forall_mem_cons.mpr ⟨lw_p120, fun _ h => absurd h List.not_mem_nil⟩⟩⟩⟩⟩⟩⟩⟩⟩
def lw_privs : List (MethodName × Nat) := lw_privs_1 ++ (lw_privs_2 ++ (lw_privs_3 ++ (lw_privs_4 ++ (lw_privs_5 ++ (lw_privs_6 ++ (lw_privs_7 ++ (lw_privs_8)))))))
def lw_tbl : List Cond := k2_sels lw_privs ++ tables_1
theorem lw_privs_ok : ∀ q ∈ lw_privs, lw_okq q := by
  show ∀ q ∈ lw_privs_1 ++ (lw_privs_2 ++ (lw_privs_3 ++ (lw_privs_4 ++ (lw_privs_5 ++ (lw_privs_6 ++ (lw_privs_7 ++ (lw_privs_8))))))), lw_okq q
  exact List.forall_mem_append.mpr ⟨lw_r1, List.forall_mem_append.mpr ⟨lw_r2, List.forall_mem_append.mpr ⟨lw_r3, List.forall_mem_append.mpr ⟨lw_r4, List.forall_mem_append.mpr ⟨lw_r5, List.forall_mem_append.mpr ⟨lw_r6, List.forall_mem_append.mpr ⟨lw_r7, lw_r8⟩⟩⟩⟩⟩⟩⟩
-- ===== end of PART A; then your names; then what follows =====
def RX0 : String := "PastSleep$Ahead"
def TX0 : u_T := fun k => match k with
  | 0 => ("PastSleep$Ahead", "place", "[I", true)
  | 1 => ("PastSleep$Ahead", "wake", "[I", true)
  | 2 => ("PastSleep$Ahead", "spill", "[I", true)
  | 3 => ("PastSleep$Ahead", "climb", "[I", true)
  | 4 => ("PastSleep$Ahead", "price", "[I", true)
  | _ => ("PastSleep$Ahead", "many", "I", false)
def tyX0 : Nat → FieldType := fun k => match k with
  | 0 => .array .int
  | 1 => .array .int
  | 2 => .array .int
  | 3 => .array .int
  | 4 => .array .int
  | _ => .int
abbrev wsX00 : List Cond := u_ws RX0 TX0 6
theorem nmX0 : ∀ a, a < 6 → ∀ b, b < 6 → a ≠ b → (TX0 a).2.1 ≠ (TX0 b).2.1 := by decide +kernel
theorem tyX0_ok : ∀ k, k < 6 → parseFieldDescriptor (TX0 k).2.2.1 = some (tyX0 k) := by decide +kernel
abbrev cX0_init : ByteArray := prog_2_method_1_code
def yX0_init : MethodName := ⟨RX0, "<init>", "()V"⟩
abbrev cX0_look : ByteArray := prog_2_method_2_code
def yX0_look : MethodName := ⟨RX0, "look", "(LPastSleep$Cabin;LPastSleep$State;II)V"⟩
abbrev cX0_addSleeper : ByteArray := prog_2_method_3_code
def yX0_addSleeper : MethodName := ⟨RX0, "addSleeper", "(III)V"⟩
abbrev cX0_wayAt : ByteArray := prog_2_method_4_code
def yX0_wayAt : MethodName := ⟨RX0, "wayAt", "(II)I"⟩
abbrev cX0_through : ByteArray := prog_2_method_5_code
def yX0_through : MethodName := ⟨RX0, "through", "(IZ)I"⟩
abbrev cX0_paid : ByteArray := prog_2_method_6_code
def yX0_paid : MethodName := ⟨RX0, "paid", "(I)I"⟩
abbrev cX0_whole : ByteArray := prog_2_method_7_code
def yX0_whole : MethodName := ⟨RX0, "whole", "(I)I"⟩
abbrev cX0_cheapest : ByteArray := prog_2_method_8_code
def yX0_cheapest : MethodName := ⟨RX0, "cheapest", "()I"⟩
abbrev cX0_waysPast : ByteArray := prog_2_method_9_code
def yX0_waysPast : MethodName := ⟨RX0, "waysPast", "(I)I"⟩
def RX1 : String := "PastSleep$Cabin"
def TX1 : u_T := fun k => match k with
  | 0 => ("PastSleep$Cabin", "sitters", "[LPastSleep$Sitter;", true)
  | 1 => ("PastSleep$Cabin", "sitterOn", "[I", true)
  | 2 => ("PastSleep$Cabin", "cup", "[I", true)
  | 3 => ("PastSleep$Cabin", "shut", "[I", true)
  | 4 => ("PastSleep$Cabin", "price", "[I", true)
  | 5 => ("PastSleep$Cabin", "laws", "LPastSleep$Laws;", true)
  | 6 => ("PastSleep$Cabin", "seats", "I", false)
  | 7 => ("PastSleep$Cabin", "flight", "I", false)
  | 8 => ("PastSleep$Cabin", "many", "I", false)
  | 9 => ("PastSleep$Cabin", "gap", "I", false)
  | _ => ("PastSleep$Cabin", "feign", "I", false)
def tyX1 : Nat → FieldType := fun k => match k with
  | 0 => .array (.object "PastSleep$Sitter")
  | 1 => .array .int
  | 2 => .array .int
  | 3 => .array .int
  | 4 => .array .int
  | 5 => .object "PastSleep$Laws"
  | 6 => .int
  | 7 => .int
  | 8 => .int
  | 9 => .int
  | _ => .int
abbrev wsX10 : List Cond := u_ws RX1 TX1 11
theorem nmX1 : ∀ a, a < 11 → ∀ b, b < 11 → a ≠ b → (TX1 a).2.1 ≠ (TX1 b).2.1 := by decide +kernel
theorem tyX1_ok : ∀ k, k < 11 → parseFieldDescriptor (TX1 k).2.2.1 = some (tyX1 k) := by decide +kernel
abbrev cX1_init : ByteArray := prog_3_method_1_code
def yX1_init : MethodName := ⟨RX1, "<init>", "()V"⟩
abbrev cX1_clear : ByteArray := prog_3_method_2_code
def yX1_clear : MethodName := ⟨RX1, "clear", "()V"⟩
abbrev cX1_take : ByteArray := prog_3_method_3_code
def yX1_take : MethodName := ⟨RX1, "take", "(LPastSleep$Cabin;)V"⟩
abbrev cX1_closed : ByteArray := prog_3_method_4_code
def yX1_closed : MethodName := ⟨RX1, "closed", "(I)Z"⟩
abbrev cX1_waking : ByteArray := prog_3_method_5_code
def yX1_waking : MethodName := ⟨RX1, "waking", "(LPastSleep$State;II)I"⟩
abbrev cX1_spilling : ByteArray := prog_3_method_6_code
def yX1_spilling : MethodName := ⟨RX1, "spilling", "(LPastSleep$State;III)I"⟩
abbrev cX1_away : ByteArray := prog_3_method_7_code
def yX1_away : MethodName := ⟨RX1, "away", "(II)I"⟩
abbrev cX1_setSleeper : ByteArray := prog_3_method_8_code
def yX1_setSleeper : MethodName := ⟨RX1, "setSleeper", "(LPastSleep$State;II)V"⟩
abbrev cX1_bounded : ByteArray := prog_3_method_9_code
def yX1_bounded : MethodName := ⟨RX1, "bounded", "(II)I"⟩
def RX2 : String := "PastSleep$Habits"
def TX2 : u_T := fun k => match k with
  | 0 => ("PastSleep$Habits", "state", "LPastSleep$State;", true)
  | 1 => ("PastSleep$Habits", "went", "[I", true)
  | 2 => ("PastSleep$Habits", "roused", "[I", true)
  | 3 => ("PastSleep$Habits", "order", "[I", true)
  | 4 => ("PastSleep$Habits", "least", "I", false)
  | 5 => ("PastSleep$Habits", "drawnWakings", "I", false)
  | 6 => ("PastSleep$Habits", "drawnVain", "I", false)
  | 7 => ("PastSleep$Habits", "drawnLate", "I", false)
  | 8 => ("PastSleep$Habits", "on", "[I", true)
  | 9 => ("PastSleep$Habits", "trial", "[I", true)
  | 10 => ("PastSleep$Habits", "ranked", "Z", false)
  | 11 => ("PastSleep$Habits", "drawing", "Z", false)
  | _ => ("PastSleep$Habits", "g", "I", false)
def tyX2 : Nat → FieldType := fun k => match k with
  | 0 => .object "PastSleep$State"
  | 1 => .array .int
  | 2 => .array .int
  | 3 => .array .int
  | 4 => .int
  | 5 => .int
  | 6 => .int
  | 7 => .int
  | 8 => .array .int
  | 9 => .array .int
  | 10 => .boolean
  | 11 => .boolean
  | _ => .int
abbrev wsX20 : List Cond := u_ws RX2 TX2 13
theorem nmX2 : ∀ a, a < 13 → ∀ b, b < 13 → a ≠ b → (TX2 a).2.1 ≠ (TX2 b).2.1 := by decide +kernel
theorem tyX2_ok : ∀ k, k < 13 → parseFieldDescriptor (TX2 k).2.2.1 = some (tyX2 k) := by decide +kernel
abbrev cX2_init : ByteArray := prog_4_method_1_code
def yX2_init : MethodName := ⟨RX2, "<init>", "()V"⟩
abbrev cX2_seatAsTold : ByteArray := prog_4_method_2_code
def yX2_seatAsTold : MethodName := ⟨RX2, "seatAsTold", "(LPastSleep$Cabin;)V"⟩
abbrev cX2_fly : ByteArray := prog_4_method_3_code
def yX2_fly : MethodName := ⟨RX2, "fly", "(LPastSleep$Cabin;I)V"⟩
abbrev cX2_comeBack : ByteArray := prog_4_method_4_code
def yX2_comeBack : MethodName := ⟨RX2, "comeBack", "(LPastSleep$Cabin;I)V"⟩
abbrev cX2_goOut : ByteArray := prog_4_method_5_code
def yX2_goOut : MethodName := ⟨RX2, "goOut", "(LPastSleep$Cabin;I)V"⟩
abbrev cX2_rouse : ByteArray := prog_4_method_6_code
def yX2_rouse : MethodName := ⟨RX2, "rouse", "(LPastSleep$Cabin;I)Z"⟩
abbrev cX2_drawBelow : ByteArray := prog_4_method_7_code
def yX2_drawBelow : MethodName := ⟨RX2, "drawBelow", "(I)I"⟩
abbrev cX2_pence : ByteArray := prog_4_method_8_code
def yX2_pence : MethodName := ⟨RX2, "pence", "(LPastSleep$Cabin;)I"⟩
abbrev cX2_penceOf : ByteArray := prog_4_method_9_code
def yX2_penceOf : MethodName := ⟨RX2, "penceOf", "(LPastSleep$Cabin;I)I"⟩
abbrev cX2_saved : ByteArray := prog_4_method_10_code
def yX2_saved : MethodName := ⟨RX2, "saved", "(LPastSleep$Cabin;I)I"⟩
abbrev cX2_draw : ByteArray := prog_4_method_11_code
def yX2_draw : MethodName := ⟨RX2, "draw", "(LPastSleep$Cabin;II)V"⟩
abbrev cX2_forget : ByteArray := prog_4_method_12_code
def yX2_forget : MethodName := ⟨RX2, "forget", "()V"⟩
abbrev cX2_rank : ByteArray := prog_4_method_13_code
def yX2_rank : MethodName := ⟨RX2, "rank", "(LPastSleep$Cabin;)V"⟩
abbrev cX2_seatAsTried : ByteArray := prog_4_method_14_code
def yX2_seatAsTried : MethodName := ⟨RX2, "seatAsTried", "(LPastSleep$Cabin;)V"⟩
abbrev cX2_nextTrial : ByteArray := prog_4_method_15_code
def yX2_nextTrial : MethodName := ⟨RX2, "nextTrial", "(I)Z"⟩
abbrev cX2_swapTrials : ByteArray := prog_4_method_16_code
def yX2_swapTrials : MethodName := ⟨RX2, "swapTrials", "(II)V"⟩
def RX3 : String := "PastSleep$Laws"
def TX3 : u_T := fun k => match k with
  | 0 => ("PastSleep$Laws", "facts", "[I", true)
  | 1 => ("PastSleep$Laws", "told", "[I", true)
  | 2 => ("PastSleep$Laws", "from", "[I", true)
  | 3 => ("PastSleep$Laws", "to", "[I", true)
  | 4 => ("PastSleep$Laws", "steps", "[I", true)
  | 5 => ("PastSleep$Laws", "stack", "[I", true)
  | _ => ("PastSleep$Laws", "many", "I", false)
def tyX3 : Nat → FieldType := fun k => match k with
  | 0 => .array .int
  | 1 => .array .int
  | 2 => .array .int
  | 3 => .array .int
  | 4 => .array .int
  | 5 => .array .int
  | _ => .int
abbrev wsX30 : List Cond := u_ws RX3 TX3 7
theorem nmX3 : ∀ a, a < 7 → ∀ b, b < 7 → a ≠ b → (TX3 a).2.1 ≠ (TX3 b).2.1 := by decide +kernel
theorem tyX3_ok : ∀ k, k < 7 → parseFieldDescriptor (TX3 k).2.2.1 = some (tyX3 k) := by decide +kernel
abbrev cX3_init : ByteArray := prog_5_method_1_code
def yX3_init : MethodName := ⟨RX3, "<init>", "()V"⟩
abbrev cX3_clear : ByteArray := prog_5_method_2_code
def yX3_clear : MethodName := ⟨RX3, "clear", "()V"⟩
abbrev cX3_take : ByteArray := prog_5_method_3_code
def yX3_take : MethodName := ⟨RX3, "take", "(LPastSleep$Laws;)V"⟩
abbrev cX3_begin : ByteArray := prog_5_method_4_code
def yX3_begin : MethodName := ⟨RX3, "begin", "(I)V"⟩
abbrev cX3_end : ByteArray := prog_5_method_5_code
def yX3_end : MethodName := ⟨RX3, "end", "(I)V"⟩
abbrev cX3_isTold : ByteArray := prog_5_method_6_code
def yX3_isTold : MethodName := ⟨RX3, "isTold", "(I)Z"⟩
abbrev cX3_add : ByteArray := prog_5_method_7_code
def yX3_add : MethodName := ⟨RX3, "add", "(I)V"⟩
abbrev cX3_setFact : ByteArray := prog_5_method_8_code
def yX3_setFact : MethodName := ⟨RX3, "setFact", "(II)V"⟩
abbrev cX3_result : ByteArray := prog_5_method_9_code
def yX3_result : MethodName := ⟨RX3, "result", "(I)I"⟩
abbrev cX3_factOf : ByteArray := prog_5_method_10_code
def yX3_factOf : MethodName := ⟨RX3, "factOf", "(I)I"⟩
abbrev cX3_joined : ByteArray := prog_5_method_11_code
def yX3_joined : MethodName := ⟨RX3, "joined", "(III)I"⟩
def RX4 : String := "PastSleep$Plans"
def TX4 : u_T := fun k => match k with
  | 0 => ("PastSleep$Plans", "least", "I", false)
  | 1 => ("PastSleep$Plans", "first", "I", false)
  | 2 => ("PastSleep$Plans", "free", "[Z", true)
  | 3 => ("PastSleep$Plans", "paid", "[I", true)
  | 4 => ("PastSleep$Plans", "odds", "[I", true)
  | 5 => ("PastSleep$Plans", "again", "[I", true)
  | 6 => ("PastSleep$Plans", "fresh", "[I", true)
  | _ => ("PastSleep$Plans", "since", "[I", true)
def tyX4 : Nat → FieldType := fun k => match k with
  | 0 => .int
  | 1 => .int
  | 2 => .array .boolean
  | 3 => .array .int
  | 4 => .array .int
  | 5 => .array .int
  | 6 => .array .int
  | _ => .array .int
abbrev wsX40 : List Cond := u_ws RX4 TX4 8
theorem nmX4 : ∀ a, a < 8 → ∀ b, b < 8 → a ≠ b → (TX4 a).2.1 ≠ (TX4 b).2.1 := by decide +kernel
theorem tyX4_ok : ∀ k, k < 8 → parseFieldDescriptor (TX4 k).2.2.1 = some (tyX4 k) := by decide +kernel
abbrev cX4_init : ByteArray := prog_6_method_1_code
def yX4_init : MethodName := ⟨RX4, "<init>", "()V"⟩
abbrev cX4_byCost : ByteArray := prog_6_method_2_code
def yX4_byCost : MethodName := ⟨RX4, "byCost", "(LPastSleep$Cabin;LPastSleep$State;ILPastSleep$Ahead;)V"⟩
abbrev cX4_byWakings : ByteArray := prog_6_method_3_code
def yX4_byWakings : MethodName := ⟨RX4, "byWakings", "(LPastSleep$Cabin;LPastSleep$State;ILPastSleep$Ahead;)V"⟩
abbrev cX4_plan : ByteArray := prog_6_method_4_code
def yX4_plan : MethodName := ⟨RX4, "plan", "(LPastSleep$Cabin;LPastSleep$State;II)V"⟩
abbrev cX4_lesser : ByteArray := prog_6_method_5_code
def yX4_lesser : MethodName := ⟨RX4, "lesser", "(III)I"⟩
def RX5 : String := "PastSleep$Reader"
def TX5 : u_T := fun k => match k with
  | 0 => ("PastSleep$Reader", "names", "[J", true)
  | 1 => ("PastSleep$Reader", "times", "[I", true)
  | 2 => ("PastSleep$Reader", "tokens", "LPastSleep$Tokens;", false)
  | 3 => ("PastSleep$Reader", "c", "LPastSleep$Cabin;", false)
  | _ => ("PastSleep$Reader", "fault", "I", false)
def tyX5 : Nat → FieldType := fun k => match k with
  | 0 => .array .long
  | 1 => .array .int
  | 2 => .object "PastSleep$Tokens"
  | 3 => .object "PastSleep$Cabin"
  | _ => .int
abbrev wsX50 : List Cond := u_ws RX5 TX5 5
theorem nmX5 : ∀ a, a < 5 → ∀ b, b < 5 → a ≠ b → (TX5 a).2.1 ≠ (TX5 b).2.1 := by decide +kernel
theorem tyX5_ok : ∀ k, k < 5 → parseFieldDescriptor (TX5 k).2.2.1 = some (tyX5 k) := by decide +kernel
abbrev cX5_init : ByteArray := prog_7_method_1_code
def yX5_init : MethodName := ⟨RX5, "<init>", "()V"⟩
abbrev cX5_read : ByteArray := prog_7_method_2_code
def yX5_read : MethodName := ⟨RX5, "read", "(LPastSleep$Tokens;LPastSleep$Cabin;)I"⟩
abbrev cX5_wrong : ByteArray := prog_7_method_3_code
def yX5_wrong : MethodName := ⟨RX5, "wrong", "(I)V"⟩
abbrev cX5_stands : ByteArray := prog_7_method_4_code
def yX5_stands : MethodName := ⟨RX5, "stands", "(II)Z"⟩
abbrev cX5_readWord : ByteArray := prog_7_method_5_code
def yX5_readWord : MethodName := ⟨RX5, "readWord", "(I)V"⟩
abbrev cX5_readSign : ByteArray := prog_7_method_6_code
def yX5_readSign : MethodName := ⟨RX5, "readSign", "(C)V"⟩
abbrev cX5_readNumber : ByteArray := prog_7_method_7_code
def yX5_readNumber : MethodName := ⟨RX5, "readNumber", "(II)I"⟩
abbrev cX5_readRow : ByteArray := prog_7_method_8_code
def yX5_readRow : MethodName := ⟨RX5, "readRow", "()V"⟩
abbrev cX5_checkTimes : ByteArray := prog_7_method_9_code
def yX5_checkTimes : MethodName := ⟨RX5, "checkTimes", "(I)V"⟩
abbrev cX5_readSitter : ByteArray := prog_7_method_10_code
def yX5_readSitter : MethodName := ⟨RX5, "readSitter", "()V"⟩
abbrev cX5_readName : ByteArray := prog_7_method_11_code
def yX5_readName : MethodName := ⟨RX5, "readName", "()V"⟩
abbrev cX5_readKind : ByteArray := prog_7_method_12_code
def yX5_readKind : MethodName := ⟨RX5, "readKind", "(LPastSleep$Sitter;)V"⟩
abbrev cX5_readSeat : ByteArray := prog_7_method_13_code
def yX5_readSeat : MethodName := ⟨RX5, "readSeat", "(Z)I"⟩
abbrev cX5_readCup : ByteArray := prog_7_method_14_code
def yX5_readCup : MethodName := ⟨RX5, "readCup", "()V"⟩
abbrev cX5_readShut : ByteArray := prog_7_method_15_code
def yX5_readShut : MethodName := ⟨RX5, "readShut", "(I)V"⟩
abbrev cX5_readPrices : ByteArray := prog_7_method_16_code
def yX5_readPrices : MethodName := ⟨RX5, "readPrices", "()V"⟩
abbrev cX5_readLaw : ByteArray := prog_7_method_17_code
def yX5_readLaw : MethodName := ⟨RX5, "readLaw", "(I)V"⟩
abbrev cX5_readJoined : ByteArray := prog_7_method_18_code
def yX5_readJoined : MethodName := ⟨RX5, "readJoined", "(III)V"⟩
abbrev cX5_joinOf : ByteArray := prog_7_method_19_code
def yX5_joinOf : MethodName := ⟨RX5, "joinOf", "(I)I"⟩
abbrev cX5_readPart : ByteArray := prog_7_method_20_code
def yX5_readPart : MethodName := ⟨RX5, "readPart", "(II)V"⟩
def RX6 : String := "PastSleep$Rests"
def TX6 : u_T := fun k => match k with
  | 0 => ("PastSleep$Rests", "place", "[I", true)
  | 1 => ("PastSleep$Rests", "alone", "[I", true)
  | 2 => ("PastSleep$Rests", "pick", "[I", true)
  | _ => ("PastSleep$Rests", "many", "I", false)
def tyX6 : Nat → FieldType := fun k => match k with
  | 0 => .array .int
  | 1 => .array .int
  | 2 => .array .int
  | _ => .int
abbrev wsX60 : List Cond := u_ws RX6 TX6 4
theorem nmX6 : ∀ a, a < 4 → ∀ b, b < 4 → a ≠ b → (TX6 a).2.1 ≠ (TX6 b).2.1 := by decide +kernel
theorem tyX6_ok : ∀ k, k < 4 → parseFieldDescriptor (TX6 k).2.2.1 = some (tyX6 k) := by decide +kernel
abbrev cX6_init : ByteArray := prog_8_method_1_code
def yX6_init : MethodName := ⟨RX6, "<init>", "()V"⟩
abbrev cX6_choose : ByteArray := prog_8_method_2_code
def yX6_choose : MethodName := ⟨RX6, "choose", "(LPastSleep$Cabin;LPastSleep$State;I)Z"⟩
abbrev cX6_addChooser : ByteArray := prog_8_method_3_code
def yX6_addChooser : MethodName := ⟨RX6, "addChooser", "(LPastSleep$Cabin;LPastSleep$State;I)V"⟩
abbrev cX6_choices : ByteArray := prog_8_method_4_code
def yX6_choices : MethodName := ⟨RX6, "choices", "()I"⟩
abbrev cX6_howMany : ByteArray := prog_8_method_5_code
def yX6_howMany : MethodName := ⟨RX6, "howMany", "()I"⟩
abbrev cX6_find : ByteArray := prog_8_method_6_code
def yX6_find : MethodName := ⟨RX6, "find", "(I)I"⟩
abbrev cX6_rest : ByteArray := prog_8_method_7_code
def yX6_rest : MethodName := ⟨RX6, "rest", "(I)Z"⟩
abbrev cX6_pays : ByteArray := prog_8_method_8_code
def yX6_pays : MethodName := ⟨RX6, "pays", "(II)I"⟩
def RX7 : String := "PastSleep$Sitter"
def TX7 : u_T := fun k => match k with
  | 0 => ("PastSleep$Sitter", "kind", "I", false)
  | 1 => ("PastSleep$Sitter", "seat", "I", false)
  | 2 => ("PastSleep$Sitter", "needs", "I", false)
  | 3 => ("PastSleep$Sitter", "limit", "I", false)
  | 4 => ("PastSleep$Sitter", "goes", "I", false)
  | 5 => ("PastSleep$Sitter", "depth", "I", false)
  | 6 => ("PastSleep$Sitter", "legs", "I", false)
  | 7 => ("PastSleep$Sitter", "from", "I", false)
  | _ => ("PastSleep$Sitter", "to", "I", false)
def tyX7 : Nat → FieldType := fun k => match k with
  | 0 => .int
  | 1 => .int
  | 2 => .int
  | 3 => .int
  | 4 => .int
  | 5 => .int
  | 6 => .int
  | 7 => .int
  | _ => .int
abbrev wsX70 : List Cond := u_ws RX7 TX7 9
theorem nmX7 : ∀ a, a < 9 → ∀ b, b < 9 → a ≠ b → (TX7 a).2.1 ≠ (TX7 b).2.1 := by decide +kernel
theorem tyX7_ok : ∀ k, k < 9 → parseFieldDescriptor (TX7 k).2.2.1 = some (tyX7 k) := by decide +kernel
abbrev cX7_init : ByteArray := prog_9_method_1_code
def yX7_init : MethodName := ⟨RX7, "<init>", "()V"⟩
abbrev cX7_take : ByteArray := prog_9_method_2_code
def yX7_take : MethodName := ⟨RX7, "take", "(LPastSleep$Sitter;)V"⟩
abbrev cX7_growth : ByteArray := prog_9_method_3_code
def yX7_growth : MethodName := ⟨RX7, "growth", "(I)I"⟩
abbrev cX7_deep : ByteArray := prog_9_method_4_code
def yX7_deep : MethodName := ⟨RX7, "deep", "()I"⟩
abbrev cX7_legsLong : ByteArray := prog_9_method_5_code
def yX7_legsLong : MethodName := ⟨RX7, "legsLong", "()I"⟩
def RX8 : String := "PastSleep$State"
def TX8 : u_T := fun k => match k with
  | 0 => ("PastSleep$State", "need", "[I", true)
  | 1 => ("PastSleep$State", "out", "[I", true)
  | 2 => ("PastSleep$State", "woken", "[I", true)
  | 3 => ("PastSleep$State", "asked", "[I", true)
  | 4 => ("PastSleep$State", "spilt", "[I", true)
  | 5 => ("PastSleep$State", "late", "[I", true)
  | 6 => ("PastSleep$State", "cup", "[I", true)
  | 7 => ("PastSleep$State", "tick", "I", false)
  | 8 => ("PastSleep$State", "wakings", "I", false)
  | 9 => ("PastSleep$State", "vain", "I", false)
  | 10 => ("PastSleep$State", "spills", "I", false)
  | _ => ("PastSleep$State", "lateInAll", "I", false)
def tyX8 : Nat → FieldType := fun k => match k with
  | 0 => .array .int
  | 1 => .array .int
  | 2 => .array .int
  | 3 => .array .int
  | 4 => .array .int
  | 5 => .array .int
  | 6 => .array .int
  | 7 => .int
  | 8 => .int
  | 9 => .int
  | 10 => .int
  | _ => .int
abbrev wsX80 : List Cond := u_ws RX8 TX8 12
theorem nmX8 : ∀ a, a < 12 → ∀ b, b < 12 → a ≠ b → (TX8 a).2.1 ≠ (TX8 b).2.1 := by decide +kernel
theorem tyX8_ok : ∀ k, k < 12 → parseFieldDescriptor (TX8 k).2.2.1 = some (tyX8 k) := by decide +kernel
abbrev cX8_init : ByteArray := prog_10_method_1_code
def yX8_init : MethodName := ⟨RX8, "<init>", "()V"⟩
abbrev cX8_begin : ByteArray := prog_10_method_2_code
def yX8_begin : MethodName := ⟨RX8, "begin", "(LPastSleep$Cabin;)V"⟩
abbrev cX8_take : ByteArray := prog_10_method_3_code
def yX8_take : MethodName := ⟨RX8, "take", "(LPastSleep$State;)V"⟩
abbrev cX8_asleep : ByteArray := prog_10_method_4_code
def yX8_asleep : MethodName := ⟨RX8, "asleep", "(LPastSleep$Cabin;II)Z"⟩
abbrev cX8_ask : ByteArray := prog_10_method_5_code
def yX8_ask : MethodName := ⟨RX8, "ask", "(IZ)Z"⟩
abbrev cX8_wake : ByteArray := prog_10_method_6_code
def yX8_wake : MethodName := ⟨RX8, "wake", "(I)V"⟩
abbrev cX8_spillOn : ByteArray := prog_10_method_7_code
def yX8_spillOn : MethodName := ⟨RX8, "spillOn", "(II)V"⟩
abbrev cX8_leave : ByteArray := prog_10_method_8_code
def yX8_leave : MethodName := ⟨RX8, "leave", "(LPastSleep$Cabin;I)V"⟩
abbrev cX8_outside : ByteArray := prog_10_method_9_code
def yX8_outside : MethodName := ⟨RX8, "outside", "(LPastSleep$Cabin;)I"⟩
abbrev cX8_cups : ByteArray := prog_10_method_10_code
def yX8_cups : MethodName := ⟨RX8, "cups", "()I"⟩
abbrev cX8_needIn : ByteArray := prog_10_method_11_code
def yX8_needIn : MethodName := ⟨RX8, "needIn", "(LPastSleep$Cabin;II)I"⟩
abbrev cX8_pass : ByteArray := prog_10_method_12_code
def yX8_pass : MethodName := ⟨RX8, "pass", "(LPastSleep$Cabin;I)V"⟩
def RX9 : String := "PastSleep$Tells"
def TX9 : u_T := fun k => match k with
  | 0 => ("PastSleep$Tells", "moved", "[I", true)
  | 1 => ("PastSleep$Tells", "still", "[I", true)
  | 2 => ("PastSleep$Tells", "wentMany", "[I", true)
  | _ => ("PastSleep$Tells", "wentAt", "[I", true)
def tyX9 : Nat → FieldType := fun k => match k with
  | 0 => .array .int
  | 1 => .array .int
  | 2 => .array .int
  | _ => .array .int
abbrev wsX90 : List Cond := u_ws RX9 TX9 4
theorem nmX9 : ∀ a, a < 4 → ∀ b, b < 4 → a ≠ b → (TX9 a).2.1 ≠ (TX9 b).2.1 := by decide +kernel
theorem tyX9_ok : ∀ k, k < 4 → parseFieldDescriptor (TX9 k).2.2.1 = some (tyX9 k) := by decide +kernel
abbrev cX9_init : ByteArray := prog_11_method_1_code
def yX9_init : MethodName := ⟨RX9, "<init>", "()V"⟩
abbrev cX9_clear : ByteArray := prog_11_method_2_code
def yX9_clear : MethodName := ⟨RX9, "clear", "()V"⟩
abbrev cX9_take : ByteArray := prog_11_method_3_code
def yX9_take : MethodName := ⟨RX9, "take", "(LPastSleep$Tells;)V"⟩
abbrev cX9_addTouch : ByteArray := prog_11_method_4_code
def yX9_addTouch : MethodName := ⟨RX9, "addTouch", "(IZ)Z"⟩
abbrev cX9_likely : ByteArray := prog_11_method_5_code
def yX9_likely : MethodName := ⟨RX9, "likely", "(II)J"⟩
abbrev cX9_addWent : ByteArray := prog_11_method_6_code
def yX9_addWent : MethodName := ⟨RX9, "addWent", "(II)Z"⟩
abbrev cX9_fitting : ByteArray := prog_11_method_7_code
def yX9_fitting : MethodName := ⟨RX9, "fitting", "(III)Z"⟩
def RX10 : String := "PastSleep$Tokens"
def TX10 : u_T := fun k => match k with
  | 0 => ("PastSleep$Tokens", "tape", "[C", true)
  | 1 => ("PastSleep$Tokens", "many", "I", false)
  | 2 => ("PastSleep$Tokens", "place", "I", false)
  | 3 => ("PastSleep$Tokens", "kind", "I", false)
  | 4 => ("PastSleep$Tokens", "value", "I", false)
  | 5 => ("PastSleep$Tokens", "letters", "J", false)
  | _ => ("PastSleep$Tokens", "next", "I", false)
def tyX10 : Nat → FieldType := fun k => match k with
  | 0 => .array .char
  | 1 => .int
  | 2 => .int
  | 3 => .int
  | 4 => .int
  | 5 => .long
  | _ => .int
abbrev wsX100 : List Cond := u_ws RX10 TX10 7
theorem nmX10 : ∀ a, a < 7 → ∀ b, b < 7 → a ≠ b → (TX10 a).2.1 ≠ (TX10 b).2.1 := by decide +kernel
theorem tyX10_ok : ∀ k, k < 7 → parseFieldDescriptor (TX10 k).2.2.1 = some (tyX10 k) := by decide +kernel
abbrev cX10_init : ByteArray := prog_12_method_1_code
def yX10_init : MethodName := ⟨RX10, "<init>", "()V"⟩
abbrev cX10_put : ByteArray := prog_12_method_2_code
def yX10_put : MethodName := ⟨RX10, "put", "(J)V"⟩
abbrev cX10_begin : ByteArray := prog_12_method_3_code
def yX10_begin : MethodName := ⟨RX10, "begin", "()V"⟩
abbrev cX10_step : ByteArray := prog_12_method_4_code
def yX10_step : MethodName := ⟨RX10, "step", "()V"⟩
abbrev cX10_readWord : ByteArray := prog_12_method_5_code
def yX10_readWord : MethodName := ⟨RX10, "readWord", "()V"⟩
abbrev cX10_readNumber : ByteArray := prog_12_method_6_code
def yX10_readNumber : MethodName := ⟨RX10, "readNumber", "()V"⟩
abbrev cX10_indexOf : ByteArray := prog_12_method_7_code
def yX10_indexOf : MethodName := ⟨RX10, "indexOf", "([CII)I"⟩
abbrev cX10_reserved : ByteArray := prog_12_method_8_code
def yX10_reserved : MethodName := ⟨RX10, "reserved", "(I)Z"⟩
abbrev cX10_isFactOf : ByteArray := prog_12_method_9_code
def yX10_isFactOf : MethodName := ⟨RX10, "isFactOf", "(II)Z"⟩
abbrev cX10_isLetter : ByteArray := prog_12_method_10_code
def yX10_isLetter : MethodName := ⟨RX10, "isLetter", "(I)Z"⟩
abbrev cX10_isDigit : ByteArray := prog_12_method_11_code
def yX10_isDigit : MethodName := ⟨RX10, "isDigit", "(I)Z"⟩
abbrev cX10_isSign : ByteArray := prog_12_method_12_code
def yX10_isSign : MethodName := ⟨RX10, "isSign", "(I)Z"⟩
def RX11 : String := "PastSleep"
def TX11 : u_T := fun k => match k with
  | 0 => ("PastSleep", "tokens", "LPastSleep$Tokens;", true)
  | 1 => ("PastSleep", "reader", "LPastSleep$Reader;", true)
  | 2 => ("PastSleep", "ahead", "LPastSleep$Ahead;", true)
  | 3 => ("PastSleep", "plans", "LPastSleep$Plans;", true)
  | 4 => ("PastSleep", "habits", "LPastSleep$Habits;", true)
  | 5 => ("PastSleep", "rests", "LPastSleep$Rests;", true)
  | 6 => ("PastSleep", "past", "[LPastSleep$State;", true)
  | 7 => ("PastSleep", "markedCabins", "[LPastSleep$Cabin;", true)
  | 8 => ("PastSleep", "markedStates", "[LPastSleep$State;", true)
  | 9 => ("PastSleep", "markedTells", "[LPastSleep$Tells;", true)
  | 10 => ("PastSleep", "laid", "[Z", true)
  | 11 => ("PastSleep", "now", "LPastSleep$State;", true)
  | 12 => ("PastSleep", "tells", "LPastSleep$Tells;", true)
  | 13 => ("PastSleep", "told", "LPastSleep$Cabin;", false)
  | 14 => ("PastSleep", "spare", "LPastSleep$Cabin;", false)
  | 15 => ("PastSleep", "pastNext", "I", false)
  | _ => ("PastSleep", "pastMany", "I", false)
def tyX11 : Nat → FieldType := fun k => match k with
  | 0 => .object "PastSleep$Tokens"
  | 1 => .object "PastSleep$Reader"
  | 2 => .object "PastSleep$Ahead"
  | 3 => .object "PastSleep$Plans"
  | 4 => .object "PastSleep$Habits"
  | 5 => .object "PastSleep$Rests"
  | 6 => .array (.object "PastSleep$State")
  | 7 => .array (.object "PastSleep$Cabin")
  | 8 => .array (.object "PastSleep$State")
  | 9 => .array (.object "PastSleep$Tells")
  | 10 => .array .boolean
  | 11 => .object "PastSleep$State"
  | 12 => .object "PastSleep$Tells"
  | 13 => .object "PastSleep$Cabin"
  | 14 => .object "PastSleep$Cabin"
  | 15 => .int
  | _ => .int
abbrev wsX110 : List Cond := u_ws RX11 TX11 17
theorem nmX11 : ∀ a, a < 17 → ∀ b, b < 17 → a ≠ b → (TX11 a).2.1 ≠ (TX11 b).2.1 := by decide +kernel
theorem tyX11_ok : ∀ k, k < 17 → parseFieldDescriptor (TX11 k).2.2.1 = some (tyX11 k) := by decide +kernel
abbrev cX11_init : ByteArray := prog_1_method_1_code
def yX11_init : MethodName := ⟨RX11, "<init>", "()V"⟩
abbrev cX11_feed : ByteArray := prog_1_method_2_code
def yX11_feed : MethodName := ⟨RX11, "feed", "(JJJ)I"⟩
abbrev cX11_cabin : ByteArray := prog_1_method_3_code
def yX11_cabin : MethodName := ⟨RX11, "cabin", "()I"⟩
abbrev cX11_sitter : ByteArray := prog_1_method_4_code
def yX11_sitter : MethodName := ⟨RX11, "sitter", "(II)I"⟩
abbrev cX11_seat : ByteArray := prog_1_method_5_code
def yX11_seat : MethodName := ⟨RX11, "seat", "(II)I"⟩
abbrev cX11_shut : ByteArray := prog_1_method_6_code
def yX11_shut : MethodName := ⟨RX11, "shut", "(I)I"⟩
abbrev cX11_go : ByteArray := prog_1_method_7_code
def yX11_go : MethodName := ⟨RX11, "go", "(III)I"⟩
abbrev cX11_back : ByteArray := prog_1_method_8_code
def yX11_back : MethodName := ⟨RX11, "back", "(III)I"⟩
abbrev cX11_undo : ByteArray := prog_1_method_9_code
def yX11_undo : MethodName := ⟨RX11, "undo", "()Z"⟩
abbrev cX11_ticks : ByteArray := prog_1_method_10_code
def yX11_ticks : MethodName := ⟨RX11, "ticks", "(I)I"⟩
abbrev cX11_length : ByteArray := prog_1_method_11_code
def yX11_length : MethodName := ⟨RX11, "length", "(I)I"⟩
abbrev cX11_sleep : ByteArray := prog_1_method_12_code
def yX11_sleep : MethodName := ⟨RX11, "sleep", "(I)I"⟩
abbrev cX11_odds : ByteArray := prog_1_method_13_code
def yX11_odds : MethodName := ⟨RX11, "odds", "(II)I"⟩
abbrev cX11_chance : ByteArray := prog_1_method_14_code
def yX11_chance : MethodName := ⟨RX11, "chance", "(IIZ)I"⟩
abbrev cX11_cost : ByteArray := prog_1_method_15_code
def yX11_cost : MethodName := ⟨RX11, "cost", "(II)I"⟩
abbrev cX11_best : ByteArray := prog_1_method_16_code
def yX11_best : MethodName := ⟨RX11, "best", "(I)I"⟩
abbrev cX11_side : ByteArray := prog_1_method_17_code
def yX11_side : MethodName := ⟨RX11, "side", "(I)I"⟩
abbrev cX11_regime : ByteArray := prog_1_method_18_code
def yX11_regime : MethodName := ⟨RX11, "regime", "(II)I"⟩
abbrev cX11_fewest : ByteArray := prog_1_method_19_code
def yX11_fewest : MethodName := ⟨RX11, "fewest", "(II)I"⟩
abbrev cX11_before : ByteArray := prog_1_method_20_code
def yX11_before : MethodName := ⟨RX11, "before", "(I)I"⟩
abbrev cX11_standing : ByteArray := prog_1_method_21_code
def yX11_standing : MethodName := ⟨RX11, "standing", "(I)I"⟩
abbrev cX11_habits : ByteArray := prog_1_method_22_code
def yX11_habits : MethodName := ⟨RX11, "habits", "(II)I"⟩
abbrev cX11_seated : ByteArray := prog_1_method_23_code
def yX11_seated : MethodName := ⟨RX11, "seated", "(I)I"⟩
abbrev cX11_aisle : ByteArray := prog_1_method_24_code
def yX11_aisle : MethodName := ⟨RX11, "aisle", "(I)I"⟩
abbrev cX11_beer : ByteArray := prog_1_method_25_code
def yX11_beer : MethodName := ⟨RX11, "beer", "(I)I"⟩
abbrev cX11_rests : ByteArray := prog_1_method_26_code
def yX11_rests : MethodName := ⟨RX11, "rests", "(II)I"⟩
abbrev cX11_touch : ByteArray := prog_1_method_27_code
def yX11_touch : MethodName := ⟨RX11, "touch", "(IZ)Z"⟩
abbrev cX11_truly : ByteArray := prog_1_method_28_code
def yX11_truly : MethodName := ⟨RX11, "truly", "(II)J"⟩
abbrev cX11_went : ByteArray := prog_1_method_29_code
def yX11_went : MethodName := ⟨RX11, "went", "(II)Z"⟩
abbrev cX11_fits : ByteArray := prog_1_method_30_code
def yX11_fits : MethodName := ⟨RX11, "fits", "(II)I"⟩
abbrev cX11_flights : ByteArray := prog_1_method_31_code
def yX11_flights : MethodName := ⟨RX11, "flights", "(III)I"⟩
abbrev cX11_mark : ByteArray := prog_1_method_32_code
def yX11_mark : MethodName := ⟨RX11, "mark", "(IZ)Z"⟩
abbrev cX11_count : ByteArray := prog_1_method_33_code
def yX11_count : MethodName := ⟨RX11, "count", "(I)I"⟩
abbrev cX11_known : ByteArray := prog_1_method_34_code
def yX11_known : MethodName := ⟨RX11, "known", "(I)Z"⟩
abbrev cX11_movable : ByteArray := prog_1_method_35_code
def yX11_movable : MethodName := ⟨RX11, "movable", "(I)Z"⟩
abbrev cX11_rightWays : ByteArray := prog_1_method_36_code
def yX11_rightWays : MethodName := ⟨RX11, "rightWays", "(I)Z"⟩
abbrev cX11_rightLuck : ByteArray := prog_1_method_37_code
def yX11_rightLuck : MethodName := ⟨RX11, "rightLuck", "(I)Z"⟩
abbrev cX11_keepPast : ByteArray := prog_1_method_38_code
def yX11_keepPast : MethodName := ⟨RX11, "keepPast", "()V"⟩
abbrev cX11_forgetPast : ByteArray := prog_1_method_39_code
def yX11_forgetPast : MethodName := ⟨RX11, "forgetPast", "()V"⟩
abbrev cX11_passOut : ByteArray := prog_1_method_40_code
def yX11_passOut : MethodName := ⟨RX11, "passOut", "(III)Z"⟩
abbrev cX11_passIn : ByteArray := prog_1_method_41_code
def yX11_passIn : MethodName := ⟨RX11, "passIn", "(III)Z"⟩
abbrev cX11_passSeat : ByteArray := prog_1_method_42_code
def yX11_passSeat : MethodName := ⟨RX11, "passSeat", "(III)Z"⟩
abbrev cX11_commonDivisor : ByteArray := prog_1_method_43_code
def yX11_commonDivisor : MethodName := ⟨RX11, "commonDivisor", "(JJ)J"⟩
def RX12 : String := "PastSleepModel"
def TX12 : u_T := fun k => match k with
  | 0 => ("PastSleepModel", "thrown", "I", false)
  | 1 => ("PastSleepModel", "taped", "I", false)
  | 2 => ("PastSleepModel", "tape", "[I", true)
  | 3 => ("PastSleepModel", "size", "I", false)
  | 4 => ("PastSleepModel", "place", "I", false)
  | 5 => ("PastSleepModel", "begin", "I", false)
  | 6 => ("PastSleepModel", "token", "I", false)
  | 7 => ("PastSleepModel", "word", "J", false)
  | 8 => ("PastSleepModel", "told", "I", false)
  | 9 => ("PastSleepModel", "wrong", "I", false)
  | 10 => ("PastSleepModel", "cabin", "[I", true)
  | 11 => ("PastSleepModel", "names", "[J", true)
  | 12 => ("PastSleepModel", "kind", "[I", true)
  | 13 => ("PastSleepModel", "seatOf", "[I", true)
  | 14 => ("PastSleepModel", "needs", "[I", true)
  | 15 => ("PastSleepModel", "limit", "[I", true)
  | 16 => ("PastSleepModel", "goes", "[I", true)
  | 17 => ("PastSleepModel", "depth", "[I", true)
  | 18 => ("PastSleepModel", "legs", "[I", true)
  | 19 => ("PastSleepModel", "sleepFrom", "[I", true)
  | 20 => ("PastSleepModel", "sleepTo", "[I", true)
  | 21 => ("PastSleepModel", "cups", "[I", true)
  | 22 => ("PastSleepModel", "shutFrom", "[I", true)
  | 23 => ("PastSleepModel", "shutTo", "[I", true)
  | 24 => ("PastSleepModel", "lineFrom", "[I", true)
  | 25 => ("PastSleepModel", "lineTo", "[I", true)
  | 26 => ("PastSleepModel", "codes", "[I", true)
  | 27 => ("PastSleepModel", "code", "I", false)
  | 28 => ("PastSleepModel", "told0", "I", false)
  | 29 => ("PastSleepModel", "lawLine", "I", false)
  | 30 => ("PastSleepModel", "opened", "[I", true)
  | 31 => ("PastSleepModel", "compared", "[Z", true)
  | 32 => ("PastSleepModel", "kept", "[I", true)
  | 33 => ("PastSleepModel", "keptBy", "[I", true)
  | 34 => ("PastSleepModel", "ahead", "[I", true)
  | 35 => ("PastSleepModel", "against", "[I", true)
  | 36 => ("PastSleepModel", "sum", "[I", true)
  | 37 => ("PastSleepModel", "sumBy", "[I", true)
  | 38 => ("PastSleepModel", "term", "[I", true)
  | 39 => ("PastSleepModel", "termBy", "[I", true)
  | 40 => ("PastSleepModel", "byNot", "[I", true)
  | 41 => ("PastSleepModel", "valueOf", "[I", true)
  | 42 => ("PastSleepModel", "given", "I", false)
  | 43 => ("PastSleepModel", "s", "[I", true)
  | 44 => ("PastSleepModel", "marked", "[I", true)
  | 45 => ("PastSleepModel", "undone", "[I", true)
  | 46 => ("PastSleepModel", "done", "I", false)
  | 47 => ("PastSleepModel", "askChance", "I", false)
  | 48 => ("PastSleepModel", "cleanChance", "I", false)
  | 49 => ("PastSleepModel", "paid", "I", false)
  | 50 => ("PastSleepModel", "least", "[I", true)
  | 51 => ("PastSleepModel", "isGoing", "[Z", true)
  | 52 => ("PastSleepModel", "paidAt", "[I", true)
  | 53 => ("PastSleepModel", "chanceAt", "[I", true)
  | 54 => ("PastSleepModel", "sits", "[I", true)
  | 55 => ("PastSleepModel", "atSeat", "[I", true)
  | 56 => ("PastSleepModel", "need", "[I", true)
  | 57 => ("PastSleepModel", "backAt", "[I", true)
  | 58 => ("PastSleepModel", "wokenAt", "[I", true)
  | 59 => ("PastSleepModel", "askedBy", "[I", true)
  | 60 => ("PastSleepModel", "wentOften", "[I", true)
  | 61 => ("PastSleepModel", "wokenOften", "[I", true)
  | 62 => ("PastSleepModel", "lateOften", "[I", true)
  | 63 => ("PastSleepModel", "wakings", "I", false)
  | 64 => ("PastSleepModel", "vains", "I", false)
  | 65 => ("PastSleepModel", "lates", "I", false)
  | 66 => ("PastSleepModel", "more", "I", false)
  | 67 => ("PastSleepModel", "isDrawn", "Z", false)
  | 68 => ("PastSleepModel", "g", "J", false)
  | 69 => ("PastSleepModel", "takenSeat", "[I", true)
  | 70 => ("PastSleepModel", "bestOrder", "[I", true)
  | 71 => ("PastSleepModel", "bestPence", "I", false)
  | 72 => ("PastSleepModel", "player", "[I", true)
  | 73 => ("PastSleepModel", "chosen", "[I", true)
  | 74 => ("PastSleepModel", "players", "I", false)
  | _ => ("PastSleepModel", "isLaid", "[Z", true)
def tyX12 : Nat → FieldType := fun k => match k with
  | 0 => .int
  | 1 => .int
  | 2 => .array .int
  | 3 => .int
  | 4 => .int
  | 5 => .int
  | 6 => .int
  | 7 => .long
  | 8 => .int
  | 9 => .int
  | 10 => .array .int
  | 11 => .array .long
  | 12 => .array .int
  | 13 => .array .int
  | 14 => .array .int
  | 15 => .array .int
  | 16 => .array .int
  | 17 => .array .int
  | 18 => .array .int
  | 19 => .array .int
  | 20 => .array .int
  | 21 => .array .int
  | 22 => .array .int
  | 23 => .array .int
  | 24 => .array .int
  | 25 => .array .int
  | 26 => .array .int
  | 27 => .int
  | 28 => .int
  | 29 => .int
  | 30 => .array .int
  | 31 => .array .boolean
  | 32 => .array .int
  | 33 => .array .int
  | 34 => .array .int
  | 35 => .array .int
  | 36 => .array .int
  | 37 => .array .int
  | 38 => .array .int
  | 39 => .array .int
  | 40 => .array .int
  | 41 => .array .int
  | 42 => .int
  | 43 => .array .int
  | 44 => .array .int
  | 45 => .array .int
  | 46 => .int
  | 47 => .int
  | 48 => .int
  | 49 => .int
  | 50 => .array .int
  | 51 => .array .boolean
  | 52 => .array .int
  | 53 => .array .int
  | 54 => .array .int
  | 55 => .array .int
  | 56 => .array .int
  | 57 => .array .int
  | 58 => .array .int
  | 59 => .array .int
  | 60 => .array .int
  | 61 => .array .int
  | 62 => .array .int
  | 63 => .int
  | 64 => .int
  | 65 => .int
  | 66 => .int
  | 67 => .boolean
  | 68 => .long
  | 69 => .array .int
  | 70 => .array .int
  | 71 => .int
  | 72 => .array .int
  | 73 => .array .int
  | 74 => .int
  | _ => .array .boolean
abbrev wsX120 : List Cond := u_ws RX12 TX12 76
theorem nmX12 : ∀ a, a < 76 → ∀ b, b < 76 → a ≠ b → (TX12 a).2.1 ≠ (TX12 b).2.1 := by decide +kernel
theorem tyX12_ok : ∀ k, k < 76 → parseFieldDescriptor (TX12 k).2.2.1 = some (tyX12 k) := by decide +kernel
abbrev cX12_init : ByteArray := prog_14_method_1_code
def yX12_init : MethodName := ⟨RX12, "<init>", "()V"⟩
abbrev cX12_thrown : ByteArray := prog_14_method_2_code
def yX12_thrown : MethodName := ⟨RX12, "thrown", "()I"⟩
abbrev cX12_within : ByteArray := prog_14_method_3_code
def yX12_within : MethodName := ⟨RX12, "within", "(III)Z"⟩
abbrev cX12_between : ByteArray := prog_14_method_4_code
def yX12_between : MethodName := ⟨RX12, "between", "(III)I"⟩
abbrev cX12_gcd : ByteArray := prog_14_method_5_code
def yX12_gcd : MethodName := ⟨RX12, "gcd", "(JJ)J"⟩
abbrev cX12_feed : ByteArray := prog_14_method_6_code
def yX12_feed : MethodName := ⟨RX12, "feed", "(JJJ)I"⟩
abbrev cX12_signAt : ByteArray := prog_14_method_7_code
def yX12_signAt : MethodName := ⟨RX12, "signAt", "(I)I"⟩
abbrev cX12_nextToken : ByteArray := prog_14_method_8_code
def yX12_nextToken : MethodName := ⟨RX12, "nextToken", "()V"⟩
abbrev cX12_isWord : ByteArray := prog_14_method_9_code
def yX12_isWord : MethodName := ⟨RX12, "isWord", "(J)Z"⟩
abbrev cX12_isSign : ByteArray := prog_14_method_10_code
def yX12_isSign : MethodName := ⟨RX12, "isSign", "(I)Z"⟩
abbrev cX12_fails : ByteArray := prog_14_method_11_code
def yX12_fails : MethodName := ⟨RX12, "fails", "(I)Z"⟩
abbrev cX12_plain : ByteArray := prog_14_method_12_code
def yX12_plain : MethodName := ⟨RX12, "plain", "(I)V"⟩
abbrev cX12_puts : ByteArray := prog_14_method_13_code
def yX12_puts : MethodName := ⟨RX12, "puts", "(I)V"⟩
abbrev cX12_fact : ByteArray := prog_14_method_14_code
def yX12_fact : MethodName := ⟨RX12, "fact", "()I"⟩
abbrev cX12_reads : ByteArray := prog_14_method_15_code
def yX12_reads : MethodName := ⟨RX12, "reads", "()Z"⟩
abbrev cX12_opens : ByteArray := prog_14_method_16_code
def yX12_opens : MethodName := ⟨RX12, "opens", "(I)V"⟩
abbrev cX12_sums : ByteArray := prog_14_method_17_code
def yX12_sums : MethodName := ⟨RX12, "sums", "(I)V"⟩
abbrev cX12_tests : ByteArray := prog_14_method_18_code
def yX12_tests : MethodName := ⟨RX12, "tests", "(I)V"⟩
abbrev cX12_worked : ByteArray := prog_14_method_19_code
def yX12_worked : MethodName := ⟨RX12, "worked", "(I)I"⟩
abbrev cX12_isKept : ByteArray := prog_14_method_20_code
def yX12_isKept : MethodName := ⟨RX12, "isKept", "()Z"⟩
abbrev cX12_needsNumber : ByteArray := prog_14_method_21_code
def yX12_needsNumber : MethodName := ⟨RX12, "needsNumber", "(II)Z"⟩
abbrev cX12_needsWord : ByteArray := prog_14_method_22_code
def yX12_needsWord : MethodName := ⟨RX12, "needsWord", "(J)Z"⟩
abbrev cX12_needsBoth : ByteArray := prog_14_method_23_code
def yX12_needsBoth : MethodName := ⟨RX12, "needsBoth", "(JII)Z"⟩
abbrev cX12_ends : ByteArray := prog_14_method_24_code
def yX12_ends : MethodName := ⟨RX12, "ends", "()Z"⟩
abbrev cX12_kindAt : ByteArray := prog_14_method_25_code
def yX12_kindAt : MethodName := ⟨RX12, "kindAt", "()I"⟩
abbrev cX12_isTaken : ByteArray := prog_14_method_26_code
def yX12_isTaken : MethodName := ⟨RX12, "isTaken", "(I)Z"⟩
abbrev cX12_readsSitter : ByteArray := prog_14_method_27_code
def yX12_readsSitter : MethodName := ⟨RX12, "readsSitter", "()Z"⟩
abbrev cX12_readsCup : ByteArray := prog_14_method_28_code
def yX12_readsCup : MethodName := ⟨RX12, "readsCup", "()Z"⟩
abbrev cX12_readsShut : ByteArray := prog_14_method_29_code
def yX12_readsShut : MethodName := ⟨RX12, "readsShut", "(I)Z"⟩
abbrev cX12_isTwice : ByteArray := prog_14_method_30_code
def yX12_isTwice : MethodName := ⟨RX12, "isTwice", "(I)Z"⟩
abbrev cX12_readsOne : ByteArray := prog_14_method_31_code
def yX12_readsOne : MethodName := ⟨RX12, "readsOne", "(III)Z"⟩
abbrev cX12_readsPrice : ByteArray := prog_14_method_32_code
def yX12_readsPrice : MethodName := ⟨RX12, "readsPrice", "()Z"⟩
abbrev cX12_readsLaw : ByteArray := prog_14_method_33_code
def yX12_readsLaw : MethodName := ⟨RX12, "readsLaw", "(I)Z"⟩
abbrev cX12_readsAll : ByteArray := prog_14_method_34_code
def yX12_readsAll : MethodName := ⟨RX12, "readsAll", "()Z"⟩
abbrev cX12_moves : ByteArray := prog_14_method_35_code
def yX12_moves : MethodName := ⟨RX12, "moves", "([IIII)V"⟩
abbrev cX12_lays : ByteArray := prog_14_method_36_code
def yX12_lays : MethodName := ⟨RX12, "lays", "(II)V"⟩
abbrev cX12_copies : ByteArray := prog_14_method_37_code
def yX12_copies : MethodName := ⟨RX12, "copies", "([II[II)V"⟩
abbrev cX12_cabin : ByteArray := prog_14_method_38_code
def yX12_cabin : MethodName := ⟨RX12, "cabin", "()I"⟩
abbrev cX12_isSitter : ByteArray := prog_14_method_39_code
def yX12_isSitter : MethodName := ⟨RX12, "isSitter", "(I)Z"⟩
abbrev cX12_growth : ByteArray := prog_14_method_40_code
def yX12_growth : MethodName := ⟨RX12, "growth", "(I)I"⟩
abbrev cX12_depthOf : ByteArray := prog_14_method_41_code
def yX12_depthOf : MethodName := ⟨RX12, "depthOf", "(I)I"⟩
abbrev cX12_legsOf : ByteArray := prog_14_method_42_code
def yX12_legsOf : MethodName := ⟨RX12, "legsOf", "(I)I"⟩
abbrev cX12_isAsleepAt : ByteArray := prog_14_method_43_code
def yX12_isAsleepAt : MethodName := ⟨RX12, "isAsleepAt", "(II)Z"⟩
abbrev cX12_isAsleep : ByteArray := prog_14_method_44_code
def yX12_isAsleep : MethodName := ⟨RX12, "isAsleep", "(I)Z"⟩
abbrev cX12_isShut : ByteArray := prog_14_method_45_code
def yX12_isShut : MethodName := ⟨RX12, "isShut", "(I)Z"⟩
abbrev cX12_facts : ByteArray := prog_14_method_46_code
def yX12_facts : MethodName := ⟨RX12, "facts", "(IIII)V"⟩
abbrev cX12_wakingBy : ByteArray := prog_14_method_47_code
def yX12_wakingBy : MethodName := ⟨RX12, "wakingBy", "(IIII)I"⟩
abbrev cX12_waking : ByteArray := prog_14_method_48_code
def yX12_waking : MethodName := ⟨RX12, "waking", "(II)I"⟩
abbrev cX12_spilling : ByteArray := prog_14_method_49_code
def yX12_spilling : MethodName := ⟨RX12, "spilling", "(III)I"⟩
abbrev cX12_queueAt : ByteArray := prog_14_method_50_code
def yX12_queueAt : MethodName := ⟨RX12, "queueAt", "(II)I"⟩
abbrev cX12_sitter : ByteArray := prog_14_method_51_code
def yX12_sitter : MethodName := ⟨RX12, "sitter", "(II)I"⟩
abbrev cX12_sitterOf : ByteArray := prog_14_method_52_code
def yX12_sitterOf : MethodName := ⟨RX12, "sitterOf", "(I)I"⟩
abbrev cX12_inSeat : ByteArray := prog_14_method_53_code
def yX12_inSeat : MethodName := ⟨RX12, "inSeat", "(I)I"⟩
abbrev cX12_seat : ByteArray := prog_14_method_54_code
def yX12_seat : MethodName := ⟨RX12, "seat", "(II)I"⟩
abbrev cX12_shut : ByteArray := prog_14_method_55_code
def yX12_shut : MethodName := ⟨RX12, "shut", "(I)I"⟩
abbrev cX12_keeps : ByteArray := prog_14_method_56_code
def yX12_keeps : MethodName := ⟨RX12, "keeps", "()V"⟩
abbrev cX12_power : ByteArray := prog_14_method_57_code
def yX12_power : MethodName := ⟨RX12, "power", "(II)I"⟩
abbrev cX12_digit : ByteArray := prog_14_method_58_code
def yX12_digit : MethodName := ⟨RX12, "digit", "(II)I"⟩
abbrev cX12_areWays : ByteArray := prog_14_method_59_code
def yX12_areWays : MethodName := ⟨RX12, "areWays", "(II)Z"⟩
abbrev cX12_wakes : ByteArray := prog_14_method_60_code
def yX12_wakes : MethodName := ⟨RX12, "wakes", "(I)V"⟩
abbrev cX12_comesBy : ByteArray := prog_14_method_61_code
def yX12_comesBy : MethodName := ⟨RX12, "comesBy", "(IIZ)Z"⟩
abbrev cX12_passesBy : ByteArray := prog_14_method_62_code
def yX12_passesBy : MethodName := ⟨RX12, "passesBy", "(IIIZ)Z"⟩
abbrev cX12_outNow : ByteArray := prog_14_method_63_code
def yX12_outNow : MethodName := ⟨RX12, "outNow", "()I"⟩
abbrev cX12_go : ByteArray := prog_14_method_64_code
def yX12_go : MethodName := ⟨RX12, "go", "(III)I"⟩
abbrev cX12_back : ByteArray := prog_14_method_65_code
def yX12_back : MethodName := ⟨RX12, "back", "(III)I"⟩
abbrev cX12_undo : ByteArray := prog_14_method_66_code
def yX12_undo : MethodName := ⟨RX12, "undo", "()Z"⟩
abbrev cX12_passes : ByteArray := prog_14_method_67_code
def yX12_passes : MethodName := ⟨RX12, "passes", "()V"⟩
abbrev cX12_ticks : ByteArray := prog_14_method_68_code
def yX12_ticks : MethodName := ⟨RX12, "ticks", "(I)I"⟩
abbrev cX12_needBehind : ByteArray := prog_14_method_69_code
def yX12_needBehind : MethodName := ⟨RX12, "needBehind", "(II)I"⟩
abbrev cX12_length : ByteArray := prog_14_method_70_code
def yX12_length : MethodName := ⟨RX12, "length", "(I)I"⟩
abbrev cX12_sleep : ByteArray := prog_14_method_71_code
def yX12_sleep : MethodName := ⟨RX12, "sleep", "(I)I"⟩
abbrev cX12_odds : ByteArray := prog_14_method_72_code
def yX12_odds : MethodName := ⟨RX12, "odds", "(II)I"⟩
abbrev cX12_weighs : ByteArray := prog_14_method_73_code
def yX12_weighs : MethodName := ⟨RX12, "weighs", "(III)V"⟩
abbrev cX12_costOf : ByteArray := prog_14_method_74_code
def yX12_costOf : MethodName := ⟨RX12, "costOf", "(III)I"⟩
abbrev cX12_isAble : ByteArray := prog_14_method_75_code
def yX12_isAble : MethodName := ⟨RX12, "isAble", "(I)Z"⟩
abbrev cX12_chance : ByteArray := prog_14_method_76_code
def yX12_chance : MethodName := ⟨RX12, "chance", "(IIZ)I"⟩
abbrev cX12_cost : ByteArray := prog_14_method_77_code
def yX12_cost : MethodName := ⟨RX12, "cost", "(II)I"⟩
abbrev cX12_bestWays : ByteArray := prog_14_method_78_code
def yX12_bestWays : MethodName := ⟨RX12, "bestWays", "(II)I"⟩
abbrev cX12_best : ByteArray := prog_14_method_79_code
def yX12_best : MethodName := ⟨RX12, "best", "(I)I"⟩
abbrev cX12_side : ByteArray := prog_14_method_80_code
def yX12_side : MethodName := ⟨RX12, "side", "(I)I"⟩
abbrev cX12_regimes : ByteArray := prog_14_method_81_code
def yX12_regimes : MethodName := ⟨RX12, "regimes", "(I)V"⟩
abbrev cX12_regime : ByteArray := prog_14_method_82_code
def yX12_regime : MethodName := ⟨RX12, "regime", "(II)I"⟩
abbrev cX12_asleepAhead : ByteArray := prog_14_method_83_code
def yX12_asleepAhead : MethodName := ⟨RX12, "asleepAhead", "(II)I"⟩
abbrev cX12_fewests : ByteArray := prog_14_method_84_code
def yX12_fewests : MethodName := ⟨RX12, "fewests", "(I)V"⟩
abbrev cX12_fewest : ByteArray := prog_14_method_85_code
def yX12_fewest : MethodName := ⟨RX12, "fewest", "(II)I"⟩
abbrev cX12_before : ByteArray := prog_14_method_86_code
def yX12_before : MethodName := ⟨RX12, "before", "(I)I"⟩
abbrev cX12_standing : ByteArray := prog_14_method_87_code
def yX12_standing : MethodName := ⟨RX12, "standing", "(I)I"⟩
abbrev cX12_draws : ByteArray := prog_14_method_88_code
def yX12_draws : MethodName := ⟨RX12, "draws", "(I)I"⟩
abbrev cX12_seatsAll : ByteArray := prog_14_method_89_code
def yX12_seatsAll : MethodName := ⟨RX12, "seatsAll", "()V"⟩
abbrev cX12_sleepsAt : ByteArray := prog_14_method_90_code
def yX12_sleepsAt : MethodName := ⟨RX12, "sleepsAt", "(II)Z"⟩
abbrev cX12_rouses : ByteArray := prog_14_method_91_code
def yX12_rouses : MethodName := ⟨RX12, "rouses", "(II)Z"⟩
abbrev cX12_rousesAll : ByteArray := prog_14_method_92_code
def yX12_rousesAll : MethodName := ⟨RX12, "rousesAll", "(IIZ)Z"⟩
abbrev cX12_outsNow : ByteArray := prog_14_method_93_code
def yX12_outsNow : MethodName := ⟨RX12, "outsNow", "()I"⟩
abbrev cX12_livesTick : ByteArray := prog_14_method_94_code
def yX12_livesTick : MethodName := ⟨RX12, "livesTick", "(I)V"⟩
abbrev cX12_livesFlight : ByteArray := prog_14_method_95_code
def yX12_livesFlight : MethodName := ⟨RX12, "livesFlight", "()V"⟩
abbrev cX12_pence : ByteArray := prog_14_method_96_code
def yX12_pence : MethodName := ⟨RX12, "pence", "()I"⟩
abbrev cX12_habits : ByteArray := prog_14_method_97_code
def yX12_habits : MethodName := ⟨RX12, "habits", "(II)I"⟩
abbrev cX12_orders : ByteArray := prog_14_method_98_code
def yX12_orders : MethodName := ⟨RX12, "orders", "(II)V"⟩
abbrev cX12_seated : ByteArray := prog_14_method_99_code
def yX12_seated : MethodName := ⟨RX12, "seated", "(I)I"⟩
abbrev cX12_ownPence : ByteArray := prog_14_method_100_code
def yX12_ownPence : MethodName := ⟨RX12, "ownPence", "(I)I"⟩
abbrev cX12_aisle : ByteArray := prog_14_method_101_code
def yX12_aisle : MethodName := ⟨RX12, "aisle", "(I)I"⟩
abbrev cX12_beer : ByteArray := prog_14_method_102_code
def yX12_beer : MethodName := ⟨RX12, "beer", "(I)I"⟩
abbrev cX12_paysBy : ByteArray := prog_14_method_103_code
def yX12_paysBy : MethodName := ⟨RX12, "paysBy", "(I)I"⟩
abbrev cX12_isRest : ByteArray := prog_14_method_104_code
def yX12_isRest : MethodName := ⟨RX12, "isRest", "()Z"⟩
abbrev cX12_rests : ByteArray := prog_14_method_105_code
def yX12_rests : MethodName := ⟨RX12, "rests", "(II)I"⟩
abbrev cX12_touch : ByteArray := prog_14_method_106_code
def yX12_touch : MethodName := ⟨RX12, "touch", "(IZ)Z"⟩
abbrev cX12_likely : ByteArray := prog_14_method_107_code
def yX12_likely : MethodName := ⟨RX12, "likely", "(II)J"⟩
abbrev cX12_truly : ByteArray := prog_14_method_108_code
def yX12_truly : MethodName := ⟨RX12, "truly", "(II)J"⟩
abbrev cX12_went : ByteArray := prog_14_method_109_code
def yX12_went : MethodName := ⟨RX12, "went", "(II)Z"⟩
abbrev cX12_isFit : ByteArray := prog_14_method_110_code
def yX12_isFit : MethodName := ⟨RX12, "isFit", "(III)Z"⟩
abbrev cX12_fits : ByteArray := prog_14_method_111_code
def yX12_fits : MethodName := ⟨RX12, "fits", "(II)I"⟩
abbrev cX12_flights : ByteArray := prog_14_method_112_code
def yX12_flights : MethodName := ⟨RX12, "flights", "(III)I"⟩
abbrev cX12_mark : ByteArray := prog_14_method_113_code
def yX12_mark : MethodName := ⟨RX12, "mark", "(IZ)Z"⟩
abbrev cX12_count : ByteArray := prog_14_method_114_code
def yX12_count : MethodName := ⟨RX12, "count", "(I)I"⟩
def RJx145de : String := "java/io/Serializable"
def TJx145de : u_T := fun k => match k with
  | _ => ("", "", "", false)
def tyJx145de : Nat → FieldType := fun k => match k with
  | _ => .int
abbrev wsJx145de0 : List Cond := u_ws RJx145de TJx145de 0
theorem nmJx145de : ∀ a, a < 0 → ∀ b, b < 0 → a ≠ b → (TJx145de a).2.1 ≠ (TJx145de b).2.1 := by decide +kernel
theorem tyJx145de_ok : ∀ k, k < 0 → parseFieldDescriptor (TJx145de k).2.2.1 = some (tyJx145de k) := by decide +kernel
def RJx9f9b0 : String := "java/lang/CharSequence"
def TJx9f9b0 : u_T := fun k => match k with
  | _ => ("", "", "", false)
def tyJx9f9b0 : Nat → FieldType := fun k => match k with
  | _ => .int
abbrev wsJx9f9b00 : List Cond := u_ws RJx9f9b0 TJx9f9b0 0
theorem nmJx9f9b0 : ∀ a, a < 0 → ∀ b, b < 0 → a ≠ b → (TJx9f9b0 a).2.1 ≠ (TJx9f9b0 b).2.1 := by decide +kernel
theorem tyJx9f9b0_ok : ∀ k, k < 0 → parseFieldDescriptor (TJx9f9b0 k).2.2.1 = some (tyJx9f9b0 k) := by decide +kernel
def RJxb160c : String := "java/lang/Comparable"
def TJxb160c : u_T := fun k => match k with
  | _ => ("", "", "", false)
def tyJxb160c : Nat → FieldType := fun k => match k with
  | _ => .int
abbrev wsJxb160c0 : List Cond := u_ws RJxb160c TJxb160c 0
theorem nmJxb160c : ∀ a, a < 0 → ∀ b, b < 0 → a ≠ b → (TJxb160c a).2.1 ≠ (TJxb160c b).2.1 := by decide +kernel
theorem tyJxb160c_ok : ∀ k, k < 0 → parseFieldDescriptor (TJxb160c k).2.2.1 = some (tyJxb160c k) := by decide +kernel
def RJ6 : String := "java/lang/Integer"
def TJ6 : u_T := fun k => match k with
  | _ => ("", "", "", false)
def tyJ6 : Nat → FieldType := fun k => match k with
  | _ => .int
abbrev wsJ60 : List Cond := u_ws RJ6 TJ6 0
theorem nmJ6 : ∀ a, a < 0 → ∀ b, b < 0 → a ≠ b → (TJ6 a).2.1 ≠ (TJ6 b).2.1 := by decide +kernel
theorem tyJ6_ok : ∀ k, k < 0 → parseFieldDescriptor (TJ6 k).2.2.1 = some (tyJ6 k) := by decide +kernel
abbrev cJ6_bitCount_0f7a4 : ByteArray := prog_19_method_49_code
def yJ6_bitCount_0f7a4 : MethodName := ⟨RJ6, "bitCount", "(I)I"⟩
def RJ9 : String := "java/lang/Math"
def TJ9 : u_T := fun k => match k with
  | _ => ("", "", "", false)
def tyJ9 : Nat → FieldType := fun k => match k with
  | _ => .int
abbrev wsJ90 : List Cond := u_ws RJ9 TJ9 0
theorem nmJ9 : ∀ a, a < 0 → ∀ b, b < 0 → a ≠ b → (TJ9 a).2.1 ≠ (TJ9 b).2.1 := by decide +kernel
theorem tyJ9_ok : ∀ k, k < 0 → parseFieldDescriptor (TJ9 k).2.2.1 = some (tyJ9 k) := by decide +kernel
abbrev cJ9_max_7cf53 : ByteArray := prog_20_method_65_code
def yJ9_max_7cf53 : MethodName := ⟨RJ9, "max", "(II)I"⟩
abbrev cJ9_min_7cf53 : ByteArray := prog_20_method_69_code
def yJ9_min_7cf53 : MethodName := ⟨RJ9, "min", "(II)I"⟩
abbrev cJ9_min_f86c9 : ByteArray := prog_20_method_70_code
def yJ9_min_f86c9 : MethodName := ⟨RJ9, "min", "(JJ)J"⟩
def RJ0 : String := "java/lang/String"
def TJ0 : u_T := fun k => match k with
  | _ => ("", "", "", false)
def tyJ0 : Nat → FieldType := fun k => match k with
  | _ => .int
abbrev wsJ00 : List Cond := u_ws RJ0 TJ0 0
theorem nmJ0 : ∀ a, a < 0 → ∀ b, b < 0 → a ≠ b → (TJ0 a).2.1 ≠ (TJ0 b).2.1 := by decide +kernel
theorem tyJ0_ok : ∀ k, k < 0 → parseFieldDescriptor (TJ0 k).2.2.1 = some (tyJ0 k) := by decide +kernel
abbrev cJ0_length_8abf5 : ByteArray := prog_22_method_54_code
def yJ0_length_8abf5 : MethodName := ⟨RJ0, "length", "()I"⟩
abbrev cJ0_charAt_5068e : ByteArray := prog_22_method_56_code
def yJ0_charAt_5068e : MethodName := ⟨RJ0, "charAt", "(I)C"⟩
abbrev cJ0_coder_7d493 : ByteArray := prog_22_method_152_code
def yJ0_coder_7d493 : MethodName := ⟨RJ0, "coder", "()B"⟩
abbrev cJ0_isLatin1_aae02 : ByteArray := prog_22_method_154_code
def yJ0_isLatin1_aae02 : MethodName := ⟨RJ0, "isLatin1", "()Z"⟩
abbrev cJ0_checkIndex_df160 : ByteArray := prog_22_method_155_code
def yJ0_checkIndex_df160 : MethodName := ⟨RJ0, "checkIndex", "(II)V"⟩
def RJ1 : String := "java/lang/StringLatin1"
def TJ1 : u_T := fun k => match k with
  | _ => ("", "", "", false)
def tyJ1 : Nat → FieldType := fun k => match k with
  | _ => .int
abbrev wsJ10 : List Cond := u_ws RJ1 TJ1 0
theorem nmJ1 : ∀ a, a < 0 → ∀ b, b < 0 → a ≠ b → (TJ1 a).2.1 ≠ (TJ1 b).2.1 := by decide +kernel
theorem tyJ1_ok : ∀ k, k < 0 → parseFieldDescriptor (TJ1 k).2.2.1 = some (tyJ1 k) := by decide +kernel
abbrev cJ1_charAt_3b067 : ByteArray := prog_23_method_2_code
def yJ1_charAt_3b067 : MethodName := ⟨RJ1, "charAt", "([BI)C"⟩
def RJ2 : String := "java/lang/StringUTF16"
def TJ2 : u_T := fun k => match k with
  | _ => ("", "", "", false)
def tyJ2 : Nat → FieldType := fun k => match k with
  | _ => .int
abbrev wsJ20 : List Cond := u_ws RJ2 TJ2 0
theorem nmJ2 : ∀ a, a < 0 → ∀ b, b < 0 → a ≠ b → (TJ2 a).2.1 ≠ (TJ2 b).2.1 := by decide +kernel
theorem tyJ2_ok : ∀ k, k < 0 → parseFieldDescriptor (TJ2 k).2.2.1 = some (tyJ2 k) := by decide +kernel
abbrev cJ2_getChar_3b067 : ByteArray := prog_24_method_5_code
def yJ2_getChar_3b067 : MethodName := ⟨RJ2, "getChar", "([BI)C"⟩
abbrev cJ2_length_9d52b : ByteArray := prog_24_method_6_code
def yJ2_length_9d52b : MethodName := ⟨RJ2, "length", "([B)I"⟩
abbrev cJ2_charAt_3b067 : ByteArray := prog_24_method_83_code
def yJ2_charAt_3b067 : MethodName := ⟨RJ2, "charAt", "([BI)C"⟩
abbrev cJ2_checkIndex_2214a : ByteArray := prog_24_method_91_code
def yJ2_checkIndex_2214a : MethodName := ⟨RJ2, "checkIndex", "(I[B)V"⟩
def RJ10 : String := "java/lang/System"
def TJ10 : u_T := fun k => match k with
  | _ => ("", "", "", false)
def tyJ10 : Nat → FieldType := fun k => match k with
  | _ => .int
abbrev wsJ100 : List Cond := u_ws RJ10 TJ10 0
theorem nmJ10 : ∀ a, a < 0 → ∀ b, b < 0 → a ≠ b → (TJ10 a).2.1 ≠ (TJ10 b).2.1 := by decide +kernel
theorem tyJ10_ok : ∀ k, k < 0 → parseFieldDescriptor (TJ10 k).2.2.1 = some (tyJ10 k) := by decide +kernel
def RJxfd54e : String := "java/lang/constant/Constable"
def TJxfd54e : u_T := fun k => match k with
  | _ => ("", "", "", false)
def tyJxfd54e : Nat → FieldType := fun k => match k with
  | _ => .int
abbrev wsJxfd54e0 : List Cond := u_ws RJxfd54e TJxfd54e 0
theorem nmJxfd54e : ∀ a, a < 0 → ∀ b, b < 0 → a ≠ b → (TJxfd54e a).2.1 ≠ (TJxfd54e b).2.1 := by decide +kernel
theorem tyJxfd54e_ok : ∀ k, k < 0 → parseFieldDescriptor (TJxfd54e k).2.2.1 = some (tyJxfd54e k) := by decide +kernel
def RJx3cf43 : String := "java/lang/constant/ConstantDesc"
def TJx3cf43 : u_T := fun k => match k with
  | _ => ("", "", "", false)
def tyJx3cf43 : Nat → FieldType := fun k => match k with
  | _ => .int
abbrev wsJx3cf430 : List Cond := u_ws RJx3cf43 TJx3cf43 0
theorem nmJx3cf43 : ∀ a, a < 0 → ∀ b, b < 0 → a ≠ b → (TJx3cf43 a).2.1 ≠ (TJx3cf43 b).2.1 := by decide +kernel
theorem tyJx3cf43_ok : ∀ k, k < 0 → parseFieldDescriptor (TJx3cf43 k).2.2.1 = some (tyJx3cf43 k) := by decide +kernel
def RJ7 : String := "java/util/Arrays"
def TJ7 : u_T := fun k => match k with
  | _ => ("", "", "", false)
def tyJ7 : Nat → FieldType := fun k => match k with
  | _ => .int
abbrev wsJ70 : List Cond := u_ws RJ7 TJ7 0
theorem nmJ7 : ∀ a, a < 0 → ∀ b, b < 0 → a ≠ b → (TJ7 a).2.1 ≠ (TJ7 b).2.1 := by decide +kernel
theorem tyJ7_ok : ∀ k, k < 0 → parseFieldDescriptor (TJ7 k).2.2.1 = some (tyJ7 k) := by decide +kernel
abbrev cJ7_fill_53178 : ByteArray := prog_29_method_103_code
def yJ7_fill_53178 : MethodName := ⟨RJ7, "fill", "([II)V"⟩
def RJ3 : String := "jdk/internal/util/Preconditions"
def TJ3 : u_T := fun k => match k with
  | _ => ("", "", "", false)
def tyJ3 : Nat → FieldType := fun k => match k with
  | _ => .int
abbrev wsJ30 : List Cond := u_ws RJ3 TJ3 0
theorem nmJ3 : ∀ a, a < 0 → ∀ b, b < 0 → a ≠ b → (TJ3 a).2.1 ≠ (TJ3 b).2.1 := by decide +kernel
theorem tyJ3_ok : ∀ k, k < 0 → parseFieldDescriptor (TJ3 k).2.2.1 = some (tyJ3 k) := by decide +kernel
abbrev cJ3_checkIndex_8e157 : ByteArray := prog_31_method_11_code
def yJ3_checkIndex_8e157 : MethodName := ⟨RJ3, "checkIndex", "(IILjava/util/function/BiFunction;)I"⟩
def RL : String := "PastSleepLaw"
abbrev cL_aisle : ByteArray := method_3_code
def yL_aisle : MethodName := ⟨RL, "aisle", "(LPastSleep;I[J)I"⟩
abbrev cL_beer : ByteArray := method_4_code
def yL_beer : MethodName := ⟨RL, "beer", "(LPastSleep;I[J)I"⟩
abbrev cL_law : ByteArray := code
def yL_law : MethodName := ⟨RL, "law", "([I)Z"⟩
abbrev vwCl : List vw_C := [(RX0, TX0, 6), (RX1, TX1, 11), (RX2, TX2, 13), (RX3, TX3, 7), (RX4, TX4, 8), (RX5, TX5, 5), (RX6, TX6, 4), (RX7, TX7, 9), (RX8, TX8, 12), (RX9, TX9, 4), (RX10, TX10, 7), (RX11, TX11, 17), (RX12, TX12, 76)]
