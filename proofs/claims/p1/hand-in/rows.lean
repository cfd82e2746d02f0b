section
/-- a private method of a class that the tables say can be made, by its rows of tables_1 -/
def lw_okq (q : MethodName × Nat) : Prop := (q.1.cls ≠ "java/lang/invoke/MethodHandle" ∧ q.1.cls ≠ "java/lang/invoke/VarHandle") ∧ Cond.instantiable q.1.cls q.2 ∈ tables_1 ∧ Cond.privateMethod q.1 ∈ tables_1 ∧ Cond.instanceMethod q.1 ∈ tables_1
theorem lw_p0 : lw_okq (⟨"BeggarHeaps$Reader", "begin", "()V"⟩, 8) := ⟨⟨by decide +kernel, by decide +kernel⟩, List.mem_of_getElem? (i := 233) (by decide +kernel), List.mem_of_getElem? (i := 722) (by decide +kernel), List.mem_of_getElem? (i := 723) (by decide +kernel)⟩
theorem lw_p1 : lw_okq (⟨"BeggarHeaps$Tape", "readWord", "()V"⟩, 10) := ⟨⟨by decide +kernel, by decide +kernel⟩, List.mem_of_getElem? (i := 33) (by decide +kernel), List.mem_of_getElem? (i := 734) (by decide +kernel), List.mem_of_getElem? (i := 735) (by decide +kernel)⟩
theorem lw_p2 : lw_okq (⟨"BeggarHeaps$Tape", "readNumber", "()V"⟩, 10) := ⟨⟨by decide +kernel, by decide +kernel⟩, List.mem_of_getElem? (i := 33) (by decide +kernel), List.mem_of_getElem? (i := 738) (by decide +kernel), List.mem_of_getElem? (i := 739) (by decide +kernel)⟩
theorem lw_p3 : lw_okq (⟨"BeggarHeaps$Reader", "readTableLine", "()Z"⟩, 8) := ⟨⟨by decide +kernel, by decide +kernel⟩, List.mem_of_getElem? (i := 233) (by decide +kernel), List.mem_of_getElem? (i := 745) (by decide +kernel), List.mem_of_getElem? (i := 746) (by decide +kernel)⟩
theorem lw_p4 : lw_okq (⟨"BeggarHeaps$Reader", "readKind", "()Z"⟩, 8) := ⟨⟨by decide +kernel, by decide +kernel⟩, List.mem_of_getElem? (i := 233) (by decide +kernel), List.mem_of_getElem? (i := 749) (by decide +kernel), List.mem_of_getElem? (i := 750) (by decide +kernel)⟩
theorem lw_p5 : lw_okq (⟨"BeggarHeaps$Reader", "wrong", "(I)Z"⟩, 8) := ⟨⟨by decide +kernel, by decide +kernel⟩, List.mem_of_getElem? (i := 233) (by decide +kernel), List.mem_of_getElem? (i := 753) (by decide +kernel), List.mem_of_getElem? (i := 754) (by decide +kernel)⟩
theorem lw_p6 : lw_okq (⟨"BeggarHeaps$Reader", "takeWord", "(I)Z"⟩, 8) := ⟨⟨by decide +kernel, by decide +kernel⟩, List.mem_of_getElem? (i := 233) (by decide +kernel), List.mem_of_getElem? (i := 766) (by decide +kernel), List.mem_of_getElem? (i := 767) (by decide +kernel)⟩
theorem lw_p7 : lw_okq (⟨"BeggarHeaps$Reader", "isNumberFrom", "(II)Z"⟩, 8) := ⟨⟨by decide +kernel, by decide +kernel⟩, List.mem_of_getElem? (i := 233) (by decide +kernel), List.mem_of_getElem? (i := 770) (by decide +kernel), List.mem_of_getElem? (i := 771) (by decide +kernel)⟩
theorem lw_p8 : lw_okq (⟨"BeggarHeaps$Reader", "takeSign", "(I)Z"⟩, 8) := ⟨⟨by decide +kernel, by decide +kernel⟩, List.mem_of_getElem? (i := 233) (by decide +kernel), List.mem_of_getElem? (i := 778) (by decide +kernel), List.mem_of_getElem? (i := 779) (by decide +kernel)⟩
theorem lw_p9 : lw_okq (⟨"BeggarHeaps$Reader", "readPack", "()Z"⟩, 8) := ⟨⟨by decide +kernel, by decide +kernel⟩, List.mem_of_getElem? (i := 233) (by decide +kernel), List.mem_of_getElem? (i := 786) (by decide +kernel), List.mem_of_getElem? (i := 787) (by decide +kernel)⟩
theorem lw_p10 : lw_okq (⟨"BeggarHeaps$Reader", "readLay", "()Z"⟩, 8) := ⟨⟨by decide +kernel, by decide +kernel⟩, List.mem_of_getElem? (i := 233) (by decide +kernel), List.mem_of_getElem? (i := 793) (by decide +kernel), List.mem_of_getElem? (i := 794) (by decide +kernel)⟩
theorem lw_p11 : lw_okq (⟨"BeggarHeaps$Reader", "readFirst", "()Z"⟩, 8) := ⟨⟨by decide +kernel, by decide +kernel⟩, List.mem_of_getElem? (i := 233) (by decide +kernel), List.mem_of_getElem? (i := 797) (by decide +kernel), List.mem_of_getElem? (i := 798) (by decide +kernel)⟩
theorem lw_p12 : lw_okq (⟨"BeggarHeaps$Reader", "readBet", "()Z"⟩, 8) := ⟨⟨by decide +kernel, by decide +kernel⟩, List.mem_of_getElem? (i := 233) (by decide +kernel), List.mem_of_getElem? (i := 801) (by decide +kernel), List.mem_of_getElem? (i := 802) (by decide +kernel)⟩
theorem lw_p13 : lw_okq (⟨"BeggarHeaps$Reader", "readE", "(I)Z"⟩, 8) := ⟨⟨by decide +kernel, by decide +kernel⟩, List.mem_of_getElem? (i := 233) (by decide +kernel), List.mem_of_getElem? (i := 805) (by decide +kernel), List.mem_of_getElem? (i := 806) (by decide +kernel)⟩
theorem lw_p14 : lw_okq (⟨"BeggarHeaps$Reader", "readTest", "(I)Z"⟩, 8) := ⟨⟨by decide +kernel, by decide +kernel⟩, List.mem_of_getElem? (i := 233) (by decide +kernel), List.mem_of_getElem? (i := 809) (by decide +kernel), List.mem_of_getElem? (i := 810) (by decide +kernel)⟩
theorem lw_p15 : lw_okq (⟨"BeggarHeaps$Reader", "readSum", "(I)Z"⟩, 8) := ⟨⟨by decide +kernel, by decide +kernel⟩, List.mem_of_getElem? (i := 233) (by decide +kernel), List.mem_of_getElem? (i := 813) (by decide +kernel), List.mem_of_getElem? (i := 814) (by decide +kernel)⟩
def lw_privs_1 : List (MethodName × Nat) := [(⟨"BeggarHeaps$Reader", "begin", "()V"⟩, 8), (⟨"BeggarHeaps$Tape", "readWord", "()V"⟩, 10), (⟨"BeggarHeaps$Tape", "readNumber", "()V"⟩, 10), (⟨"BeggarHeaps$Reader", "readTableLine", "()Z"⟩, 8), (⟨"BeggarHeaps$Reader", "readKind", "()Z"⟩, 8), (⟨"BeggarHeaps$Reader", "wrong", "(I)Z"⟩, 8), (⟨"BeggarHeaps$Reader", "takeWord", "(I)Z"⟩, 8), (⟨"BeggarHeaps$Reader", "isNumberFrom", "(II)Z"⟩, 8), (⟨"BeggarHeaps$Reader", "takeSign", "(I)Z"⟩, 8), (⟨"BeggarHeaps$Reader", "readPack", "()Z"⟩, 8), (⟨"BeggarHeaps$Reader", "readLay", "()Z"⟩, 8), (⟨"BeggarHeaps$Reader", "readFirst", "()Z"⟩, 8), (⟨"BeggarHeaps$Reader", "readBet", "()Z"⟩, 8), (⟨"BeggarHeaps$Reader", "readE", "(I)Z"⟩, 8), (⟨"BeggarHeaps$Reader", "readTest", "(I)Z"⟩, 8), (⟨"BeggarHeaps$Reader", "readSum", "(I)Z"⟩, 8)]
theorem lw_r1 : ∀ q ∈ lw_privs_1, lw_okq q := List.forall_mem_cons.mpr ⟨lw_p0, List.forall_mem_cons.mpr ⟨lw_p1, List.forall_mem_cons.mpr ⟨lw_p2, List.forall_mem_cons.mpr ⟨lw_p3, List.forall_mem_cons.mpr ⟨lw_p4, List.forall_mem_cons.mpr ⟨lw_p5, List.forall_mem_cons.mpr ⟨lw_p6, List.forall_mem_cons.mpr ⟨lw_p7, List.forall_mem_cons.mpr ⟨lw_p8, List.forall_mem_cons.mpr ⟨lw_p9, List.forall_mem_cons.mpr ⟨lw_p10, List.forall_mem_cons.mpr ⟨lw_p11, List.forall_mem_cons.mpr ⟨lw_p12, List.forall_mem_cons.mpr ⟨lw_p13, List.forall_mem_cons.mpr ⟨lw_p14, List.forall_mem_cons.mpr ⟨lw_p15, fun _ h => absurd h List.not_mem_nil⟩⟩⟩⟩⟩⟩⟩⟩⟩⟩⟩⟩⟩⟩⟩⟩
theorem lw_p16 : lw_okq (⟨"BeggarHeaps$Reader", "readProduct", "(I)Z"⟩, 8) := ⟨⟨by decide +kernel, by decide +kernel⟩, List.mem_of_getElem? (i := 233) (by decide +kernel), List.mem_of_getElem? (i := 817) (by decide +kernel), List.mem_of_getElem? (i := 818) (by decide +kernel)⟩
theorem lw_p17 : lw_okq (⟨"BeggarHeaps$Reader", "readPart", "(I)Z"⟩, 8) := ⟨⟨by decide +kernel, by decide +kernel⟩, List.mem_of_getElem? (i := 233) (by decide +kernel), List.mem_of_getElem? (i := 821) (by decide +kernel), List.mem_of_getElem? (i := 822) (by decide +kernel)⟩
theorem lw_p18 : lw_okq (⟨"BeggarHeaps$Reader", "readLimit", "()Z"⟩, 8) := ⟨⟨by decide +kernel, by decide +kernel⟩, List.mem_of_getElem? (i := 233) (by decide +kernel), List.mem_of_getElem? (i := 829) (by decide +kernel), List.mem_of_getElem? (i := 830) (by decide +kernel)⟩
theorem lw_p19 : lw_okq (⟨"BeggarHeaps$Reader", "finish", "()I"⟩, 8) := ⟨⟨by decide +kernel, by decide +kernel⟩, List.mem_of_getElem? (i := 233) (by decide +kernel), List.mem_of_getElem? (i := 833) (by decide +kernel), List.mem_of_getElem? (i := 834) (by decide +kernel)⟩
theorem lw_p20 : lw_okq (⟨"BeggarHeaps", "gameBegan", "()V"⟩, 19) := ⟨⟨by decide +kernel, by decide +kernel⟩, List.mem_of_getElem? (i := 25) (by decide +kernel), List.mem_of_getElem? (i := 849) (by decide +kernel), List.mem_of_getElem? (i := 850) (by decide +kernel)⟩
theorem lw_p21 : lw_okq (⟨"BeggarHeaps", "gameChanged", "()V"⟩, 19) := ⟨⟨by decide +kernel, by decide +kernel⟩, List.mem_of_getElem? (i := 25) (by decide +kernel), List.mem_of_getElem? (i := 853) (by decide +kernel), List.mem_of_getElem? (i := 854) (by decide +kernel)⟩
theorem lw_p22 : lw_okq (⟨"BeggarHeaps$Reader", "readDealLine", "()Z"⟩, 8) := ⟨⟨by decide +kernel, by decide +kernel⟩, List.mem_of_getElem? (i := 233) (by decide +kernel), List.mem_of_getElem? (i := 869) (by decide +kernel), List.mem_of_getElem? (i := 870) (by decide +kernel)⟩
theorem lw_p23 : lw_okq (⟨"BeggarHeaps$Reader", "readRow", "(II)Z"⟩, 8) := ⟨⟨by decide +kernel, by decide +kernel⟩, List.mem_of_getElem? (i := 233) (by decide +kernel), List.mem_of_getElem? (i := 873) (by decide +kernel), List.mem_of_getElem? (i := 874) (by decide +kernel)⟩
theorem lw_p24 : lw_okq (⟨"BeggarHeaps$Reader", "addCards", "(III)Z"⟩, 8) := ⟨⟨by decide +kernel, by decide +kernel⟩, List.mem_of_getElem? (i := 233) (by decide +kernel), List.mem_of_getElem? (i := 877) (by decide +kernel), List.mem_of_getElem? (i := 878) (by decide +kernel)⟩
theorem lw_p25 : lw_okq (⟨"BeggarHeaps$Reader", "closeUp", "()V"⟩, 8) := ⟨⟨by decide +kernel, by decide +kernel⟩, List.mem_of_getElem? (i := 233) (by decide +kernel), List.mem_of_getElem? (i := 881) (by decide +kernel), List.mem_of_getElem? (i := 882) (by decide +kernel)⟩
theorem lw_p26 : lw_okq (⟨"BeggarHeaps$Reader", "readOpening", "()Z"⟩, 8) := ⟨⟨by decide +kernel, by decide +kernel⟩, List.mem_of_getElem? (i := 233) (by decide +kernel), List.mem_of_getElem? (i := 900) (by decide +kernel), List.mem_of_getElem? (i := 901) (by decide +kernel)⟩
theorem lw_p27 : lw_okq (⟨"BeggarHeaps", "remember", "()V"⟩, 19) := ⟨⟨by decide +kernel, by decide +kernel⟩, List.mem_of_getElem? (i := 25) (by decide +kernel), List.mem_of_getElem? (i := 952) (by decide +kernel), List.mem_of_getElem? (i := 953) (by decide +kernel)⟩
theorem lw_p28 : lw_okq (⟨"BeggarHeaps$Play", "copyRow", "(LBeggarHeaps$Play;I)V"⟩, 15) := ⟨⟨by decide +kernel, by decide +kernel⟩, List.mem_of_getElem? (i := 272) (by decide +kernel), List.mem_of_getElem? (i := 964) (by decide +kernel), List.mem_of_getElem? (i := 965) (by decide +kernel)⟩
theorem lw_p29 : lw_okq (⟨"BeggarHeaps$Game", "payBets", "()V"⟩, 16) := ⟨⟨by decide +kernel, by decide +kernel⟩, List.mem_of_getElem? (i := 266) (by decide +kernel), List.mem_of_getElem? (i := 992) (by decide +kernel), List.mem_of_getElem? (i := 993) (by decide +kernel)⟩
theorem lw_p30 : lw_okq (⟨"BeggarHeaps$Game", "takeHeap", "(I)V"⟩, 16) := ⟨⟨by decide +kernel, by decide +kernel⟩, List.mem_of_getElem? (i := 266) (by decide +kernel), List.mem_of_getElem? (i := 996) (by decide +kernel), List.mem_of_getElem? (i := 997) (by decide +kernel)⟩
theorem lw_p31 : lw_okq (⟨"BeggarHeaps$Play", "pick", "([IIIII)I"⟩, 15) := ⟨⟨by decide +kernel, by decide +kernel⟩, List.mem_of_getElem? (i := 272) (by decide +kernel), List.mem_of_getElem? (i := 1016) (by decide +kernel), List.mem_of_getElem? (i := 1017) (by decide +kernel)⟩
def lw_privs_2 : List (MethodName × Nat) := [(⟨"BeggarHeaps$Reader", "readProduct", "(I)Z"⟩, 8), (⟨"BeggarHeaps$Reader", "readPart", "(I)Z"⟩, 8), (⟨"BeggarHeaps$Reader", "readLimit", "()Z"⟩, 8), (⟨"BeggarHeaps$Reader", "finish", "()I"⟩, 8), (⟨"BeggarHeaps", "gameBegan", "()V"⟩, 19), (⟨"BeggarHeaps", "gameChanged", "()V"⟩, 19), (⟨"BeggarHeaps$Reader", "readDealLine", "()Z"⟩, 8), (⟨"BeggarHeaps$Reader", "readRow", "(II)Z"⟩, 8), (⟨"BeggarHeaps$Reader", "addCards", "(III)Z"⟩, 8), (⟨"BeggarHeaps$Reader", "closeUp", "()V"⟩, 8), (⟨"BeggarHeaps$Reader", "readOpening", "()Z"⟩, 8), (⟨"BeggarHeaps", "remember", "()V"⟩, 19), (⟨"BeggarHeaps$Play", "copyRow", "(LBeggarHeaps$Play;I)V"⟩, 15), (⟨"BeggarHeaps$Game", "payBets", "()V"⟩, 16), (⟨"BeggarHeaps$Game", "takeHeap", "(I)V"⟩, 16), (⟨"BeggarHeaps$Play", "pick", "([IIIII)I"⟩, 15)]
theorem lw_r2 : ∀ q ∈ lw_privs_2, lw_okq q := List.forall_mem_cons.mpr ⟨lw_p16, List.forall_mem_cons.mpr ⟨lw_p17, List.forall_mem_cons.mpr ⟨lw_p18, List.forall_mem_cons.mpr ⟨lw_p19, List.forall_mem_cons.mpr ⟨lw_p20, List.forall_mem_cons.mpr ⟨lw_p21, List.forall_mem_cons.mpr ⟨lw_p22, List.forall_mem_cons.mpr ⟨lw_p23, List.forall_mem_cons.mpr ⟨lw_p24, List.forall_mem_cons.mpr ⟨lw_p25, List.forall_mem_cons.mpr ⟨lw_p26, List.forall_mem_cons.mpr ⟨lw_p27, List.forall_mem_cons.mpr ⟨lw_p28, List.forall_mem_cons.mpr ⟨lw_p29, List.forall_mem_cons.mpr ⟨lw_p30, List.forall_mem_cons.mpr ⟨lw_p31, fun _ h => absurd h List.not_mem_nil⟩⟩⟩⟩⟩⟩⟩⟩⟩⟩⟩⟩⟩⟩⟩⟩
theorem lw_p32 : lw_okq (⟨"BeggarHeaps$Ending", "forgetStates", "()V"⟩, 12) := ⟨⟨by decide +kernel, by decide +kernel⟩, List.mem_of_getElem? (i := 440) (by decide +kernel), List.mem_of_getElem? (i := 1055) (by decide +kernel), List.mem_of_getElem? (i := 1056) (by decide +kernel)⟩
theorem lw_p33 : lw_okq (⟨"BeggarHeaps$Ending", "noteState", "(II)I"⟩, 12) := ⟨⟨by decide +kernel, by decide +kernel⟩, List.mem_of_getElem? (i := 440) (by decide +kernel), List.mem_of_getElem? (i := 1059) (by decide +kernel), List.mem_of_getElem? (i := 1060) (by decide +kernel)⟩
theorem lw_p34 : lw_okq (⟨"BeggarHeaps$Ending", "makeKey", "()V"⟩, 12) := ⟨⟨by decide +kernel, by decide +kernel⟩, List.mem_of_getElem? (i := 440) (by decide +kernel), List.mem_of_getElem? (i := 1063) (by decide +kernel), List.mem_of_getElem? (i := 1064) (by decide +kernel)⟩
theorem lw_p35 : lw_okq (⟨"BeggarHeaps$Ending", "addToKey", "(II)V"⟩, 12) := ⟨⟨by decide +kernel, by decide +kernel⟩, List.mem_of_getElem? (i := 440) (by decide +kernel), List.mem_of_getElem? (i := 1068) (by decide +kernel), List.mem_of_getElem? (i := 1069) (by decide +kernel)⟩
theorem lw_p36 : lw_okq (⟨"BeggarHeaps$Ending", "hashOfKey", "()I"⟩, 12) := ⟨⟨by decide +kernel, by decide +kernel⟩, List.mem_of_getElem? (i := 440) (by decide +kernel), List.mem_of_getElem? (i := 1072) (by decide +kernel), List.mem_of_getElem? (i := 1073) (by decide +kernel)⟩
theorem lw_p37 : lw_okq (⟨"BeggarHeaps$Ending", "addState", "(III)V"⟩, 12) := ⟨⟨by decide +kernel, by decide +kernel⟩, List.mem_of_getElem? (i := 440) (by decide +kernel), List.mem_of_getElem? (i := 1079) (by decide +kernel), List.mem_of_getElem? (i := 1080) (by decide +kernel)⟩
theorem lw_p38 : lw_okq (⟨"BeggarHeaps$Ending", "isKey", "(I)Z"⟩, 12) := ⟨⟨by decide +kernel, by decide +kernel⟩, List.mem_of_getElem? (i := 440) (by decide +kernel), List.mem_of_getElem? (i := 1083) (by decide +kernel), List.mem_of_getElem? (i := 1084) (by decide +kernel)⟩
theorem lw_p39 : lw_okq (⟨"BeggarHeaps$Ending", "answer", "(IIII)V"⟩, 12) := ⟨⟨by decide +kernel, by decide +kernel⟩, List.mem_of_getElem? (i := 440) (by decide +kernel), List.mem_of_getElem? (i := 1088) (by decide +kernel), List.mem_of_getElem? (i := 1089) (by decide +kernel)⟩
theorem lw_p40 : lw_okq (⟨"BeggarHeaps$Study", "playRow", "(LBeggarHeaps$Table;I[I)V"⟩, 18) := ⟨⟨by decide +kernel, by decide +kernel⟩, List.mem_of_getElem? (i := 495) (by decide +kernel), List.mem_of_getElem? (i := 1117) (by decide +kernel), List.mem_of_getElem? (i := 1118) (by decide +kernel)⟩
theorem lw_p41 : lw_okq (⟨"BeggarHeaps$Study", "layOut", "(I[I)V"⟩, 18) := ⟨⟨by decide +kernel, by decide +kernel⟩, List.mem_of_getElem? (i := 495) (by decide +kernel), List.mem_of_getElem? (i := 1121) (by decide +kernel), List.mem_of_getElem? (i := 1122) (by decide +kernel)⟩
theorem lw_p42 : lw_okq (⟨"BeggarHeaps$Study", "tellAll", "(I)V"⟩, 18) := ⟨⟨by decide +kernel, by decide +kernel⟩, List.mem_of_getElem? (i := 495) (by decide +kernel), List.mem_of_getElem? (i := 1131) (by decide +kernel), List.mem_of_getElem? (i := 1132) (by decide +kernel)⟩
theorem lw_p43 : lw_okq (⟨"BeggarHeaps$Study", "tellWorth", "()V"⟩, 18) := ⟨⟨by decide +kernel, by decide +kernel⟩, List.mem_of_getElem? (i := 495) (by decide +kernel), List.mem_of_getElem? (i := 1135) (by decide +kernel), List.mem_of_getElem? (i := 1136) (by decide +kernel)⟩
theorem lw_p44 : lw_okq (⟨"BeggarHeaps$Rows", "swap", "(II)V"⟩, 4) := ⟨⟨by decide +kernel, by decide +kernel⟩, List.mem_of_getElem? (i := 416) (by decide +kernel), List.mem_of_getElem? (i := 1143) (by decide +kernel), List.mem_of_getElem? (i := 1144) (by decide +kernel)⟩
theorem lw_p45 : lw_okq (⟨"BeggarHeaps$Study", "tellLeads", "(LBeggarHeaps$Table;I)V"⟩, 18) := ⟨⟨by decide +kernel, by decide +kernel⟩, List.mem_of_getElem? (i := 495) (by decide +kernel), List.mem_of_getElem? (i := 1177) (by decide +kernel), List.mem_of_getElem? (i := 1178) (by decide +kernel)⟩
theorem lw_p46 : lw_okq (⟨"BeggarHeaps$Study", "tellLead", "(III)V"⟩, 18) := ⟨⟨by decide +kernel, by decide +kernel⟩, List.mem_of_getElem? (i := 495) (by decide +kernel), List.mem_of_getElem? (i := 1183) (by decide +kernel), List.mem_of_getElem? (i := 1184) (by decide +kernel)⟩
theorem lw_p47 : lw_okq (⟨"BeggarHeaps$Odds", "collect", "(LBeggarHeaps$Play;)Z"⟩, 9) := ⟨⟨by decide +kernel, by decide +kernel⟩, List.mem_of_getElem? (i := 564) (by decide +kernel), List.mem_of_getElem? (i := 1222) (by decide +kernel), List.mem_of_getElem? (i := 1223) (by decide +kernel)⟩
def lw_privs_3 : List (MethodName × Nat) := [(⟨"BeggarHeaps$Ending", "forgetStates", "()V"⟩, 12), (⟨"BeggarHeaps$Ending", "noteState", "(II)I"⟩, 12), (⟨"BeggarHeaps$Ending", "makeKey", "()V"⟩, 12), (⟨"BeggarHeaps$Ending", "addToKey", "(II)V"⟩, 12), (⟨"BeggarHeaps$Ending", "hashOfKey", "()I"⟩, 12), (⟨"BeggarHeaps$Ending", "addState", "(III)V"⟩, 12), (⟨"BeggarHeaps$Ending", "isKey", "(I)Z"⟩, 12), (⟨"BeggarHeaps$Ending", "answer", "(IIII)V"⟩, 12), (⟨"BeggarHeaps$Study", "playRow", "(LBeggarHeaps$Table;I[I)V"⟩, 18), (⟨"BeggarHeaps$Study", "layOut", "(I[I)V"⟩, 18), (⟨"BeggarHeaps$Study", "tellAll", "(I)V"⟩, 18), (⟨"BeggarHeaps$Study", "tellWorth", "()V"⟩, 18), (⟨"BeggarHeaps$Rows", "swap", "(II)V"⟩, 4), (⟨"BeggarHeaps$Study", "tellLeads", "(LBeggarHeaps$Table;I)V"⟩, 18), (⟨"BeggarHeaps$Study", "tellLead", "(III)V"⟩, 18), (⟨"BeggarHeaps$Odds", "collect", "(LBeggarHeaps$Play;)Z"⟩, 9)]
theorem lw_r3 : ∀ q ∈ lw_privs_3, lw_okq q := List.forall_mem_cons.mpr ⟨lw_p32, List.forall_mem_cons.mpr ⟨lw_p33, List.forall_mem_cons.mpr ⟨lw_p34, List.forall_mem_cons.mpr ⟨lw_p35, List.forall_mem_cons.mpr ⟨lw_p36, List.forall_mem_cons.mpr ⟨lw_p37, List.forall_mem_cons.mpr ⟨lw_p38, List.forall_mem_cons.mpr ⟨lw_p39, List.forall_mem_cons.mpr ⟨lw_p40, List.forall_mem_cons.mpr ⟨lw_p41, List.forall_mem_cons.mpr ⟨lw_p42, List.forall_mem_cons.mpr ⟨lw_p43, List.forall_mem_cons.mpr ⟨lw_p44, List.forall_mem_cons.mpr ⟨lw_p45, List.forall_mem_cons.mpr ⟨lw_p46, List.forall_mem_cons.mpr ⟨lw_p47, fun _ h => absurd h List.not_mem_nil⟩⟩⟩⟩⟩⟩⟩⟩⟩⟩⟩⟩⟩⟩⟩⟩
theorem lw_p48 : lw_okq (⟨"BeggarHeaps$Odds", "playAll", "(LBeggarHeaps$Play;LBeggarHeaps$Table;)V"⟩, 9) := ⟨⟨by decide +kernel, by decide +kernel⟩, List.mem_of_getElem? (i := 564) (by decide +kernel), List.mem_of_getElem? (i := 1229) (by decide +kernel), List.mem_of_getElem? (i := 1230) (by decide +kernel)⟩
theorem lw_p49 : lw_okq (⟨"BeggarHeaps$Table", "evaluate", "(LBeggarHeaps$Play;)I"⟩, 16) := ⟨⟨by decide +kernel, by decide +kernel⟩, List.mem_of_getElem? (i := 128) (by decide +kernel), List.mem_of_getElem? (i := 1246) (by decide +kernel), List.mem_of_getElem? (i := 1247) (by decide +kernel)⟩
theorem lw_p50 : lw_okq (⟨"BeggarHeaps$Laying", "begin", "(LBeggarHeaps$Play;)V"⟩, 5) := ⟨⟨by decide +kernel, by decide +kernel⟩, List.mem_of_getElem? (i := 600) (by decide +kernel), List.mem_of_getElem? (i := 1279) (by decide +kernel), List.mem_of_getElem? (i := 1280) (by decide +kernel)⟩
theorem lw_p51 : lw_okq (⟨"BeggarHeaps$Laying", "canWin", "(IIII)Z"⟩, 5) := ⟨⟨by decide +kernel, by decide +kernel⟩, List.mem_of_getElem? (i := 600) (by decide +kernel), List.mem_of_getElem? (i := 1287) (by decide +kernel), List.mem_of_getElem? (i := 1288) (by decide +kernel)⟩
theorem lw_p52 : lw_okq (⟨"BeggarHeaps$Laying", "layNext", "(II)V"⟩, 5) := ⟨⟨by decide +kernel, by decide +kernel⟩, List.mem_of_getElem? (i := 600) (by decide +kernel), List.mem_of_getElem? (i := 1296) (by decide +kernel), List.mem_of_getElem? (i := 1297) (by decide +kernel)⟩
theorem lw_p53 : lw_okq (⟨"BeggarHeaps$Laying", "winsHowever", "(II)Z"⟩, 5) := ⟨⟨by decide +kernel, by decide +kernel⟩, List.mem_of_getElem? (i := 600) (by decide +kernel), List.mem_of_getElem? (i := 1310) (by decide +kernel), List.mem_of_getElem? (i := 1311) (by decide +kernel)⟩
theorem lw_p54 : lw_okq (⟨"BeggarHeaps$Book", "fits", "(LBeggarHeaps$Game;II)Z"⟩, 4) := ⟨⟨by decide +kernel, by decide +kernel⟩, List.mem_of_getElem? (i := 212) (by decide +kernel), List.mem_of_getElem? (i := 1322) (by decide +kernel), List.mem_of_getElem? (i := 1323) (by decide +kernel)⟩
theorem lw_p55 : lw_okq (⟨"BeggarHeaps$Rows", "drawBelow", "(I)I"⟩, 4) := ⟨⟨by decide +kernel, by decide +kernel⟩, List.mem_of_getElem? (i := 416) (by decide +kernel), List.mem_of_getElem? (i := 1354) (by decide +kernel), List.mem_of_getElem? (i := 1355) (by decide +kernel)⟩
theorem lw_p56 : lw_okq (⟨"BeggarHeaps", "goBack", "(I)Z"⟩, 19) := ⟨⟨by decide +kernel, by decide +kernel⟩, List.mem_of_getElem? (i := 25) (by decide +kernel), List.mem_of_getElem? (i := 1387) (by decide +kernel), List.mem_of_getElem? (i := 1388) (by decide +kernel)⟩
theorem lw_p57 : lw_okq (⟨"java/lang/Throwable", "fillInStackTrace", "(I)Ljava/lang/Throwable;"⟩, 6) := ⟨⟨by decide +kernel, by decide +kernel⟩, List.mem_of_getElem? (i := 1439) (by decide +kernel), List.mem_of_getElem? (i := 1437) (by decide +kernel), List.mem_of_getElem? (i := 1438) (by decide +kernel)⟩
theorem lw_p58 : lw_okq (⟨"BeggarHeapsModel", "lay", "(J)V"⟩, 56) := ⟨⟨by decide +kernel, by decide +kernel⟩, List.mem_of_getElem? (i := 1483) (by decide +kernel), List.mem_of_getElem? (i := 1481) (by decide +kernel), List.mem_of_getElem? (i := 1482) (by decide +kernel)⟩
theorem lw_p59 : lw_okq (⟨"BeggarHeapsModel", "standsAsAlways", "(I)V"⟩, 56) := ⟨⟨by decide +kernel, by decide +kernel⟩, List.mem_of_getElem? (i := 1483) (by decide +kernel), List.mem_of_getElem? (i := 1515) (by decide +kernel), List.mem_of_getElem? (i := 1516) (by decide +kernel)⟩
theorem lw_p60 : lw_okq (⟨"BeggarHeapsModel", "begins", "(I)V"⟩, 56) := ⟨⟨by decide +kernel, by decide +kernel⟩, List.mem_of_getElem? (i := 1483) (by decide +kernel), List.mem_of_getElem? (i := 1519) (by decide +kernel), List.mem_of_getElem? (i := 1520) (by decide +kernel)⟩
theorem lw_p61 : lw_okq (⟨"BeggarHeapsModel", "cutAll", "()V"⟩, 56) := ⟨⟨by decide +kernel, by decide +kernel⟩, List.mem_of_getElem? (i := 1483) (by decide +kernel), List.mem_of_getElem? (i := 1696) (by decide +kernel), List.mem_of_getElem? (i := 1697) (by decide +kernel)⟩
theorem lw_p62 : lw_okq (⟨"BeggarHeapsModel", "readLine", "()V"⟩, 56) := ⟨⟨by decide +kernel, by decide +kernel⟩, List.mem_of_getElem? (i := 1483) (by decide +kernel), List.mem_of_getElem? (i := 1715) (by decide +kernel), List.mem_of_getElem? (i := 1716) (by decide +kernel)⟩
theorem lw_p63 : lw_okq (⟨"BeggarHeapsModel", "isWord", "(I)Z"⟩, 56) := ⟨⟨by decide +kernel, by decide +kernel⟩, List.mem_of_getElem? (i := 1483) (by decide +kernel), List.mem_of_getElem? (i := 1719) (by decide +kernel), List.mem_of_getElem? (i := 1720) (by decide +kernel)⟩
def lw_privs_4 : List (MethodName × Nat) := [(⟨"BeggarHeaps$Odds", "playAll", "(LBeggarHeaps$Play;LBeggarHeaps$Table;)V"⟩, 9), (⟨"BeggarHeaps$Table", "evaluate", "(LBeggarHeaps$Play;)I"⟩, 16), (⟨"BeggarHeaps$Laying", "begin", "(LBeggarHeaps$Play;)V"⟩, 5), (⟨"BeggarHeaps$Laying", "canWin", "(IIII)Z"⟩, 5), (⟨"BeggarHeaps$Laying", "layNext", "(II)V"⟩, 5), (⟨"BeggarHeaps$Laying", "winsHowever", "(II)Z"⟩, 5), (⟨"BeggarHeaps$Book", "fits", "(LBeggarHeaps$Game;II)Z"⟩, 4), (⟨"BeggarHeaps$Rows", "drawBelow", "(I)I"⟩, 4), (⟨"BeggarHeaps", "goBack", "(I)Z"⟩, 19), (⟨"java/lang/Throwable", "fillInStackTrace", "(I)Ljava/lang/Throwable;"⟩, 6), (⟨"BeggarHeapsModel", "lay", "(J)V"⟩, 56), (⟨"BeggarHeapsModel", "standsAsAlways", "(I)V"⟩, 56), (⟨"BeggarHeapsModel", "begins", "(I)V"⟩, 56), (⟨"BeggarHeapsModel", "cutAll", "()V"⟩, 56), (⟨"BeggarHeapsModel", "readLine", "()V"⟩, 56), (⟨"BeggarHeapsModel", "isWord", "(I)Z"⟩, 56)]
theorem lw_r4 : ∀ q ∈ lw_privs_4, lw_okq q := List.forall_mem_cons.mpr ⟨lw_p48, List.forall_mem_cons.mpr ⟨lw_p49, List.forall_mem_cons.mpr ⟨lw_p50, List.forall_mem_cons.mpr ⟨lw_p51, List.forall_mem_cons.mpr ⟨lw_p52, List.forall_mem_cons.mpr ⟨lw_p53, List.forall_mem_cons.mpr ⟨lw_p54, List.forall_mem_cons.mpr ⟨lw_p55, List.forall_mem_cons.mpr ⟨lw_p56, List.forall_mem_cons.mpr ⟨lw_p57, List.forall_mem_cons.mpr ⟨lw_p58, List.forall_mem_cons.mpr ⟨lw_p59, List.forall_mem_cons.mpr ⟨lw_p60, List.forall_mem_cons.mpr ⟨lw_p61, List.forall_mem_cons.mpr ⟨lw_p62, List.forall_mem_cons.mpr ⟨lw_p63, fun _ h => absurd h List.not_mem_nil⟩⟩⟩⟩⟩⟩⟩⟩⟩⟩⟩⟩⟩⟩⟩⟩
theorem lw_p64 : lw_okq (⟨"BeggarHeapsModel", "readKind", "()V"⟩, 56) := ⟨⟨by decide +kernel, by decide +kernel⟩, List.mem_of_getElem? (i := 1483) (by decide +kernel), List.mem_of_getElem? (i := 1723) (by decide +kernel), List.mem_of_getElem? (i := 1724) (by decide +kernel)⟩
theorem lw_p65 : lw_okq (⟨"BeggarHeapsModel", "wrong", "(I)V"⟩, 56) := ⟨⟨by decide +kernel, by decide +kernel⟩, List.mem_of_getElem? (i := 1483) (by decide +kernel), List.mem_of_getElem? (i := 1727) (by decide +kernel), List.mem_of_getElem? (i := 1728) (by decide +kernel)⟩
theorem lw_p66 : lw_okq (⟨"BeggarHeapsModel", "isName", "()Z"⟩, 56) := ⟨⟨by decide +kernel, by decide +kernel⟩, List.mem_of_getElem? (i := 1483) (by decide +kernel), List.mem_of_getElem? (i := 1731) (by decide +kernel), List.mem_of_getElem? (i := 1732) (by decide +kernel)⟩
theorem lw_p67 : lw_okq (⟨"BeggarHeapsModel", "find", "([JI)I"⟩, 56) := ⟨⟨by decide +kernel, by decide +kernel⟩, List.mem_of_getElem? (i := 1483) (by decide +kernel), List.mem_of_getElem? (i := 1735) (by decide +kernel), List.mem_of_getElem? (i := 1736) (by decide +kernel)⟩
theorem lw_p68 : lw_okq (⟨"BeggarHeapsModel", "takeWord", "(I)V"⟩, 56) := ⟨⟨by decide +kernel, by decide +kernel⟩, List.mem_of_getElem? (i := 1483) (by decide +kernel), List.mem_of_getElem? (i := 1739) (by decide +kernel), List.mem_of_getElem? (i := 1740) (by decide +kernel)⟩
theorem lw_p69 : lw_okq (⟨"BeggarHeapsModel", "hasWord", "(I)Z"⟩, 56) := ⟨⟨by decide +kernel, by decide +kernel⟩, List.mem_of_getElem? (i := 1483) (by decide +kernel), List.mem_of_getElem? (i := 1743) (by decide +kernel), List.mem_of_getElem? (i := 1744) (by decide +kernel)⟩
theorem lw_p70 : lw_okq (⟨"BeggarHeapsModel", "takeNumber", "(II)I"⟩, 56) := ⟨⟨by decide +kernel, by decide +kernel⟩, List.mem_of_getElem? (i := 1483) (by decide +kernel), List.mem_of_getElem? (i := 1747) (by decide +kernel), List.mem_of_getElem? (i := 1748) (by decide +kernel)⟩
theorem lw_p71 : lw_okq (⟨"BeggarHeapsModel", "readPack", "()V"⟩, 56) := ⟨⟨by decide +kernel, by decide +kernel⟩, List.mem_of_getElem? (i := 1483) (by decide +kernel), List.mem_of_getElem? (i := 1751) (by decide +kernel), List.mem_of_getElem? (i := 1752) (by decide +kernel)⟩
theorem lw_p72 : lw_okq (⟨"BeggarHeapsModel", "cards", "(I)I"⟩, 56) := ⟨⟨by decide +kernel, by decide +kernel⟩, List.mem_of_getElem? (i := 1483) (by decide +kernel), List.mem_of_getElem? (i := 1755) (by decide +kernel), List.mem_of_getElem? (i := 1756) (by decide +kernel)⟩
theorem lw_p73 : lw_okq (⟨"BeggarHeapsModel", "readOnce", "()V"⟩, 56) := ⟨⟨by decide +kernel, by decide +kernel⟩, List.mem_of_getElem? (i := 1483) (by decide +kernel), List.mem_of_getElem? (i := 1759) (by decide +kernel), List.mem_of_getElem? (i := 1760) (by decide +kernel)⟩
theorem lw_p74 : lw_okq (⟨"BeggarHeapsModel", "wordHere", "(II)I"⟩, 56) := ⟨⟨by decide +kernel, by decide +kernel⟩, List.mem_of_getElem? (i := 1483) (by decide +kernel), List.mem_of_getElem? (i := 1763) (by decide +kernel), List.mem_of_getElem? (i := 1764) (by decide +kernel)⟩
theorem lw_p75 : lw_okq (⟨"BeggarHeapsModel", "takeOne", "(II)I"⟩, 56) := ⟨⟨by decide +kernel, by decide +kernel⟩, List.mem_of_getElem? (i := 1483) (by decide +kernel), List.mem_of_getElem? (i := 1767) (by decide +kernel), List.mem_of_getElem? (i := 1768) (by decide +kernel)⟩
theorem lw_p76 : lw_okq (⟨"BeggarHeapsModel", "ands", "(I)V"⟩, 56) := ⟨⟨by decide +kernel, by decide +kernel⟩, List.mem_of_getElem? (i := 1483) (by decide +kernel), List.mem_of_getElem? (i := 1771) (by decide +kernel), List.mem_of_getElem? (i := 1772) (by decide +kernel)⟩
theorem lw_p77 : lw_okq (⟨"BeggarHeapsModel", "test", "(I)V"⟩, 56) := ⟨⟨by decide +kernel, by decide +kernel⟩, List.mem_of_getElem? (i := 1483) (by decide +kernel), List.mem_of_getElem? (i := 1775) (by decide +kernel), List.mem_of_getElem? (i := 1776) (by decide +kernel)⟩
theorem lw_p78 : lw_okq (⟨"BeggarHeapsModel", "sums", "(I)V"⟩, 56) := ⟨⟨by decide +kernel, by decide +kernel⟩, List.mem_of_getElem? (i := 1483) (by decide +kernel), List.mem_of_getElem? (i := 1779) (by decide +kernel), List.mem_of_getElem? (i := 1780) (by decide +kernel)⟩
theorem lw_p79 : lw_okq (⟨"BeggarHeapsModel", "products", "(I)V"⟩, 56) := ⟨⟨by decide +kernel, by decide +kernel⟩, List.mem_of_getElem? (i := 1483) (by decide +kernel), List.mem_of_getElem? (i := 1783) (by decide +kernel), List.mem_of_getElem? (i := 1784) (by decide +kernel)⟩
def lw_privs_5 : List (MethodName × Nat) := [(⟨"BeggarHeapsModel", "readKind", "()V"⟩, 56), (⟨"BeggarHeapsModel", "wrong", "(I)V"⟩, 56), (⟨"BeggarHeapsModel", "isName", "()Z"⟩, 56), (⟨"BeggarHeapsModel", "find", "([JI)I"⟩, 56), (⟨"BeggarHeapsModel", "takeWord", "(I)V"⟩, 56), (⟨"BeggarHeapsModel", "hasWord", "(I)Z"⟩, 56), (⟨"BeggarHeapsModel", "takeNumber", "(II)I"⟩, 56), (⟨"BeggarHeapsModel", "readPack", "()V"⟩, 56), (⟨"BeggarHeapsModel", "cards", "(I)I"⟩, 56), (⟨"BeggarHeapsModel", "readOnce", "()V"⟩, 56), (⟨"BeggarHeapsModel", "wordHere", "(II)I"⟩, 56), (⟨"BeggarHeapsModel", "takeOne", "(II)I"⟩, 56), (⟨"BeggarHeapsModel", "ands", "(I)V"⟩, 56), (⟨"BeggarHeapsModel", "test", "(I)V"⟩, 56), (⟨"BeggarHeapsModel", "sums", "(I)V"⟩, 56), (⟨"BeggarHeapsModel", "products", "(I)V"⟩, 56)]
theorem lw_r5 : ∀ q ∈ lw_privs_5, lw_okq q := List.forall_mem_cons.mpr ⟨lw_p64, List.forall_mem_cons.mpr ⟨lw_p65, List.forall_mem_cons.mpr ⟨lw_p66, List.forall_mem_cons.mpr ⟨lw_p67, List.forall_mem_cons.mpr ⟨lw_p68, List.forall_mem_cons.mpr ⟨lw_p69, List.forall_mem_cons.mpr ⟨lw_p70, List.forall_mem_cons.mpr ⟨lw_p71, List.forall_mem_cons.mpr ⟨lw_p72, List.forall_mem_cons.mpr ⟨lw_p73, List.forall_mem_cons.mpr ⟨lw_p74, List.forall_mem_cons.mpr ⟨lw_p75, List.forall_mem_cons.mpr ⟨lw_p76, List.forall_mem_cons.mpr ⟨lw_p77, List.forall_mem_cons.mpr ⟨lw_p78, List.forall_mem_cons.mpr ⟨lw_p79, fun _ h => absurd h List.not_mem_nil⟩⟩⟩⟩⟩⟩⟩⟩⟩⟩⟩⟩⟩⟩⟩⟩
theorem lw_p80 : lw_okq (⟨"BeggarHeapsModel", "takePart", "(I)V"⟩, 56) := ⟨⟨by decide +kernel, by decide +kernel⟩, List.mem_of_getElem? (i := 1483) (by decide +kernel), List.mem_of_getElem? (i := 1787) (by decide +kernel), List.mem_of_getElem? (i := 1788) (by decide +kernel)⟩
theorem lw_p81 : lw_okq (⟨"BeggarHeapsModel", "isSign", "(I)Z"⟩, 56) := ⟨⟨by decide +kernel, by decide +kernel⟩, List.mem_of_getElem? (i := 1483) (by decide +kernel), List.mem_of_getElem? (i := 1791) (by decide +kernel), List.mem_of_getElem? (i := 1792) (by decide +kernel)⟩
theorem lw_p82 : lw_okq (⟨"BeggarHeapsModel", "emit", "(II)V"⟩, 56) := ⟨⟨by decide +kernel, by decide +kernel⟩, List.mem_of_getElem? (i := 1483) (by decide +kernel), List.mem_of_getElem? (i := 1795) (by decide +kernel), List.mem_of_getElem? (i := 1796) (by decide +kernel)⟩
theorem lw_p83 : lw_okq (⟨"BeggarHeapsModel", "hasSign", "(I)Z"⟩, 56) := ⟨⟨by decide +kernel, by decide +kernel⟩, List.mem_of_getElem? (i := 1483) (by decide +kernel), List.mem_of_getElem? (i := 1799) (by decide +kernel), List.mem_of_getElem? (i := 1800) (by decide +kernel)⟩
theorem lw_p84 : lw_okq (⟨"BeggarHeapsModel", "takeSign", "(I)V"⟩, 56) := ⟨⟨by decide +kernel, by decide +kernel⟩, List.mem_of_getElem? (i := 1483) (by decide +kernel), List.mem_of_getElem? (i := 1803) (by decide +kernel), List.mem_of_getElem? (i := 1804) (by decide +kernel)⟩
theorem lw_p85 : lw_okq (⟨"BeggarHeapsModel", "readRow", "(II)V"⟩, 56) := ⟨⟨by decide +kernel, by decide +kernel⟩, List.mem_of_getElem? (i := 1483) (by decide +kernel), List.mem_of_getElem? (i := 1811) (by decide +kernel), List.mem_of_getElem? (i := 1812) (by decide +kernel)⟩
theorem lw_p86 : lw_okq (⟨"BeggarHeapsModel", "dealsRead", "()V"⟩, 56) := ⟨⟨by decide +kernel, by decide +kernel⟩, List.mem_of_getElem? (i := 1483) (by decide +kernel), List.mem_of_getElem? (i := 1815) (by decide +kernel), List.mem_of_getElem? (i := 1816) (by decide +kernel)⟩
theorem lw_p87 : lw_okq (⟨"BeggarHeapsModel", "readOpening", "(I)V"⟩, 56) := ⟨⟨by decide +kernel, by decide +kernel⟩, List.mem_of_getElem? (i := 1483) (by decide +kernel), List.mem_of_getElem? (i := 1823) (by decide +kernel), List.mem_of_getElem? (i := 1824) (by decide +kernel)⟩
theorem lw_p88 : lw_okq (⟨"BeggarHeapsModel", "isKind", "(I)Z"⟩, 56) := ⟨⟨by decide +kernel, by decide +kernel⟩, List.mem_of_getElem? (i := 1483) (by decide +kernel), List.mem_of_getElem? (i := 1831) (by decide +kernel), List.mem_of_getElem? (i := 1832) (by decide +kernel)⟩
theorem lw_p89 : lw_okq (⟨"BeggarHeapsModel", "kinds", "()I"⟩, 56) := ⟨⟨by decide +kernel, by decide +kernel⟩, List.mem_of_getElem? (i := 1483) (by decide +kernel), List.mem_of_getElem? (i := 1835) (by decide +kernel), List.mem_of_getElem? (i := 1836) (by decide +kernel)⟩
theorem lw_p90 : lw_okq (⟨"BeggarHeapsModel", "countOf", "(III)I"⟩, 56) := ⟨⟨by decide +kernel, by decide +kernel⟩, List.mem_of_getElem? (i := 1483) (by decide +kernel), List.mem_of_getElem? (i := 1842) (by decide +kernel), List.mem_of_getElem? (i := 1843) (by decide +kernel)⟩
theorem lw_p91 : lw_okq (⟨"BeggarHeapsModel", "keeps", "()V"⟩, 56) := ⟨⟨by decide +kernel, by decide +kernel⟩, List.mem_of_getElem? (i := 1483) (by decide +kernel), List.mem_of_getElem? (i := 1865) (by decide +kernel), List.mem_of_getElem? (i := 1866) (by decide +kernel)⟩
theorem lw_p92 : lw_okq (⟨"BeggarHeapsModel", "copies", "(III)V"⟩, 56) := ⟨⟨by decide +kernel, by decide +kernel⟩, List.mem_of_getElem? (i := 1483) (by decide +kernel), List.mem_of_getElem? (i := 1869) (by decide +kernel), List.mem_of_getElem? (i := 1870) (by decide +kernel)⟩
theorem lw_p93 : lw_okq (⟨"BeggarHeapsModel", "isWon", "(I)Z"⟩, 56) := ⟨⟨by decide +kernel, by decide +kernel⟩, List.mem_of_getElem? (i := 1483) (by decide +kernel), List.mem_of_getElem? (i := 1873) (by decide +kernel), List.mem_of_getElem? (i := 1874) (by decide +kernel)⟩
theorem lw_p94 : lw_okq (⟨"BeggarHeapsModel", "plays", "(I)V"⟩, 56) := ⟨⟨by decide +kernel, by decide +kernel⟩, List.mem_of_getElem? (i := 1483) (by decide +kernel), List.mem_of_getElem? (i := 1877) (by decide +kernel), List.mem_of_getElem? (i := 1878) (by decide +kernel)⟩
theorem lw_p95 : lw_okq (⟨"BeggarHeapsModel", "goes", "(I)Z"⟩, 56) := ⟨⟨by decide +kernel, by decide +kernel⟩, List.mem_of_getElem? (i := 1483) (by decide +kernel), List.mem_of_getElem? (i := 1881) (by decide +kernel), List.mem_of_getElem? (i := 1882) (by decide +kernel)⟩
def lw_privs_6 : List (MethodName × Nat) := [(⟨"BeggarHeapsModel", "takePart", "(I)V"⟩, 56), (⟨"BeggarHeapsModel", "isSign", "(I)Z"⟩, 56), (⟨"BeggarHeapsModel", "emit", "(II)V"⟩, 56), (⟨"BeggarHeapsModel", "hasSign", "(I)Z"⟩, 56), (⟨"BeggarHeapsModel", "takeSign", "(I)V"⟩, 56), (⟨"BeggarHeapsModel", "readRow", "(II)V"⟩, 56), (⟨"BeggarHeapsModel", "dealsRead", "()V"⟩, 56), (⟨"BeggarHeapsModel", "readOpening", "(I)V"⟩, 56), (⟨"BeggarHeapsModel", "isKind", "(I)Z"⟩, 56), (⟨"BeggarHeapsModel", "kinds", "()I"⟩, 56), (⟨"BeggarHeapsModel", "countOf", "(III)I"⟩, 56), (⟨"BeggarHeapsModel", "keeps", "()V"⟩, 56), (⟨"BeggarHeapsModel", "copies", "(III)V"⟩, 56), (⟨"BeggarHeapsModel", "isWon", "(I)Z"⟩, 56), (⟨"BeggarHeapsModel", "plays", "(I)V"⟩, 56), (⟨"BeggarHeapsModel", "goes", "(I)Z"⟩, 56)]
theorem lw_r6 : ∀ q ∈ lw_privs_6, lw_okq q := List.forall_mem_cons.mpr ⟨lw_p80, List.forall_mem_cons.mpr ⟨lw_p81, List.forall_mem_cons.mpr ⟨lw_p82, List.forall_mem_cons.mpr ⟨lw_p83, List.forall_mem_cons.mpr ⟨lw_p84, List.forall_mem_cons.mpr ⟨lw_p85, List.forall_mem_cons.mpr ⟨lw_p86, List.forall_mem_cons.mpr ⟨lw_p87, List.forall_mem_cons.mpr ⟨lw_p88, List.forall_mem_cons.mpr ⟨lw_p89, List.forall_mem_cons.mpr ⟨lw_p90, List.forall_mem_cons.mpr ⟨lw_p91, List.forall_mem_cons.mpr ⟨lw_p92, List.forall_mem_cons.mpr ⟨lw_p93, List.forall_mem_cons.mpr ⟨lw_p94, List.forall_mem_cons.mpr ⟨lw_p95, fun _ h => absurd h List.not_mem_nil⟩⟩⟩⟩⟩⟩⟩⟩⟩⟩⟩⟩⟩⟩⟩⟩
theorem lw_p96 : lw_okq (⟨"BeggarHeapsModel", "turns", "(I)I"⟩, 56) := ⟨⟨by decide +kernel, by decide +kernel⟩, List.mem_of_getElem? (i := 1483) (by decide +kernel), List.mem_of_getElem? (i := 1885) (by decide +kernel), List.mem_of_getElem? (i := 1886) (by decide +kernel)⟩
theorem lw_p97 : lw_okq (⟨"BeggarHeapsModel", "paysOf", "(I)I"⟩, 56) := ⟨⟨by decide +kernel, by decide +kernel⟩, List.mem_of_getElem? (i := 1483) (by decide +kernel), List.mem_of_getElem? (i := 1889) (by decide +kernel), List.mem_of_getElem? (i := 1890) (by decide +kernel)⟩
theorem lw_p98 : lw_okq (⟨"BeggarHeapsModel", "orderNow", "(I)I"⟩, 56) := ⟨⟨by decide +kernel, by decide +kernel⟩, List.mem_of_getElem? (i := 1483) (by decide +kernel), List.mem_of_getElem? (i := 1893) (by decide +kernel), List.mem_of_getElem? (i := 1894) (by decide +kernel)⟩
theorem lw_p99 : lw_okq (⟨"BeggarHeapsModel", "takes", "(II)V"⟩, 56) := ⟨⟨by decide +kernel, by decide +kernel⟩, List.mem_of_getElem? (i := 1483) (by decide +kernel), List.mem_of_getElem? (i := 1897) (by decide +kernel), List.mem_of_getElem? (i := 1898) (by decide +kernel)⟩
theorem lw_p100 : lw_okq (⟨"BeggarHeapsModel", "lays", "(III)V"⟩, 56) := ⟨⟨by decide +kernel, by decide +kernel⟩, List.mem_of_getElem? (i := 1483) (by decide +kernel), List.mem_of_getElem? (i := 1901) (by decide +kernel), List.mem_of_getElem? (i := 1902) (by decide +kernel)⟩
theorem lw_p101 : lw_okq (⟨"BeggarHeapsModel", "laysSuch", "(IIIII)I"⟩, 56) := ⟨⟨by decide +kernel, by decide +kernel⟩, List.mem_of_getElem? (i := 1483) (by decide +kernel), List.mem_of_getElem? (i := 1905) (by decide +kernel), List.mem_of_getElem? (i := 1906) (by decide +kernel)⟩
theorem lw_p102 : lw_okq (⟨"BeggarHeapsModel", "remembers", "(II)V"⟩, 56) := ⟨⟨by decide +kernel, by decide +kernel⟩, List.mem_of_getElem? (i := 1483) (by decide +kernel), List.mem_of_getElem? (i := 1909) (by decide +kernel), List.mem_of_getElem? (i := 1910) (by decide +kernel)⟩
theorem lw_p103 : lw_okq (⟨"BeggarHeapsModel", "runsNow", "()V"⟩, 56) := ⟨⟨by decide +kernel, by decide +kernel⟩, List.mem_of_getElem? (i := 1483) (by decide +kernel), List.mem_of_getElem? (i := 1929) (by decide +kernel), List.mem_of_getElem? (i := 1930) (by decide +kernel)⟩
theorem lw_p104 : lw_okq (⟨"BeggarHeapsModel", "runs", "(II)V"⟩, 56) := ⟨⟨by decide +kernel, by decide +kernel⟩, List.mem_of_getElem? (i := 1483) (by decide +kernel), List.mem_of_getElem? (i := 1933) (by decide +kernel), List.mem_of_getElem? (i := 1934) (by decide +kernel)⟩
theorem lw_p105 : lw_okq (⟨"BeggarHeapsModel", "findKey", "(III)I"⟩, 56) := ⟨⟨by decide +kernel, by decide +kernel⟩, List.mem_of_getElem? (i := 1483) (by decide +kernel), List.mem_of_getElem? (i := 1937) (by decide +kernel), List.mem_of_getElem? (i := 1938) (by decide +kernel)⟩
theorem lw_p106 : lw_okq (⟨"BeggarHeapsModel", "keyOf", "(II)J"⟩, 56) := ⟨⟨by decide +kernel, by decide +kernel⟩, List.mem_of_getElem? (i := 1483) (by decide +kernel), List.mem_of_getElem? (i := 1941) (by decide +kernel), List.mem_of_getElem? (i := 1942) (by decide +kernel)⟩
theorem lw_p107 : lw_okq (⟨"BeggarHeapsModel", "counts", "()Z"⟩, 56) := ⟨⟨by decide +kernel, by decide +kernel⟩, List.mem_of_getElem? (i := 1483) (by decide +kernel), List.mem_of_getElem? (i := 1955) (by decide +kernel), List.mem_of_getElem? (i := 1956) (by decide +kernel)⟩
theorem lw_p108 : lw_okq (⟨"BeggarHeapsModel", "laysPack", "()V"⟩, 56) := ⟨⟨by decide +kernel, by decide +kernel⟩, List.mem_of_getElem? (i := 1483) (by decide +kernel), List.mem_of_getElem? (i := 1959) (by decide +kernel), List.mem_of_getElem? (i := 1960) (by decide +kernel)⟩
theorem lw_p109 : lw_okq (⟨"BeggarHeapsModel", "rowsOf", "([II)I"⟩, 56) := ⟨⟨by decide +kernel, by decide +kernel⟩, List.mem_of_getElem? (i := 1483) (by decide +kernel), List.mem_of_getElem? (i := 1963) (by decide +kernel), List.mem_of_getElem? (i := 1964) (by decide +kernel)⟩
theorem lw_p110 : lw_okq (⟨"BeggarHeapsModel", "dealsTrial", "([III)V"⟩, 56) := ⟨⟨by decide +kernel, by decide +kernel⟩, List.mem_of_getElem? (i := 1483) (by decide +kernel), List.mem_of_getElem? (i := 1968) (by decide +kernel), List.mem_of_getElem? (i := 1969) (by decide +kernel)⟩
theorem lw_p111 : lw_okq (⟨"BeggarHeapsModel", "goesNext", "([II)Z"⟩, 56) := ⟨⟨by decide +kernel, by decide +kernel⟩, List.mem_of_getElem? (i := 1483) (by decide +kernel), List.mem_of_getElem? (i := 1972) (by decide +kernel), List.mem_of_getElem? (i := 1973) (by decide +kernel)⟩
def lw_privs_7 : List (MethodName × Nat) := [(⟨"BeggarHeapsModel", "turns", "(I)I"⟩, 56), (⟨"BeggarHeapsModel", "paysOf", "(I)I"⟩, 56), (⟨"BeggarHeapsModel", "orderNow", "(I)I"⟩, 56), (⟨"BeggarHeapsModel", "takes", "(II)V"⟩, 56), (⟨"BeggarHeapsModel", "lays", "(III)V"⟩, 56), (⟨"BeggarHeapsModel", "laysSuch", "(IIIII)I"⟩, 56), (⟨"BeggarHeapsModel", "remembers", "(II)V"⟩, 56), (⟨"BeggarHeapsModel", "runsNow", "()V"⟩, 56), (⟨"BeggarHeapsModel", "runs", "(II)V"⟩, 56), (⟨"BeggarHeapsModel", "findKey", "(III)I"⟩, 56), (⟨"BeggarHeapsModel", "keyOf", "(II)J"⟩, 56), (⟨"BeggarHeapsModel", "counts", "()Z"⟩, 56), (⟨"BeggarHeapsModel", "laysPack", "()V"⟩, 56), (⟨"BeggarHeapsModel", "rowsOf", "([II)I"⟩, 56), (⟨"BeggarHeapsModel", "dealsTrial", "([III)V"⟩, 56), (⟨"BeggarHeapsModel", "goesNext", "([II)Z"⟩, 56)]
theorem lw_r7 : ∀ q ∈ lw_privs_7, lw_okq q := List.forall_mem_cons.mpr ⟨lw_p96, List.forall_mem_cons.mpr ⟨lw_p97, List.forall_mem_cons.mpr ⟨lw_p98, List.forall_mem_cons.mpr ⟨lw_p99, List.forall_mem_cons.mpr ⟨lw_p100, List.forall_mem_cons.mpr ⟨lw_p101, List.forall_mem_cons.mpr ⟨lw_p102, List.forall_mem_cons.mpr ⟨lw_p103, List.forall_mem_cons.mpr ⟨lw_p104, List.forall_mem_cons.mpr ⟨lw_p105, List.forall_mem_cons.mpr ⟨lw_p106, List.forall_mem_cons.mpr ⟨lw_p107, List.forall_mem_cons.mpr ⟨lw_p108, List.forall_mem_cons.mpr ⟨lw_p109, List.forall_mem_cons.mpr ⟨lw_p110, List.forall_mem_cons.mpr ⟨lw_p111, fun _ h => absurd h List.not_mem_nil⟩⟩⟩⟩⟩⟩⟩⟩⟩⟩⟩⟩⟩⟩⟩⟩
theorem lw_p112 : lw_okq (⟨"BeggarHeapsModel", "paysIn", "(II)I"⟩, 56) := ⟨⟨by decide +kernel, by decide +kernel⟩, List.mem_of_getElem? (i := 1483) (by decide +kernel), List.mem_of_getElem? (i := 1995) (by decide +kernel), List.mem_of_getElem? (i := 1996) (by decide +kernel)⟩
theorem lw_p113 : lw_okq (⟨"BeggarHeapsModel", "findOdds", "()Z"⟩, 56) := ⟨⟨by decide +kernel, by decide +kernel⟩, List.mem_of_getElem? (i := 1483) (by decide +kernel), List.mem_of_getElem? (i := 2011) (by decide +kernel), List.mem_of_getElem? (i := 2012) (by decide +kernel)⟩
theorem lw_p114 : lw_okq (⟨"BeggarHeapsModel", "findHidden", "()V"⟩, 56) := ⟨⟨by decide +kernel, by decide +kernel⟩, List.mem_of_getElem? (i := 1483) (by decide +kernel), List.mem_of_getElem? (i := 2015) (by decide +kernel), List.mem_of_getElem? (i := 2016) (by decide +kernel)⟩
theorem lw_p115 : lw_okq (⟨"BeggarHeapsModel", "offerNow", "()I"⟩, 56) := ⟨⟨by decide +kernel, by decide +kernel⟩, List.mem_of_getElem? (i := 1483) (by decide +kernel), List.mem_of_getElem? (i := 2023) (by decide +kernel), List.mem_of_getElem? (i := 2024) (by decide +kernel)⟩
theorem lw_p116 : lw_okq (⟨"BeggarHeapsModel", "worthAt", "(I)I"⟩, 56) := ⟨⟨by decide +kernel, by decide +kernel⟩, List.mem_of_getElem? (i := 1483) (by decide +kernel), List.mem_of_getElem? (i := 2027) (by decide +kernel), List.mem_of_getElem? (i := 2028) (by decide +kernel)⟩
theorem lw_p117 : lw_okq (⟨"BeggarHeapsModel", "findChoice", "(I)I"⟩, 56) := ⟨⟨by decide +kernel, by decide +kernel⟩, List.mem_of_getElem? (i := 1483) (by decide +kernel), List.mem_of_getElem? (i := 2046) (by decide +kernel), List.mem_of_getElem? (i := 2047) (by decide +kernel)⟩
theorem lw_p118 : lw_okq (⟨"BeggarHeapsModel", "canWin", "(III)Z"⟩, 56) := ⟨⟨by decide +kernel, by decide +kernel⟩, List.mem_of_getElem? (i := 1483) (by decide +kernel), List.mem_of_getElem? (i := 2050) (by decide +kernel), List.mem_of_getElem? (i := 2051) (by decide +kernel)⟩
theorem lw_p119 : lw_okq (⟨"BeggarHeapsModel", "goesToHeap", "(I)Z"⟩, 56) := ⟨⟨by decide +kernel, by decide +kernel⟩, List.mem_of_getElem? (i := 1483) (by decide +kernel), List.mem_of_getElem? (i := 2054) (by decide +kernel), List.mem_of_getElem? (i := 2055) (by decide +kernel)⟩
theorem lw_p120 : lw_okq (⟨"BeggarHeapsModel", "mustWin", "(II)Z"⟩, 56) := ⟨⟨by decide +kernel, by decide +kernel⟩, List.mem_of_getElem? (i := 1483) (by decide +kernel), List.mem_of_getElem? (i := 2062) (by decide +kernel), List.mem_of_getElem? (i := 2063) (by decide +kernel)⟩
theorem lw_p121 : lw_okq (⟨"BeggarHeapsModel", "fitsOpening", "(I)Z"⟩, 56) := ⟨⟨by decide +kernel, by decide +kernel⟩, List.mem_of_getElem? (i := 1483) (by decide +kernel), List.mem_of_getElem? (i := 2070) (by decide +kernel), List.mem_of_getElem? (i := 2071) (by decide +kernel)⟩
theorem lw_p122 : lw_okq (⟨"BeggarHeapsModel", "drawsPack", "()V"⟩, 56) := ⟨⟨by decide +kernel, by decide +kernel⟩, List.mem_of_getElem? (i := 1483) (by decide +kernel), List.mem_of_getElem? (i := 2090) (by decide +kernel), List.mem_of_getElem? (i := 2091) (by decide +kernel)⟩
theorem lw_p123 : lw_okq (⟨"BeggarHeapsModel", "draw", "(I)I"⟩, 56) := ⟨⟨by decide +kernel, by decide +kernel⟩, List.mem_of_getElem? (i := 1483) (by decide +kernel), List.mem_of_getElem? (i := 2094) (by decide +kernel), List.mem_of_getElem? (i := 2095) (by decide +kernel)⟩
theorem lw_p124 : lw_okq (⟨"BeggarHeapsModel", "runsDrawn", "()V"⟩, 56) := ⟨⟨by decide +kernel, by decide +kernel⟩, List.mem_of_getElem? (i := 1483) (by decide +kernel), List.mem_of_getElem? (i := 2106) (by decide +kernel), List.mem_of_getElem? (i := 2107) (by decide +kernel)⟩
def lw_privs_8 : List (MethodName × Nat) := [(⟨"BeggarHeapsModel", "paysIn", "(II)I"⟩, 56), (⟨"BeggarHeapsModel", "findOdds", "()Z"⟩, 56), (⟨"BeggarHeapsModel", "findHidden", "()V"⟩, 56), (⟨"BeggarHeapsModel", "offerNow", "()I"⟩, 56), (⟨"BeggarHeapsModel", "worthAt", "(I)I"⟩, 56), (⟨"BeggarHeapsModel", "findChoice", "(I)I"⟩, 56), (⟨"BeggarHeapsModel", "canWin", "(III)Z"⟩, 56), (⟨"BeggarHeapsModel", "goesToHeap", "(I)Z"⟩, 56), (⟨"BeggarHeapsModel", "mustWin", "(II)Z"⟩, 56), (⟨"BeggarHeapsModel", "fitsOpening", "(I)Z"⟩, 56), (⟨"BeggarHeapsModel", "drawsPack", "()V"⟩, 56), (⟨"BeggarHeapsModel", "draw", "(I)I"⟩, 56), (⟨"BeggarHeapsModel", "runsDrawn", "()V"⟩, 56)]
theorem lw_r8 : ∀ q ∈ lw_privs_8, lw_okq q := List.forall_mem_cons.mpr ⟨lw_p112, List.forall_mem_cons.mpr ⟨lw_p113, List.forall_mem_cons.mpr ⟨lw_p114, List.forall_mem_cons.mpr ⟨lw_p115, List.forall_mem_cons.mpr ⟨lw_p116, List.forall_mem_cons.mpr ⟨lw_p117, List.forall_mem_cons.mpr ⟨lw_p118, List.forall_mem_cons.mpr ⟨lw_p119, List.forall_mem_cons.mpr ⟨lw_p120, List.forall_mem_cons.mpr ⟨lw_p121, List.forall_mem_cons.mpr ⟨lw_p122, List.forall_mem_cons.mpr ⟨lw_p123, List.forall_mem_cons.mpr ⟨lw_p124, fun _ h => absurd h List.not_mem_nil⟩⟩⟩⟩⟩⟩⟩⟩⟩⟩⟩⟩⟩
def lw_privs : List (MethodName × Nat) := lw_privs_1 ++ (lw_privs_2 ++ (lw_privs_3 ++ (lw_privs_4 ++ (lw_privs_5 ++ (lw_privs_6 ++ (lw_privs_7 ++ (lw_privs_8)))))))
def lw_tbl : List Cond := k2_sels lw_privs ++ tables_1
theorem lw_privs_ok : ∀ q ∈ lw_privs, lw_okq q := by
  show ∀ q ∈ lw_privs_1 ++ (lw_privs_2 ++ (lw_privs_3 ++ (lw_privs_4 ++ (lw_privs_5 ++ (lw_privs_6 ++ (lw_privs_7 ++ (lw_privs_8))))))), lw_okq q
  exact List.forall_mem_append.mpr ⟨lw_r1, List.forall_mem_append.mpr ⟨lw_r2, List.forall_mem_append.mpr ⟨lw_r3, List.forall_mem_append.mpr ⟨lw_r4, List.forall_mem_append.mpr ⟨lw_r5, List.forall_mem_append.mpr ⟨lw_r6, List.forall_mem_append.mpr ⟨lw_r7, lw_r8⟩⟩⟩⟩⟩⟩⟩
end
section
/-! the classes and their fields (printed names) -/
def RX0 : String := "BeggarHeaps$Book"
def TX0 : u_T := fun k => match k with
  | 0 => ("BeggarHeaps$Book", "openings", "I", false)
  | 1 => ("BeggarHeaps$Book", "who", "[I", true)
  | 2 => ("BeggarHeaps$Book", "many", "[I", true)
  | _ => ("BeggarHeaps$Book", "cards", "[I", true)
def tyX0 : Nat → FieldType := fun k => match k with
  | 0 => .int
  | 1 => .array .int
  | 2 => .array .int
  | _ => .array .int
abbrev wsX00 : List Cond := u_ws RX0 TX0 4
theorem nmX0 : ∀ a, a < 4 → ∀ b, b < 4 → a ≠ b → (TX0 a).2.1 ≠ (TX0 b).2.1 := by decide +kernel
theorem tyX0_ok : ∀ k, k < 4 → parseFieldDescriptor (TX0 k).2.2.1 = some (tyX0 k) := by decide +kernel
abbrev cX0_init : ByteArray := prog_2_method_1_code
def yX0_init : MethodName := ⟨RX0, "<init>", "()V"⟩
abbrev cX0_reset : ByteArray := prog_2_method_2_code
def yX0_reset : MethodName := ⟨RX0, "reset", "()V"⟩
abbrev cX0_setRow : ByteArray := prog_2_method_3_code
def yX0_setRow : MethodName := ⟨RX0, "setRow", "(I[III)V"⟩
abbrev cX0_finish : ByteArray := prog_2_method_4_code
def yX0_finish : MethodName := ⟨RX0, "finish", "(I)V"⟩
abbrev cX0_fitting : ByteArray := prog_2_method_5_code
def yX0_fitting : MethodName := ⟨RX0, "fitting", "(LBeggarHeaps$Game;I)I"⟩
abbrev cX0_fits : ByteArray := prog_2_method_6_code
def yX0_fits : MethodName := ⟨RX0, "fits", "(LBeggarHeaps$Game;II)Z"⟩
def RX1 : String := "BeggarHeaps$Ending"
def TX1 : u_T := fun k => match k with
  | 0 => ("BeggarHeaps$Ending", "play", "LBeggarHeaps$Play;", true)
  | 1 => ("BeggarHeaps$Ending", "result", "I", false)
  | 2 => ("BeggarHeaps$Ending", "turns", "I", false)
  | 3 => ("BeggarHeaps$Ending", "heaps", "I", false)
  | 4 => ("BeggarHeaps$Ending", "round", "I", false)
  | 5 => ("BeggarHeaps$Ending", "states", "I", false)
  | 6 => ("BeggarHeaps$Ending", "generation", "J", false)
  | 7 => ("BeggarHeaps$Ending", "key", "[J", true)
  | 8 => ("BeggarHeaps$Ending", "stateKeys", "[J", false)
  | 9 => ("BeggarHeaps$Ending", "stateTurns", "[I", false)
  | 10 => ("BeggarHeaps$Ending", "stateHeaps", "[I", false)
  | _ => ("BeggarHeaps$Ending", "slots", "[J", false)
def tyX1 : Nat → FieldType := fun k => match k with
  | 0 => .object "BeggarHeaps$Play"
  | 1 => .int
  | 2 => .int
  | 3 => .int
  | 4 => .int
  | 5 => .int
  | 6 => .long
  | 7 => .array .long
  | 8 => .array .long
  | 9 => .array .int
  | 10 => .array .int
  | _ => .array .long
abbrev wsX10 : List Cond := u_ws RX1 TX1 12
theorem nmX1 : ∀ a, a < 12 → ∀ b, b < 12 → a ≠ b → (TX1 a).2.1 ≠ (TX1 b).2.1 := by decide +kernel
theorem tyX1_ok : ∀ k, k < 12 → parseFieldDescriptor (TX1 k).2.2.1 = some (tyX1 k) := by decide +kernel
abbrev cX1_init : ByteArray := prog_3_method_1_code
def yX1_init : MethodName := ⟨RX1, "<init>", "()V"⟩
abbrev cX1_go : ByteArray := prog_3_method_2_code
def yX1_go : MethodName := ⟨RX1, "go", "(II)V"⟩
abbrev cX1_answer : ByteArray := prog_3_method_3_code
def yX1_answer : MethodName := ⟨RX1, "answer", "(IIII)V"⟩
abbrev cX1_forgetStates : ByteArray := prog_3_method_4_code
def yX1_forgetStates : MethodName := ⟨RX1, "forgetStates", "()V"⟩
abbrev cX1_noteState : ByteArray := prog_3_method_5_code
def yX1_noteState : MethodName := ⟨RX1, "noteState", "(II)I"⟩
abbrev cX1_addState : ByteArray := prog_3_method_6_code
def yX1_addState : MethodName := ⟨RX1, "addState", "(III)V"⟩
abbrev cX1_makeKey : ByteArray := prog_3_method_7_code
def yX1_makeKey : MethodName := ⟨RX1, "makeKey", "()V"⟩
abbrev cX1_addToKey : ByteArray := prog_3_method_8_code
def yX1_addToKey : MethodName := ⟨RX1, "addToKey", "(II)V"⟩
abbrev cX1_hashOfKey : ByteArray := prog_3_method_9_code
def yX1_hashOfKey : MethodName := ⟨RX1, "hashOfKey", "()I"⟩
abbrev cX1_isKey : ByteArray := prog_3_method_10_code
def yX1_isKey : MethodName := ⟨RX1, "isKey", "(I)Z"⟩
def RX2 : String := "BeggarHeaps$Game"
def TX2 : u_T := fun k => match k with
  | 0 => ("BeggarHeaps$Game", "play", "LBeggarHeaps$Play;", true)
  | 1 => ("BeggarHeaps$Game", "dealt", "[I", true)
  | 2 => ("BeggarHeaps$Game", "dealtMany", "[I", true)
  | 3 => ("BeggarHeaps$Game", "wasDealt", "Z", false)
  | 4 => ("BeggarHeaps$Game", "kept", "[I", true)
  | 5 => ("BeggarHeaps$Game", "keptNext", "I", false)
  | 6 => ("BeggarHeaps$Game", "keptMany", "I", false)
  | 7 => ("BeggarHeaps$Game", "last", "[I", true)
  | 8 => ("BeggarHeaps$Game", "lastMany", "I", false)
  | 9 => ("BeggarHeaps$Game", "told", "[I", true)
  | 10 => ("BeggarHeaps$Game", "comesMany", "I", false)
  | 11 => ("BeggarHeaps$Game", "betSide", "[I", true)
  | 12 => ("BeggarHeaps$Game", "betCoins", "[I", true)
  | 13 => ("BeggarHeaps$Game", "betOffer", "[I", true)
  | 14 => ("BeggarHeaps$Game", "betsMany", "I", false)
  | _ => ("BeggarHeaps$Game", "purse", "I", false)
def tyX2 : Nat → FieldType := fun k => match k with
  | 0 => .object "BeggarHeaps$Play"
  | 1 => .array .int
  | 2 => .array .int
  | 3 => .boolean
  | 4 => .array .int
  | 5 => .int
  | 6 => .int
  | 7 => .array .int
  | 8 => .int
  | 9 => .array .int
  | 10 => .int
  | 11 => .array .int
  | 12 => .array .int
  | 13 => .array .int
  | 14 => .int
  | _ => .int
abbrev wsX20 : List Cond := u_ws RX2 TX2 16
theorem nmX2 : ∀ a, a < 16 → ∀ b, b < 16 → a ≠ b → (TX2 a).2.1 ≠ (TX2 b).2.1 := by decide +kernel
theorem tyX2_ok : ∀ k, k < 16 → parseFieldDescriptor (TX2 k).2.2.1 = some (tyX2 k) := by decide +kernel
abbrev cX2_init : ByteArray := prog_4_method_1_code
def yX2_init : MethodName := ⟨RX2, "<init>", "()V"⟩
abbrev cX2_startEmpty : ByteArray := prog_4_method_2_code
def yX2_startEmpty : MethodName := ⟨RX2, "startEmpty", "(LBeggarHeaps$Table;)V"⟩
abbrev cX2_dealRows : ByteArray := prog_4_method_3_code
def yX2_dealRows : MethodName := ⟨RX2, "dealRows", "([III)V"⟩
abbrev cX2_startDealt : ByteArray := prog_4_method_4_code
def yX2_startDealt : MethodName := ⟨RX2, "startDealt", "(LBeggarHeaps$Table;)V"⟩
abbrev cX2_copyFrom : ByteArray := prog_4_method_5_code
def yX2_copyFrom : MethodName := ⟨RX2, "copyFrom", "(LBeggarHeaps$Game;)V"⟩
abbrev cX2_keptHeap : ByteArray := prog_4_method_6_code
def yX2_keptHeap : MethodName := ⟨RX2, "keptHeap", "(II)I"⟩
abbrev cX2_turnByHand : ByteArray := prog_4_method_7_code
def yX2_turnByHand : MethodName := ⟨RX2, "turnByHand", "(I)Z"⟩
abbrev cX2_canSlip : ByteArray := prog_4_method_8_code
def yX2_canSlip : MethodName := ⟨RX2, "canSlip", "(I)Z"⟩
abbrev cX2_doSlip : ByteArray := prog_4_method_9_code
def yX2_doSlip : MethodName := ⟨RX2, "doSlip", "(II)V"⟩
abbrev cX2_layBet : ByteArray := prog_4_method_10_code
def yX2_layBet : MethodName := ⟨RX2, "layBet", "(III)V"⟩
abbrev cX2_tellComes : ByteArray := prog_4_method_11_code
def yX2_tellComes : MethodName := ⟨RX2, "tellComes", "(I)I"⟩
abbrev cX2_ordersThatFit : ByteArray := prog_4_method_12_code
def yX2_ordersThatFit : MethodName := ⟨RX2, "ordersThatFit", "()I"⟩
abbrev cX2_takeHeap : ByteArray := prog_4_method_13_code
def yX2_takeHeap : MethodName := ⟨RX2, "takeHeap", "(I)V"⟩
abbrev cX2_payBets : ByteArray := prog_4_method_14_code
def yX2_payBets : MethodName := ⟨RX2, "payBets", "()V"⟩
def RX3 : String := "BeggarHeaps$Laying"
def TX3 : u_T := fun k => match k with
  | 0 => ("BeggarHeaps$Laying", "path", "[I", true)
  | 1 => ("BeggarHeaps$Laying", "pathMany", "I", false)
  | 2 => ("BeggarHeaps$Laying", "plays", "[LBeggarHeaps$Play;", false)
  | 3 => ("BeggarHeaps$Laying", "fewest", "I", false)
  | _ => ("BeggarHeaps$Laying", "nextToTry", "I", false)
def tyX3 : Nat → FieldType := fun k => match k with
  | 0 => .array .int
  | 1 => .int
  | 2 => .array (.object "BeggarHeaps$Play")
  | 3 => .int
  | _ => .int
abbrev wsX30 : List Cond := u_ws RX3 TX3 5
theorem nmX3 : ∀ a, a < 5 → ∀ b, b < 5 → a ≠ b → (TX3 a).2.1 ≠ (TX3 b).2.1 := by decide +kernel
theorem tyX3_ok : ∀ k, k < 5 → parseFieldDescriptor (TX3 k).2.2.1 = some (tyX3 k) := by decide +kernel
abbrev cX3_init : ByteArray := prog_5_method_1_code
def yX3_init : MethodName := ⟨RX3, "<init>", "()V"⟩
abbrev cX3_forget : ByteArray := prog_5_method_2_code
def yX3_forget : MethodName := ⟨RX3, "forget", "()V"⟩
abbrev cX3_fewestHeaps : ByteArray := prog_5_method_3_code
def yX3_fewestHeaps : MethodName := ⟨RX3, "fewestHeaps", "(LBeggarHeaps$Play;II)I"⟩
abbrev cX3_winsAgainstAny : ByteArray := prog_5_method_4_code
def yX3_winsAgainstAny : MethodName := ⟨RX3, "winsAgainstAny", "(LBeggarHeaps$Play;I)Z"⟩
abbrev cX3_begin : ByteArray := prog_5_method_5_code
def yX3_begin : MethodName := ⟨RX3, "begin", "(LBeggarHeaps$Play;)V"⟩
abbrev cX3_canWin : ByteArray := prog_5_method_6_code
def yX3_canWin : MethodName := ⟨RX3, "canWin", "(IIII)Z"⟩
abbrev cX3_winsHowever : ByteArray := prog_5_method_7_code
def yX3_winsHowever : MethodName := ⟨RX3, "winsHowever", "(II)Z"⟩
abbrev cX3_layNext : ByteArray := prog_5_method_8_code
def yX3_layNext : MethodName := ⟨RX3, "layNext", "(II)V"⟩
def RX4 : String := "BeggarHeaps$Odds"
def TX4 : u_T := fun k => match k with
  | 0 => ("BeggarHeaps$Odds", "found", "[I", true)
  | 1 => ("BeggarHeaps$Odds", "known", "Z", false)
  | 2 => ("BeggarHeaps$Odds", "tooMany", "Z", false)
  | 3 => ("BeggarHeaps$Odds", "rows", "LBeggarHeaps$Rows;", true)
  | 4 => ("BeggarHeaps$Odds", "ending", "LBeggarHeaps$Ending;", true)
  | 5 => ("BeggarHeaps$Odds", "kinds", "[I", true)
  | 6 => ("BeggarHeaps$Odds", "sides", "[I", true)
  | 7 => ("BeggarHeaps$Odds", "depths", "[I", true)
  | _ => ("BeggarHeaps$Odds", "places", "I", false)
def tyX4 : Nat → FieldType := fun k => match k with
  | 0 => .array .int
  | 1 => .boolean
  | 2 => .boolean
  | 3 => .object "BeggarHeaps$Rows"
  | 4 => .object "BeggarHeaps$Ending"
  | 5 => .array .int
  | 6 => .array .int
  | 7 => .array .int
  | _ => .int
abbrev wsX40 : List Cond := u_ws RX4 TX4 9
theorem nmX4 : ∀ a, a < 9 → ∀ b, b < 9 → a ≠ b → (TX4 a).2.1 ≠ (TX4 b).2.1 := by decide +kernel
theorem tyX4_ok : ∀ k, k < 9 → parseFieldDescriptor (TX4 k).2.2.1 = some (tyX4 k) := by decide +kernel
abbrev cX4_init : ByteArray := prog_6_method_1_code
def yX4_init : MethodName := ⟨RX4, "<init>", "(LBeggarHeaps$Rows;LBeggarHeaps$Ending;)V"⟩
abbrev cX4_find : ByteArray := prog_6_method_2_code
def yX4_find : MethodName := ⟨RX4, "find", "(LBeggarHeaps$Play;LBeggarHeaps$Table;)Z"⟩
abbrev cX4_collect : ByteArray := prog_6_method_3_code
def yX4_collect : MethodName := ⟨RX4, "collect", "(LBeggarHeaps$Play;)Z"⟩
abbrev cX4_playAll : ByteArray := prog_6_method_4_code
def yX4_playAll : MethodName := ⟨RX4, "playAll", "(LBeggarHeaps$Play;LBeggarHeaps$Table;)V"⟩
def RX5 : String := "BeggarHeaps$Play"
def TX5 : u_T := fun k => match k with
  | 0 => ("BeggarHeaps$Play", "cards", "[I", true)
  | 1 => ("BeggarHeaps$Play", "head", "[I", true)
  | 2 => ("BeggarHeaps$Play", "many", "[I", true)
  | 3 => ("BeggarHeaps$Play", "heap", "[I", true)
  | 4 => ("BeggarHeaps$Play", "laid", "[I", true)
  | 5 => ("BeggarHeaps$Play", "pays", "[I", true)
  | 6 => ("BeggarHeaps$Play", "onHeap", "I", false)
  | 7 => ("BeggarHeaps$Play", "next", "I", false)
  | 8 => ("BeggarHeaps$Play", "owed", "I", false)
  | 9 => ("BeggarHeaps$Play", "taker", "I", false)
  | 10 => ("BeggarHeaps$Play", "turned", "I", false)
  | 11 => ("BeggarHeaps$Play", "heaps", "I", false)
  | 12 => ("BeggarHeaps$Play", "rounds", "I", false)
  | 13 => ("BeggarHeaps$Play", "won", "I", false)
  | _ => ("BeggarHeaps$Play", "waiting", "Z", false)
def tyX5 : Nat → FieldType := fun k => match k with
  | 0 => .array .int
  | 1 => .array .int
  | 2 => .array .int
  | 3 => .array .int
  | 4 => .array .int
  | 5 => .array .int
  | 6 => .int
  | 7 => .int
  | 8 => .int
  | 9 => .int
  | 10 => .int
  | 11 => .int
  | 12 => .int
  | 13 => .int
  | _ => .boolean
abbrev wsX50 : List Cond := u_ws RX5 TX5 15
theorem nmX5 : ∀ a, a < 15 → ∀ b, b < 15 → a ≠ b → (TX5 a).2.1 ≠ (TX5 b).2.1 := by decide +kernel
theorem tyX5_ok : ∀ k, k < 15 → parseFieldDescriptor (TX5 k).2.2.1 = some (tyX5 k) := by decide +kernel
abbrev cX5_init : ByteArray := prog_7_method_1_code
def yX5_init : MethodName := ⟨RX5, "<init>", "()V"⟩
abbrev cX5_start : ByteArray := prog_7_method_2_code
def yX5_start : MethodName := ⟨RX5, "start", "(I[I)V"⟩
abbrev cX5_give : ByteArray := prog_7_method_3_code
def yX5_give : MethodName := ⟨RX5, "give", "(I[III)V"⟩
abbrev cX5_copyFrom : ByteArray := prog_7_method_4_code
def yX5_copyFrom : MethodName := ⟨RX5, "copyFrom", "(LBeggarHeaps$Play;)V"⟩
abbrev cX5_copyRow : ByteArray := prog_7_method_5_code
def yX5_copyRow : MethodName := ⟨RX5, "copyRow", "(LBeggarHeaps$Play;I)V"⟩
abbrev cX5_placeOf : ByteArray := prog_7_method_6_code
def yX5_placeOf : MethodName := ⟨RX5, "placeOf", "(II)I"⟩
abbrev cX5_kindAt : ByteArray := prog_7_method_7_code
def yX5_kindAt : MethodName := ⟨RX5, "kindAt", "(II)I"⟩
abbrev cX5_isHidden : ByteArray := prog_7_method_8_code
def yX5_isHidden : MethodName := ⟨RX5, "isHidden", "(II)Z"⟩
abbrev cX5_countInRow : ByteArray := prog_7_method_9_code
def yX5_countInRow : MethodName := ⟨RX5, "countInRow", "(II)I"⟩
abbrev cX5_countOnHeap : ByteArray := prog_7_method_10_code
def yX5_countOnHeap : MethodName := ⟨RX5, "countOnHeap", "(I)I"⟩
abbrev cX5_countUnseen : ByteArray := prog_7_method_11_code
def yX5_countUnseen : MethodName := ⟨RX5, "countUnseen", "(I)I"⟩
abbrev cX5_countMakersOnHeap : ByteArray := prog_7_method_12_code
def yX5_countMakersOnHeap : MethodName := ⟨RX5, "countMakersOnHeap", "()I"⟩
abbrev cX5_payOf : ByteArray := prog_7_method_13_code
def yX5_payOf : MethodName := ⟨RX5, "payOf", "(I)I"⟩
abbrev cX5_payOfRow : ByteArray := prog_7_method_14_code
def yX5_payOfRow : MethodName := ⟨RX5, "payOfRow", "(I)I"⟩
abbrev cX5_putOnHeap : ByteArray := prog_7_method_15_code
def yX5_putOnHeap : MethodName := ⟨RX5, "putOnHeap", "()I"⟩
abbrev cX5_nextHasLost : ByteArray := prog_7_method_16_code
def yX5_nextHasLost : MethodName := ⟨RX5, "nextHasLost", "()Z"⟩
abbrev cX5_turnUp : ByteArray := prog_7_method_17_code
def yX5_turnUp : MethodName := ⟨RX5, "turnUp", "()I"⟩
abbrev cX5_turnToHeap : ByteArray := prog_7_method_18_code
def yX5_turnToHeap : MethodName := ⟨RX5, "turnToHeap", "()I"⟩
abbrev cX5_layHeap : ByteArray := prog_7_method_19_code
def yX5_layHeap : MethodName := ⟨RX5, "layHeap", "(I)V"⟩
abbrev cX5_topBeneath : ByteArray := prog_7_method_20_code
def yX5_topBeneath : MethodName := ⟨RX5, "topBeneath", "()V"⟩
abbrev cX5_arrange : ByteArray := prog_7_method_21_code
def yX5_arrange : MethodName := ⟨RX5, "arrange", "([III)V"⟩
abbrev cX5_pick : ByteArray := prog_7_method_22_code
def yX5_pick : MethodName := ⟨RX5, "pick", "([IIIII)I"⟩
def RX6 : String := "BeggarHeaps$Reader"
def TX6 : u_T := fun k => match k with
  | 0 => ("BeggarHeaps$Reader", "tape", "LBeggarHeaps$Tape;", true)
  | 1 => ("BeggarHeaps$Reader", "cards", "[I", true)
  | 2 => ("BeggarHeaps$Reader", "many", "[I", true)
  | 3 => ("BeggarHeaps$Reader", "table", "LBeggarHeaps$Table;", false)
  | 4 => ("BeggarHeaps$Reader", "book", "LBeggarHeaps$Book;", false)
  | 5 => ("BeggarHeaps$Reader", "fault", "I", false)
  | 6 => ("BeggarHeaps$Reader", "leftTold", "Z", false)
  | _ => ("BeggarHeaps$Reader", "rightTold", "Z", false)
def tyX6 : Nat → FieldType := fun k => match k with
  | 0 => .object "BeggarHeaps$Tape"
  | 1 => .array .int
  | 2 => .array .int
  | 3 => .object "BeggarHeaps$Table"
  | 4 => .object "BeggarHeaps$Book"
  | 5 => .int
  | 6 => .boolean
  | _ => .boolean
abbrev wsX60 : List Cond := u_ws RX6 TX6 8
theorem nmX6 : ∀ a, a < 8 → ∀ b, b < 8 → a ≠ b → (TX6 a).2.1 ≠ (TX6 b).2.1 := by decide +kernel
theorem tyX6_ok : ∀ k, k < 8 → parseFieldDescriptor (TX6 k).2.2.1 = some (tyX6 k) := by decide +kernel
abbrev cX6_init : ByteArray := prog_8_method_1_code
def yX6_init : MethodName := ⟨RX6, "<init>", "(LBeggarHeaps$Tape;LBeggarHeaps$Table;LBeggarHeaps$Book;)V"⟩
abbrev cX6_readTable : ByteArray := prog_8_method_2_code
def yX6_readTable : MethodName := ⟨RX6, "readTable", "(LBeggarHeaps$Table;)I"⟩
abbrev cX6_readDeal : ByteArray := prog_8_method_3_code
def yX6_readDeal : MethodName := ⟨RX6, "readDeal", "(LBeggarHeaps$Table;)I"⟩
abbrev cX6_readBook : ByteArray := prog_8_method_4_code
def yX6_readBook : MethodName := ⟨RX6, "readBook", "(LBeggarHeaps$Table;LBeggarHeaps$Book;)I"⟩
abbrev cX6_begin : ByteArray := prog_8_method_5_code
def yX6_begin : MethodName := ⟨RX6, "begin", "()V"⟩
abbrev cX6_finish : ByteArray := prog_8_method_6_code
def yX6_finish : MethodName := ⟨RX6, "finish", "()I"⟩
abbrev cX6_closeUp : ByteArray := prog_8_method_7_code
def yX6_closeUp : MethodName := ⟨RX6, "closeUp", "()V"⟩
abbrev cX6_wrong : ByteArray := prog_8_method_8_code
def yX6_wrong : MethodName := ⟨RX6, "wrong", "(I)Z"⟩
abbrev cX6_takeWord : ByteArray := prog_8_method_9_code
def yX6_takeWord : MethodName := ⟨RX6, "takeWord", "(I)Z"⟩
abbrev cX6_takeSign : ByteArray := prog_8_method_10_code
def yX6_takeSign : MethodName := ⟨RX6, "takeSign", "(I)Z"⟩
abbrev cX6_isNumberFrom : ByteArray := prog_8_method_11_code
def yX6_isNumberFrom : MethodName := ⟨RX6, "isNumberFrom", "(II)Z"⟩
abbrev cX6_readTableLine : ByteArray := prog_8_method_12_code
def yX6_readTableLine : MethodName := ⟨RX6, "readTableLine", "()Z"⟩
abbrev cX6_readKind : ByteArray := prog_8_method_13_code
def yX6_readKind : MethodName := ⟨RX6, "readKind", "()Z"⟩
abbrev cX6_readPack : ByteArray := prog_8_method_14_code
def yX6_readPack : MethodName := ⟨RX6, "readPack", "()Z"⟩
abbrev cX6_readLay : ByteArray := prog_8_method_15_code
def yX6_readLay : MethodName := ⟨RX6, "readLay", "()Z"⟩
abbrev cX6_readFirst : ByteArray := prog_8_method_16_code
def yX6_readFirst : MethodName := ⟨RX6, "readFirst", "()Z"⟩
abbrev cX6_readLimit : ByteArray := prog_8_method_17_code
def yX6_readLimit : MethodName := ⟨RX6, "readLimit", "()Z"⟩
abbrev cX6_readBet : ByteArray := prog_8_method_18_code
def yX6_readBet : MethodName := ⟨RX6, "readBet", "()Z"⟩
abbrev cX6_readE : ByteArray := prog_8_method_19_code
def yX6_readE : MethodName := ⟨RX6, "readE", "(I)Z"⟩
abbrev cX6_readTest : ByteArray := prog_8_method_20_code
def yX6_readTest : MethodName := ⟨RX6, "readTest", "(I)Z"⟩
abbrev cX6_readSum : ByteArray := prog_8_method_21_code
def yX6_readSum : MethodName := ⟨RX6, "readSum", "(I)Z"⟩
abbrev cX6_readProduct : ByteArray := prog_8_method_22_code
def yX6_readProduct : MethodName := ⟨RX6, "readProduct", "(I)Z"⟩
abbrev cX6_readPart : ByteArray := prog_8_method_23_code
def yX6_readPart : MethodName := ⟨RX6, "readPart", "(I)Z"⟩
abbrev cX6_readDealLine : ByteArray := prog_8_method_24_code
def yX6_readDealLine : MethodName := ⟨RX6, "readDealLine", "()Z"⟩
abbrev cX6_readOpening : ByteArray := prog_8_method_25_code
def yX6_readOpening : MethodName := ⟨RX6, "readOpening", "()Z"⟩
abbrev cX6_readRow : ByteArray := prog_8_method_26_code
def yX6_readRow : MethodName := ⟨RX6, "readRow", "(II)Z"⟩
abbrev cX6_addCards : ByteArray := prog_8_method_27_code
def yX6_addCards : MethodName := ⟨RX6, "addCards", "(III)Z"⟩
def RX7 : String := "BeggarHeaps$Rows"
def TX7 : u_T := fun k => match k with
  | 0 => ("BeggarHeaps$Rows", "cards", "[I", true)
  | 1 => ("BeggarHeaps$Rows", "left", "[I", true)
  | 2 => ("BeggarHeaps$Rows", "many", "I", false)
  | _ => ("BeggarHeaps$Rows", "g", "J", false)
def tyX7 : Nat → FieldType := fun k => match k with
  | 0 => .array .int
  | 1 => .array .int
  | 2 => .int
  | _ => .long
abbrev wsX70 : List Cond := u_ws RX7 TX7 4
theorem nmX7 : ∀ a, a < 4 → ∀ b, b < 4 → a ≠ b → (TX7 a).2.1 ≠ (TX7 b).2.1 := by decide +kernel
theorem tyX7_ok : ∀ k, k < 4 → parseFieldDescriptor (TX7 k).2.2.1 = some (tyX7 k) := by decide +kernel
abbrev cX7_init : ByteArray := prog_9_method_1_code
def yX7_init : MethodName := ⟨RX7, "<init>", "()V"⟩
abbrev cX7_leftHalf : ByteArray := prog_9_method_2_code
def yX7_leftHalf : MethodName := ⟨RX7, "leftHalf", "(I)I"⟩
abbrev cX7_howMany : ByteArray := prog_9_method_3_code
def yX7_howMany : MethodName := ⟨RX7, "howMany", "([I)I"⟩
abbrev cX7_toFirst : ByteArray := prog_9_method_4_code
def yX7_toFirst : MethodName := ⟨RX7, "toFirst", "([I)V"⟩
abbrev cX7_toNext : ByteArray := prog_9_method_5_code
def yX7_toNext : MethodName := ⟨RX7, "toNext", "()Z"⟩
abbrev cX7_toNumber : ByteArray := prog_9_method_6_code
def yX7_toNumber : MethodName := ⟨RX7, "toNumber", "([II)V"⟩
abbrev cX7_startDraws : ByteArray := prog_9_method_7_code
def yX7_startDraws : MethodName := ⟨RX7, "startDraws", "(I)V"⟩
abbrev cX7_drawRow : ByteArray := prog_9_method_8_code
def yX7_drawRow : MethodName := ⟨RX7, "drawRow", "([I)V"⟩
abbrev cX7_drawBelow : ByteArray := prog_9_method_9_code
def yX7_drawBelow : MethodName := ⟨RX7, "drawBelow", "(I)I"⟩
abbrev cX7_swap : ByteArray := prog_9_method_10_code
def yX7_swap : MethodName := ⟨RX7, "swap", "(II)V"⟩
def RX8 : String := "BeggarHeaps$Study"
def TX8 : u_T := fun k => match k with
  | 0 => ("BeggarHeaps$Study", "allFound", "[I", true)
  | 1 => ("BeggarHeaps$Study", "worthFound", "[I", true)
  | 2 => ("BeggarHeaps$Study", "beginnerFound", "[I", true)
  | 3 => ("BeggarHeaps$Study", "leadsFound", "[I", true)
  | 4 => ("BeggarHeaps$Study", "lawsFound", "[I", true)
  | 5 => ("BeggarHeaps$Study", "gamesFound", "[I", true)
  | 6 => ("BeggarHeaps$Study", "lookedRow", "[I", true)
  | 7 => ("BeggarHeaps$Study", "lookedFound", "I", false)
  | 8 => ("BeggarHeaps$Study", "rows", "LBeggarHeaps$Rows;", true)
  | 9 => ("BeggarHeaps$Study", "ending", "LBeggarHeaps$Ending;", true)
  | 10 => ("BeggarHeaps$Study", "lawKnown", "[Z", true)
  | 11 => ("BeggarHeaps$Study", "pays", "[I", true)
  | 12 => ("BeggarHeaps$Study", "leftHasMore", "[I", true)
  | 13 => ("BeggarHeaps$Study", "allKnown", "Z", false)
  | 14 => ("BeggarHeaps$Study", "beginnerKnown", "Z", false)
  | 15 => ("BeggarHeaps$Study", "leadsKnown", "Z", false)
  | 16 => ("BeggarHeaps$Study", "gamesKey", "I", false)
  | _ => ("BeggarHeaps$Study", "lookedKey", "I", false)
def tyX8 : Nat → FieldType := fun k => match k with
  | 0 => .array .int
  | 1 => .array .int
  | 2 => .array .int
  | 3 => .array .int
  | 4 => .array .int
  | 5 => .array .int
  | 6 => .array .int
  | 7 => .int
  | 8 => .object "BeggarHeaps$Rows"
  | 9 => .object "BeggarHeaps$Ending"
  | 10 => .array .boolean
  | 11 => .array .int
  | 12 => .array .int
  | 13 => .boolean
  | 14 => .boolean
  | 15 => .boolean
  | 16 => .int
  | _ => .int
abbrev wsX80 : List Cond := u_ws RX8 TX8 18
theorem nmX8 : ∀ a, a < 18 → ∀ b, b < 18 → a ≠ b → (TX8 a).2.1 ≠ (TX8 b).2.1 := by decide +kernel
theorem tyX8_ok : ∀ k, k < 18 → parseFieldDescriptor (TX8 k).2.2.1 = some (tyX8 k) := by decide +kernel
abbrev cX8_init : ByteArray := prog_10_method_1_code
def yX8_init : MethodName := ⟨RX8, "<init>", "(LBeggarHeaps$Rows;LBeggarHeaps$Ending;)V"⟩
abbrev cX8_isSeed : ByteArray := prog_10_method_2_code
def yX8_isSeed : MethodName := ⟨RX8, "isSeed", "(I)Z"⟩
abbrev cX8_forget : ByteArray := prog_10_method_3_code
def yX8_forget : MethodName := ⟨RX8, "forget", "()V"⟩
abbrev cX8_canAsk : ByteArray := prog_10_method_4_code
def yX8_canAsk : MethodName := ⟨RX8, "canAsk", "(LBeggarHeaps$Table;)Z"⟩
abbrev cX8_studyAll : ByteArray := prog_10_method_5_code
def yX8_studyAll : MethodName := ⟨RX8, "studyAll", "(LBeggarHeaps$Table;)V"⟩
abbrev cX8_tellAll : ByteArray := prog_10_method_6_code
def yX8_tellAll : MethodName := ⟨RX8, "tellAll", "(I)V"⟩
abbrev cX8_tellWorth : ByteArray := prog_10_method_7_code
def yX8_tellWorth : MethodName := ⟨RX8, "tellWorth", "()V"⟩
abbrev cX8_studyBeginner : ByteArray := prog_10_method_8_code
def yX8_studyBeginner : MethodName := ⟨RX8, "studyBeginner", "(LBeggarHeaps$Table;)V"⟩
abbrev cX8_studyLeads : ByteArray := prog_10_method_9_code
def yX8_studyLeads : MethodName := ⟨RX8, "studyLeads", "(LBeggarHeaps$Table;)V"⟩
abbrev cX8_tellLeads : ByteArray := prog_10_method_10_code
def yX8_tellLeads : MethodName := ⟨RX8, "tellLeads", "(LBeggarHeaps$Table;I)V"⟩
abbrev cX8_tellLead : ByteArray := prog_10_method_11_code
def yX8_tellLead : MethodName := ⟨RX8, "tellLead", "(III)V"⟩
abbrev cX8_studyLaw : ByteArray := prog_10_method_12_code
def yX8_studyLaw : MethodName := ⟨RX8, "studyLaw", "(LBeggarHeaps$Table;II)V"⟩
abbrev cX8_commonPart : ByteArray := prog_10_method_13_code
def yX8_commonPart : MethodName := ⟨RX8, "commonPart", "(II)I"⟩
abbrev cX8_studyGames : ByteArray := prog_10_method_14_code
def yX8_studyGames : MethodName := ⟨RX8, "studyGames", "(LBeggarHeaps$Table;II)V"⟩
abbrev cX8_lookForRound : ByteArray := prog_10_method_15_code
def yX8_lookForRound : MethodName := ⟨RX8, "lookForRound", "(LBeggarHeaps$Table;II)V"⟩
abbrev cX8_playRow : ByteArray := prog_10_method_16_code
def yX8_playRow : MethodName := ⟨RX8, "playRow", "(LBeggarHeaps$Table;I[I)V"⟩
abbrev cX8_layOut : ByteArray := prog_10_method_17_code
def yX8_layOut : MethodName := ⟨RX8, "layOut", "(I[I)V"⟩
abbrev cX8_wipe : ByteArray := prog_10_method_18_code
def yX8_wipe : MethodName := ⟨RX8, "wipe", "([I)V"⟩
def RX9 : String := "BeggarHeaps$Table"
def TX9 : u_T := fun k => match k with
  | 0 => ("BeggarHeaps$Table", "kinds", "I", false)
  | 1 => ("BeggarHeaps$Table", "names", "[J", true)
  | 2 => ("BeggarHeaps$Table", "pays", "[I", true)
  | 3 => ("BeggarHeaps$Table", "pack", "[I", true)
  | 4 => ("BeggarHeaps$Table", "packTold", "[Z", true)
  | 5 => ("BeggarHeaps$Table", "cards", "I", false)
  | 6 => ("BeggarHeaps$Table", "lay", "I", false)
  | 7 => ("BeggarHeaps$Table", "first", "I", false)
  | 8 => ("BeggarHeaps$Table", "limit", "I", false)
  | 9 => ("BeggarHeaps$Table", "layTold", "Z", false)
  | 10 => ("BeggarHeaps$Table", "firstTold", "Z", false)
  | 11 => ("BeggarHeaps$Table", "limitTold", "Z", false)
  | 12 => ("BeggarHeaps$Table", "betTold", "Z", false)
  | 13 => ("BeggarHeaps$Table", "steps", "I", false)
  | 14 => ("BeggarHeaps$Table", "step", "[I", true)
  | _ => ("BeggarHeaps$Table", "stack", "[I", true)
def tyX9 : Nat → FieldType := fun k => match k with
  | 0 => .int
  | 1 => .array .long
  | 2 => .array .int
  | 3 => .array .int
  | 4 => .array .boolean
  | 5 => .int
  | 6 => .int
  | 7 => .int
  | 8 => .int
  | 9 => .boolean
  | 10 => .boolean
  | 11 => .boolean
  | 12 => .boolean
  | 13 => .int
  | 14 => .array .int
  | _ => .array .int
abbrev wsX90 : List Cond := u_ws RX9 TX9 16
theorem nmX9 : ∀ a, a < 16 → ∀ b, b < 16 → a ≠ b → (TX9 a).2.1 ≠ (TX9 b).2.1 := by decide +kernel
theorem tyX9_ok : ∀ k, k < 16 → parseFieldDescriptor (TX9 k).2.2.1 = some (tyX9 k) := by decide +kernel
abbrev cX9_init : ByteArray := prog_11_method_1_code
def yX9_init : MethodName := ⟨RX9, "<init>", "()V"⟩
abbrev cX9_reset : ByteArray := prog_11_method_2_code
def yX9_reset : MethodName := ⟨RX9, "reset", "()V"⟩
abbrev cX9_find : ByteArray := prog_11_method_3_code
def yX9_find : MethodName := ⟨RX9, "find", "(J)I"⟩
abbrev cX9_addKind : ByteArray := prog_11_method_4_code
def yX9_addKind : MethodName := ⟨RX9, "addKind", "(JI)V"⟩
abbrev cX9_addStep : ByteArray := prog_11_method_5_code
def yX9_addStep : MethodName := ⟨RX9, "addStep", "(I)V"⟩
abbrev cX9_offerFor : ByteArray := prog_11_method_6_code
def yX9_offerFor : MethodName := ⟨RX9, "offerFor", "(LBeggarHeaps$Play;)I"⟩
abbrev cX9_evaluate : ByteArray := prog_11_method_7_code
def yX9_evaluate : MethodName := ⟨RX9, "evaluate", "(LBeggarHeaps$Play;)I"⟩
abbrev cX9_fact : ByteArray := prog_11_method_8_code
def yX9_fact : MethodName := ⟨RX9, "fact", "(LBeggarHeaps$Play;I)I"⟩
abbrev cX9_combine : ByteArray := prog_11_method_9_code
def yX9_combine : MethodName := ⟨RX9, "combine", "(III)I"⟩
def RX10 : String := "BeggarHeaps$Tape"
def TX10 : u_T := fun k => match k with
  | 0 => ("BeggarHeaps$Tape", "signs", "[B", true)
  | 1 => ("BeggarHeaps$Tape", "words", "[J", true)
  | 2 => ("BeggarHeaps$Tape", "length", "I", false)
  | 3 => ("BeggarHeaps$Tape", "place", "I", false)
  | 4 => ("BeggarHeaps$Tape", "at", "I", false)
  | 5 => ("BeggarHeaps$Tape", "type", "I", false)
  | 6 => ("BeggarHeaps$Tape", "known", "I", false)
  | 7 => ("BeggarHeaps$Tape", "number", "I", false)
  | 8 => ("BeggarHeaps$Tape", "sign", "I", false)
  | _ => ("BeggarHeaps$Tape", "word", "J", false)
def tyX10 : Nat → FieldType := fun k => match k with
  | 0 => .array .byte
  | 1 => .array .long
  | 2 => .int
  | 3 => .int
  | 4 => .int
  | 5 => .int
  | 6 => .int
  | 7 => .int
  | 8 => .int
  | _ => .long
abbrev wsX100 : List Cond := u_ws RX10 TX10 10
theorem nmX10 : ∀ a, a < 10 → ∀ b, b < 10 → a ≠ b → (TX10 a).2.1 ≠ (TX10 b).2.1 := by decide +kernel
theorem tyX10_ok : ∀ k, k < 10 → parseFieldDescriptor (TX10 k).2.2.1 = some (tyX10 k) := by decide +kernel
abbrev cX10_init : ByteArray := prog_12_method_1_code
def yX10_init : MethodName := ⟨RX10, "<init>", "()V"⟩
abbrev cX10_addEight : ByteArray := prog_12_method_2_code
def yX10_addEight : MethodName := ⟨RX10, "addEight", "(J)V"⟩
abbrev cX10_begin : ByteArray := prog_12_method_3_code
def yX10_begin : MethodName := ⟨RX10, "begin", "()V"⟩
abbrev cX10_empty : ByteArray := prog_12_method_4_code
def yX10_empty : MethodName := ⟨RX10, "empty", "()V"⟩
abbrev cX10_advance : ByteArray := prog_12_method_5_code
def yX10_advance : MethodName := ⟨RX10, "advance", "()V"⟩
abbrev cX10_isNamed : ByteArray := prog_12_method_6_code
def yX10_isNamed : MethodName := ⟨RX10, "isNamed", "()Z"⟩
abbrev cX10_isSignOf : ByteArray := prog_12_method_7_code
def yX10_isSignOf : MethodName := ⟨RX10, "isSignOf", "(I)Z"⟩
abbrev cX10_readWord : ByteArray := prog_12_method_8_code
def yX10_readWord : MethodName := ⟨RX10, "readWord", "()V"⟩
abbrev cX10_readNumber : ByteArray := prog_12_method_9_code
def yX10_readNumber : MethodName := ⟨RX10, "readNumber", "()V"⟩
abbrev cX10_isSign : ByteArray := prog_12_method_10_code
def yX10_isSign : MethodName := ⟨RX10, "isSign", "(I)Z"⟩
def RX11 : String := "BeggarHeaps"
def TX11 : u_T := fun k => match k with
  | 0 => ("BeggarHeaps", "tape", "LBeggarHeaps$Tape;", true)
  | 1 => ("BeggarHeaps", "table", "LBeggarHeaps$Table;", false)
  | 2 => ("BeggarHeaps", "spareTable", "LBeggarHeaps$Table;", false)
  | 3 => ("BeggarHeaps", "book", "LBeggarHeaps$Book;", false)
  | 4 => ("BeggarHeaps", "spareBook", "LBeggarHeaps$Book;", false)
  | 5 => ("BeggarHeaps", "reader", "LBeggarHeaps$Reader;", true)
  | 6 => ("BeggarHeaps", "game", "LBeggarHeaps$Game;", true)
  | 7 => ("BeggarHeaps", "past", "[LBeggarHeaps$Game;", true)
  | 8 => ("BeggarHeaps", "pastNext", "I", false)
  | 9 => ("BeggarHeaps", "pastMany", "I", false)
  | 10 => ("BeggarHeaps", "marks", "[LBeggarHeaps$Game;", true)
  | 11 => ("BeggarHeaps", "marked", "[Z", true)
  | 12 => ("BeggarHeaps", "rows", "LBeggarHeaps$Rows;", true)
  | 13 => ("BeggarHeaps", "ending", "LBeggarHeaps$Ending;", true)
  | 14 => ("BeggarHeaps", "study", "LBeggarHeaps$Study;", true)
  | 15 => ("BeggarHeaps", "odds", "LBeggarHeaps$Odds;", true)
  | 16 => ("BeggarHeaps", "laying", "LBeggarHeaps$Laying;", true)
  | 17 => ("BeggarHeaps", "endsFound", "[I", true)
  | _ => ("BeggarHeaps", "endsKnown", "Z", false)
def tyX11 : Nat → FieldType := fun k => match k with
  | 0 => .object "BeggarHeaps$Tape"
  | 1 => .object "BeggarHeaps$Table"
  | 2 => .object "BeggarHeaps$Table"
  | 3 => .object "BeggarHeaps$Book"
  | 4 => .object "BeggarHeaps$Book"
  | 5 => .object "BeggarHeaps$Reader"
  | 6 => .object "BeggarHeaps$Game"
  | 7 => .array (.object "BeggarHeaps$Game")
  | 8 => .int
  | 9 => .int
  | 10 => .array (.object "BeggarHeaps$Game")
  | 11 => .array .boolean
  | 12 => .object "BeggarHeaps$Rows"
  | 13 => .object "BeggarHeaps$Ending"
  | 14 => .object "BeggarHeaps$Study"
  | 15 => .object "BeggarHeaps$Odds"
  | 16 => .object "BeggarHeaps$Laying"
  | 17 => .array .int
  | _ => .boolean
abbrev wsX110 : List Cond := u_ws RX11 TX11 19
theorem nmX11 : ∀ a, a < 19 → ∀ b, b < 19 → a ≠ b → (TX11 a).2.1 ≠ (TX11 b).2.1 := by decide +kernel
theorem tyX11_ok : ∀ k, k < 19 → parseFieldDescriptor (TX11 k).2.2.1 = some (tyX11 k) := by decide +kernel
abbrev cX11_init : ByteArray := prog_1_method_1_code
def yX11_init : MethodName := ⟨RX11, "<init>", "()V"⟩
abbrev cX11_feed : ByteArray := prog_1_method_2_code
def yX11_feed : MethodName := ⟨RX11, "feed", "(JJJ)I"⟩
abbrev cX11_table : ByteArray := prog_1_method_3_code
def yX11_table : MethodName := ⟨RX11, "table", "()I"⟩
abbrev cX11_deal : ByteArray := prog_1_method_4_code
def yX11_deal : MethodName := ⟨RX11, "deal", "()I"⟩
abbrev cX11_book : ByteArray := prog_1_method_5_code
def yX11_book : MethodName := ⟨RX11, "book", "()I"⟩
abbrev cX11_kind : ByteArray := prog_1_method_6_code
def yX11_kind : MethodName := ⟨RX11, "kind", "(II)I"⟩
abbrev cX11_card : ByteArray := prog_1_method_7_code
def yX11_card : MethodName := ⟨RX11, "card", "(II)I"⟩
abbrev cX11_heap : ByteArray := prog_1_method_8_code
def yX11_heap : MethodName := ⟨RX11, "heap", "(I)I"⟩
abbrev cX11_taken : ByteArray := prog_1_method_9_code
def yX11_taken : MethodName := ⟨RX11, "taken", "(II)I"⟩
abbrev cX11_turn : ByteArray := prog_1_method_10_code
def yX11_turn : MethodName := ⟨RX11, "turn", "(I)I"⟩
abbrev cX11_slip : ByteArray := prog_1_method_11_code
def yX11_slip : MethodName := ⟨RX11, "slip", "(I)Z"⟩
abbrev cX11_undo : ByteArray := prog_1_method_12_code
def yX11_undo : MethodName := ⟨RX11, "undo", "()Z"⟩
abbrev cX11_again : ByteArray := prog_1_method_13_code
def yX11_again : MethodName := ⟨RX11, "again", "()Z"⟩
abbrev cX11_ends : ByteArray := prog_1_method_14_code
def yX11_ends : MethodName := ⟨RX11, "ends", "(I)I"⟩
abbrev cX11_all : ByteArray := prog_1_method_15_code
def yX11_all : MethodName := ⟨RX11, "all", "(I)I"⟩
abbrev cX11_row : ByteArray := prog_1_method_16_code
def yX11_row : MethodName := ⟨RX11, "row", "(II)I"⟩
abbrev cX11_beginner : ByteArray := prog_1_method_17_code
def yX11_beginner : MethodName := ⟨RX11, "beginner", "(I)I"⟩
abbrev cX11_worth : ByteArray := prog_1_method_18_code
def yX11_worth : MethodName := ⟨RX11, "worth", "(II)I"⟩
abbrev cX11_leads : ByteArray := prog_1_method_19_code
def yX11_leads : MethodName := ⟨RX11, "leads", "(II)I"⟩
abbrev cX11_laws : ByteArray := prog_1_method_20_code
def yX11_laws : MethodName := ⟨RX11, "laws", "(III)I"⟩
abbrev cX11_unseen : ByteArray := prog_1_method_21_code
def yX11_unseen : MethodName := ⟨RX11, "unseen", "(I)I"⟩
abbrev cX11_odds : ByteArray := prog_1_method_22_code
def yX11_odds : MethodName := ⟨RX11, "odds", "(I)I"⟩
abbrev cX11_offer : ByteArray := prog_1_method_23_code
def yX11_offer : MethodName := ⟨RX11, "offer", "()I"⟩
abbrev cX11_bet : ByteArray := prog_1_method_24_code
def yX11_bet : MethodName := ⟨RX11, "bet", "(II)I"⟩
abbrev cX11_take : ByteArray := prog_1_method_25_code
def yX11_take : MethodName := ⟨RX11, "take", "(I)I"⟩
abbrev cX11_choice : ByteArray := prog_1_method_26_code
def yX11_choice : MethodName := ⟨RX11, "choice", "(II)I"⟩
abbrev cX11_both : ByteArray := prog_1_method_27_code
def yX11_both : MethodName := ⟨RX11, "both", "(I)I"⟩
abbrev cX11_opening : ByteArray := prog_1_method_28_code
def yX11_opening : MethodName := ⟨RX11, "opening", "(I)I"⟩
abbrev cX11_comes : ByteArray := prog_1_method_29_code
def yX11_comes : MethodName := ⟨RX11, "comes", "(I)I"⟩
abbrev cX11_orders : ByteArray := prog_1_method_30_code
def yX11_orders : MethodName := ⟨RX11, "orders", "()I"⟩
abbrev cX11_clear : ByteArray := prog_1_method_31_code
def yX11_clear : MethodName := ⟨RX11, "clear", "()Z"⟩
abbrev cX11_drawn : ByteArray := prog_1_method_32_code
def yX11_drawn : MethodName := ⟨RX11, "drawn", "(I)Z"⟩
abbrev cX11_games : ByteArray := prog_1_method_33_code
def yX11_games : MethodName := ⟨RX11, "games", "(III)I"⟩
abbrev cX11_looked : ByteArray := prog_1_method_34_code
def yX11_looked : MethodName := ⟨RX11, "looked", "(III)I"⟩
abbrev cX11_mark : ByteArray := prog_1_method_35_code
def yX11_mark : MethodName := ⟨RX11, "mark", "(IZ)Z"⟩
abbrev cX11_count : ByteArray := prog_1_method_36_code
def yX11_count : MethodName := ⟨RX11, "count", "(I)I"⟩
abbrev cX11_isSide : ByteArray := prog_1_method_37_code
def yX11_isSide : MethodName := ⟨RX11, "isSide", "(I)Z"⟩
abbrev cX11_goBack : ByteArray := prog_1_method_38_code
def yX11_goBack : MethodName := ⟨RX11, "goBack", "(I)Z"⟩
abbrev cX11_remember : ByteArray := prog_1_method_39_code
def yX11_remember : MethodName := ⟨RX11, "remember", "()V"⟩
abbrev cX11_gameBegan : ByteArray := prog_1_method_40_code
def yX11_gameBegan : MethodName := ⟨RX11, "gameBegan", "()V"⟩
abbrev cX11_gameChanged : ByteArray := prog_1_method_41_code
def yX11_gameChanged : MethodName := ⟨RX11, "gameChanged", "()V"⟩
def RX12 : String := "BeggarHeapsModel"
def TX12 : u_T := fun k => match k with
  | 0 => ("BeggarHeapsModel", "thrown", "I", false)
  | 1 => ("BeggarHeapsModel", "tape", "[I", true)
  | 2 => ("BeggarHeapsModel", "taped", "I", false)
  | 3 => ("BeggarHeapsModel", "size", "I", false)
  | 4 => ("BeggarHeapsModel", "sort", "[I", true)
  | 5 => ("BeggarHeapsModel", "place", "[I", true)
  | 6 => ("BeggarHeapsModel", "value", "[J", true)
  | 7 => ("BeggarHeapsModel", "at", "I", false)
  | 8 => ("BeggarHeapsModel", "fault", "I", false)
  | 9 => ("BeggarHeapsModel", "words", "[J", true)
  | 10 => ("BeggarHeapsModel", "tables", "[I", true)
  | 11 => ("BeggarHeapsModel", "op", "[I", true)
  | 12 => ("BeggarHeapsModel", "arg", "[I", true)
  | 13 => ("BeggarHeapsModel", "codes", "I", false)
  | 14 => ("BeggarHeapsModel", "names", "[J", true)
  | 15 => ("BeggarHeapsModel", "readNames", "[J", true)
  | 16 => ("BeggarHeapsModel", "told", "I", false)
  | 17 => ("BeggarHeapsModel", "readCards", "[I", true)
  | 18 => ("BeggarHeapsModel", "readMany", "[I", true)
  | 19 => ("BeggarHeapsModel", "readBook", "[I", true)
  | 20 => ("BeggarHeapsModel", "facts", "[I", true)
  | 21 => ("BeggarHeapsModel", "pile", "[I", true)
  | 22 => ("BeggarHeapsModel", "state", "[I", true)
  | 23 => ("BeggarHeapsModel", "undos", "I", false)
  | 24 => ("BeggarHeapsModel", "isMarked", "[Z", true)
  | 25 => ("BeggarHeapsModel", "lawKind", "I", false)
  | 26 => ("BeggarHeapsModel", "lawPays", "I", false)
  | 27 => ("BeggarHeapsModel", "laid", "[I", true)
  | 28 => ("BeggarHeapsModel", "keyA", "[J", true)
  | 29 => ("BeggarHeapsModel", "keyB", "[J", true)
  | 30 => ("BeggarHeapsModel", "keyC", "[J", true)
  | 31 => ("BeggarHeapsModel", "when", "[I", true)
  | 32 => ("BeggarHeapsModel", "heapsThen", "[I", true)
  | 33 => ("BeggarHeapsModel", "behind", "[I", true)
  | 34 => ("BeggarHeapsModel", "heads", "[I", true)
  | 35 => ("BeggarHeapsModel", "keysMany", "I", false)
  | 36 => ("BeggarHeapsModel", "end", "I", false)
  | 37 => ("BeggarHeapsModel", "endTurns", "I", false)
  | 38 => ("BeggarHeapsModel", "endHeaps", "I", false)
  | 39 => ("BeggarHeapsModel", "endRound", "I", false)
  | 40 => ("BeggarHeapsModel", "cards0", "[I", true)
  | 41 => ("BeggarHeapsModel", "cardsMany", "I", false)
  | 42 => ("BeggarHeapsModel", "allEnds", "[I", true)
  | 43 => ("BeggarHeapsModel", "allTurns", "[I", true)
  | 44 => ("BeggarHeapsModel", "allMany", "I", false)
  | 45 => ("BeggarHeapsModel", "isCounted", "Z", false)
  | 46 => ("BeggarHeapsModel", "placesOf", "[I", true)
  | 47 => ("BeggarHeapsModel", "hidden", "[I", true)
  | 48 => ("BeggarHeapsModel", "hiddenMany", "I", false)
  | 49 => ("BeggarHeapsModel", "leftOdds", "I", false)
  | 50 => ("BeggarHeapsModel", "rightOdds", "I", false)
  | 51 => ("BeggarHeapsModel", "allOdds", "I", false)
  | 52 => ("BeggarHeapsModel", "chosen", "[I", true)
  | 53 => ("BeggarHeapsModel", "bestChosen", "[I", true)
  | 54 => ("BeggarHeapsModel", "bestMany", "I", false)
  | _ => ("BeggarHeapsModel", "g", "J", false)
def tyX12 : Nat → FieldType := fun k => match k with
  | 0 => .int
  | 1 => .array .int
  | 2 => .int
  | 3 => .int
  | 4 => .array .int
  | 5 => .array .int
  | 6 => .array .long
  | 7 => .int
  | 8 => .int
  | 9 => .array .long
  | 10 => .array .int
  | 11 => .array .int
  | 12 => .array .int
  | 13 => .int
  | 14 => .array .long
  | 15 => .array .long
  | 16 => .int
  | 17 => .array .int
  | 18 => .array .int
  | 19 => .array .int
  | 20 => .array .int
  | 21 => .array .int
  | 22 => .array .int
  | 23 => .int
  | 24 => .array .boolean
  | 25 => .int
  | 26 => .int
  | 27 => .array .int
  | 28 => .array .long
  | 29 => .array .long
  | 30 => .array .long
  | 31 => .array .int
  | 32 => .array .int
  | 33 => .array .int
  | 34 => .array .int
  | 35 => .int
  | 36 => .int
  | 37 => .int
  | 38 => .int
  | 39 => .int
  | 40 => .array .int
  | 41 => .int
  | 42 => .array .int
  | 43 => .array .int
  | 44 => .int
  | 45 => .boolean
  | 46 => .array .int
  | 47 => .array .int
  | 48 => .int
  | 49 => .int
  | 50 => .int
  | 51 => .int
  | 52 => .array .int
  | 53 => .array .int
  | 54 => .int
  | _ => .long
abbrev wsX120 : List Cond := u_ws RX12 TX12 56
theorem nmX12 : ∀ a, a < 56 → ∀ b, b < 56 → a ≠ b → (TX12 a).2.1 ≠ (TX12 b).2.1 := by decide +kernel
theorem tyX12_ok : ∀ k, k < 56 → parseFieldDescriptor (TX12 k).2.2.1 = some (tyX12 k) := by decide +kernel
abbrev cX12_thrown : ByteArray := prog_14_method_1_code
def yX12_thrown : MethodName := ⟨RX12, "thrown", "()I"⟩
abbrev cX12_feed : ByteArray := prog_14_method_2_code
def yX12_feed : MethodName := ⟨RX12, "feed", "(JJJ)I"⟩
abbrev cX12_lay : ByteArray := prog_14_method_3_code
def yX12_lay : MethodName := ⟨RX12, "lay", "(J)V"⟩
abbrev cX12_init : ByteArray := prog_14_method_4_code
def yX12_init : MethodName := ⟨RX12, "<init>", "()V"⟩
abbrev cX12_isLetter : ByteArray := prog_14_method_5_code
def yX12_isLetter : MethodName := ⟨RX12, "isLetter", "(I)Z"⟩
abbrev cX12_isDigit : ByteArray := prog_14_method_6_code
def yX12_isDigit : MethodName := ⟨RX12, "isDigit", "(I)Z"⟩
abbrev cX12_rank : ByteArray := prog_14_method_7_code
def yX12_rank : MethodName := ⟨RX12, "rank", "(I)I"⟩
abbrev cX12_isSignOf : ByteArray := prog_14_method_8_code
def yX12_isSignOf : MethodName := ⟨RX12, "isSignOf", "(I)Z"⟩
abbrev cX12_cutAll : ByteArray := prog_14_method_9_code
def yX12_cutAll : MethodName := ⟨RX12, "cutAll", "()V"⟩
abbrev cX12_wrong : ByteArray := prog_14_method_10_code
def yX12_wrong : MethodName := ⟨RX12, "wrong", "(I)V"⟩
abbrev cX12_isSign : ByteArray := prog_14_method_11_code
def yX12_isSign : MethodName := ⟨RX12, "isSign", "(I)Z"⟩
abbrev cX12_isWord : ByteArray := prog_14_method_12_code
def yX12_isWord : MethodName := ⟨RX12, "isWord", "(I)Z"⟩
abbrev cX12_takeSign : ByteArray := prog_14_method_13_code
def yX12_takeSign : MethodName := ⟨RX12, "takeSign", "(I)V"⟩
abbrev cX12_hasSign : ByteArray := prog_14_method_14_code
def yX12_hasSign : MethodName := ⟨RX12, "hasSign", "(I)Z"⟩
abbrev cX12_hasWord : ByteArray := prog_14_method_15_code
def yX12_hasWord : MethodName := ⟨RX12, "hasWord", "(I)Z"⟩
abbrev cX12_takeWord : ByteArray := prog_14_method_16_code
def yX12_takeWord : MethodName := ⟨RX12, "takeWord", "(I)V"⟩
abbrev cX12_within : ByteArray := prog_14_method_17_code
def yX12_within : MethodName := ⟨RX12, "within", "(III)Z"⟩
abbrev cX12_standsAsAlways : ByteArray := prog_14_method_18_code
def yX12_standsAsAlways : MethodName := ⟨RX12, "standsAsAlways", "(I)V"⟩
abbrev cX12_takeNumber : ByteArray := prog_14_method_19_code
def yX12_takeNumber : MethodName := ⟨RX12, "takeNumber", "(II)I"⟩
abbrev cX12_isName : ByteArray := prog_14_method_20_code
def yX12_isName : MethodName := ⟨RX12, "isName", "()Z"⟩
abbrev cX12_find : ByteArray := prog_14_method_21_code
def yX12_find : MethodName := ⟨RX12, "find", "([JI)I"⟩
abbrev cX12_wordHere : ByteArray := prog_14_method_22_code
def yX12_wordHere : MethodName := ⟨RX12, "wordHere", "(II)I"⟩
abbrev cX12_takeOne : ByteArray := prog_14_method_23_code
def yX12_takeOne : MethodName := ⟨RX12, "takeOne", "(II)I"⟩
abbrev cX12_table : ByteArray := prog_14_method_24_code
def yX12_table : MethodName := ⟨RX12, "table", "()I"⟩
abbrev cX12_readLine : ByteArray := prog_14_method_25_code
def yX12_readLine : MethodName := ⟨RX12, "readLine", "()V"⟩
abbrev cX12_readKind : ByteArray := prog_14_method_26_code
def yX12_readKind : MethodName := ⟨RX12, "readKind", "()V"⟩
abbrev cX12_readPack : ByteArray := prog_14_method_27_code
def yX12_readPack : MethodName := ⟨RX12, "readPack", "()V"⟩
abbrev cX12_cards : ByteArray := prog_14_method_28_code
def yX12_cards : MethodName := ⟨RX12, "cards", "(I)I"⟩
abbrev cX12_readOnce : ByteArray := prog_14_method_29_code
def yX12_readOnce : MethodName := ⟨RX12, "readOnce", "()V"⟩
abbrev cX12_readRow : ByteArray := prog_14_method_30_code
def yX12_readRow : MethodName := ⟨RX12, "readRow", "(II)V"⟩
abbrev cX12_deal : ByteArray := prog_14_method_31_code
def yX12_deal : MethodName := ⟨RX12, "deal", "()I"⟩
abbrev cX12_dealsRead : ByteArray := prog_14_method_32_code
def yX12_dealsRead : MethodName := ⟨RX12, "dealsRead", "()V"⟩
abbrev cX12_book : ByteArray := prog_14_method_33_code
def yX12_book : MethodName := ⟨RX12, "book", "()I"⟩
abbrev cX12_readOpening : ByteArray := prog_14_method_34_code
def yX12_readOpening : MethodName := ⟨RX12, "readOpening", "(I)V"⟩
abbrev cX12_emit : ByteArray := prog_14_method_35_code
def yX12_emit : MethodName := ⟨RX12, "emit", "(II)V"⟩
abbrev cX12_ands : ByteArray := prog_14_method_36_code
def yX12_ands : MethodName := ⟨RX12, "ands", "(I)V"⟩
abbrev cX12_test : ByteArray := prog_14_method_37_code
def yX12_test : MethodName := ⟨RX12, "test", "(I)V"⟩
abbrev cX12_sums : ByteArray := prog_14_method_38_code
def yX12_sums : MethodName := ⟨RX12, "sums", "(I)V"⟩
abbrev cX12_products : ByteArray := prog_14_method_39_code
def yX12_products : MethodName := ⟨RX12, "products", "(I)V"⟩
abbrev cX12_takePart : ByteArray := prog_14_method_40_code
def yX12_takePart : MethodName := ⟨RX12, "takePart", "(I)V"⟩
abbrev cX12_worthAt : ByteArray := prog_14_method_41_code
def yX12_worthAt : MethodName := ⟨RX12, "worthAt", "(I)I"⟩
abbrev cX12_both : ByteArray := prog_14_method_42_code
def yX12_both : MethodName := ⟨RX12, "both", "(III)I"⟩
abbrev cX12_copies : ByteArray := prog_14_method_43_code
def yX12_copies : MethodName := ⟨RX12, "copies", "(III)V"⟩
abbrev cX12_keeps : ByteArray := prog_14_method_44_code
def yX12_keeps : MethodName := ⟨RX12, "keeps", "()V"⟩
abbrev cX12_begins : ByteArray := prog_14_method_45_code
def yX12_begins : MethodName := ⟨RX12, "begins", "(I)V"⟩
abbrev cX12_kinds : ByteArray := prog_14_method_46_code
def yX12_kinds : MethodName := ⟨RX12, "kinds", "()I"⟩
abbrev cX12_isKind : ByteArray := prog_14_method_47_code
def yX12_isKind : MethodName := ⟨RX12, "isKind", "(I)Z"⟩
abbrev cX12_paysOf : ByteArray := prog_14_method_48_code
def yX12_paysOf : MethodName := ⟨RX12, "paysOf", "(I)I"⟩
abbrev cX12_lays : ByteArray := prog_14_method_49_code
def yX12_lays : MethodName := ⟨RX12, "lays", "(III)V"⟩
abbrev cX12_laysSuch : ByteArray := prog_14_method_50_code
def yX12_laysSuch : MethodName := ⟨RX12, "laysSuch", "(IIIII)I"⟩
abbrev cX12_turns : ByteArray := prog_14_method_51_code
def yX12_turns : MethodName := ⟨RX12, "turns", "(I)I"⟩
abbrev cX12_goes : ByteArray := prog_14_method_52_code
def yX12_goes : MethodName := ⟨RX12, "goes", "(I)Z"⟩
abbrev cX12_takes : ByteArray := prog_14_method_53_code
def yX12_takes : MethodName := ⟨RX12, "takes", "(II)V"⟩
abbrev cX12_remembers : ByteArray := prog_14_method_54_code
def yX12_remembers : MethodName := ⟨RX12, "remembers", "(II)V"⟩
abbrev cX12_orderNow : ByteArray := prog_14_method_55_code
def yX12_orderNow : MethodName := ⟨RX12, "orderNow", "(I)I"⟩
abbrev cX12_isWon : ByteArray := prog_14_method_56_code
def yX12_isWon : MethodName := ⟨RX12, "isWon", "(I)Z"⟩
abbrev cX12_plays : ByteArray := prog_14_method_57_code
def yX12_plays : MethodName := ⟨RX12, "plays", "(I)V"⟩
abbrev cX12_isSide : ByteArray := prog_14_method_58_code
def yX12_isSide : MethodName := ⟨RX12, "isSide", "(I)Z"⟩
abbrev cX12_countOf : ByteArray := prog_14_method_59_code
def yX12_countOf : MethodName := ⟨RX12, "countOf", "(III)I"⟩
abbrev cX12_kind : ByteArray := prog_14_method_60_code
def yX12_kind : MethodName := ⟨RX12, "kind", "(II)I"⟩
abbrev cX12_card : ByteArray := prog_14_method_61_code
def yX12_card : MethodName := ⟨RX12, "card", "(II)I"⟩
abbrev cX12_heap : ByteArray := prog_14_method_62_code
def yX12_heap : MethodName := ⟨RX12, "heap", "(I)I"⟩
abbrev cX12_taken : ByteArray := prog_14_method_63_code
def yX12_taken : MethodName := ⟨RX12, "taken", "(II)I"⟩
abbrev cX12_turn : ByteArray := prog_14_method_64_code
def yX12_turn : MethodName := ⟨RX12, "turn", "(I)I"⟩
abbrev cX12_slip : ByteArray := prog_14_method_65_code
def yX12_slip : MethodName := ⟨RX12, "slip", "(I)Z"⟩
abbrev cX12_undo : ByteArray := prog_14_method_66_code
def yX12_undo : MethodName := ⟨RX12, "undo", "()Z"⟩
abbrev cX12_again : ByteArray := prog_14_method_67_code
def yX12_again : MethodName := ⟨RX12, "again", "()Z"⟩
abbrev cX12_keyOf : ByteArray := prog_14_method_68_code
def yX12_keyOf : MethodName := ⟨RX12, "keyOf", "(II)J"⟩
abbrev cX12_findKey : ByteArray := prog_14_method_69_code
def yX12_findKey : MethodName := ⟨RX12, "findKey", "(III)I"⟩
abbrev cX12_runs : ByteArray := prog_14_method_70_code
def yX12_runs : MethodName := ⟨RX12, "runs", "(II)V"⟩
abbrev cX12_runsNow : ByteArray := prog_14_method_71_code
def yX12_runsNow : MethodName := ⟨RX12, "runsNow", "()V"⟩
abbrev cX12_ends : ByteArray := prog_14_method_72_code
def yX12_ends : MethodName := ⟨RX12, "ends", "(I)I"⟩
abbrev cX12_laysPack : ByteArray := prog_14_method_73_code
def yX12_laysPack : MethodName := ⟨RX12, "laysPack", "()V"⟩
abbrev cX12_rowsOf : ByteArray := prog_14_method_74_code
def yX12_rowsOf : MethodName := ⟨RX12, "rowsOf", "([II)I"⟩
abbrev cX12_goesNext : ByteArray := prog_14_method_75_code
def yX12_goesNext : MethodName := ⟨RX12, "goesNext", "([II)Z"⟩
abbrev cX12_swaps : ByteArray := prog_14_method_76_code
def yX12_swaps : MethodName := ⟨RX12, "swaps", "([III)V"⟩
abbrev cX12_dealsTrial : ByteArray := prog_14_method_77_code
def yX12_dealsTrial : MethodName := ⟨RX12, "dealsTrial", "([III)V"⟩
abbrev cX12_counts : ByteArray := prog_14_method_78_code
def yX12_counts : MethodName := ⟨RX12, "counts", "()Z"⟩
abbrev cX12_all : ByteArray := prog_14_method_79_code
def yX12_all : MethodName := ⟨RX12, "all", "(I)I"⟩
abbrev cX12_row : ByteArray := prog_14_method_80_code
def yX12_row : MethodName := ⟨RX12, "row", "(II)I"⟩
abbrev cX12_beginner : ByteArray := prog_14_method_81_code
def yX12_beginner : MethodName := ⟨RX12, "beginner", "(I)I"⟩
abbrev cX12_worth : ByteArray := prog_14_method_82_code
def yX12_worth : MethodName := ⟨RX12, "worth", "(II)I"⟩
abbrev cX12_paysIn : ByteArray := prog_14_method_83_code
def yX12_paysIn : MethodName := ⟨RX12, "paysIn", "(II)I"⟩
abbrev cX12_leads : ByteArray := prog_14_method_84_code
def yX12_leads : MethodName := ⟨RX12, "leads", "(II)I"⟩
abbrev cX12_laws : ByteArray := prog_14_method_85_code
def yX12_laws : MethodName := ⟨RX12, "laws", "(III)I"⟩
abbrev cX12_findHidden : ByteArray := prog_14_method_86_code
def yX12_findHidden : MethodName := ⟨RX12, "findHidden", "()V"⟩
abbrev cX12_unseen : ByteArray := prog_14_method_87_code
def yX12_unseen : MethodName := ⟨RX12, "unseen", "(I)I"⟩
abbrev cX12_findOdds : ByteArray := prog_14_method_88_code
def yX12_findOdds : MethodName := ⟨RX12, "findOdds", "()Z"⟩
abbrev cX12_odds : ByteArray := prog_14_method_89_code
def yX12_odds : MethodName := ⟨RX12, "odds", "(I)I"⟩
abbrev cX12_offerNow : ByteArray := prog_14_method_90_code
def yX12_offerNow : MethodName := ⟨RX12, "offerNow", "()I"⟩
abbrev cX12_offer : ByteArray := prog_14_method_91_code
def yX12_offer : MethodName := ⟨RX12, "offer", "()I"⟩
abbrev cX12_bet : ByteArray := prog_14_method_92_code
def yX12_bet : MethodName := ⟨RX12, "bet", "(II)I"⟩
abbrev cX12_take : ByteArray := prog_14_method_93_code
def yX12_take : MethodName := ⟨RX12, "take", "(I)I"⟩
abbrev cX12_goesToHeap : ByteArray := prog_14_method_94_code
def yX12_goesToHeap : MethodName := ⟨RX12, "goesToHeap", "(I)Z"⟩
abbrev cX12_canWin : ByteArray := prog_14_method_95_code
def yX12_canWin : MethodName := ⟨RX12, "canWin", "(III)Z"⟩
abbrev cX12_findChoice : ByteArray := prog_14_method_96_code
def yX12_findChoice : MethodName := ⟨RX12, "findChoice", "(I)I"⟩
abbrev cX12_choice : ByteArray := prog_14_method_97_code
def yX12_choice : MethodName := ⟨RX12, "choice", "(II)I"⟩
abbrev cX12_mustWin : ByteArray := prog_14_method_98_code
def yX12_mustWin : MethodName := ⟨RX12, "mustWin", "(II)Z"⟩
abbrev cX12_both_ : ByteArray := prog_14_method_99_code
def yX12_both_ : MethodName := ⟨RX12, "both", "(I)I"⟩
abbrev cX12_fitsOpening : ByteArray := prog_14_method_100_code
def yX12_fitsOpening : MethodName := ⟨RX12, "fitsOpening", "(I)Z"⟩
abbrev cX12_opening : ByteArray := prog_14_method_101_code
def yX12_opening : MethodName := ⟨RX12, "opening", "(I)I"⟩
abbrev cX12_comes : ByteArray := prog_14_method_102_code
def yX12_comes : MethodName := ⟨RX12, "comes", "(I)I"⟩
abbrev cX12_orders : ByteArray := prog_14_method_103_code
def yX12_orders : MethodName := ⟨RX12, "orders", "()I"⟩
abbrev cX12_clear : ByteArray := prog_14_method_104_code
def yX12_clear : MethodName := ⟨RX12, "clear", "()Z"⟩
abbrev cX12_draw : ByteArray := prog_14_method_105_code
def yX12_draw : MethodName := ⟨RX12, "draw", "(I)I"⟩
abbrev cX12_drawsPack : ByteArray := prog_14_method_106_code
def yX12_drawsPack : MethodName := ⟨RX12, "drawsPack", "()V"⟩
abbrev cX12_drawn : ByteArray := prog_14_method_107_code
def yX12_drawn : MethodName := ⟨RX12, "drawn", "(I)Z"⟩
abbrev cX12_runsDrawn : ByteArray := prog_14_method_108_code
def yX12_runsDrawn : MethodName := ⟨RX12, "runsDrawn", "()V"⟩
abbrev cX12_games : ByteArray := prog_14_method_109_code
def yX12_games : MethodName := ⟨RX12, "games", "(III)I"⟩
abbrev cX12_looked : ByteArray := prog_14_method_110_code
def yX12_looked : MethodName := ⟨RX12, "looked", "(III)I"⟩
abbrev cX12_mark : ByteArray := prog_14_method_111_code
def yX12_mark : MethodName := ⟨RX12, "mark", "(IZ)Z"⟩
abbrev cX12_count : ByteArray := prog_14_method_112_code
def yX12_count : MethodName := ⟨RX12, "count", "(I)I"⟩
def zcl : List vw_C := [(RX0, TX0, 4), (RX1, TX1, 12), (RX2, TX2, 16), (RX3, TX3, 5), (RX4, TX4, 9), (RX5, TX5, 15), (RX6, TX6, 8), (RX7, TX7, 4), (RX8, TX8, 18), (RX9, TX9, 16), (RX10, TX10, 10), (RX11, TX11, 19), (RX12, TX12, 56)]
def ztf (ci : Nat) : Nat → FieldType := match ci with
  | 0 => tyX0
  | 1 => tyX1
  | 2 => tyX2
  | 3 => tyX3
  | 4 => tyX4
  | 5 => tyX5
  | 6 => tyX6
  | 7 => tyX7
  | 8 => tyX8
  | 9 => tyX9
  | 10 => tyX10
  | 11 => tyX11
  | _ => tyX12
end
section
/-! AN ABSTRACT MACHINE over cells by their numbers. Its values are the machine's own: '.ref i' is the cell of number i (from 1000000 on: things of the start), '.retAddr k' an int of which only bounds are known, rh k. -/
section ZM
abbrev ZC : Type := (Nat × List Value) ⊕ (Nat × Nat × List (Nat × Value))
abbrev ZO : Type := Option (Option Value × List ZC)
abbrev ZL : Type := List (Nat × Value)
noncomputable def zc (rh : Nat → Int32) (ad : Nat → Nat) (v : Value) : Value := match v with
  | .ref i => .ref (ad i)
  | .retAddr k => .int (rh k)
  | .int x => .int x
  | .long x => .long x
  | .float x => .float x
  | .double x => .double x
  | .null => .null
theorem zc_cat (rh : Nat → Int32) (ad : Nat → Nat) (v : Value) : (zc rh ad v).category = v.category := by cases v <;> rfl
-- numbers in a plain form, before they are used
noncomputable def zfN {α : Type} (n : Nat) (k : Nat → α) : α := Nat.rec (k 0) (fun m _ => k (m + 1)) n
theorem zfN_eq {α : Type} (n : Nat) (k : Nat → α) : zfN n k = k n := by cases n <;> rfl
theorem z_nI (x : Int32) : nI x.toBitVec.toNat = x := Int32.toBitVec_inj.mp (BitVec.eq_of_toNat_eq (pk_tn x.toBitVec.isLt))
theorem z_lN (x : Int64) : lN x.toBitVec.toNat = x := by
  refine Int64.toBitVec_inj.mp (BitVec.eq_of_toNat_eq ?_)
  show (BitVec.ofNat 64 _).toNat = _
  rw [BitVec.toNat_ofNat]
  exact Nat.mod_eq_of_lt x.toBitVec.isLt
noncomputable def zfI {α : Type} (x : Int32) (k : Int32 → α) : α := zfN x.toBitVec.toNat (fun n => k (nI n))
theorem zfI_eq {α : Type} (x : Int32) (k : Int32 → α) : zfI x k = k x := by unfold zfI; rw [zfN_eq, z_nI]
noncomputable def zfJ {α : Type} (x : Int64) (k : Int64 → α) : α := zfN x.toBitVec.toNat (fun n => k (lN n))
theorem zfJ_eq {α : Type} (x : Int64) (k : Int64 → α) : zfJ x k = k x := by unfold zfJ; rw [zfN_eq, z_lN]
noncomputable def zfV {α : Type} (v : Value) (k : Value → α) : α := match v with
  | .int x => zfI x (fun y => k (.int y))
  | .long x => zfJ x (fun y => k (.long y))
  | .ref a => zfN a (fun b => k (.ref b))
  | .retAddr a => zfN a (fun b => k (.retAddr b))
  | .float x => k (.float x)
  | .double x => k (.double x)
  | .null => k .null
theorem zfV_eq {α : Type} (v : Value) (k : Value → α) : zfV v k = k v := by cases v <;> simp [zfV, zfI_eq, zfJ_eq, zfN_eq]
noncomputable def zfS {α β : Type} (l : List β) : (List β → α) → α := List.rec (motive := fun _ => (List β → α) → α) (fun k => k []) (fun a _ ih k => ih (fun r' => k (a :: r'))) l
theorem zfS_eq {α β : Type} (l : List β) : ∀ k : List β → α, zfS l k = k l := by
  induction l with
  | nil => intro k; rfl
  | cons a r ih => intro k; exact ih _
noncomputable def zn {β : Type} (l : List β) : Nat → Option β := List.rec (motive := fun _ => Nat → Option β) (fun _ => none) (fun a _ ih n => Nat.rec (motive := fun _ => Option β) (some a) (fun m _ => ih m) n) l
theorem zn_eq {β : Type} (l : List β) : ∀ n : Nat, zn l n = l[n]? := by
  induction l with
  | nil => intro n; rfl
  | cons a r ih => intro n; cases n with
    | zero => rfl
    | succ n => rw [List.getElem?_cons_succ]; exact ih n
/-- the n-th one written anew, in a plain form up to there -/
noncomputable def zfset {α β : Type} (l : List β) (v : β) : Nat → (List β → α) → α := List.rec (motive := fun _ => Nat → (List β → α) → α) (fun _ k => k []) (fun a r ih n => Nat.rec (motive := fun _ => (List β → α) → α) (fun k => k (v :: r)) (fun m _ k => ih m (fun r' => k (a :: r'))) n) l
theorem zfset_eq {α β : Type} (v : β) : ∀ (l : List β) (n : Nat) (k : List β → α), zfset l v n k = k (l.set n v)
  | [], _, _ => rfl
  | _ :: _, 0, _ => rfl
  | a :: r, n + 1, k => zfset_eq v r n (fun r' => k (a :: r'))
/-- how many, in a plain form -/
noncomputable def zln {β : Type} (l : List β) : Nat := List.rec (motive := fun _ => Nat) 0 (fun _ _ n => n + 1) l
theorem zln_eq {β : Type} : ∀ l : List β, zln l = l.length
  | [] => rfl
  | _ :: r => congrArg (· + 1) (zln_eq r)
-- locals
noncomputable def zlk (l : ZL) : Nat → Option Value := List.rec (motive := fun _ => Nat → Option Value) (fun _ => none) (fun q _ ih j => bif Nat.beq q.1 j then some q.2 else ih j) l
theorem zlk_mem : ∀ (l : ZL) (j : Nat) (v : Value), zlk l j = some v → (j, v) ∈ l
  | [], _, _, h => by cases h
  | (i, w) :: r, j, v, h => by
    have h : (bif Nat.beq i j then some w else zlk r j) = some v := h
    cases hb : Nat.beq i j with
    | true =>
      rw [hb] at h
      have e : i = j := Nat.eq_of_beq_eq_true hb
      cases h
      rw [e]
      exact List.mem_cons_self
    | false =>
      rw [hb] at h
      exact List.mem_cons_of_mem _ (zlk_mem r j v h)
noncomputable def zL (rh : Nat → Int32) (ad : Nat → Nat) (l : ZL) : ZL := l.map (fun q => (q.1, zc rh ad q.2))
theorem z_at {rh : Nat → Int32} {ad : Nat → Nat} {ls : Array Slot} {nL : Nat} {l : ZL} {j : Nat} {v : Value} (h : lv_has ls nL (zL rh ad l)) (hk : zlk l j = some v) : ls[j]? = some (.val (zc rh ad v)) :=
  h.2.2 (j, zc rh ad v) (List.mem_map.mpr ⟨(j, v), zlk_mem l j v hk, rfl⟩)
noncomputable def zf1 (i : Nat) (l : ZL) : ZL := l.filter (fun q => !(q.1 == i) && !(q.1 + 1 == i && q.2.category == 2))
noncomputable def zf2 (i : Nat) (l : ZL) : ZL := l.filter (fun q => !(q.1 == i) && (!(q.1 == i + 1) && !(q.1 + 1 == i && q.2.category == 2)))
/-- the locals without some, in a plain form -/
noncomputable def zff {α : Type} (f : Nat × Value → Bool) (l : ZL) : (ZL → α) → α := List.rec (motive := fun _ => (ZL → α) → α) (fun k => k []) (fun q _ ih k => bif f q then ih (fun r' => k (q :: r')) else ih k) l
theorem zff_eq {α : Type} (f : Nat × Value → Bool) : ∀ (l : ZL) (k : ZL → α), zff f l k = k (l.filter f)
  | [], _ => rfl
  | q :: r, k => by
    show (bif f q then zff f r (fun r' => k (q :: r')) else zff f r k) = _
    cases h : f q with
    | true => rw [cond_true, zff_eq f r, List.filter_cons_of_pos h]
    | false => rw [cond_false, zff_eq f r, List.filter_cons_of_neg (by rw [h]; decide)]
noncomputable def zff1 {α : Type} (i : Nat) (l : ZL) (k : ZL → α) : α := zff (fun q => !(q.1 == i) && !(q.1 + 1 == i && q.2.category == 2)) l k
noncomputable def zff2 {α : Type} (i : Nat) (l : ZL) (k : ZL → α) : α := zff (fun q => !(q.1 == i) && (!(q.1 == i + 1) && !(q.1 + 1 == i && q.2.category == 2))) l k
theorem zff1_eq {α : Type} (i : Nat) (l : ZL) (k : ZL → α) : zff1 i l k = k (zf1 i l) := zff_eq _ l k
theorem zff2_eq {α : Type} (i : Nat) (l : ZL) (k : ZL → α) : zff2 i l k = k (zf2 i l) := zff_eq _ l k
theorem z_st1 {rh : Nat → Int32} {ad : Nat → Nat} {i : Nat} {v : Value} {l : ZL} : (i, zc rh ad v) :: (zL rh ad l).filter (fun q => !(q.1 == i) && !(q.1 + 1 == i && q.2.category == 2)) = zL rh ad ((i, v) :: zf1 i l) := by
  unfold zL zf1
  rw [List.filter_map, List.map_cons]
  congr 2
  apply List.filter_congr
  intro q _
  simp only [Function.comp, zc_cat]
theorem z_st2 {rh : Nat → Int32} {ad : Nat → Nat} {i : Nat} {v : Value} {l : ZL} : (i, zc rh ad v) :: (zL rh ad l).filter (fun q => !(q.1 == i) && (!(q.1 == i + 1) && !(q.1 + 1 == i && q.2.category == 2))) = zL rh ad ((i, v) :: zf2 i l) := by
  unfold zL zf2
  rw [List.filter_map, List.map_cons]
  congr 2
  apply List.filter_congr
  intro q _
  simp only [Function.comp, zc_cat]
theorem z_lk {rh : Nat → Int32} {ad : Nat → Nat} {l : ZL} {j : Nat} {v : Value} (hk : zlk l j = some v) : ∃ k : Nat, (zL rh ad l)[k]? = some (j, zc rh ad v) :=
  List.mem_iff_getElem?.mp (List.mem_map.mpr ⟨(j, v), zlk_mem l j v hk, rfl⟩)
-- what is known of an int
noncomputable def zb (bd : Nat → Int × Int) (v : Value) : Option (Int × Int) := match v with
  | .int x => some (x.toInt, x.toInt)
  | .retAddr k => some (bd k)
  | _ => none
noncomputable def zEnv (bd : Nat → Int × Int) (rh : Nat → Int32) : Prop := ∀ k : Nat, (bd k).1 ≤ (rh k).toInt ∧ (rh k).toInt ≤ (bd k).2
theorem zb_ok {bd : Nat → Int × Int} {rh : Nat → Int32} (hE : zEnv bd rh) {ad : Nat → Nat} {v : Value} {q : Int × Int} (h : zb bd v = some q) : ∃ x : Int32, zc rh ad v = .int x ∧ q.1 ≤ x.toInt ∧ x.toInt ≤ q.2 := by
  cases v <;> simp only [zb] at h <;> try (cases h; done)
  · cases h; exact ⟨_, rfl, Int.le_refl _, Int.le_refl _⟩
  · cases h; exact ⟨_, rfl, (hE _).1, (hE _).2⟩
-- 0: eq, 1: lt, 2: le
noncomputable def zq (op : Nat) (a b : Int × Int) : Option Bool := match op with
  | 0 => if a.1 = a.2 ∧ b.1 = b.2 ∧ a.1 = b.1 then some true else if a.2 < b.1 ∨ b.2 < a.1 then some false else none
  | 1 => if a.2 < b.1 then some true else if b.2 ≤ a.1 then some false else none
  | _ => if a.2 ≤ b.1 then some true else if b.2 < a.1 then some false else none
noncomputable def zqP (op : Nat) (x y : Int32) : Prop := match op with
  | 0 => x = y
  | 1 => x < y
  | _ => x ≤ y
theorem zq_ok {op : Nat} {a b : Int × Int} {x y : Int32} {r : Bool} (hx1 : a.1 ≤ x.toInt) (hx2 : x.toInt ≤ a.2) (hy1 : b.1 ≤ y.toInt) (hy2 : y.toInt ≤ b.2) (h : zq op a b = some r) : (r = true → zqP op x y) ∧ (r = false → ¬ zqP op x y) := by
  match op with
  | 0 =>
    simp only [zq] at h
    simp only [zqP]
    rw [← Int32.toInt_inj]
    split at h
    · cases h; constructor <;> intro h <;> first | (cases h; done) | omega
    · split at h
      · cases h; constructor <;> intro h <;> first | (cases h; done) | omega
      · cases h
  | 1 =>
    simp only [zq] at h
    simp only [zqP]
    rw [Int32.lt_iff_toInt_lt]
    split at h
    · cases h; constructor <;> intro h <;> first | (cases h; done) | omega
    · split at h
      · cases h; constructor <;> intro h <;> first | (cases h; done) | omega
      · cases h
  | n + 2 =>
    simp only [zq] at h
    simp only [zqP]
    rw [Int32.le_iff_toInt_le]
    split at h
    · cases h; constructor <;> intro h <;> first | (cases h; done) | omega
    · split at h
      · cases h; constructor <;> intro h <;> first | (cases h; done) | omega
      · cases h
/-- two ints held against each other: yes, no, or not known -/
noncomputable def zcmp (bd : Nat → Int × Int) (op : Nat) (a b : Value) : Option Bool := match a, b with
  | .retAddr i, .retAddr j => if i = j ∧ op = 0 then some true else match zb bd (.retAddr i), zb bd (.retAddr j) with
    | some p, some q => zq op p q
    | _, _ => none
  | a, b => match zb bd a, zb bd b with
    | some p, some q => zq op p q
    | _, _ => none
theorem zcmp_ok {bd : Nat → Int × Int} {rh : Nat → Int32} (hE : zEnv bd rh) {ad : Nat → Nat} {op : Nat} {a b : Value} {r : Bool} (h : zcmp bd op a b = some r) : ∃ x y : Int32, zc rh ad a = .int x ∧ zc rh ad b = .int y ∧ (r = true → zqP op x y) ∧ (r = false → ¬ zqP op x y) := by
  have main : (match zb bd a, zb bd b with
    | some p, some q => zq op p q
    | _, _ => none) = some r → ∃ x y : Int32, zc rh ad a = .int x ∧ zc rh ad b = .int y ∧ (r = true → zqP op x y) ∧ (r = false → ¬ zqP op x y) := by
    intro h
    cases ha : zb bd a with
    | none => rw [ha] at h; simp at h
    | some p =>
      cases hb : zb bd b with
      | none => rw [ha, hb] at h; simp at h
      | some q =>
        rw [ha, hb] at h
        obtain ⟨x, h1, h2, h3⟩ := zb_ok (ad := ad) hE ha
        obtain ⟨y, g1, g2, g3⟩ := zb_ok (ad := ad) hE hb
        exact ⟨x, y, h1, g1, zq_ok h2 h3 g2 g3 h⟩
  cases a <;> cases b <;> first | exact main h | skip
  rename_i i j
  simp only [zcmp] at h
  split at h
  · rename_i hij
    cases h
    obtain ⟨rfl, rfl⟩ := hij
    exact ⟨rh i, rh i, rfl, rfl, fun _ => rfl, fun h => by cases h⟩
  · exact main h
end ZM
end
section
/-! instructions that change the frame alone -/
section ZP
abbrev ZK : Type := Nat → ZL → List Value → ZO
noncomputable def zpush (v : Value) (pc : Nat) (loc : ZL) (st : List Value) (k : ZK) : ZO := zfV v (fun w => zfN pc (fun q => k q loc (w :: st)))
theorem zpush_eq (v : Value) (pc : Nat) (loc : ZL) (st : List Value) (k : ZK) : zpush v pc loc st k = k pc loc (v :: st) := by simp only [zpush, zfV_eq, zfN_eq]
noncomputable def zgo (pc : Nat) (loc : ZL) (st : List Value) (k : ZK) : ZO := zfN pc (fun q => k q loc st)
theorem zgo_eq (pc : Nat) (loc : ZL) (st : List Value) (k : ZK) : zgo pc loc st k = k pc loc st := by simp only [zgo, zfN_eq]
noncomputable def zjump (pc : Nat) (off : Int) (loc : ZL) (st : List Value) (k : ZK) : ZO := zfN ((pc : Int) + off).toNat (fun q => bif decide ((pc : Int) + off = (q : Int)) then k q loc st else none)
theorem zjump_ok {pc : Nat} {off : Int} {loc : ZL} {st : List Value} {k : ZK} {o : Option Value × List ZC} (h : zjump pc off loc st k = some o) : ∃ q : Nat, (pc : Int) + off = (q : Int) ∧ k q loc st = some o := by
  simp only [zjump, zfN_eq] at h
  refine ⟨((pc : Int) + off).toNat, ?_⟩
  by_cases e : (pc : Int) + off = ((((pc : Int) + off).toNat : Nat) : Int)
  · rw [decide_eq_true e] at h
    exact ⟨e, h⟩
  · rw [decide_eq_false e] at h
    cases h
noncomputable def zisI : Value → Bool
  | .int _ => true
  | .retAddr _ => true
  | _ => false
noncomputable def zisA : Value → Bool
  | .ref _ => true
  | .null => true
  | _ => false
noncomputable def zisJ : Value → Bool
  | .long _ => true
  | _ => false
theorem zisI_ok {rh : Nat → Int32} {ad : Nat → Nat} {v : Value} (h : zisI v = true) : ∃ x : Int32, zc rh ad v = .int x := by cases v <;> first | exact ⟨_, rfl⟩ | (cases h; done)
theorem zisJ_ok {rh : Nat → Int32} {ad : Nat → Nat} {v : Value} (h : zisJ v = true) : ∃ x : Int64, zc rh ad v = .long x := by cases v <;> first | exact ⟨_, rfl⟩ | (cases h; done)
theorem zisA_ok {rh : Nat → Int32} {ad : Nat → Nat} {v : Value} (h : zisA v = true) : zc rh ad v = .null ∨ ∃ x : Nat, zc rh ad v = .ref x := by cases v <;> first | exact Or.inl rfl | exact Or.inr ⟨_, rfl⟩ | (cases h; done)
noncomputable def zload (t : Value → Bool) (j pc : Nat) (loc : ZL) (st : List Value) (k : ZK) : ZO := match zlk loc j with
  | some v => bif t v then zgo pc loc (v :: st) k else none
  | none => none
theorem zload_ok {t : Value → Bool} {j pc : Nat} {loc : ZL} {st : List Value} {k : ZK} {o : Option Value × List ZC} (h : zload t j pc loc st k = some o) : ∃ v : Value, zlk loc j = some v ∧ t v = true ∧ k pc loc (v :: st) = some o := by
  unfold zload at h
  cases e : zlk loc j with
  | none => rw [e] at h; cases h
  | some v =>
    rw [e] at h
    dsimp only at h
    cases ht : t v with
    | false => rw [ht] at h; cases h
    | true => rw [ht, cond_true, zgo_eq] at h; exact ⟨v, rfl, ht, h⟩
noncomputable def zstore1 (t : Value → Bool) (nL j pc : Nat) (loc : ZL) (st : List Value) (k : ZK) : ZO := match st with
  | v :: r => bif t v && decide (j < nL) then zff1 j loc (fun l => zgo pc ((j, v) :: l) r k) else none
  | [] => none
theorem zstore1_ok {t : Value → Bool} {nL j pc : Nat} {loc : ZL} {st : List Value} {k : ZK} {o : Option Value × List ZC} (h : zstore1 t nL j pc loc st k = some o) : ∃ (v : Value) (r : List Value), st = v :: r ∧ t v = true ∧ j < nL ∧ k pc ((j, v) :: zf1 j loc) r = some o := by
  cases st with
  | nil => cases h
  | cons v r =>
    simp only [zstore1] at h
    cases ht : (t v && decide (j < nL)) with
    | false => rw [ht] at h; cases h
    | true =>
      rw [ht, cond_true, zff1_eq, zgo_eq] at h
      rw [Bool.and_eq_true, decide_eq_true_eq] at ht
      exact ⟨v, r, rfl, ht.1, ht.2, h⟩
noncomputable def zstore2 (nL j pc : Nat) (loc : ZL) (st : List Value) (k : ZK) : ZO := match st with
  | v :: r => bif zisJ v && decide (j + 1 < nL) then zff2 j loc (fun l => zgo pc ((j, v) :: l) r k) else none
  | [] => none
theorem zstore2_ok {nL j pc : Nat} {loc : ZL} {st : List Value} {k : ZK} {o : Option Value × List ZC} (h : zstore2 nL j pc loc st k = some o) : ∃ (v : Value) (r : List Value), st = v :: r ∧ zisJ v = true ∧ j + 1 < nL ∧ k pc ((j, v) :: zf2 j loc) r = some o := by
  cases st with
  | nil => cases h
  | cons v r =>
    simp only [zstore2] at h
    cases ht : (zisJ v && decide (j + 1 < nL)) with
    | false => rw [ht] at h; cases h
    | true =>
      rw [ht, cond_true, zff2_eq, zgo_eq] at h
      rw [Bool.and_eq_true, decide_eq_true_eq] at ht
      exact ⟨v, r, rfl, ht.1, ht.2, h⟩
noncomputable def zbinI (f : Int32 → Int32 → Int32) (pc : Nat) (loc : ZL) (st : List Value) (k : ZK) : ZO := match st with
  | .int y :: .int x :: r => zpush (.int (f x y)) pc loc r k
  | _ => none
theorem zbinI_ok {f : Int32 → Int32 → Int32} {pc : Nat} {loc : ZL} {st : List Value} {k : ZK} {o : Option Value × List ZC} (h : zbinI f pc loc st k = some o) : ∃ (x y : Int32) (r : List Value), st = .int y :: .int x :: r ∧ k pc loc (.int (f x y) :: r) = some o := by
  unfold zbinI at h
  split at h
  · rw [zpush_eq] at h; exact ⟨_, _, _, rfl, h⟩
  · cases h
noncomputable def zbinJ (f : Int64 → Int64 → Int64) (pc : Nat) (loc : ZL) (st : List Value) (k : ZK) : ZO := match st with
  | .long y :: .long x :: r => zpush (.long (f x y)) pc loc r k
  | _ => none
theorem zbinJ_ok {f : Int64 → Int64 → Int64} {pc : Nat} {loc : ZL} {st : List Value} {k : ZK} {o : Option Value × List ZC} (h : zbinJ f pc loc st k = some o) : ∃ (x y : Int64) (r : List Value), st = .long y :: .long x :: r ∧ k pc loc (.long (f x y) :: r) = some o := by
  unfold zbinJ at h
  split at h
  · rw [zpush_eq] at h; exact ⟨_, _, _, rfl, h⟩
  · cases h
noncomputable def zshJ (f : Int64 → Int32 → Int64) (pc : Nat) (loc : ZL) (st : List Value) (k : ZK) : ZO := match st with
  | .int y :: .long x :: r => zpush (.long (f x y)) pc loc r k
  | _ => none
theorem zshJ_ok {f : Int64 → Int32 → Int64} {pc : Nat} {loc : ZL} {st : List Value} {k : ZK} {o : Option Value × List ZC} (h : zshJ f pc loc st k = some o) : ∃ (x : Int64) (y : Int32) (r : List Value), st = .int y :: .long x :: r ∧ k pc loc (.long (f x y) :: r) = some o := by
  unfold zshJ at h
  split at h
  · rw [zpush_eq] at h; exact ⟨_, _, _, rfl, h⟩
  · cases h
/-- a branch: is it op a b (or not, if ng)? then by off, else behind -/
noncomputable def zif (bd : Nat → Int × Int) (op : Nat) (ng : Bool) (a b : Value) (pc : Nat) (off : Int) (loc : ZL) (r : List Value) (k : ZK) : ZO := match zcmp bd op a b with
  | some t => bif xor t ng then zjump pc off loc r k else bif decide (0 ≤ (pc : Int) + off) then zgo (pc + 3) loc r k else none
  | none => none
theorem zif_ok {bd : Nat → Int × Int} {rh : Nat → Int32} (hE : zEnv bd rh) (ad : Nat → Nat) {op : Nat} {ng : Bool} {a b : Value} {pc : Nat} {off : Int} {loc : ZL} {r : List Value} {k : ZK} {o : Option Value × List ZC} (h : zif bd op ng a b pc off loc r k = some o) :
    ∃ (x y : Int32) (q : Nat), zc rh ad a = .int x ∧ zc rh ad b = .int y ∧ (pc : Int) + off = (q : Int) ∧ ((k q loc r = some o ∧ (ng = false → zqP op x y) ∧ (ng = true → ¬ zqP op x y)) ∨ (k (pc + 3) loc r = some o ∧ (ng = false → ¬ zqP op x y) ∧ (ng = true → zqP op x y))) := by
  unfold zif at h
  cases e : zcmp bd op a b with
  | none => rw [e] at h; cases h
  | some t =>
    rw [e] at h
    dsimp only at h
    obtain ⟨x, y, h1, h2, h3, h4⟩ := zcmp_ok (ad := ad) hE e
    have out : ∀ {k' : ZO}, (bif decide (0 ≤ (pc : Int) + off) then k' else none) = some o → (pc : Int) + off = ((((pc : Int) + off).toNat : Nat) : Int) ∧ k' = some o := by
      intro k' hk
      by_cases e0 : 0 ≤ (pc : Int) + off
      · rw [decide_eq_true e0] at hk
        exact ⟨(Int.toNat_of_nonneg e0).symm, hk⟩
      · rw [decide_eq_false e0] at hk
        cases hk
    cases t <;> cases ng
    · rw [show (false ^^ false) = false from rfl, cond_false, zgo_eq] at h
      obtain ⟨g1, g2⟩ := out h
      exact ⟨x, y, _, h1, h2, g1, Or.inr ⟨g2, fun _ => h4 rfl, fun z => by cases z⟩⟩
    · rw [show (false ^^ true) = true from rfl, cond_true] at h
      obtain ⟨q, g1, g2⟩ := zjump_ok h
      exact ⟨x, y, q, h1, h2, g1, Or.inl ⟨g2, (fun z => by cases z), fun _ => h4 rfl⟩⟩
    · rw [show (true ^^ false) = true from rfl, cond_true] at h
      obtain ⟨q, g1, g2⟩ := zjump_ok h
      exact ⟨x, y, q, h1, h2, g1, Or.inl ⟨g2, fun _ => h3 rfl, (fun z => by cases z)⟩⟩
    · rw [show (true ^^ true) = false from rfl, cond_false, zgo_eq] at h
      obtain ⟨g1, g2⟩ := out h
      exact ⟨x, y, _, h1, h2, g1, Or.inr ⟨g2, (fun z => by cases z), fun _ => h3 rfl⟩⟩
noncomputable def zsw (bd : Nat → Int × Int) (d lo hi : Int) (offs : Array Int) (pc : Nat) (loc : ZL) (st : List Value) (k : ZK) : ZO := match st with
  | v :: r => match zb bd v with
    | some q => bif decide (q.2 < lo ∨ hi < q.1) then zjump pc d loc r k else bif decide (q.1 = q.2 ∧ lo ≤ q.1 ∧ q.1 ≤ hi) then (match zn offs.toList (q.1 - lo).toNat with
      | some off => zjump pc off loc r k
      | none => none) else none
    | none => none
  | [] => none
/-- the length of an instruction -/
noncomputable def zlen (i : Instr) (L : Nat) : Nat := match i with
  | .tableswitch _ _ _ _ => L
  | .bipush _ => 2
  | .iload _ => 2
  | .aload _ => 2
  | .lload _ => 2
  | .istore _ => 2
  | .astore _ => 2
  | .lstore _ => 2
  | .ldc _ => 2
  | .newarray _ => 2
  | .sipush _ => 3
  | .iinc _ _ => 3
  | .goto _ => 3
  | .ifCond _ _ => 3
  | .if_icmp _ _ => 3
  | .ifnonnull _ => 3
  | .ifnull _ => 3
  | .getfield _ => 3
  | .putfield _ => 3
  | .new _ => 3
  | .anewarray _ => 3
  | .invokevirtual _ => 3
  | .invokespecial _ => 3
  | .invokestatic _ => 3
  | .ldc2_w _ => 3
  | _ => 1
/-- the instructions that change the frame alone -/
noncomputable def zp (bd : Nat → Int × Int) (nL : Nat) (i : Instr) (pc : Nat) (loc : ZL) (st : List Value) (k : ZK) : ZO := match i with
  | .iconst n => zpush (.int (Int32.ofInt n)) (pc + 1) loc st k
  | .bipush n => zpush (.int (Int8.ofInt n).toInt32) (pc + 2) loc st k
  | .sipush n => zpush (.int (Int16.ofInt n).toInt32) (pc + 3) loc st k
  | .lconst n => zpush (.long (Int64.ofNat (n : Nat))) (pc + 1) loc st k
  | .iload_n j => zload zisI j (pc + 1) loc st k
  | .iload j => zload zisI j (pc + 2) loc st k
  | .aload_n j => zload zisA j (pc + 1) loc st k
  | .aload j => zload zisA j (pc + 2) loc st k
  | .lload_n j => zload zisJ j (pc + 1) loc st k
  | .lload j => zload zisJ j (pc + 2) loc st k
  | .istore_n j => zstore1 zisI nL j (pc + 1) loc st k
  | .istore j => zstore1 zisI nL j (pc + 2) loc st k
  | .astore_n j => zstore1 zisA nL j (pc + 1) loc st k
  | .astore j => zstore1 zisA nL j (pc + 2) loc st k
  | .lstore_n j => zstore2 nL j (pc + 1) loc st k
  | .lstore j => zstore2 nL j (pc + 2) loc st k
  | .iinc j n => match zlk loc j with
    | some (.int x) => bif decide (j < nL) then zfI (x + Int32.ofInt n) (fun y => zff1 j loc (fun l => zgo (pc + 3) ((j, .int y) :: l) st k)) else none
    | _ => none
  | .iadd => zbinI (fun x y => x + y) (pc + 1) loc st k
  | .imul => zbinI (fun x y => x * y) (pc + 1) loc st k
  | .ior => zbinI (fun x y => x ||| y) (pc + 1) loc st k
  | .ishl => zbinI (fun x y => x <<< (y &&& 31)) (pc + 1) loc st k
  | .ishr => zbinI (fun x y => x >>> (y &&& 31)) (pc + 1) loc st k
  | .isub => match st with
    | .retAddr j :: .int x :: r => bif decide (x = 100 ∧ j < 8) then zpush (.retAddr (j + 8)) (pc + 1) loc r k else none
    | st => zbinI (fun x y => x - y) (pc + 1) loc st k
  | .iand => match st with
    | .int x :: .retAddr j :: r => bif decide (x = 63 ∧ j = 0) then zpush (.retAddr 7) (pc + 1) loc r k else none
    | st => zbinI (fun x y => x &&& y) (pc + 1) loc st k
  | .irem => match st with
    | .int y :: .int x :: r => bif decide (¬ y = 0) then zpush (.int (x - x / y * y)) (pc + 1) loc r k else none
    | _ => none
  | .idiv => match st with
    | .int y :: .int x :: r => bif decide (¬ y = 0) then zpush (.int (x / y)) (pc + 1) loc r k else none
    | _ => none
  | .ladd => zbinJ (fun x y => x + y) (pc + 1) loc st k
  | .lsub => zbinJ (fun x y => x - y) (pc + 1) loc st k
  | .lmul => zbinJ (fun x y => x * y) (pc + 1) loc st k
  | .lor => zbinJ (fun x y => x ||| y) (pc + 1) loc st k
  | .lxor => zbinJ (fun x y => x ^^^ y) (pc + 1) loc st k
  | .land => zbinJ (fun x y => x &&& y) (pc + 1) loc st k
  | .lshl => zshJ (fun x y => x <<< (y.toInt64 &&& 63)) (pc + 1) loc st k
  | .lshr => zshJ (fun x y => x >>> (y.toInt64 &&& 63)) (pc + 1) loc st k
  | .lushr => zshJ (fun x y => (x.toUInt64 >>> (y.toInt64.toUInt64 &&& Int64.toUInt64 63)).toInt64) (pc + 1) loc st k
  | .lcmp => match st with
    | .long y :: .long x :: r => zpush (.int (lg_cmp x y)) (pc + 1) loc r k
    | _ => none
  | .i2l => match st with
    | .int x :: r => zpush (.long x.toInt64) (pc + 1) loc r k
    | _ => none
  | .l2i => match st with
    | .long x :: r => zpush (.int x.toInt32) (pc + 1) loc r k
    | _ => none
  | .dup => match st with
    | v :: r => bif decide (v.category = 1) then zgo (pc + 1) loc (v :: v :: r) k else none
    | _ => none
  | .dup2 => match st with
    | v :: w :: r => bif decide (v.category = 1 ∧ w.category = 1) then zgo (pc + 1) loc (v :: w :: v :: w :: r) k else none
    | _ => none
  | .pop => match st with
    | v :: r => bif decide (v.category = 1) then zgo (pc + 1) loc r k else none
    | _ => none
  | .goto off => zjump pc off loc st k
  | .ifCond q off => match st with
    | v :: r => match q with
      | .eq => zif bd 0 false v (.int 0) pc off loc r k
      | .ne => zif bd 0 true v (.int 0) pc off loc r k
      | .lt => zif bd 1 false v (.int 0) pc off loc r k
      | .ge => zif bd 2 false (.int 0) v pc off loc r k
      | .gt => zif bd 1 false (.int 0) v pc off loc r k
      | .le => zif bd 2 false v (.int 0) pc off loc r k
    | _ => none
  | .if_icmp q off => match st with
    | w :: v :: r => match q with
      | .eq => zif bd 0 false v w pc off loc r k
      | .ne => zif bd 0 true v w pc off loc r k
      | .lt => zif bd 1 false v w pc off loc r k
      | .ge => zif bd 2 false w v pc off loc r k
      | .gt => zif bd 1 false w v pc off loc r k
      | .le => zif bd 2 false v w pc off loc r k
    | _ => none
  | .ifnonnull off => match st with
    | .ref _ :: r => zjump pc off loc r k
    | .null :: r => zgo (pc + 3) loc r k
    | _ => none
  | .tableswitch d lo hi offs => zsw bd d lo hi offs pc loc st k
  | _ => none
end ZP
end
section
/-! .. and that the machine does what zp says -/
section ZQ
variable {p : Program} {l : Launch} {e : Env} {R : Room} {s : State} {m : MethodId} {args : Array Value} {below : List Frame} {meth : Method} {c : Code} {H : Heap} {locs : List Loc} {cells slots : Nat} {Q : State → Prop}
def zEnv2 (rh : Nat → Int32) : Prop := (∀ j : Nat, j < 8 → rh (j + 8) = 100 - rh j) ∧ rh 7 = rh 0 &&& 63
def ZG (p : Program) (l : Launch) (e : Env) (R : Room) (s : State) (m : MethodId) (args : Array Value) (below : List Frame) (meth : Method) (c : Code) (H : Heap) (locs : List Loc) (cells slots : Nat) (Q : State → Prop) (nL : Nat) (rh : Nat → Int32) (ad : Nat → Nat) (pc : Nat) (st : List Value) (ls : Array Slot) (k : ZK) (o : Option Value × List ZC) : Prop :=
  ∃ (pc' : Nat) (loc' : ZL) (st' : List Value), k pc' loc' st' = some o ∧ ((∀ ls' : Array Slot, lv_has ls' nL (zL rh ad loc') → W p l e R s m args below meth c H locs cells slots Q (F0 m pc' ls' (st'.map (zc rh ad)))) → W p l e R s m args below meth c H locs cells slots Q (F0 m pc ls (st.map (zc rh ad))))
variable {cc : ByteArray} {bd : Nat → Int × Int} {rh : Nat → Int32} {ad : Nat → Nat} {nL pc L : Nat} {ls : Array Slot} {loc : ZL} {st : List Value} {k : ZK} {o : Option Value × List ZC}
set_option maxHeartbeats 4000000 in
theorem zif1 (hx : p.tables.exec = Jvm.exec) (hb : c.code = cc) (hE : zEnv bd rh) {q : ClassFile.Cond} {off : Int} {v : Value} {r : List Value} (hdg : decode cc pc = .ok (.ifCond q off, 3)) (hl : lv_has ls nL (zL rh ad loc))
    (h : zp bd nL (.ifCond q off) pc loc (v :: r) k = some o) : ZG p l e R s m args below meth c H locs cells slots Q nL rh ad pc (v :: r) ls k o := by
  cases q <;> (simp only [zp] at h; obtain ⟨x, y, q, h1, h2, h3, h4⟩ := zif_ok hE ad h)
  · cases h2; rcases h4 with ⟨g1, g2, g3⟩ | ⟨g1, g2, g3⟩ <;> refine ⟨_, _, _, g1, fun kk => ?_⟩ <;> rw [List.map_cons, h1] <;> refine lv_if_eq hx hb hdg h3 (fun z => ?_) (fun z => ?_) <;> first | exact kk ls hl | exact absurd (g2 rfl) z | exact absurd z (g2 rfl)
  · cases h2; rcases h4 with ⟨g1, g2, g3⟩ | ⟨g1, g2, g3⟩ <;> refine ⟨_, _, _, g1, fun kk => ?_⟩ <;> rw [List.map_cons, h1] <;> refine lv_if_ne hx hb hdg h3 (fun z => ?_) (fun z => ?_) <;> first | exact kk ls hl | exact absurd (g3 rfl) z | exact absurd z (g3 rfl)
  · cases h2; rcases h4 with ⟨g1, g2, g3⟩ | ⟨g1, g2, g3⟩ <;> refine ⟨_, _, _, g1, fun kk => ?_⟩ <;> rw [List.map_cons, h1] <;> refine lv_if_lt hx hb hdg h3 (fun z => ?_) (fun z => ?_) <;> first | exact kk ls hl | exact absurd (g2 rfl) z | exact absurd z (g2 rfl)
  · cases h1; rcases h4 with ⟨g1, g2, g3⟩ | ⟨g1, g2, g3⟩ <;> refine ⟨_, _, _, g1, fun kk => ?_⟩ <;> rw [List.map_cons, h2] <;> refine lv_if_ge hx hb hdg h3 (fun z => ?_) (fun z => ?_) <;> first | exact kk ls hl | exact absurd (g2 rfl) z | exact absurd z (g2 rfl)
  · cases h1; rcases h4 with ⟨g1, g2, g3⟩ | ⟨g1, g2, g3⟩ <;> refine ⟨_, _, _, g1, fun kk => ?_⟩ <;> rw [List.map_cons, h2] <;> refine lv_if_gt hx hb hdg h3 (fun z => ?_) (fun z => ?_) <;> first | exact kk ls hl | exact absurd (g2 rfl) z | exact absurd z (g2 rfl)
  · cases h2; rcases h4 with ⟨g1, g2, g3⟩ | ⟨g1, g2, g3⟩ <;> refine ⟨_, _, _, g1, fun kk => ?_⟩ <;> rw [List.map_cons, h1] <;> refine lv_if_le hx hb hdg h3 (fun z => ?_) (fun z => ?_) <;> first | exact kk ls hl | exact absurd (g2 rfl) z | exact absurd z (g2 rfl)
set_option maxHeartbeats 4000000 in
theorem zif2 (hx : p.tables.exec = Jvm.exec) (hb : c.code = cc) (hE : zEnv bd rh) {q : ClassFile.Cond} {off : Int} {v w : Value} {r : List Value} (hdg : decode cc pc = .ok (.if_icmp q off, 3)) (hl : lv_has ls nL (zL rh ad loc))
    (h : zp bd nL (.if_icmp q off) pc loc (w :: v :: r) k = some o) : ZG p l e R s m args below meth c H locs cells slots Q nL rh ad pc (w :: v :: r) ls k o := by
  cases q <;> (simp only [zp] at h; obtain ⟨x, y, q, h1, h2, h3, h4⟩ := zif_ok hE ad h)
  · rcases h4 with ⟨g1, g2, g3⟩ | ⟨g1, g2, g3⟩ <;> refine ⟨_, _, _, g1, fun kk => ?_⟩ <;> rw [List.map_cons, List.map_cons, h1, h2] <;> refine lv_icmp_eq hx hb hdg h3 (fun z => ?_) (fun z => ?_) <;> first | exact kk ls hl | exact absurd (g2 rfl) z | exact absurd z (g2 rfl)
  · rcases h4 with ⟨g1, g2, g3⟩ | ⟨g1, g2, g3⟩ <;> refine ⟨_, _, _, g1, fun kk => ?_⟩ <;> rw [List.map_cons, List.map_cons, h1, h2] <;> refine lv_icmp_ne hx hb hdg h3 (fun z => ?_) (fun z => ?_) <;> first | exact kk ls hl | exact absurd (g3 rfl) z | exact absurd z (g3 rfl)
  · rcases h4 with ⟨g1, g2, g3⟩ | ⟨g1, g2, g3⟩ <;> refine ⟨_, _, _, g1, fun kk => ?_⟩ <;> rw [List.map_cons, List.map_cons, h1, h2] <;> refine lv_icmp_lt hx hb hdg h3 (fun z => ?_) (fun z => ?_) <;> first | exact kk ls hl | exact absurd (g2 rfl) z | exact absurd z (g2 rfl)
  · rcases h4 with ⟨g1, g2, g3⟩ | ⟨g1, g2, g3⟩ <;> refine ⟨_, _, _, g1, fun kk => ?_⟩ <;> rw [List.map_cons, List.map_cons, h1, h2] <;> refine lv_icmp_ge hx hb hdg h3 (fun z => ?_) (fun z => ?_) <;> first | exact kk ls hl | exact absurd (g2 rfl) z | exact absurd z (g2 rfl)
  · rcases h4 with ⟨g1, g2, g3⟩ | ⟨g1, g2, g3⟩ <;> refine ⟨_, _, _, g1, fun kk => ?_⟩ <;> rw [List.map_cons, List.map_cons, h1, h2] <;> refine lv_icmp_gt hx hb hdg h3 (fun z => ?_) (fun z => ?_) <;> first | exact kk ls hl | exact absurd (g2 rfl) z | exact absurd z (g2 rfl)
  · rcases h4 with ⟨g1, g2, g3⟩ | ⟨g1, g2, g3⟩ <;> refine ⟨_, _, _, g1, fun kk => ?_⟩ <;> rw [List.map_cons, List.map_cons, h1, h2] <;> refine lv_icmp_le hx hb hdg h3 (fun z => ?_) (fun z => ?_) <;> first | exact kk ls hl | exact absurd (g2 rfl) z | exact absurd z (g2 rfl)
theorem znone {P : Prop} (h : (none : ZO) = some o) : P := by cases h
theorem zbif {b : Bool} {x : ZO} (h : (bif b then x else none) = some o) : b = true ∧ x = some o := by
  cases b
  · cases h
  · exact ⟨rfl, h⟩
set_option maxHeartbeats 8000000 in
/-- what zp says is what the machine does -/
theorem z_p (hx : p.tables.exec = Jvm.exec) (hb : c.code = cc) (hE : zEnv bd rh) (hE2 : zEnv2 rh) {i : Instr} (hdg : decode cc pc = .ok (i, zlen i L)) (hl : lv_has ls nL (zL rh ad loc))
    (h : zp bd nL i pc loc st k = some o) : ZG p l e R s m args below meth c H locs cells slots Q nL rh ad pc st ls k o := by
  cases i with
  | iconst n => rw [show zp bd nL (.iconst n) pc loc st k = _ from zpush_eq _ _ _ _ _] at h; exact ⟨_, _, _, h, fun kk => lv_iconst hx hb hdg rfl (kk ls hl)⟩
  | bipush n => rw [show zp bd nL (.bipush n) pc loc st k = _ from zpush_eq _ _ _ _ _] at h; exact ⟨_, _, _, h, fun kk => lv_bipush hx hb hdg rfl (kk ls hl)⟩
  | sipush n => rw [show zp bd nL (.sipush n) pc loc st k = _ from zpush_eq _ _ _ _ _] at h; exact ⟨_, _, _, h, fun kk => lv_sipush hx hb hdg rfl (kk ls hl)⟩
  | lconst n => rw [show zp bd nL (.lconst n) pc loc st k = _ from zpush_eq _ _ _ _ _] at h; exact ⟨_, _, _, h, fun kk => lv_lconst hx hb hdg rfl (kk ls hl)⟩
  | iload_n j =>
    obtain ⟨v, h1, h2, h3⟩ := zload_ok h
    obtain ⟨x, ex⟩ := zisI_ok (rh := rh) (ad := ad) h2
    have hl1 := z_at hl h1
    refine ⟨_, _, _, h3, fun kk => ?_⟩
    have h4 := kk ls hl
    rw [List.map_cons, ex] at h4
    rw [ex] at hl1
    exact lv_iload_n hx hb hdg rfl hl1 h4
  | iload j =>
    obtain ⟨v, h1, h2, h3⟩ := zload_ok h
    obtain ⟨x, ex⟩ := zisI_ok (rh := rh) (ad := ad) h2
    have hl1 := z_at hl h1
    refine ⟨_, _, _, h3, fun kk => ?_⟩
    have h4 := kk ls hl
    rw [List.map_cons, ex] at h4
    rw [ex] at hl1
    exact lv_iload hx hb hdg hl1 h4
  | lload_n j =>
    obtain ⟨v, h1, h2, h3⟩ := zload_ok h
    obtain ⟨x, ex⟩ := zisJ_ok (rh := rh) (ad := ad) h2
    have hl1 := z_at hl h1
    refine ⟨_, _, _, h3, fun kk => ?_⟩
    have h4 := kk ls hl
    rw [List.map_cons, ex] at h4
    rw [ex] at hl1
    exact lv_lload_n hx hb hdg rfl hl1 h4
  | lload j =>
    obtain ⟨v, h1, h2, h3⟩ := zload_ok h
    obtain ⟨x, ex⟩ := zisJ_ok (rh := rh) (ad := ad) h2
    have hl1 := z_at hl h1
    refine ⟨_, _, _, h3, fun kk => ?_⟩
    have h4 := kk ls hl
    rw [List.map_cons, ex] at h4
    rw [ex] at hl1
    exact lv_lload hx hb hdg hl1 h4
  | aload_n j =>
    obtain ⟨v, h1, h2, h3⟩ := zload_ok h
    have hl1 := z_at hl h1
    refine ⟨_, _, _, h3, fun kk => ?_⟩
    have h4 := kk ls hl
    rcases zisA_ok (rh := rh) (ad := ad) h2 with ex | ⟨x, ex⟩ <;> rw [List.map_cons, ex] at h4 <;> rw [ex] at hl1
    · exact lv_aload_nN hx hb hdg rfl hl1 h4
    · exact lv_aload_n hx hb hdg rfl hl1 h4
  | aload j =>
    obtain ⟨v, h1, h2, h3⟩ := zload_ok h
    have hl1 := z_at hl h1
    refine ⟨_, _, _, h3, fun kk => ?_⟩
    have h4 := kk ls hl
    rcases zisA_ok (rh := rh) (ad := ad) h2 with ex | ⟨x, ex⟩ <;> rw [List.map_cons, ex] at h4 <;> rw [ex] at hl1
    · exact lv_aloadN hx hb hdg hl1 h4
    · exact lv_aload hx hb hdg hl1 h4
  | istore_n j =>
    obtain ⟨v, r, rfl, h2, h3, h4⟩ := zstore1_ok h
    obtain ⟨x, ex⟩ := zisI_ok (rh := rh) (ad := ad) h2
    refine ⟨_, _, _, h4, fun kk => ?_⟩
    rw [List.map_cons, ex]
    exact lv_istore_n hx hb hdg rfl hl h3 (by rw [← ex]; exact z_st1) kk
  | istore j =>
    obtain ⟨v, r, rfl, h2, h3, h4⟩ := zstore1_ok h
    obtain ⟨x, ex⟩ := zisI_ok (rh := rh) (ad := ad) h2
    refine ⟨_, _, _, h4, fun kk => ?_⟩
    rw [List.map_cons, ex]
    exact lv_istore hx hb hdg hl h3 (by rw [← ex]; exact z_st1) kk
  | lstore_n j =>
    obtain ⟨v, r, rfl, h2, h3, h4⟩ := zstore2_ok h
    obtain ⟨x, ex⟩ := zisJ_ok (rh := rh) (ad := ad) h2
    refine ⟨_, _, _, h4, fun kk => ?_⟩
    rw [List.map_cons, ex]
    exact lv_lstore_n hx hb hdg rfl hl h3 (by rw [← ex]; exact z_st2) kk
  | lstore j =>
    obtain ⟨v, r, rfl, h2, h3, h4⟩ := zstore2_ok h
    obtain ⟨x, ex⟩ := zisJ_ok (rh := rh) (ad := ad) h2
    refine ⟨_, _, _, h4, fun kk => ?_⟩
    rw [List.map_cons, ex]
    exact lv_lstore hx hb hdg hl h3 (by rw [← ex]; exact z_st2) kk
  | astore_n j =>
    obtain ⟨v, r, rfl, h2, h3, h4⟩ := zstore1_ok h
    refine ⟨_, _, _, h4, fun kk => ?_⟩
    rcases zisA_ok (rh := rh) (ad := ad) h2 with ex | ⟨x, ex⟩ <;> rw [List.map_cons, ex]
    · exact lv_astore_nN hx hb hdg rfl hl h3 (by rw [← ex]; exact z_st1) kk
    · exact lv_astore_n hx hb hdg rfl hl h3 (by rw [← ex]; exact z_st1) kk
  | astore j =>
    obtain ⟨v, r, rfl, h2, h3, h4⟩ := zstore1_ok h
    refine ⟨_, _, _, h4, fun kk => ?_⟩
    rcases zisA_ok (rh := rh) (ad := ad) h2 with ex | ⟨x, ex⟩ <;> rw [List.map_cons, ex]
    · exact lv_astoreN hx hb hdg hl h3 (by rw [← ex]; exact z_st1) kk
    · exact lv_astore hx hb hdg hl h3 (by rw [← ex]; exact z_st1) kk
  | iinc j n =>
    simp only [zp] at h
    split at h
    · rename_i x hk
      obtain ⟨h1, h2⟩ := zbif h
      rw [zfI_eq, zff1_eq, zgo_eq] at h2
      obtain ⟨q, hq⟩ := z_lk (rh := rh) (ad := ad) hk
      exact ⟨_, _, _, h2, fun kk => lv_iinc hx hb hdg hl hq rfl (of_decide_eq_true h1) (z_st1 (v := .int _)) kk⟩
    · cases h
  | iadd => obtain ⟨x, y, r, rfl, h2⟩ := zbinI_ok h; exact ⟨_, _, _, h2, fun kk => lv_iadd hx hb hdg (kk ls hl)⟩
  | imul => obtain ⟨x, y, r, rfl, h2⟩ := zbinI_ok h; exact ⟨_, _, _, h2, fun kk => lv_imul hx hb hdg (kk ls hl)⟩
  | ior => obtain ⟨x, y, r, rfl, h2⟩ := zbinI_ok h; exact ⟨_, _, _, h2, fun kk => lv_ior hx hb hdg (kk ls hl)⟩
  | ishl => obtain ⟨x, y, r, rfl, h2⟩ := zbinI_ok h; exact ⟨_, _, _, h2, fun kk => lv_ishl hx hb hdg (kk ls hl)⟩
  | ishr => obtain ⟨x, y, r, rfl, h2⟩ := zbinI_ok h; exact ⟨_, _, _, h2, fun kk => lv_ishr hx hb hdg (kk ls hl)⟩
  | isub =>
    simp only [zp] at h
    split at h
    · rename_i j x r
      obtain ⟨h1, h2⟩ := zbif h
      obtain ⟨rfl, hj⟩ := of_decide_eq_true h1
      rw [zpush_eq] at h2
      refine ⟨_, _, _, h2, fun kk => ?_⟩
      have h4 := kk ls hl
      rw [List.map_cons, show zc rh ad (.retAddr (j + 8)) = .int (100 - rh j) from congrArg Value.int (hE2.1 j hj)] at h4
      exact lv_isub hx hb hdg h4
    · obtain ⟨x, y, r, rfl, h2⟩ := zbinI_ok h; exact ⟨_, _, _, h2, fun kk => lv_isub hx hb hdg (kk ls hl)⟩
  | iand =>
    simp only [zp] at h
    split at h
    · rename_i x j r
      obtain ⟨h1, h2⟩ := zbif h
      obtain ⟨rfl, rfl⟩ := of_decide_eq_true h1
      rw [zpush_eq] at h2
      refine ⟨_, _, _, h2, fun kk => ?_⟩
      have h4 := kk ls hl
      rw [List.map_cons, show zc rh ad (.retAddr 7) = .int (rh 0 &&& 63) from congrArg Value.int hE2.2] at h4
      exact lv_iand hx hb hdg h4
    · obtain ⟨x, y, r, rfl, h2⟩ := zbinI_ok h; exact ⟨_, _, _, h2, fun kk => lv_iand hx hb hdg (kk ls hl)⟩
  | irem =>
    simp only [zp] at h
    split at h
    · obtain ⟨h1, h2⟩ := zbif h
      rw [zpush_eq] at h2
      exact ⟨_, _, _, h2, fun kk => lv_irem hx hb hdg (of_decide_eq_true h1) (kk ls hl)⟩
    · cases h
  | idiv =>
    simp only [zp] at h
    split at h
    · obtain ⟨h1, h2⟩ := zbif h
      rw [zpush_eq] at h2
      exact ⟨_, _, _, h2, fun kk => lv_idiv hx hb hdg (of_decide_eq_true h1) (kk ls hl)⟩
    · cases h
  | ladd => obtain ⟨x, y, r, rfl, h2⟩ := zbinJ_ok h; exact ⟨_, _, _, h2, fun kk => lv_ladd hx hb hdg (kk ls hl)⟩
  | lsub => obtain ⟨x, y, r, rfl, h2⟩ := zbinJ_ok h; exact ⟨_, _, _, h2, fun kk => lv_lsub hx hb hdg (kk ls hl)⟩
  | lmul => obtain ⟨x, y, r, rfl, h2⟩ := zbinJ_ok h; exact ⟨_, _, _, h2, fun kk => lv_lmul hx hb hdg (kk ls hl)⟩
  | lor => obtain ⟨x, y, r, rfl, h2⟩ := zbinJ_ok h; exact ⟨_, _, _, h2, fun kk => lv_lor hx hb hdg (kk ls hl)⟩
  | lxor => obtain ⟨x, y, r, rfl, h2⟩ := zbinJ_ok h; exact ⟨_, _, _, h2, fun kk => lv_lxor hx hb hdg (kk ls hl)⟩
  | land => obtain ⟨x, y, r, rfl, h2⟩ := zbinJ_ok h; exact ⟨_, _, _, h2, fun kk => lv_land hx hb hdg (kk ls hl)⟩
  | lshl => obtain ⟨x, y, r, rfl, h2⟩ := zshJ_ok h; exact ⟨_, _, _, h2, fun kk => lv_lshl hx hb hdg rfl (kk ls hl)⟩
  | lshr => obtain ⟨x, y, r, rfl, h2⟩ := zshJ_ok h; exact ⟨_, _, _, h2, fun kk => lv_lshr hx hb hdg rfl (kk ls hl)⟩
  | lushr => obtain ⟨x, y, r, rfl, h2⟩ := zshJ_ok h; exact ⟨_, _, _, h2, fun kk => lv_lushr hx hb hdg rfl (kk ls hl)⟩
  | lcmp =>
    simp only [zp] at h
    split at h
    · rw [zpush_eq] at h; exact ⟨_, _, _, h, fun kk => W.lcmp hx hb hdg (kk ls hl)⟩
    · cases h
  | i2l =>
    simp only [zp] at h
    split at h
    · rw [zpush_eq] at h; exact ⟨_, _, _, h, fun kk => lv_i2l hx hb hdg rfl (kk ls hl)⟩
    · cases h
  | l2i =>
    simp only [zp] at h
    split at h
    · rw [zpush_eq] at h; exact ⟨_, _, _, h, fun kk => lv_l2i hx hb hdg rfl (kk ls hl)⟩
    · cases h
  | dup =>
    simp only [zp] at h
    split at h
    · obtain ⟨h1, h2⟩ := zbif h
      rw [zgo_eq] at h2
      exact ⟨_, _, _, h2, fun kk => lv_dup hx hb hdg ((zc_cat rh ad _).trans (of_decide_eq_true h1)) (kk ls hl)⟩
    · cases h
  | dup2 =>
    simp only [zp] at h
    split at h
    · obtain ⟨h1, h2⟩ := zbif h
      rw [zgo_eq] at h2
      exact ⟨_, _, _, h2, fun kk => lv_dup2_11 hx hb hdg ((zc_cat rh ad _).trans (of_decide_eq_true h1).1) ((zc_cat rh ad _).trans (of_decide_eq_true h1).2) (kk ls hl)⟩
    · cases h
  | pop =>
    simp only [zp] at h
    split at h
    · obtain ⟨h1, h2⟩ := zbif h
      rw [zgo_eq] at h2
      exact ⟨_, _, _, h2, fun kk => lv_pop hx hb hdg ((zc_cat rh ad _).trans (of_decide_eq_true h1)) (kk ls hl)⟩
    · cases h
  | goto off => obtain ⟨q, h1, h2⟩ := zjump_ok h; exact ⟨_, _, _, h2, fun kk => lv_goto hx hb hdg h1 (kk ls hl)⟩
  | ifCond q off =>
    cases st with
    | nil => exact znone (show (none : ZO) = some o from h)
    | cons v r => exact zif1 hx hb hE hdg hl h
  | if_icmp q off =>
    match st, h with
    | [], h => exact znone (show (none : ZO) = some o from h)
    | [_], h => exact znone (show (none : ZO) = some o from h)
    | w :: v :: r, h => exact zif2 hx hb hE hdg hl h
  | ifnonnull off =>
    simp only [zp] at h
    split at h
    · obtain ⟨q, h1, h2⟩ := zjump_ok h; exact ⟨_, _, _, h2, fun kk => lv_ifnonnull hx hb hdg h1 (kk ls hl)⟩
    · rw [zgo_eq] at h; exact ⟨_, _, _, h, fun kk => lv_ifnonnullN hx hb hdg (kk ls hl)⟩
    · cases h
  | tableswitch d lo hi offs =>
    simp only [zp] at h
    cases st with
    | nil => exact znone (show (none : ZO) = some o from h)
    | cons v r =>
      simp only [zsw] at h
      cases eb : zb bd v with
      | none => rw [eb] at h; cases h
      | some q =>
        rw [eb] at h
        dsimp only at h
        obtain ⟨x, ex, h2, h3⟩ := zb_ok (ad := ad) hE eb
        by_cases hd : q.2 < lo ∨ hi < q.1
        · rw [decide_eq_true hd, cond_true] at h
          obtain ⟨t, g1, g2⟩ := zjump_ok h
          refine ⟨_, _, _, g2, fun kk => ?_⟩
          rw [List.map_cons, ex]
          exact lv_tableOut hx hb hdg (by omega) g1 (kk ls hl)
        · rw [decide_eq_false hd, cond_false] at h
          obtain ⟨h5, h6⟩ := zbif h
          have h5 := of_decide_eq_true h5
          split at h6
          · rename_i off ho
            obtain ⟨t, g1, g2⟩ := zjump_ok h6
            refine ⟨_, _, _, g2, fun kk => ?_⟩
            rw [List.map_cons, ex]
            refine lv_tableIn hx hb hdg (by omega) (by omega) ?_ g1 (kk ls hl)
            rw [zn_eq, Array.getElem?_toList] at ho
            rw [show x.toInt = q.1 by omega]
            exact ho
          · cases h6
  | _ => exact znone (show (none : ZO) = some o from h)
end ZQ
end
section
/-! cells: a row (tag, length, what was written) or an object (number of its class, fields) -/
section ZCE
/-- what was written, the newest first; a place p from 1000000000 on: all places below p - 1000000000 -/
noncomputable def zl (d : Value) (u : List (Nat × Value)) : Nat → Value := List.rec (motive := fun _ => Nat → Value) (fun _ => d) (fun q _ ih j => bif Nat.ble 1000000000 q.1 then (bif Nat.blt j (q.1 - 1000000000) then q.2 else ih j) else (bif Nat.beq q.1 j then q.2 else ih j)) u
noncomputable def zi (rh : Nat → Int32) : Value → Int32
  | .int x => x
  | .retAddr k => rh k
  | _ => 0
noncomputable def zj : Value → Int64
  | .long x => x
  | _ => 0
noncomputable def zr (ad : Nat → Nat) : Value → Option Nat
  | .ref i => some (ad i)
  | _ => none
noncomputable def zA (rh : Nat → Int32) (ad : Nat → Nat) (t n : Nat) (u : List (Nat × Value)) : vp_A := match t with
  | 1 => (n, .inr (.inl (fun j => zj (zl (.long 0) u j))))
  | 4 => (n, .inr (.inr (.inr (.inr (fun j => zr ad (zl .null u j))))))
  | 5 => (n, .inr (.inr (.inr (.inr (fun j => zr ad (zl .null u j))))))
  | _ => (n, .inl (fun j => zi rh (zl (.int 0) u j)))
noncomputable def zE (cA : Nat → ClassId) (rh : Nat → Int32) (ad : Nat → Nat) : ZC → va_E
  | .inl (ci, fs) => .inr (ci, fs.map (zc rh ad))
  | .inr (t, n, u) => .inl (cA t, zA rh ad t n u)
noncomputable def zW (cA : Nat → ClassId) (rh : Nat → Int32) (ad : Nat → Nat) (cs : List ZC) : va_W := cs.mapIdx (fun k q => (ad k, zE cA rh ad q))
variable {cA : Nat → ClassId} {rh : Nat → Int32} {ad : Nat → Nat} {cs : List ZC}
theorem zW_get {k : Nat} {q : ZC} (h : zn cs k = some q) : (zW cA rh ad cs)[k]? = some (ad k, zE cA rh ad q) := by
  rw [zn_eq] at h
  unfold zW
  rw [List.getElem?_mapIdx, h]
  rfl
theorem zW_set (k : Nat) (q : ZC) : (zW cA rh ad cs).set k (ad k, zE cA rh ad q) = zW cA rh ad (cs.set k q) := by
  apply List.ext_getElem?
  intro j
  unfold zW
  rw [List.getElem?_set, List.getElem?_mapIdx, List.getElem?_mapIdx, List.getElem?_set]
  simp only [List.length_mapIdx]
  by_cases h : k = j
  · subst h
    by_cases h2 : k < cs.length
    · simp [h2]
    · simp [h2]
  · simp [h]
noncomputable def zup (ad : Nat → Nat) (n q : Nat) : Nat → Nat := fun i => if i = n then q else ad i
-- no value speaks of the cell n that isn't there yet
noncomputable def zwV (n : Nat) (v : Value) : Bool := match v with
  | .ref i => Nat.blt i n || Nat.ble 1000000 i
  | _ => true
noncomputable def zwS (n : Nat) (st : List Value) : Bool := st.all (zwV n)
noncomputable def zwL (n : Nat) (l : ZL) : Bool := l.all (fun q => zwV n q.2)
/-- 'all' in a plain form -/
noncomputable def zall {β : Type} (f : β → Bool) (l : List β) : Bool := List.rec (motive := fun _ => Bool) true (fun q _ b => bif f q then b else false) l
theorem zall_eq {β : Type} (f : β → Bool) : ∀ l : List β, zall f l = l.all f
  | [] => rfl
  | q :: r => by
    show (bif f q then zall f r else false) = (f q && r.all f)
    rw [zall_eq f r]
    cases f q <;> rfl
noncomputable def zwS' (n : Nat) (st : List Value) : Bool := zall (zwV n) st
noncomputable def zwL' (n : Nat) (l : ZL) : Bool := zall (fun q => zwV n q.2) l
noncomputable def zwC (n : Nat) (cs : List ZC) : Bool := cs.all (fun q => match q with
  | .inl (_, fs) => zwS n fs
  | .inr (_, _, u) => zwL n u)
noncomputable def zwC' (n : Nat) (cs : List ZC) : Bool := zall (fun q => match q with
  | .inl (_, fs) => zwS' n fs
  | .inr (_, _, u) => zwL' n u) cs
theorem zwS'_eq (n : Nat) (st : List Value) : zwS' n st = zwS n st := zall_eq _ _
theorem zwL'_eq (n : Nat) (l : ZL) : zwL' n l = zwL n l := zall_eq _ _
theorem zwC'_eq (n : Nat) (cs : List ZC) : zwC' n cs = zwC n cs := by
  unfold zwC' zwC
  rw [zall_eq]
  congr 1
  funext q
  match q with
  | .inl (_, fs) => exact zwS'_eq n fs
  | .inr (_, _, u) => exact zwL'_eq n u
/-- the old cells lie where they lay -/
noncomputable def zAg (ad ad' : Nat → Nat) (n : Nat) : Prop := ∀ i : Nat, (i < n ∨ 1000000 ≤ i) → ad' i = ad i
theorem zAg.rf {n : Nat} : zAg ad ad n := fun _ _ => rfl
theorem zAg.trans {ad' ad'' : Nat → Nat} {n n' : Nat} (h1 : zAg ad ad' n) (h2 : zAg ad' ad'' n') (h : n ≤ n') : zAg ad ad'' n := fun i hi => (h2 i (hi.imp (fun z => Nat.lt_of_lt_of_le z h) id)).trans (h1 i hi)
theorem zAg.up {n q : Nat} (hn : n < 1000000) : zAg ad (zup ad n q) n := fun i hi => by
  unfold zup
  rw [if_neg (by omega)]
theorem zw_v {ad' : Nat → Nat} {n : Nat} {v : Value} (h : zwV n v = true) (hA : zAg ad ad' n) : zc rh ad' v = zc rh ad v := by
  cases v <;> first | rfl | skip
  rename_i i
  simp only [zwV, Bool.or_eq_true] at h
  show Value.ref (ad' i) = Value.ref (ad i)
  rw [hA i (h.imp (fun z => (by simpa [Nat.blt_eq] using z)) Nat.le_of_ble_eq_true)]
theorem zw_s {ad' : Nat → Nat} {n : Nat} {st : List Value} (h : zwS n st = true) (hA : zAg ad ad' n) : st.map (zc rh ad') = st.map (zc rh ad) :=
  List.map_congr_left fun v hv => zw_v (List.all_eq_true.mp h v hv) hA
theorem zw_l {ad' : Nat → Nat} {n : Nat} {l : ZL} (h : zwL n l = true) (hA : zAg ad ad' n) : zL rh ad' l = zL rh ad l :=
  List.map_congr_left fun q hq => by rw [zw_v (rh := rh) (List.all_eq_true.mp h q hq) hA]
theorem zw_zl {ad' : Nat → Nat} {n : Nat} : ∀ {u : List (Nat × Value)} (_ : zwL n u = true) (_ : zAg ad ad' n) (j : Nat), zr ad' (zl .null u j) = zr ad (zl .null u j)
  | [], _, _, _ => rfl
  | (i, v) :: r, h, hA, j => by
    simp only [zwL, List.all_cons, Bool.and_eq_true] at h
    have h1 := zw_v (rh := fun _ => 0) h.1 hA
    have hv : zr ad' v = zr ad v := by
      cases v <;> first | rfl | skip
      simp only [zc, Value.ref.injEq] at h1
      simp only [zr, h1]
    have ih := zw_zl (u := r) h.2 hA j
    show zr ad' (bif Nat.ble 1000000000 i then (bif Nat.blt j (i - 1000000000) then v else zl .null r j) else (bif Nat.beq i j then v else zl .null r j)) = zr ad (bif Nat.ble 1000000000 i then (bif Nat.blt j (i - 1000000000) then v else zl .null r j) else (bif Nat.beq i j then v else zl .null r j))
    cases Nat.ble 1000000000 i
    · cases Nat.beq i j
      · exact ih
      · exact hv
    · cases Nat.blt j (i - 1000000000)
      · exact ih
      · exact hv
theorem zw_c {ad' : Nat → Nat} {n : Nat} {q : ZC} (h : (match q with
  | .inl (_, fs) => zwS n fs
  | .inr (_, _, u) => zwL n u) = true) (hA : zAg ad ad' n) : zE cA rh ad' q = zE cA rh ad q := by
  match q, h with
  | .inl (ci, fs), h => simp only [zE]; rw [zw_s h hA]
  | .inr (t, n', u), h =>
    simp only [zE]
    have e : zA rh ad' t n' u = zA rh ad t n' u := by
      unfold zA
      have e4 : (fun j => zr ad' (zl .null u j)) = (fun j => zr ad (zl .null u j)) := funext fun j => zw_zl h hA j
      split <;> first | rfl | rw [e4]
    rw [e]
theorem zW_ag {ad' : Nat → Nat} (h : zwC cs.length cs = true) (hA : zAg ad ad' cs.length) : zW cA rh ad' cs = zW cA rh ad cs := by
  apply List.ext_getElem?
  intro j
  unfold zW
  rw [List.getElem?_mapIdx, List.getElem?_mapIdx]
  cases hj : cs[j]? with
  | none => rfl
  | some q =>
    have hlt : j < cs.length := (List.getElem?_eq_some_iff.mp hj).1
    have hm : q ∈ cs := List.mem_of_getElem? hj
    have e := zw_c (cA := cA) (rh := rh) (q := q) (List.all_eq_true.mp h q hm) hA
    simp only [Option.map_some]
    rw [hA j (Or.inl hlt), e]
theorem zW_push {q : Nat} {c : ZC} (h : zwC cs.length cs = true) (hn : cs.length < 1000000) (hc : zE cA rh (zup ad cs.length q) c = zE cA rh ad c) : zW cA rh (zup ad cs.length q) (cs ++ [c]) = zW cA rh ad cs ++ [(q, zE cA rh ad c)] := by
  have e := zW_ag (cA := cA) (rh := rh) h (zAg.up (ad := ad) (q := q) hn)
  rw [← e]
  unfold zW
  rw [List.mapIdx_append]
  congr 1
  simp only [List.mapIdx_cons, List.mapIdx_nil, Nat.zero_add, hc, zup, if_true]
-- values alike
noncomputable def zeqV (a b : Value) : Bool := match a, b with
  | .int x, .int y => decide (x = y)
  | .long x, .long y => decide (x = y)
  | .null, .null => true
  | .ref i, .ref j => Nat.beq i j
  | _, _ => false
theorem zeqV_ok {a b : Value} (h : zeqV a b = true) : a = b := by
  cases a <;> cases b <;> simp only [zeqV] at h <;> first | rfl | (cases h; done) | (rw [of_decide_eq_true h]; done) | (rw [Nat.eq_of_beq_eq_true h]; done)
/-- what was written, with one more -/
noncomputable def zpu (d : Value) (u : List (Nat × Value)) (i : Nat) (v : Value) : List (Nat × Value) := bif zeqV (zl d u i) v then u else bif Nat.beq i 0 then (1000000001, v) :: u else match u with
  | (p, w) :: r => bif Nat.beq p (1000000000 + i) && zeqV w v then (p + 1, w) :: r else (i, v) :: (p, w) :: r
  | [] => [(i, v)]
theorem zl_cons {d : Value} {p : Nat} {v : Value} {r : List (Nat × Value)} {j : Nat} (hp : p < 1000000000) : zl d ((p, v) :: r) j = if j = p then v else zl d r j := by
  show (bif Nat.ble 1000000000 p then _ else (bif Nat.beq p j then v else zl d r j)) = _
  have h1 : Nat.ble 1000000000 p = false := by
    cases h : Nat.ble 1000000000 p with
    | false => rfl
    | true => exact absurd (Nat.le_of_ble_eq_true h) (by omega)
  rw [h1, cond_false]
  by_cases e : j = p
  · rw [if_pos e, e, Nat.beq_refl, cond_true]
  · rw [if_neg e]
    cases hb : Nat.beq p j with
    | true => exact absurd (Nat.eq_of_beq_eq_true hb).symm e
    | false => rfl
theorem zl_rng {d : Value} {n : Nat} {v : Value} {r : List (Nat × Value)} {j : Nat} : zl d ((1000000000 + n, v) :: r) j = if j < n then v else zl d r j := by
  show (bif Nat.ble 1000000000 (1000000000 + n) then (bif Nat.blt j (1000000000 + n - 1000000000) then v else zl d r j) else _) = _
  rw [Nat.ble_eq_true_of_le (Nat.le_add_right _ _), cond_true, Nat.add_sub_cancel_left]
  by_cases e : j < n
  · rw [if_pos e, show Nat.blt j n = true from Nat.ble_eq_true_of_le e, cond_true]
  · rw [if_neg e]
    cases hb : Nat.blt j n with
    | true => exact absurd (Nat.le_of_ble_eq_true hb) e
    | false => rfl
theorem zl_pu {d : Value} {u : List (Nat × Value)} {i : Nat} {v : Value} (hi : i < 1000000000) (j : Nat) : zl d (zpu d u i v) j = if j = i then v else zl d u j := by
  unfold zpu
  cases h : zeqV (zl d u i) v with
  | true =>
    rw [cond_true]
    by_cases e : j = i
    · rw [if_pos e, e]; exact zeqV_ok h
    · rw [if_neg e]
  | false =>
    rw [cond_false]
    cases h0 : Nat.beq i 0 with
    | true =>
      rw [cond_true, Nat.eq_of_beq_eq_true h0]
      rw [show (1000000001 : Nat) = 1000000000 + 1 from rfl, zl_rng]
      by_cases e : j = 0
      · rw [if_pos e, if_pos (by omega)]
      · rw [if_neg e, if_neg (by omega)]
    | false =>
      rw [cond_false]
      cases u with
      | nil => exact zl_cons hi
      | cons q r =>
        obtain ⟨p, w⟩ := q
        dsimp only
        cases h1 : (Nat.beq p (1000000000 + i) && zeqV w v) with
        | true =>
          rw [cond_true]
          rw [Bool.and_eq_true] at h1
          have e1 := Nat.eq_of_beq_eq_true h1.1
          have e2 := zeqV_ok h1.2
          subst e1; subst e2
          rw [Nat.add_assoc, zl_rng, zl_rng]
          by_cases e : j = i
          · rw [if_pos e, if_pos (by omega)]
          · rw [if_neg e]
            by_cases e3 : j < i
            · rw [if_pos e3, if_pos (by omega)]
            · rw [if_neg e3, if_neg (by omega)]
        | false =>
          rw [cond_false]
          exact zl_cons hi
theorem zu_i {rh : Nat → Int32} {u : List (Nat × Value)} {i : Nat} {v : Value} (hi : i < 1000000000) : upd (fun j => zi rh (zl (.int 0) u j)) i (zi rh v) = (fun j => zi rh (zl (.int 0) (zpu (.int 0) u i v) j)) := by
  funext j
  rw [zl_pu hi]
  unfold upd
  by_cases e : j = i
  · rw [if_pos e, if_pos e]
  · rw [if_neg e, if_neg e]
theorem zu_j {u : List (Nat × Value)} {i : Nat} {v : Value} (hi : i < 1000000000) : vp_updL (fun j => zj (zl (.long 0) u j)) i (zj v) = (fun j => zj (zl (.long 0) (zpu (.long 0) u i v) j)) := by
  funext j
  rw [zl_pu hi]
  unfold vp_updL
  by_cases e : j = i
  · rw [if_pos e, if_pos e]
  · rw [if_neg e, if_neg e]
theorem zu_r {ad : Nat → Nat} {u : List (Nat × Value)} {i a : Nat} (hi : i < 1000000000) : va_up (fun j => zr ad (zl .null u j)) i (some (ad a)) = (fun j => zr ad (zl .null (zpu .null u i (.ref a)) j)) := by
  funext j
  rw [zl_pu hi]
  unfold va_up
  by_cases e : j = i
  · rw [if_pos e, if_pos e]; rfl
  · rw [if_neg e, if_neg e]
noncomputable def zfit : FieldType → Value → Bool
  | .int, .int _ => true
  | .int, .retAddr _ => true
  | .long, .long _ => true
  | .boolean, .int x => decide (x = 0 ∨ x = 1)
  | .object _, .ref _ => true
  | .object _, .null => true
  | .array _, .ref _ => true
  | .array _, .null => true
  | _, _ => false
theorem zfit_ok {ty : FieldType} {v : Value} (h : zfit ty v = true) : narrow ty (zc rh ad v) = zc rh ad v ∧ fits ty (zc rh ad v) = true := by
  cases ty <;> cases v <;> simp only [zfit] at h <;> first | exact ⟨rfl, rfl⟩ | (cases h; done) | skip
  rcases of_decide_eq_true h with rfl | rfl <;> exact ⟨rfl, rfl⟩
end ZCE
end
section
/-! instructions that read and write cells -/
section ZHD
noncomputable def zd (t : Nat) : Value := match t with
  | 1 => .long 0
  | 4 => .null
  | 5 => .null
  | _ => .int 0
noncomputable def zin (y : Int32) (n : Nat) : Bool := decide (¬ (y < 0 ∨ n ≤ y.toNatClampNeg))
noncomputable def zald (t : Nat) (ok : Value → Bool) (cs : List ZC) (a : Nat) (y : Int32) (pc : Nat) (loc : ZL) (r : List Value) (k : ZK) : ZO := match zn cs a with
  | some (.inr (t', n, u)) => bif Nat.beq t' t && zin y n then zfV (zl (zd t) u y.toNatClampNeg) (fun v => bif ok v then zgo pc loc (v :: r) k else none) else none
  | _ => none
theorem zald_ok {t : Nat} {ok : Value → Bool} {cs : List ZC} {a : Nat} {y : Int32} {pc : Nat} {loc : ZL} {r : List Value} {k : ZK} {o : Option Value × List ZC} (h : zald t ok cs a y pc loc r k = some o) :
    ∃ (n : Nat) (u : List (Nat × Value)), zn cs a = some (.inr (t, n, u)) ∧ vp_in y n ∧ ok (zl (zd t) u y.toNatClampNeg) = true ∧ k pc loc (zl (zd t) u y.toNatClampNeg :: r) = some o := by
  unfold zald at h
  split at h
  · rename_i t' n u hz
    obtain ⟨h1, h2⟩ := zbif h
    rw [Bool.and_eq_true] at h1
    rw [zfV_eq] at h2
    obtain ⟨h3, h4⟩ := zbif h2
    rw [zgo_eq] at h4
    have e := Nat.eq_of_beq_eq_true h1.1
    subst e
    exact ⟨n, u, hz, (show ¬ (y < 0 ∨ n ≤ y.toNatClampNeg) from of_decide_eq_true h1.2), h3, h4⟩
  · cases h
/-- an int of the script: a number where it is known, else by its name -/
noncomputable def zsc (bd : Nat → Int × Int) (y : Nat) : Value := bif decide ((bd y).1 = (bd y).2) then .int (Int32.ofInt (bd y).1) else .retAddr y
theorem zsc_ok {bd : Nat → Int × Int} {rh : Nat → Int32} (hE : zEnv bd rh) (ad : Nat → Nat) (y : Nat) : zc rh ad (zsc bd y) = .int (rh y) := by
  unfold zsc
  by_cases h : (bd y).1 = (bd y).2
  · rw [decide_eq_true h]
    have h1 := hE y
    show Value.int (Int32.ofInt (bd y).1) = _
    rw [show (bd y).1 = (rh y).toInt by omega, Int32.ofInt_toInt]
  · rw [decide_eq_false h]
    rfl
/-- may the script be read? -/
noncomputable def zlw (bd : Nat → Int × Int) (lw : Bool) : Bool := lw && decide ((bd 20).1 = 1)
/-- reading -/
noncomputable def zhr (bd : Nat → Int × Int) (lw : Bool) (cs : List ZC) (i : Instr) (x : Nat × Nat) (pc : Nat) (loc : ZL) (st : List Value) (k : ZK) : ZO := match i with
  | .getfield _ => match st with
    | .ref a :: r => match zn cs a with
      | some (.inl (ci, fs)) => bif Nat.beq ci x.1 then (match zn fs x.2 with
        | some v => zgo (pc + 3) loc (v :: r) k
        | none => none) else none
      | _ => none
    | _ => none
  | .iaload => match st with
    | .int y :: .ref a :: r => bif zlw bd lw && Nat.beq a 1000001 then (bif zin y 7 then zpush (zsc bd y.toNatClampNeg) (pc + 1) loc r k else none) else zald 0 zisI cs a y (pc + 1) loc r k
    | _ => none
  | .laload => match st with
    | .int y :: .ref a :: r => zald 1 zisJ cs a y (pc + 1) loc r k
    | _ => none
  | .baload => match st with
    | .int y :: .ref a :: r => zald 2 zisI cs a y (pc + 1) loc r k
    | _ => none
  | .aaload => match st with
    | .int y :: .ref a :: r => bif Nat.beq x.1 4 then zald 4 zisA cs a y (pc + 1) loc r k else zald 5 zisA cs a y (pc + 1) loc r k
    | _ => none
  | .arraylength => match st with
    | .ref a :: r => bif zlw bd lw && Nat.beq a 1000001 then zpush (.int 7) (pc + 1) loc r k else (match zn cs a with
      | some (.inr (t, n, _)) => bif decide (t < 6) then zpush (.int (Int32.ofNat n)) (pc + 1) loc r k else none
      | _ => none)
    | _ => none
  | _ => none
noncomputable def zf0 (l : List (Nat × Value)) (k : List (Nat × Value) → ZO) : ZO := match l with
  | [] => k []
  | (p, v) :: r => zfN p (fun q => k ((q, v) :: r))
theorem zf0_eq (l : List (Nat × Value)) (k : List (Nat × Value) → ZO) : zf0 l k = k l := by
  cases l with
  | nil => rfl
  | cons q r =>
    obtain ⟨p, v⟩ := q
    exact zfN_eq p (fun q => k ((q, v) :: r))
abbrev ZKW : Type := Nat → List Value → List ZC → ZO
noncomputable def zput (cs : List ZC) (a : Nat) (q : ZC) (pc : Nat) (r : List Value) (k : ZKW) : ZO := zfset cs q a (fun cs' => zfN pc (fun j => k j r cs'))
theorem zput_eq (cs : List ZC) (a : Nat) (q : ZC) (pc : Nat) (r : List Value) (k : ZKW) : zput cs a q pc r k = k pc r (cs.set a q) := by simp only [zput, zfset_eq, zfN_eq]
noncomputable def zast (t : Nat) (ok : Value → Bool) (cs : List ZC) (a : Nat) (y : Int32) (v : Value) (pc : Nat) (r : List Value) (k : ZKW) : ZO := match zn cs a with
  | some (.inr (t', n, u)) => bif Nat.beq t' t && (zin y n && (ok v && Nat.blt y.toNatClampNeg 1000000000)) then zfN y.toNatClampNeg (fun j => zf0 (zpu (zd t) u j v) (fun u' => zput cs a (.inr (t, n, u')) pc r k)) else none
  | _ => none
theorem zast_ok {t : Nat} {ok : Value → Bool} {cs : List ZC} {a : Nat} {y : Int32} {v : Value} {pc : Nat} {r : List Value} {k : ZKW} {o : Option Value × List ZC} (h : zast t ok cs a y v pc r k = some o) :
    ∃ (n : Nat) (u : List (Nat × Value)), zn cs a = some (.inr (t, n, u)) ∧ vp_in y n ∧ ok v = true ∧ k pc r (cs.set a (.inr (t, n, zpu (zd t) u y.toNatClampNeg v))) = some o ∧ y.toNatClampNeg < 1000000000 := by
  unfold zast at h
  split at h
  · rename_i t' n u hz
    obtain ⟨h1, h2⟩ := zbif h
    rw [Bool.and_eq_true, Bool.and_eq_true, Bool.and_eq_true] at h1
    rw [zfN_eq, zf0_eq, zput_eq] at h2
    have e := Nat.eq_of_beq_eq_true h1.1
    subst e
    exact ⟨n, u, hz, (show ¬ (y < 0 ∨ n ≤ y.toNatClampNeg) from of_decide_eq_true h1.2.1), h1.2.2.1, h2, Nat.le_of_ble_eq_true h1.2.2.2⟩
  · cases h
noncomputable def zisB : Value → Bool
  | .int x => decide (x = 0 ∨ x = 1)
  | _ => false
/-- the cell b is an object of the class ci -/
noncomputable def zisO (cs : List ZC) (ci : Nat) : Value → Bool
  | .ref b => match zn cs b with
    | some (.inl (cj, _)) => Nat.beq cj ci
    | _ => false
  | _ => false
/-- writing -/
noncomputable def zhw (cs : List ZC) (i : Instr) (x : Nat × Nat) (pc : Nat) (st : List Value) (k : ZKW) : ZO := match i with
  | .putfield _ => match st with
    | v :: .ref a :: r => match zn cs a with
      | some (.inl (ci, fs)) => bif Nat.beq ci x.1 && (decide (x.2 < fs.length) && zfit (ztf ci x.2) v) then zfset fs v x.2 (fun g => zput cs a (.inl (ci, g)) (pc + 3) r k) else none
      | _ => none
    | _ => none
  | .iastore => match st with
    | v :: .int y :: .ref a :: r => zast 0 zisI cs a y v (pc + 1) r k
    | _ => none
  | .lastore => match st with
    | v :: .int y :: .ref a :: r => zast 1 zisJ cs a y v (pc + 1) r k
    | _ => none
  | .bastore => match st with
    | v :: .int y :: .ref a :: r => zast 2 zisB cs a y v (pc + 1) r k
    | _ => none
  | .aastore => match st with
    | v :: .int y :: .ref a :: r => bif Nat.beq x.1 4 then zast 4 (zisO cs 2) cs a y v (pc + 1) r k else zast 5 (zisO cs 5) cs a y v (pc + 1) r k
    | _ => none
  | _ => none
/-- a new object's fields -/
noncomputable def zdf (ci : Nat) : List Value := match ci with
  | 0 => [.int 0, .null, .null, .null]
  | 1 => [.null, .int 0, .int 0, .int 0, .int 0, .int 0, .long 0, .null, .null, .null, .null, .null]
  | 2 => [.null, .null, .null, .int 0, .null, .int 0, .int 0, .null, .int 0, .null, .int 0, .null, .null, .null, .int 0, .int 0]
  | 3 => [.null, .int 0, .null, .int 0, .int 0]
  | 4 => [.null, .int 0, .int 0, .null, .null, .null, .null, .null, .int 0]
  | 5 => [.null, .null, .null, .null, .null, .null, .int 0, .int 0, .int 0, .int 0, .int 0, .int 0, .int 0, .int 0, .int 0]
  | 6 => [.null, .null, .null, .null, .null, .int 0, .int 0, .int 0]
  | 7 => [.null, .null, .int 0, .long 0]
  | 8 => [.null, .null, .null, .null, .null, .null, .null, .int 0, .null, .null, .null, .null, .null, .int 0, .int 0, .int 0, .int 0, .int 0]
  | 9 => [.int 0, .null, .null, .null, .null, .int 0, .int 0, .int 0, .int 0, .int 0, .int 0, .int 0, .int 0, .int 0, .null, .null]
  | 10 => [.null, .null, .int 0, .int 0, .int 0, .int 0, .int 0, .int 0, .int 0, .long 0]
  | 11 => [.null, .null, .null, .null, .null, .null, .null, .null, .int 0, .int 0, .null, .null, .null, .null, .null, .null, .null, .null, .int 0]
  | _ => [.int 0, .null, .int 0, .int 0, .null, .null, .null, .int 0, .int 0, .null, .null, .null, .null, .int 0, .null, .null, .int 0, .null, .null, .null, .null, .null, .null, .int 0, .null, .int 0, .int 0, .null, .null, .null, .null, .null, .null, .null, .null, .int 0, .int 0, .int 0, .int 0, .int 0, .null, .int 0, .null, .null, .int 0, .int 0, .null, .null, .int 0, .int 0, .int 0, .int 0, .null, .null, .int 0, .long 0]
/-- the tag of a row of numbers -/
noncomputable def zat (t : ArrayType) : Option Nat := match t with
  | .int => some 0
  | .long => some 1
  | .boolean => some 2
  | .byte => some 3
  | _ => none
abbrev ZKN : Type := Nat → List Value → List ZC → Nat → Nat → ZO
noncomputable def znew (mM sM : Nat) (cs : List ZC) (q : ZC) (N pc : Nat) (loc : ZL) (r : List Value) (mc ms : Nat) (k : ZKN) : ZO :=
  zfN (zln cs) (fun n => bif (zwS' n r && zwL' n loc) && (zwC' n cs && (decide (n < 1000000) && (decide (mc + 1 ≤ mM) && decide (ms + N ≤ sM)))) then zfS (cs ++ [q]) (fun cs' => zfN pc (fun j => zfN (mc + 1) (fun mc' => zfN (ms + N) (fun ms' => k j (.ref n :: r) cs' mc' ms')))) else none)
theorem znew_ok {mM sM : Nat} {cs : List ZC} {q : ZC} {N pc : Nat} {loc : ZL} {r : List Value} {mc ms : Nat} {k : ZKN} {o : Option Value × List ZC} (h : znew mM sM cs q N pc loc r mc ms k = some o) :
    zwS cs.length r = true ∧ zwL cs.length loc = true ∧ zwC cs.length cs = true ∧ cs.length < 1000000 ∧ mc + 1 ≤ mM ∧ ms + N ≤ sM ∧ k pc (.ref cs.length :: r) (cs ++ [q]) (mc + 1) (ms + N) = some o := by
  unfold znew at h
  rw [zfN_eq, zln_eq, zwS'_eq, zwL'_eq, zwC'_eq] at h
  obtain ⟨h1, h2⟩ := zbif h
  simp only [zfS_eq, zfN_eq] at h2
  simp only [Bool.and_eq_true, decide_eq_true_eq] at h1
  exact ⟨h1.1.1, h1.1.2, h1.2.1, h1.2.2.1, h1.2.2.2.1, h1.2.2.2.2, h2⟩
/-- making -/
noncomputable def zhn (mM sM : Nat) (cs : List ZC) (i : Instr) (x : Nat × Nat) (pc : Nat) (loc : ZL) (st : List Value) (mc ms : Nat) (k : ZKN) : ZO := match i with
  | .new _ => znew mM sM cs (.inl (x.1, zdf x.1)) (zdf x.1).length (pc + 3) loc st mc ms k
  | .newarray t => match zat t, st with
    | some t', .int y :: r => bif decide (¬ y < 0 ∧ y.toNatClampNeg ≤ 100000) then zfN y.toNatClampNeg (fun n => znew mM sM cs (.inr (t', n, [])) n (pc + 2) loc r mc ms k) else none
    | _, _ => none
  | .anewarray _ => match st with
    | .int y :: r => bif decide (¬ y < 0 ∧ y.toNatClampNeg ≤ 100000) then zfN y.toNatClampNeg (fun n => bif Nat.beq x.1 4 then znew mM sM cs (.inr (4, n, [])) n (pc + 3) loc r mc ms k else znew mM sM cs (.inr (5, n, [])) n (pc + 3) loc r mc ms k) else none
    | _ => none
  | _ => none
end ZHD
end
section
/-! .. and that the machine does what they say -/
section ZHO
def ztys (cA : Nat → ClassId) : List (ClassId × FieldType) := [(cA 0, .int), (cA 1, .long), (cA 2, .boolean), (cA 3, .byte), (cA 4, .object RX2), (cA 5, .object RX5)]
/-- the words that an instruction rests on -/
def zwd (Ts : List Cond) (own nm : String) (i : Instr) (x : Nat × Nat) : Prop := match i with
  | .getfield idx => ∃ q : vw_C, zcl[x.1]? = some q ∧ x.2 < q.2.2 ∧ Cond.fieldLink own idx (q.2.1 x.2).1 (q.2.1 x.2).2.1 (q.2.1 x.2).2.2.1 ∈ Ts
  | .putfield idx => ∃ q : vw_C, zcl[x.1]? = some q ∧ x.2 < q.2.2 ∧ Cond.fieldLink own idx (q.2.1 x.2).1 (q.2.1 x.2).2.1 (q.2.1 x.2).2.2.1 ∈ Ts ∧ ((q.2.1 x.2).2.2.2 = false ∨ (nm = "<init>" ∧ (q.2.1 x.2).2.2.2 = true ∧ (q.2.1 x.2).1 = own))
  | .new idx => ∃ q : vw_C, zcl[x.1]? = some q ∧ Cond.classLink own idx q.1 ∈ Ts ∧ Cond.instantiable q.1 q.2.2 ∈ Ts ∧ Cond.initialized q.1 ∈ Ts
  | .newarray t => Cond.arrayClass (newarray.typeOf t) ∈ Ts
  | .anewarray idx => (x.1 = 4 ∧ Cond.classLink own idx RX2 ∈ Ts) ∨ (x.1 = 5 ∧ Cond.classLink own idx RX5 ∈ Ts)
  | _ => True
/-- the words on the classes' fields -/
def zcw (Ts : List Cond) : Prop := ∀ (ci : Nat) (q : vw_C), zcl[ci]? = some q → ∀ w ∈ u_ws q.1 q.2.1 q.2.2, w ∈ Ts
theorem zcl_ty : ∀ (ci : Nat) (q : vw_C), zcl[ci]? = some q → (∀ k, k < q.2.2 → parseFieldDescriptor (q.2.1 k).2.2.1 = some (ztf ci k)) ∧ (∀ a, a < q.2.2 → ∀ b, b < q.2.2 → a ≠ b → (q.2.1 a).2.1 ≠ (q.2.1 b).2.1) := by
  intro ci q h
  match ci, h with
  | 0, h => cases h; exact ⟨tyX0_ok, nmX0⟩
  | 1, h => cases h; exact ⟨tyX1_ok, nmX1⟩
  | 2, h => cases h; exact ⟨tyX2_ok, nmX2⟩
  | 3, h => cases h; exact ⟨tyX3_ok, nmX3⟩
  | 4, h => cases h; exact ⟨tyX4_ok, nmX4⟩
  | 5, h => cases h; exact ⟨tyX5_ok, nmX5⟩
  | 6, h => cases h; exact ⟨tyX6_ok, nmX6⟩
  | 7, h => cases h; exact ⟨tyX7_ok, nmX7⟩
  | 8, h => cases h; exact ⟨tyX8_ok, nmX8⟩
  | 9, h => cases h; exact ⟨tyX9_ok, nmX9⟩
  | 10, h => cases h; exact ⟨tyX10_ok, nmX10⟩
  | 11, h => cases h; exact ⟨tyX11_ok, nmX11⟩
  | 12, h => cases h; exact ⟨tyX12_ok, nmX12⟩
  | n + 13, h => cases h
variable {p : Program} {l : Launch} {e : Env} {R : Room} {s : State} {m : MethodId} {args : Array Value} {below : List Frame} {meth : Method} {c : Code} {H : Heap} {locs : List Loc} {cells slots : Nat} {Q : State → Prop}
variable {cc : ByteArray} {bd : Nat → Int × Int} {rh : Nat → Int32} {ad : Nat → Nat} {cA : Nat → ClassId} {D : va_G} {A : Nat → Prop} {cs : List ZC} {nL pc L : Nat} {ls : Array Slot} {loc : ZL} {st : List Value} {o : Option Value × List ZC} {own : String} {Ts : List Cond}
theorem zi_c {v : Value} (h : zisI v = true) : Value.int (zi rh v) = zc rh ad v := by cases v <;> first | rfl | (cases h; done)
theorem zj_c {v : Value} (h : zisJ v = true) : Value.long (zj v) = zc rh ad v := by cases v <;> first | rfl | (cases h; done)
theorem zr_c {v : Value} (h : zisA v = true) : va_rf (zr ad v) = zc rh ad v := by cases v <;> first | rfl | (cases h; done)
set_option maxHeartbeats 4000000 in
theorem z_hr (hx : p.tables.exec = Jvm.exec) (hb : c.code = cc) (hE : zEnv bd rh) (hts : ∀ w ∈ Ts, w.before args s = true) (hcw : zcw Ts) (hown : s.vm.findClass own = some m.cls) (hK : va_K D zcl (ztys cA) s) (hP : va_P D zcl (zW cA rh ad cs) H) (hS : va_S A s.heap H locs)
    {nm : String} {i : Instr} {x : Nat × Nat} (hdg : decode cc pc = .ok (i, zlen i L)) (hl : lv_has ls nL (zL rh ad loc)) (hw : zwd Ts own nm i x) {lw : Bool} (hX : zlw bd lw = true → va_X (ad 1000001) 7 rh s s.heap ∧ ad 1000001 < s.heap.size ∧ ¬ A (ad 1000001))
    {k : ZK} (h : zhr bd lw cs i x pc loc st k = some o) : ZG p l e R s m args below meth c H locs cells slots Q nL rh ad pc st ls k o := by
  cases i with
  | getfield idx =>
    simp only [zhr] at h
    split at h
    · rename_i a r
      split at h
      · rename_i ci fs hz
        obtain ⟨h1, h2⟩ := zbif h
        have e1 := Nat.eq_of_beq_eq_true h1
        subst e1
        split at h2
        · rename_i v hv
          rw [zgo_eq] at h2
          obtain ⟨q, q1, q2, q3⟩ := hw
          refine ⟨_, _, _, h2, fun kk => ?_⟩
          have hg : (fs.map (zc rh ad))[x.2]? = some (zc rh ad v) := by
            rw [zn_eq] at hv
            rw [List.getElem?_map, hv]
            rfl
          exact va_get (ref := (q.2.1 x.2).1) hx hb hts (hcw _ _ q1) hown hK hP a (zW_get hz) q1 x.2 q2 (hts _ q3) (fun _ h9 => h9) hg hdg (kk ls hl)
        · cases h2
      · cases h
    · cases h
  | iaload =>
    simp only [zhr] at h
    split at h
    · rename_i y a r
      cases hb2 : (zlw bd lw && Nat.beq a 1000001) with
      | true =>
        rw [hb2, cond_true] at h
        rw [Bool.and_eq_true] at hb2
        obtain ⟨h1, h2⟩ := zbif h
        rw [zpush_eq] at h2
        have e1 := Nat.eq_of_beq_eq_true hb2.2
        subst e1
        obtain ⟨g1, g2, g3⟩ := hX hb2.1
        refine ⟨_, _, _, h2, fun kk => ?_⟩
        have h5 := kk ls hl
        rw [List.map_cons, zsc_ok hE] at h5
        exact va_sld hx hb g1 g2 g3 hS (show ¬ (y < 0 ∨ 7 ≤ y.toNatClampNeg) from of_decide_eq_true h1) hdg h5
      | false =>
        rw [hb2, cond_false] at h
        obtain ⟨n, u, h1, h2, h3, h4⟩ := zald_ok h
        refine ⟨_, _, _, h4, fun kk => ?_⟩
        have h5 := kk ls hl
        rw [List.map_cons, ← zi_c h3] at h5
        exact va_iald hx hb hK hP a 0 (zW_get h1) rfl h2 hdg h5
    · cases h
  | laload =>
    simp only [zhr] at h
    split at h
    · rename_i y a r
      obtain ⟨n, u, h1, h2, h3, h4⟩ := zald_ok h
      refine ⟨_, _, _, h4, fun kk => ?_⟩
      have h5 := kk ls hl
      rw [List.map_cons, ← zj_c h3] at h5
      exact va_lald hx hb hK hP a 1 (zW_get h1) rfl h2 hdg h5
    · cases h
  | baload =>
    simp only [zhr] at h
    split at h
    · rename_i y a r
      obtain ⟨n, u, h1, h2, h3, h4⟩ := zald_ok h
      refine ⟨_, _, _, h4, fun kk => ?_⟩
      have h5 := kk ls hl
      rw [List.map_cons, ← zi_c h3] at h5
      exact va_zald hx hb hK hP a 2 (zW_get h1) rfl h2 hdg h5
    · cases h
  | aaload =>
    simp only [zhr] at h
    split at h
    · rename_i y a r
      cases hb2 : Nat.beq x.1 4 with
      | true =>
        rw [hb2, cond_true] at h
        obtain ⟨n, u, h1, h2, h3, h4⟩ := zald_ok h
        refine ⟨_, _, _, h4, fun kk => ?_⟩
        have h5 := kk ls hl
        rw [List.map_cons, ← zr_c h3] at h5
        exact va_aldq hx hb hK hP a 4 (zW_get h1) rfl h2 hdg h5
      | false =>
        rw [hb2, cond_false] at h
        obtain ⟨n, u, h1, h2, h3, h4⟩ := zald_ok h
        refine ⟨_, _, _, h4, fun kk => ?_⟩
        have h5 := kk ls hl
        rw [List.map_cons, ← zr_c h3] at h5
        exact va_aldq hx hb hK hP a 5 (zW_get h1) rfl h2 hdg h5
    · cases h
  | arraylength =>
    simp only [zhr] at h
    split at h
    · rename_i a r
      cases hb2 : (zlw bd lw && Nat.beq a 1000001) with
      | true =>
        rw [hb2, cond_true, zpush_eq] at h
        rw [Bool.and_eq_true] at hb2
        have e1 := Nat.eq_of_beq_eq_true hb2.2
        subst e1
        obtain ⟨g1, g2, g3⟩ := hX hb2.1
        exact ⟨_, _, _, h, fun kk => va_slen hx hb g1 g2 g3 hS hdg (kk ls hl)⟩
      | false =>
        rw [hb2, cond_false] at h
        split at h
        · rename_i t n u hz
          obtain ⟨h1, h2⟩ := zbif h
          rw [zpush_eq] at h2
          refine ⟨_, _, _, h2, fun kk => ?_⟩
          have ht : t < 6 := of_decide_eq_true h1
          have hn : (zA rh ad t n u).1 = n := by unfold zA; split <;> rfl
          obtain ⟨ty, hty⟩ : ∃ ty, (ztys cA)[t]? = some (cA t, ty) := by
            match t, ht with
            | 0, _ => exact ⟨_, rfl⟩
            | 1, _ => exact ⟨_, rfl⟩
            | 2, _ => exact ⟨_, rfl⟩
            | 3, _ => exact ⟨_, rfl⟩
            | 4, _ => exact ⟨_, rfl⟩
            | 5, _ => exact ⟨_, rfl⟩
            | q + 6, h => omega
          exact va_alen hx hb hK hP a t (zW_get hz) hty (by rw [hn]) hdg (kk ls hl)
        · cases h
    · cases h
  | _ => exact znone (show (none : ZO) = some o from h)
/-- the cells are written: their world behind it -/
def ZGW (p : Program) (l : Launch) (e : Env) (R : Room) (s : State) (m : MethodId) (args : Array Value) (below : List Frame) (meth : Method) (c : Code) (H : Heap) (locs : List Loc) (cells slots : Nat) (Q : State → Prop) (D : va_G) (cA : Nat → ClassId) (A : Nat → Prop) (rh : Nat → Int32) (ad : Nat → Nat) (pc : Nat) (st : List Value) (cs : List ZC) (ls : Array Slot) (k : ZKW) (o : Option Value × List ZC) : Prop :=
  ∃ (pc' : Nat) (st' : List Value) (cs' : List ZC), k pc' st' cs' = some o ∧ cs'.length = cs.length ∧ ((∀ (H' : Heap) (locs' : List Loc), va_P D zcl (zW cA rh ad cs') H' → va_D A (zW cA rh ad cs') → va_S A s.heap H' locs' → W p l e R s m args below meth c H' locs' cells slots Q (F0 m pc' ls (st'.map (zc rh ad)))) → W p l e R s m args below meth c H locs cells slots Q (F0 m pc ls (st.map (zc rh ad))))
set_option maxHeartbeats 4000000 in
theorem z_hw (hx : p.tables.exec = Jvm.exec) (hb : c.code = cc) (hts : ∀ w ∈ Ts, w.before args s = true) (hcw : zcw Ts) (hown : s.vm.findClass own = some m.cls) (hK : va_K D zcl (ztys cA) s) (hP : va_P D zcl (zW cA rh ad cs) H) (hD : va_D A (zW cA rh ad cs)) (hS : va_S A s.heap H locs)
    {i : Instr} {x : Nat × Nat} (hdg : decode cc pc = .ok (i, zlen i L)) (hw : zwd Ts own meth.name i x)
    {k : ZKW} (h : zhw cs i x pc st k = some o) : ZGW p l e R s m args below meth c H locs cells slots Q D cA A rh ad pc st cs ls k o := by
  cases i with
  | putfield idx =>
    simp only [zhw] at h
    split at h
    · rename_i v a r
      split at h
      · rename_i ci fs hz
        obtain ⟨h1, h2⟩ := zbif h
        rw [zfset_eq, zput_eq] at h2
        simp only [Bool.and_eq_true, decide_eq_true_eq] at h1
        obtain ⟨h3, h4, h5⟩ := h1
        have e1 := Nat.eq_of_beq_eq_true h3
        subst e1
        obtain ⟨q, q1, q2, q3, q4⟩ := hw
        obtain ⟨t1, t2⟩ := zcl_ty _ _ q1
        obtain ⟨f1, f2⟩ := zfit_ok (rh := rh) (ad := ad) h5
        refine ⟨_, _, _, h2, List.length_set, fun kk => ?_⟩
        have hlen : x.2 < (fs.map (zc rh ad)).length := by rw [List.length_map]; exact h4
        have es : ∀ a, (zW cA rh ad cs).set a (ad a, .inr (x.1, (fs.map (zc rh ad)).set x.2 (zc rh ad v))) = zW cA rh ad (cs.set a (.inl (x.1, fs.set x.2 v))) := by
          intro a
          rw [← zW_set, zE, List.map_set]
        rcases q4 with q4 | ⟨q4, q5, q6⟩
        · refine va_put (ref := (q.2.1 x.2).1) hx hb hts (hcw _ _ q1) (ztf x.1) t1 t2 hown hK hP hD hS a (zW_get hz) q1 x.2 q2 (hts _ q3) (fun _ h9 => h9) q4 (t1 _ q2) f1 f2 hlen hdg (fun H1 l1 g1 g2 g3 => ?_)
          rw [es a] at g1 g2
          exact kk H1 l1 g1 g2 g3
        · refine va_putF (ref := (q.2.1 x.2).1) hx hb hts (hcw _ _ q1) (ztf x.1) t1 t2 hown hK hP hD hS a (zW_get hz) q1 x.2 q2 (hts _ q3) (fun _ h9 => h9) q5 q4 q6 (t1 _ q2) f1 f2 hlen hdg (fun H1 l1 g1 g2 g3 => ?_)
          rw [es a] at g1 g2
          exact kk H1 l1 g1 g2 g3
      · cases h
    · cases h
  | iastore =>
    simp only [zhw] at h
    split at h
    · rename_i v y a r
      obtain ⟨n, u, h1, h2, h3, h4, h9⟩ := zast_ok h
      refine ⟨_, _, _, h4, List.length_set, fun kk => ?_⟩
      rw [List.map_cons, ← zi_c h3]
      refine va_iast hx hb hK hP hD hS a 0 (zW_get h1) rfl h2 hdg (fun H1 l1 g1 g2 g3 => ?_)
      have es : (zW cA rh ad cs).set a (ad a, .inl (cA 0, n, .inl (upd (fun j => zi rh (zl (.int 0) u j)) y.toNatClampNeg (zi rh v)))) = zW cA rh ad (cs.set a (.inr (0, n, zpu (zd 0) u y.toNatClampNeg v))) := by
        rw [← zW_set, zu_i h9]; rfl
      rw [es] at g1 g2
      exact kk H1 l1 g1 g2 g3
    · cases h
  | lastore =>
    simp only [zhw] at h
    split at h
    · rename_i v y a r
      obtain ⟨n, u, h1, h2, h3, h4, h9⟩ := zast_ok h
      refine ⟨_, _, _, h4, List.length_set, fun kk => ?_⟩
      rw [List.map_cons, ← zj_c h3]
      refine va_last hx hb hK hP hD hS a 1 (zW_get h1) rfl h2 hdg (fun H1 l1 g1 g2 g3 => ?_)
      have es : (zW cA rh ad cs).set a (ad a, .inl (cA 1, n, .inr (.inl (vp_updL (fun j => zj (zl (.long 0) u j)) y.toNatClampNeg (zj v))))) = zW cA rh ad (cs.set a (.inr (1, n, zpu (zd 1) u y.toNatClampNeg v))) := by
        rw [← zW_set, zu_j h9]; rfl
      rw [es] at g1 g2
      exact kk H1 l1 g1 g2 g3
    · cases h
  | bastore =>
    simp only [zhw] at h
    split at h
    · rename_i v y a r
      obtain ⟨n, u, h1, h2, h3, h4, h9⟩ := zast_ok h
      refine ⟨_, _, _, h4, List.length_set, fun kk => ?_⟩
      have h5 : zisI v = true ∧ vp_nar .boolean (zi rh v) = zi rh v := by
        cases v <;> first | (cases h3; done) | skip
        rcases of_decide_eq_true h3 with rfl | rfl
        · exact ⟨rfl, (by show vp_nar .boolean 0 = 0; decide +kernel)⟩
        · exact ⟨rfl, (by show vp_nar .boolean 1 = 1; decide +kernel)⟩
      rw [List.map_cons, ← zi_c h5.1]
      refine va_zast hx hb hK hP hD hS a 2 (zW_get h1) rfl h2 hdg (fun H1 l1 g1 g2 g3 => ?_)
      rw [h5.2] at g1 g2
      have es : (zW cA rh ad cs).set a (ad a, .inl (cA 2, n, .inl (upd (fun j => zi rh (zl (.int 0) u j)) y.toNatClampNeg (zi rh v)))) = zW cA rh ad (cs.set a (.inr (2, n, zpu (zd 2) u y.toNatClampNeg v))) := by
        rw [← zW_set, zu_i h9]; rfl
      rw [es] at g1 g2
      exact kk H1 l1 g1 g2 g3
    · cases h
  | aastore =>
    simp only [zhw] at h
    split at h
    · rename_i v y a r
      have ho : ∀ ci, zisO cs ci v = true → ∃ (b : Nat) (vs : List Value), v = .ref b ∧ zn cs b = some (.inl (ci, vs)) := by
        intro ci hv
        cases v <;> first | (cases hv; done) | skip
        rename_i b
        simp only [zisO] at hv
        split at hv
        · rename_i cj vs hz
          rw [Nat.eq_of_beq_eq_true hv] at hz
          exact ⟨b, vs, rfl, hz⟩
        · cases hv
      cases hb2 : Nat.beq x.1 4 with
      | true =>
        rw [hb2, cond_true] at h
        obtain ⟨n, u, h1, h2, h3, h4, h9⟩ := zast_ok h
        obtain ⟨b, vs, rfl, hz⟩ := ho _ h3
        refine ⟨_, _, _, h4, List.length_set, fun kk => ?_⟩
        refine va_astq (r := (RX2, TX2, 16)) hx hb hK hP hD hS a 4 b 2 (zW_get h1) rfl (zW_get hz) rfl h2 hdg (fun H1 l1 g1 g2 g3 => ?_)
        have es : (zW cA rh ad cs).set a (ad a, .inl (cA 4, n, .inr (.inr (.inr (.inr (va_up (fun j => zr ad (zl .null u j)) y.toNatClampNeg (some (ad b)))))))) = zW cA rh ad (cs.set a (.inr (4, n, zpu (zd 4) u y.toNatClampNeg (.ref b)))) := by
          rw [← zW_set, zu_r h9]; rfl
        rw [es] at g1 g2
        exact kk H1 l1 g1 g2 g3
      | false =>
        rw [hb2, cond_false] at h
        obtain ⟨n, u, h1, h2, h3, h4, h9⟩ := zast_ok h
        obtain ⟨b, vs, rfl, hz⟩ := ho _ h3
        refine ⟨_, _, _, h4, List.length_set, fun kk => ?_⟩
        refine va_astq (r := (RX5, TX5, 15)) hx hb hK hP hD hS a 5 b 5 (zW_get h1) rfl (zW_get hz) rfl h2 hdg (fun H1 l1 g1 g2 g3 => ?_)
        have es : (zW cA rh ad cs).set a (ad a, .inl (cA 5, n, .inr (.inr (.inr (.inr (va_up (fun j => zr ad (zl .null u j)) y.toNatClampNeg (some (ad b)))))))) = zW cA rh ad (cs.set a (.inr (5, n, zpu (zd 5) u y.toNatClampNeg (.ref b)))) := by
          rw [← zW_set, zu_r h9]; rfl
        rw [es] at g1 g2
        exact kk H1 l1 g1 g2 g3
    · cases h
  | _ => exact znone (show (none : ZO) = some o from h)
end ZHO
end
section
/-! making objects and rows -/
section ZMK
theorem zdf_c (rh : Nat → Int32) (ad : Nat → Nat) (ci : Nat) : (zdf ci).map (zc rh ad) = zdf ci := by unfold zdf; split <;> rfl
theorem zdf_ok : ∀ (ci : Nat) (q : vw_C), zcl[ci]? = some q → (∀ j, j < q.2.2 → defaultValue (ztf ci j) = vp_V (zdf ci) j) ∧ (zdf ci).length = q.2.2 := by
  intro ci q h
  match ci, h with
  | 0, h => cases h; exact ⟨by decide +kernel, rfl⟩
  | 1, h => cases h; exact ⟨by decide +kernel, rfl⟩
  | 2, h => cases h; exact ⟨by decide +kernel, rfl⟩
  | 3, h => cases h; exact ⟨by decide +kernel, rfl⟩
  | 4, h => cases h; exact ⟨by decide +kernel, rfl⟩
  | 5, h => cases h; exact ⟨by decide +kernel, rfl⟩
  | 6, h => cases h; exact ⟨by decide +kernel, rfl⟩
  | 7, h => cases h; exact ⟨by decide +kernel, rfl⟩
  | 8, h => cases h; exact ⟨by decide +kernel, rfl⟩
  | 9, h => cases h; exact ⟨by decide +kernel, rfl⟩
  | 10, h => cases h; exact ⟨by decide +kernel, rfl⟩
  | 11, h => cases h; exact ⟨by decide +kernel, rfl⟩
  | 12, h => cases h; exact ⟨by decide +kernel, rfl⟩
  | n + 13, h => cases h
variable {p : Program} {l : Launch} {e : Env} {R : Room} {s : State} {m : MethodId} {args : Array Value} {below : List Frame} {meth : Method} {c : Code} {H : Heap} {locs : List Loc} {mc ms : Nat} {Q : State → Prop}
variable {cc : ByteArray} {bd : Nat → Int × Int} {rh : Nat → Int32} {ad : Nat → Nat} {cA : Nat → ClassId} {D : va_G} {A : Nat → Prop} {cs : List ZC} {nL pc L : Nat} {ls : Array Slot} {loc : ZL} {st : List Value} {o : Option Value × List ZC} {own : String} {Ts : List Cond} {mM sM : Nat}
def ZGN (p : Program) (l : Launch) (e : Env) (R : Room) (s : State) (m : MethodId) (args : Array Value) (below : List Frame) (meth : Method) (c : Code) (H : Heap) (locs : List Loc) (mc ms : Nat) (Q : State → Prop) (D : va_G) (cA : Nat → ClassId) (A : Nat → Prop) (nL : Nat) (rh : Nat → Int32) (ad : Nat → Nat) (pc : Nat) (loc : ZL) (st : List Value) (cs : List ZC) (ls : Array Slot) (k : ZKN) (o : Option Value × List ZC) : Prop :=
  ∃ (pc' : Nat) (st' : List Value) (cs' : List ZC) (mc' ms' : Nat), k pc' st' cs' mc' ms' = some o ∧ cs.length ≤ cs'.length ∧ ((∀ (ad' : Nat → Nat) (H' : Heap) (locs' : List Loc), zAg ad ad' cs.length → va_P D zcl (zW cA rh ad' cs') H' → va_D A (zW cA rh ad' cs') → va_S A s.heap H' locs' → lv_has ls nL (zL rh ad' loc) → W p l e R s m args below meth c H' locs' mc' ms' Q (F0 m pc' ls (st'.map (zc rh ad')))) → W p l e R s m args below meth c H locs mc ms Q (F0 m pc ls (st.map (zc rh ad))))
/-- behind a making: the new cell q at the end of the world -/
theorem z_made {N pc' : Nat} {q : ZC} {r : List Value} {k : ZKN} (hc : ∀ ad', zE cA rh ad' q = zE cA rh ad q) (hl : lv_has ls nL (zL rh ad loc)) (hz : zwS cs.length r = true ∧ zwL cs.length loc = true ∧ zwC cs.length cs = true ∧ cs.length < 1000000 ∧ mc + 1 ≤ mM ∧ ms + N ≤ sM ∧ k pc' (.ref cs.length :: r) (cs ++ [q]) (mc + 1) (ms + N) = some o)
    (main : (∀ (a : Nat) (H1 : Heap), va_P D zcl (zW cA rh ad cs ++ [(a, zE cA rh ad q)]) H1 → va_D A (zW cA rh ad cs ++ [(a, zE cA rh ad q)]) → va_S A s.heap H1 locs → W p l e R s m args below meth c H1 locs (mc + 1) (ms + N) Q (F0 m pc' ls (.ref a :: r.map (zc rh ad)))) → W p l e R s m args below meth c H locs mc ms Q (F0 m pc ls (st.map (zc rh ad)))) :
    ZGN p l e R s m args below meth c H locs mc ms Q D cA A nL rh ad pc loc st cs ls k o := by
  obtain ⟨h1, h2, h3, h4, h5, h6, h7⟩ := hz
  refine ⟨_, _, _, _, _, h7, by simp, fun kk => main (fun a H1 g1 g2 g3 => ?_)⟩
  have hA := zAg.up (ad := ad) (q := a) h4
  have e := zW_push (cA := cA) (rh := rh) (ad := ad) (q := a) h3 h4 (hc (zup ad cs.length a))
  rw [← e] at g1 g2
  have h8 := kk (zup ad cs.length a) H1 locs hA g1 g2 g3 (by rw [zw_l h2 hA]; exact hl)
  rw [List.map_cons, zw_s h1 hA] at h8
  rw [show zc rh (zup ad cs.length a) (.ref cs.length) = .ref a by simp [zc, zup]] at h8
  exact h8
set_option maxHeartbeats 4000000 in
theorem z_hn (hx : p.tables.exec = Jvm.exec) (hb : c.code = cc) (hts : ∀ w ∈ Ts, w.before args s = true) (hcw : zcw Ts) (hown : s.vm.findClass own = some m.cls) (hK : va_K D zcl (ztys cA) s) (hP : va_P D zcl (zW cA rh ad cs) H) (hD : va_D A (zW cA rh ad cs)) (hS : va_S A s.heap H locs) (hA : ∀ q, s.heap.size ≤ q → A q)
    (hRc : mM ≤ R.cells) (hRs : sM ≤ R.slots) (hO4 : va_AO RX2 s) (hO5 : va_AO RX5 s) {nm : String} {i : Instr} {x : Nat × Nat} (hdg : decode cc pc = .ok (i, zlen i L)) (hl : lv_has ls nL (zL rh ad loc)) (hw : zwd Ts own nm i x)
    {k : ZKN} (h : zhn mM sM cs i x pc loc st mc ms k = some o) : ZGN p l e R s m args below meth c H locs mc ms Q D cA A nL rh ad pc loc st cs ls k o := by
  cases i with
  | new idx =>
    simp only [zhn] at h
    have hz := znew_ok h
    obtain ⟨q, q1, q2, q3, q4⟩ := hw
    obtain ⟨t1, t2⟩ := zcl_ty _ _ q1
    obtain ⟨d1, d2⟩ := zdf_ok _ _ q1
    rw [d2] at hz
    refine z_made (q := .inl (x.1, zdf x.1)) (fun ad' => by simp only [zE, zdf_c]) hl hz (fun kk => ?_)
    refine va_new (ci := x.1) (fs := zdf x.1) hx hb hts (hcw _ _ q1) (ztf x.1) t1 hown (hts _ q2) (hts _ q3) (hts _ q4) hK hP hD hS hA q1 d1 (Nat.le_trans hz.2.2.2.2.1 hRc) (Nat.le_trans hz.2.2.2.2.2.1 hRs) hdg (fun a H1 g1 g2 g3 => ?_)
    refine kk a H1 ?_ ?_ g3
    · simp only [zE, zdf_c]; exact g1
    · simp only [zE, zdf_c]; exact g2
  | newarray t =>
    simp only [zhn] at h
    split at h
    · rename_i t' y r ht
      obtain ⟨h1, h2⟩ := zbif h
      rw [zfN_eq] at h2
      obtain ⟨y1, y2⟩ := of_decide_eq_true h1
      have hz := znew_ok h2
      cases t <;> simp only [zat] at ht <;> cases ht
      · refine z_made (q := .inr (2, y.toNatClampNeg, [])) (fun ad' => rfl) hl hz (fun kk => ?_)
        refine va_newa (atype := .boolean) (a0 := zA rh ad 2 y.toNatClampNeg []) hx hb (hts _ hw) rfl hK hP hD hS hA (fun _ => rfl) y1 rfl (by show y.toNatClampNeg * 1 ≤ _; omega) (Nat.le_trans hz.2.2.2.2.1 hRc) (Nat.le_trans hz.2.2.2.2.2.1 hRs) hdg (fun a cA' H1 k1 g1 g2 g3 => ?_)
        have e1 : cA' = cA 2 := Option.some.inj ((show s.vm.findClass _ = some cA' from (k1.2 6 (cA', .boolean) rfl).2).symm.trans (hK.2 2 (cA 2, .boolean) rfl).2)
        subst e1
        exact kk a H1 g1 g2 g3
      · refine z_made (q := .inr (3, y.toNatClampNeg, [])) (fun ad' => rfl) hl hz (fun kk => ?_)
        refine va_newa (atype := .byte) (a0 := zA rh ad 3 y.toNatClampNeg []) hx hb (hts _ hw) rfl hK hP hD hS hA (fun _ => rfl) y1 rfl (by show y.toNatClampNeg * 1 ≤ _; omega) (Nat.le_trans hz.2.2.2.2.1 hRc) (Nat.le_trans hz.2.2.2.2.2.1 hRs) hdg (fun a cA' H1 k1 g1 g2 g3 => ?_)
        have e1 : cA' = cA 3 := Option.some.inj ((show s.vm.findClass _ = some cA' from (k1.2 6 (cA', .byte) rfl).2).symm.trans (hK.2 3 (cA 3, .byte) rfl).2)
        subst e1
        exact kk a H1 g1 g2 g3
      · refine z_made (q := .inr (0, y.toNatClampNeg, [])) (fun ad' => rfl) hl hz (fun kk => ?_)
        refine va_newa (atype := .int) (a0 := zA rh ad 0 y.toNatClampNeg []) hx hb (hts _ hw) rfl hK hP hD hS hA (fun _ => rfl) y1 rfl (by show y.toNatClampNeg * 4 ≤ _; omega) (Nat.le_trans hz.2.2.2.2.1 hRc) (Nat.le_trans hz.2.2.2.2.2.1 hRs) hdg (fun a cA' H1 k1 g1 g2 g3 => ?_)
        have e1 : cA' = cA 0 := Option.some.inj ((show s.vm.findClass _ = some cA' from (k1.2 6 (cA', .int) rfl).2).symm.trans (hK.2 0 (cA 0, .int) rfl).2)
        subst e1
        exact kk a H1 g1 g2 g3
      · refine z_made (q := .inr (1, y.toNatClampNeg, [])) (fun ad' => rfl) hl hz (fun kk => ?_)
        refine va_newa (atype := .long) (a0 := zA rh ad 1 y.toNatClampNeg []) hx hb (hts _ hw) rfl hK hP hD hS hA (fun _ => rfl) y1 rfl (by show y.toNatClampNeg * 8 ≤ _; omega) (Nat.le_trans hz.2.2.2.2.1 hRc) (Nat.le_trans hz.2.2.2.2.2.1 hRs) hdg (fun a cA' H1 k1 g1 g2 g3 => ?_)
        have e1 : cA' = cA 1 := Option.some.inj ((show s.vm.findClass _ = some cA' from (k1.2 6 (cA', .long) rfl).2).symm.trans (hK.2 1 (cA 1, .long) rfl).2)
        subst e1
        exact kk a H1 g1 g2 g3
    · cases h
  | anewarray idx =>
    simp only [zhn] at h
    split at h
    · rename_i y r
      obtain ⟨h1, h2⟩ := zbif h
      rw [zfN_eq] at h2
      obtain ⟨y1, y2⟩ := of_decide_eq_true h1
      rcases hw with ⟨w1, w2⟩ | ⟨w1, w2⟩
      · rw [w1, show Nat.beq 4 4 = true from rfl, cond_true] at h2
        have hz := znew_ok h2
        refine z_made (q := .inr (4, y.toNatClampNeg, [])) (fun ad' => rfl) hl hz (fun kk => ?_)
        refine va_newq hx hb hown (hts _ w2) hO4 hK hP hD hS hA y1 rfl (by omega) (Nat.le_trans hz.2.2.2.2.1 hRc) (Nat.le_trans hz.2.2.2.2.2.1 hRs) hdg (fun a cA' H1 k1 g1 g2 g3 => ?_)
        obtain ⟨_, _, _, _, _, n1⟩ := (k1.2 6 (cA', .object RX2) rfl).2
        obtain ⟨_, _, _, _, _, n2⟩ := (hK.2 4 (cA 4, .object RX2) rfl).2
        have e1 : cA' = cA 4 := Option.some.inj (n1.symm.trans n2)
        subst e1
        exact kk a H1 g1 g2 g3
      · rw [w1, show Nat.beq 5 4 = false from rfl, cond_false] at h2
        have hz := znew_ok h2
        refine z_made (q := .inr (5, y.toNatClampNeg, [])) (fun ad' => rfl) hl hz (fun kk => ?_)
        refine va_newq hx hb hown (hts _ w2) hO5 hK hP hD hS hA y1 rfl (by omega) (Nat.le_trans hz.2.2.2.2.1 hRc) (Nat.le_trans hz.2.2.2.2.2.1 hRs) hdg (fun a cA' H1 k1 g1 g2 g3 => ?_)
        obtain ⟨_, _, _, _, _, n1⟩ := (k1.2 6 (cA', .object RX5) rfl).2
        obtain ⟨_, _, _, _, _, n2⟩ := (hK.2 5 (cA 5, .object RX5) rfl).2
        have e1 : cA' = cA 5 := Option.some.inj (n1.symm.trans n2)
        subst e1
        exact kk a H1 g1 g2 g3
    · cases h
  | _ => exact znone (show (none : ZO) = some o from h)
end ZMK
end
section
/-! the run: methods by their numbers -/
section ZRUN
abbrev ZEn : Type := Nat × Instr × Nat × Nat × Nat
/-- name, bytes, locals, answer, kind (0 of an object, 1 static, 2 constructor), cells, slots, parameters, class, instructions -/
abbrev ZMI : Type := MethodName × ByteArray × Nat × Option FieldType × Nat × Nat × Nat × Nat × Nat × List (List ZEn)
noncomputable def zlke (l : List ZEn) : Nat → Option (Instr × Nat × Nat × Nat) := List.rec (motive := fun _ => Nat → Option (Instr × Nat × Nat × Nat)) (fun _ => none) (fun q _ ih j => bif Nat.beq q.1 j then some q.2 else ih j) l
noncomputable def zfind (E : List (List ZEn)) (pc : Nat) : Option (Instr × Nat × Nat × Nat) := match zn E (pc / 16) with
  | some r => zlke r pc
  | none => none
theorem zlke_mem : ∀ (r : List ZEn) (j : Nat) (q : Instr × Nat × Nat × Nat), zlke r j = some q → (j, q) ∈ r
  | [], _, _, h => by cases h
  | (p, q) :: r, j, q', h => by
    have h : (bif Nat.beq p j then some q else zlke r j) = some q' := h
    cases hb : Nat.beq p j with
    | true =>
      rw [hb] at h
      have e : p = j := Nat.eq_of_beq_eq_true hb
      cases h
      rw [e]
      exact List.mem_cons_self
    | false =>
      rw [hb] at h
      exact List.mem_cons_of_mem _ (zlke_mem r j q' h)
theorem zfind_mem {E : List (List ZEn)} {pc : Nat} {q : Instr × Nat × Nat × Nat} (h : zfind E pc = some q) : ∃ r, r ∈ E ∧ (pc, q) ∈ r := by
  unfold zfind at h
  split at h
  · rename_i r hr
    rw [zn_eq] at hr
    exact ⟨r, List.mem_of_getElem? hr, zlke_mem r pc q h⟩
  · cases h
noncomputable def zpop : Nat → List Value → List Value → Option (List Value × List Value)
  | 0, st, acc => some (acc, st)
  | n + 1, v :: st, acc => zpop n st (v :: acc)
  | _ + 1, [], _ => none
theorem zpop_ok : ∀ (n : Nat) (st acc av r : List Value), zpop n st acc = some (av, r) → ∃ bs : List Value, av = bs ++ acc ∧ st = bs.reverse ++ r ∧ bs.length = n
  | 0, st, acc, av, r, h => by cases h; exact ⟨[], rfl, rfl, rfl⟩
  | n + 1, [], acc, av, r, h => by cases h
  | n + 1, v :: st, acc, av, r, h => by
    obtain ⟨bs, h1, h2, h3⟩ := zpop_ok n st (v :: acc) av r h
    exact ⟨bs ++ [v], by rw [h1, List.append_assoc]; rfl, by rw [h2, List.reverse_append]; rfl, by rw [List.length_append, h3]; rfl⟩
theorem zpop_ok0 {n : Nat} {st av r : List Value} (h : zpop n st [] = some (av, r)) : st = av.reverse ++ r ∧ av.length = n := by
  obtain ⟨bs, h1, h2, h3⟩ := zpop_ok n st [] av r h
  rw [List.append_nil] at h1
  subst h1
  exact ⟨h2, h3⟩
/-- depth, method, is it the law, locals at the stop, the stop, place, locals, stack, cells, cells made, slots made -/
abbrev ZF : Type := Nat → Nat → Bool → ZL → Nat → Nat → ZL → List Value → List ZC → Nat → Nat → ZO
noncomputable def zeqL : ZL → ZL → Bool
  | [], [] => true
  | (i, v) :: r, (j, w) :: q => Nat.beq i j && (zeqV v w && zeqL r q)
  | _, _ => false
theorem zeqL_ok : ∀ (a b : ZL), zeqL a b = true → a = b
  | [], [], _ => rfl
  | [], _ :: _, h => by cases h
  | _ :: _, [], h => by cases h
  | (i, v) :: r, (j, w) :: q, h => by
    simp only [zeqL, Bool.and_eq_true] at h
    rw [Nat.eq_of_beq_eq_true h.1, zeqV_ok h.2.1, zeqL_ok r q h.2.2]
noncomputable def zsum (r : List Value) : Nat := (r.map fun v => v.category).sum
/-- a call of a method with a number -/
noncomputable def zcall (mt : Nat → ZMI) (ih : ZF) (d j : Nat) (lw : Bool) (sl : ZL) (stop pc : Nat) (loc : ZL) (st : List Value) (cs : List ZC) (mc ms jj : Nat) (kd : Nat) : ZO :=
  match d, mt jj, mt j with
  | d' + 1, (_, _, maxL, ret, kd', mM', sM', na, ci, _), (_, _, _, _, _, mM, sM, _, _, _) =>
    match zpop (bif Nat.beq kd 1 then na else na + 1) st [] with
    | some (av, r) =>
      bif (Nat.beq kd kd' && (decide ((lg_sl av).length ≤ maxL) && decide (maxL ≤ 21))) && ((decide (zsum r ≤ 8) && (decide (mc + mM' ≤ mM) && decide (ms + sM' ≤ sM))) && ((zwS' (zln cs) r && zwL' (zln cs) loc) && (bif Nat.beq kd 1 then true else (match av with
        | .ref b :: _ => bif Nat.beq kd 0 then zisO cs ci (.ref b) else true
        | _ => false)))) then
        (match ih d' jj false [] 0 0 (lv_args 0 av) [] cs 0 0 with
        | some (none, cs') => bif ret.isNone && Nat.ble (zln cs) (zln cs') then zfN (mc + mM') (fun mc' => zfN (ms + sM') (fun ms' => zfN (pc + 3) (fun pc' => ih d j lw sl stop pc' loc r cs' mc' ms'))) else none
        | some (some v, cs') => bif ret.isSome && Nat.ble (zln cs) (zln cs') then zfN (mc + mM') (fun mc' => zfN (ms + sM') (fun ms' => zfN (pc + 3) (fun pc' => ih d j lw sl stop pc' loc (v :: r) cs' mc' ms'))) else none
        | none => none)
      else none
    | none => none
  | _, _, _ => none
noncomputable def zchars : List Nat := [107, 105, 110, 100, 32, 112, 97, 121, 115, 32, 112, 97, 99, 107, 32, 108, 97, 121, 32, 102, 105, 114, 115, 116, 32, 98, 101, 116, 32, 108, 105, 109, 105, 116, 32, 117, 110, 100, 101, 114, 32, 97, 98, 111, 117, 116, 32, 104, 105, 103, 104, 32, 108, 111, 119, 32, 104, 97, 108, 118, 101, 115, 32, 108, 101, 102, 116, 32, 114, 105, 103, 104, 116, 32, 110, 111, 98, 111, 100, 121, 32, 111, 112, 101, 110, 105, 110, 103, 32, 119, 111, 110, 32, 110, 111, 116, 32, 97, 110, 100, 32, 111, 114, 32, 97, 104, 101, 97, 100, 32, 109, 111, 114, 101, 32, 104, 101, 97, 112, 115, 32, 116, 117, 114, 110, 115, 32]
/-- calls of the JDK's: 1 Object.<init>, 2 arraycopy, 3 Math.min, 4 the words' length, 5 a sign of the words -/
noncomputable def zprim (x1 pc : Nat) (st : List Value) (cs : List ZC) (d : Nat) (k : ZKW) : ZO := match x1 with
  | 1 => match st with
    | .ref _ :: r => bif decide (zsum r ≤ 8) && decide (1 ≤ d) then zfN (pc + 3) (fun q => k q r cs) else none
    | _ => none
  | 2 => match st with
    | .int n :: .int dp :: .ref b :: .int sp :: .ref a :: r => match zn cs a, zn cs b with
      | some (.inr (0, n0, u)), some (.inr (0, n1, _)) => bif (decide (zsum r ≤ 8) && decide (1 ≤ d)) && decide (sp = 0 ∧ dp = 0 ∧ ¬ n < 0 ∧ n.toNatClampNeg = n0 ∧ n0 = n1) then zput cs b (.inr (0, n1, u)) (pc + 3) r k else none
      | _, _ => none
    | _ => none
  | 3 => match st with
    | .int y :: .int x :: r => bif decide (zsum r ≤ 8) && decide (1 ≤ d) then zfI (if y < x then y else x) (fun z => zfN (pc + 3) (fun q => k q (.int z :: r) cs)) else none
    | _ => none
  | 4 => match st with
    | .ref a :: r => bif decide (zsum r ≤ 8) && (decide (4 ≤ d) && Nat.beq a 1000000) then zfN (pc + 3) (fun q => k q (.int (nI zchars.length) :: r) cs) else none
    | _ => none
  | 5 => match st with
    | .int y :: .ref a :: r => bif decide (zsum r ≤ 8) && (decide (4 ≤ d) && (Nat.beq a 1000000 && zin y zchars.length)) then zfN (zchars.getD y.toNatClampNeg 0) (fun z => zfN (pc + 3) (fun q => k q (.int (nI z) :: r) cs)) else none
    | _ => none
  | _ => none
/-- a is an object of the class whose game has taken no heap -/
noncomputable def zord (cs : List ZC) (a : Nat) : Bool := match zn cs a with
  | some (.inl (11, fs)) => match zn fs 6 with
    | some (.ref g) => match zn cs g with
      | some (.inl (2, gs)) => match zn gs 0 with
        | some (.ref q) => match zn cs q with
          | some (.inl (5, ps)) => match zn ps 11 with
            | some (.int 0) => true
            | _ => false
          | _ => false
        | _ => false
      | _ => false
    | _ => false
  | _ => false
/-- the law's own 'orders', which catches what the class throws -/
noncomputable def zordC (lw : Bool) (d mM sM pc : Nat) (st : List Value) (cs : List ZC) (mc ms : Nat) (k : ZKN) : ZO := match st with
  | .ref _ :: .ref a :: r => bif (lw && (zord cs a && decide (10 ≤ d))) && (decide (zsum r ≤ 8) && (decide (mc + 100 ≤ mM) && decide (ms + 10000 ≤ sM))) then zfN (pc + 3) (fun q => zfN (mc + 100) (fun mc' => zfN (ms + 10000) (fun ms' => k q (.int 1 :: r) cs mc' ms'))) else none
  | _ => none
/-- one instruction -/
noncomputable def zins (mt : Nat → ZMI) (bd : Nat → Int × Int) (ih : ZF) (d j : Nat) (lw : Bool) (sl : ZL) (stop pc : Nat) (loc : ZL) (st : List Value) (cs : List ZC) (mc ms nL : Nat) (ret : Option FieldType) (mM sM : Nat) (i : Instr) (x1 x2 : Nat) : ZO := match i with
  | .ireturn => match st with
    | [v] => bif (zisI v && decide (mc ≤ mM)) && (decide (ms ≤ sM) && (match ret with
      | some .int => true
      | some .boolean => zisB v
      | _ => false)) then some (some v, cs) else none
    | _ => none
  | .return_ => match st with
    | [] => bif (decide (mc ≤ mM) && decide (ms ≤ sM)) && ret.isNone then some (none, cs) else none
    | _ => none
  | .invokevirtual _ => bif Nat.beq x1 0 then zcall mt ih d j lw sl stop pc loc st cs mc ms x2 0 else bif decide (4 ≤ x1) then zprim x1 pc st cs d (fun q r c' => ih d j lw sl stop q loc r c' mc ms) else none
  | .invokestatic _ => bif Nat.beq x1 8 then zordC lw d mM sM pc st cs mc ms (fun q r c' mc' ms' => ih d j lw sl stop q loc r c' mc' ms') else bif Nat.beq x1 0 then zcall mt ih d j lw sl stop pc loc st cs mc ms x2 1 else bif Nat.beq x1 2 || Nat.beq x1 3 then zprim x1 pc st cs d (fun q r c' => ih d j lw sl stop q loc r c' mc ms) else none
  | .invokespecial _ => bif Nat.beq x1 0 || Nat.beq x1 6 then zcall mt ih d j lw sl stop pc loc st cs mc ms x2 2 else bif Nat.beq x1 1 then zprim x1 pc st cs d (fun q r c' => ih d j lw sl stop q loc r c' mc ms) else none
  | .ldc _ => bif Nat.beq x1 7 && (decide (4 ≤ d) && decide (zsum st ≤ 8)) then zgo (pc + 2) loc (.ref 1000000 :: st) (fun q l r => ih d j lw sl stop q l r cs mc ms) else none
  | .ldc2_w _ => zpush (.long (lN x1)) (pc + 3) loc st (fun q l r => ih d j lw sl stop q l r cs mc ms)
  | .getfield _ => zhr bd lw cs i (x1, x2) pc loc st (fun q l r => ih d j lw sl stop q l r cs mc ms)
  | .iaload => zhr bd lw cs i (x1, x2) pc loc st (fun q l r => ih d j lw sl stop q l r cs mc ms)
  | .laload => zhr bd lw cs i (x1, x2) pc loc st (fun q l r => ih d j lw sl stop q l r cs mc ms)
  | .baload => zhr bd lw cs i (x1, x2) pc loc st (fun q l r => ih d j lw sl stop q l r cs mc ms)
  | .aaload => zhr bd lw cs i (x1, x2) pc loc st (fun q l r => ih d j lw sl stop q l r cs mc ms)
  | .arraylength => zhr bd lw cs i (x1, x2) pc loc st (fun q l r => ih d j lw sl stop q l r cs mc ms)
  | .putfield _ => zhw cs i (x1, x2) pc st (fun q r c' => ih d j lw sl stop q loc r c' mc ms)
  | .iastore => zhw cs i (x1, x2) pc st (fun q r c' => ih d j lw sl stop q loc r c' mc ms)
  | .lastore => zhw cs i (x1, x2) pc st (fun q r c' => ih d j lw sl stop q loc r c' mc ms)
  | .bastore => zhw cs i (x1, x2) pc st (fun q r c' => ih d j lw sl stop q loc r c' mc ms)
  | .aastore => zhw cs i (x1, x2) pc st (fun q r c' => ih d j lw sl stop q loc r c' mc ms)
  | .new _ => zhn mM sM cs i (x1, x2) pc loc st mc ms (fun q r c' mc' ms' => ih d j lw sl stop q loc r c' mc' ms')
  | .newarray _ => zhn mM sM cs i (x1, x2) pc loc st mc ms (fun q r c' mc' ms' => ih d j lw sl stop q loc r c' mc' ms')
  | .anewarray _ => zhn mM sM cs i (x1, x2) pc loc st mc ms (fun q r c' mc' ms' => ih d j lw sl stop q loc r c' mc' ms')
  | i => zp bd nL i pc loc st (fun q l r => ih d j lw sl stop q l r cs mc ms)
abbrev ZFn : Type := (Nat → ZMI) → (Nat → Int × Int) → ZF → Nat → Nat → Bool → ZL → Nat → Nat → ZL → List Value → List ZC → Nat → Nat → Nat → Option FieldType → Nat → Nat → Instr → Nat → Nat → ZO
noncomputable def zo_iconst_n (i : Instr) : Int := match i with
  | .iconst x => x
  | _ => 0
noncomputable def zx_iconst : ZFn := fun mt bd ih d j lw sl stop pc loc st cs mc ms nL ret mM sM i x1 x2 => (fun (o_n : Int) => zpush (.int (Int32.ofInt o_n)) (pc + 1) loc st (fun q l r => ih d j lw sl stop q l r cs mc ms)) (zo_iconst_n i)
noncomputable def zo_bipush_n (i : Instr) : Int := match i with
  | .bipush x => x
  | _ => 0
noncomputable def zx_bipush : ZFn := fun mt bd ih d j lw sl stop pc loc st cs mc ms nL ret mM sM i x1 x2 => (fun (o_n : Int) => zpush (.int (Int8.ofInt o_n).toInt32) (pc + 2) loc st (fun q l r => ih d j lw sl stop q l r cs mc ms)) (zo_bipush_n i)
noncomputable def zo_sipush_n (i : Instr) : Int := match i with
  | .sipush x => x
  | _ => 0
noncomputable def zx_sipush : ZFn := fun mt bd ih d j lw sl stop pc loc st cs mc ms nL ret mM sM i x1 x2 => (fun (o_n : Int) => zpush (.int (Int16.ofInt o_n).toInt32) (pc + 3) loc st (fun q l r => ih d j lw sl stop q l r cs mc ms)) (zo_sipush_n i)
noncomputable def zo_lconst_n (i : Instr) : Fin 2 := match i with
  | .lconst x => x
  | _ => 0
noncomputable def zx_lconst : ZFn := fun mt bd ih d j lw sl stop pc loc st cs mc ms nL ret mM sM i x1 x2 => (fun (o_n : Fin 2) => zpush (.long (Int64.ofNat (o_n : Nat))) (pc + 1) loc st (fun q l r => ih d j lw sl stop q l r cs mc ms)) (zo_lconst_n i)
noncomputable def zo_iload_n_j (i : Instr) : Fin 4 := match i with
  | .iload_n x => x
  | _ => 0
noncomputable def zx_iload_n : ZFn := fun mt bd ih d j lw sl stop pc loc st cs mc ms nL ret mM sM i x1 x2 => (fun (o_j : Fin 4) => zload zisI o_j (pc + 1) loc st (fun q l r => ih d j lw sl stop q l r cs mc ms)) (zo_iload_n_j i)
noncomputable def zo_iload_j (i : Instr) : Nat := match i with
  | .iload x => x
  | _ => 0
noncomputable def zx_iload : ZFn := fun mt bd ih d j lw sl stop pc loc st cs mc ms nL ret mM sM i x1 x2 => (fun (o_j : Nat) => zload zisI o_j (pc + 2) loc st (fun q l r => ih d j lw sl stop q l r cs mc ms)) (zo_iload_j i)
noncomputable def zo_aload_n_j (i : Instr) : Fin 4 := match i with
  | .aload_n x => x
  | _ => 0
noncomputable def zx_aload_n : ZFn := fun mt bd ih d j lw sl stop pc loc st cs mc ms nL ret mM sM i x1 x2 => (fun (o_j : Fin 4) => zload zisA o_j (pc + 1) loc st (fun q l r => ih d j lw sl stop q l r cs mc ms)) (zo_aload_n_j i)
noncomputable def zo_aload_j (i : Instr) : Nat := match i with
  | .aload x => x
  | _ => 0
noncomputable def zx_aload : ZFn := fun mt bd ih d j lw sl stop pc loc st cs mc ms nL ret mM sM i x1 x2 => (fun (o_j : Nat) => zload zisA o_j (pc + 2) loc st (fun q l r => ih d j lw sl stop q l r cs mc ms)) (zo_aload_j i)
noncomputable def zo_lload_n_j (i : Instr) : Fin 4 := match i with
  | .lload_n x => x
  | _ => 0
noncomputable def zx_lload_n : ZFn := fun mt bd ih d j lw sl stop pc loc st cs mc ms nL ret mM sM i x1 x2 => (fun (o_j : Fin 4) => zload zisJ o_j (pc + 1) loc st (fun q l r => ih d j lw sl stop q l r cs mc ms)) (zo_lload_n_j i)
noncomputable def zo_lload_j (i : Instr) : Nat := match i with
  | .lload x => x
  | _ => 0
noncomputable def zx_lload : ZFn := fun mt bd ih d j lw sl stop pc loc st cs mc ms nL ret mM sM i x1 x2 => (fun (o_j : Nat) => zload zisJ o_j (pc + 2) loc st (fun q l r => ih d j lw sl stop q l r cs mc ms)) (zo_lload_j i)
noncomputable def zo_istore_n_j (i : Instr) : Fin 4 := match i with
  | .istore_n x => x
  | _ => 0
noncomputable def zx_istore_n : ZFn := fun mt bd ih d j lw sl stop pc loc st cs mc ms nL ret mM sM i x1 x2 => (fun (o_j : Fin 4) => zstore1 zisI nL o_j (pc + 1) loc st (fun q l r => ih d j lw sl stop q l r cs mc ms)) (zo_istore_n_j i)
noncomputable def zo_istore_j (i : Instr) : Nat := match i with
  | .istore x => x
  | _ => 0
noncomputable def zx_istore : ZFn := fun mt bd ih d j lw sl stop pc loc st cs mc ms nL ret mM sM i x1 x2 => (fun (o_j : Nat) => zstore1 zisI nL o_j (pc + 2) loc st (fun q l r => ih d j lw sl stop q l r cs mc ms)) (zo_istore_j i)
noncomputable def zo_astore_n_j (i : Instr) : Fin 4 := match i with
  | .astore_n x => x
  | _ => 0
noncomputable def zx_astore_n : ZFn := fun mt bd ih d j lw sl stop pc loc st cs mc ms nL ret mM sM i x1 x2 => (fun (o_j : Fin 4) => zstore1 zisA nL o_j (pc + 1) loc st (fun q l r => ih d j lw sl stop q l r cs mc ms)) (zo_astore_n_j i)
noncomputable def zo_astore_j (i : Instr) : Nat := match i with
  | .astore x => x
  | _ => 0
noncomputable def zx_astore : ZFn := fun mt bd ih d j lw sl stop pc loc st cs mc ms nL ret mM sM i x1 x2 => (fun (o_j : Nat) => zstore1 zisA nL o_j (pc + 2) loc st (fun q l r => ih d j lw sl stop q l r cs mc ms)) (zo_astore_j i)
noncomputable def zo_lstore_n_j (i : Instr) : Fin 4 := match i with
  | .lstore_n x => x
  | _ => 0
noncomputable def zx_lstore_n : ZFn := fun mt bd ih d j lw sl stop pc loc st cs mc ms nL ret mM sM i x1 x2 => (fun (o_j : Fin 4) => zstore2 nL o_j (pc + 1) loc st (fun q l r => ih d j lw sl stop q l r cs mc ms)) (zo_lstore_n_j i)
noncomputable def zo_lstore_j (i : Instr) : Nat := match i with
  | .lstore x => x
  | _ => 0
noncomputable def zx_lstore : ZFn := fun mt bd ih d j lw sl stop pc loc st cs mc ms nL ret mM sM i x1 x2 => (fun (o_j : Nat) => zstore2 nL o_j (pc + 2) loc st (fun q l r => ih d j lw sl stop q l r cs mc ms)) (zo_lstore_j i)
noncomputable def zo_iinc_j (i : Instr) : Nat := match i with
  | .iinc x _ => x
  | _ => 0
noncomputable def zo_iinc_n (i : Instr) : Int := match i with
  | .iinc _ x => x
  | _ => 0
noncomputable def zx_iinc : ZFn := fun mt bd ih d j lw sl stop pc loc st cs mc ms nL ret mM sM i x1 x2 => (fun (o_j : Nat) (o_n : Int) => match zlk loc o_j with
    | some (.int x) => bif decide (o_j < nL) then zfI (x + Int32.ofInt o_n) (fun y => zff1 o_j loc (fun l => zgo (pc + 3) ((o_j, .int y) :: l) st (fun q l r => ih d j lw sl stop q l r cs mc ms))) else none
    | _ => none) (zo_iinc_j i) (zo_iinc_n i)
noncomputable def zx_iadd : ZFn := fun mt bd ih d j lw sl stop pc loc st cs mc ms nL ret mM sM i x1 x2 => zbinI (fun x y => x + y) (pc + 1) loc st (fun q l r => ih d j lw sl stop q l r cs mc ms)
noncomputable def zx_imul : ZFn := fun mt bd ih d j lw sl stop pc loc st cs mc ms nL ret mM sM i x1 x2 => zbinI (fun x y => x * y) (pc + 1) loc st (fun q l r => ih d j lw sl stop q l r cs mc ms)
noncomputable def zx_ior : ZFn := fun mt bd ih d j lw sl stop pc loc st cs mc ms nL ret mM sM i x1 x2 => zbinI (fun x y => x ||| y) (pc + 1) loc st (fun q l r => ih d j lw sl stop q l r cs mc ms)
noncomputable def zx_ishl : ZFn := fun mt bd ih d j lw sl stop pc loc st cs mc ms nL ret mM sM i x1 x2 => zbinI (fun x y => x <<< (y &&& 31)) (pc + 1) loc st (fun q l r => ih d j lw sl stop q l r cs mc ms)
noncomputable def zx_ishr : ZFn := fun mt bd ih d j lw sl stop pc loc st cs mc ms nL ret mM sM i x1 x2 => zbinI (fun x y => x >>> (y &&& 31)) (pc + 1) loc st (fun q l r => ih d j lw sl stop q l r cs mc ms)
noncomputable def zx_isub : ZFn := fun mt bd ih d j lw sl stop pc loc st cs mc ms nL ret mM sM i x1 x2 => match st with
    | .retAddr jj :: .int x :: r => bif decide (x = 100 ∧ jj < 8) then zpush (.retAddr (jj + 8)) (pc + 1) loc r (fun q l r => ih d j lw sl stop q l r cs mc ms) else none
    | st => zbinI (fun x y => x - y) (pc + 1) loc st (fun q l r => ih d j lw sl stop q l r cs mc ms)
noncomputable def zx_iand : ZFn := fun mt bd ih d j lw sl stop pc loc st cs mc ms nL ret mM sM i x1 x2 => match st with
    | .int x :: .retAddr jj :: r => bif decide (x = 63 ∧ jj = 0) then zpush (.retAddr 7) (pc + 1) loc r (fun q l r => ih d j lw sl stop q l r cs mc ms) else none
    | st => zbinI (fun x y => x &&& y) (pc + 1) loc st (fun q l r => ih d j lw sl stop q l r cs mc ms)
noncomputable def zx_irem : ZFn := fun mt bd ih d j lw sl stop pc loc st cs mc ms nL ret mM sM i x1 x2 => match st with
    | .int y :: .int x :: r => bif decide (¬ y = 0) then zpush (.int (x - x / y * y)) (pc + 1) loc r (fun q l r => ih d j lw sl stop q l r cs mc ms) else none
    | _ => none
noncomputable def zx_idiv : ZFn := fun mt bd ih d j lw sl stop pc loc st cs mc ms nL ret mM sM i x1 x2 => match st with
    | .int y :: .int x :: r => bif decide (¬ y = 0) then zpush (.int (x / y)) (pc + 1) loc r (fun q l r => ih d j lw sl stop q l r cs mc ms) else none
    | _ => none
noncomputable def zx_ladd : ZFn := fun mt bd ih d j lw sl stop pc loc st cs mc ms nL ret mM sM i x1 x2 => zbinJ (fun x y => x + y) (pc + 1) loc st (fun q l r => ih d j lw sl stop q l r cs mc ms)
noncomputable def zx_lsub : ZFn := fun mt bd ih d j lw sl stop pc loc st cs mc ms nL ret mM sM i x1 x2 => zbinJ (fun x y => x - y) (pc + 1) loc st (fun q l r => ih d j lw sl stop q l r cs mc ms)
noncomputable def zx_lmul : ZFn := fun mt bd ih d j lw sl stop pc loc st cs mc ms nL ret mM sM i x1 x2 => zbinJ (fun x y => x * y) (pc + 1) loc st (fun q l r => ih d j lw sl stop q l r cs mc ms)
noncomputable def zx_lor : ZFn := fun mt bd ih d j lw sl stop pc loc st cs mc ms nL ret mM sM i x1 x2 => zbinJ (fun x y => x ||| y) (pc + 1) loc st (fun q l r => ih d j lw sl stop q l r cs mc ms)
noncomputable def zx_lxor : ZFn := fun mt bd ih d j lw sl stop pc loc st cs mc ms nL ret mM sM i x1 x2 => zbinJ (fun x y => x ^^^ y) (pc + 1) loc st (fun q l r => ih d j lw sl stop q l r cs mc ms)
noncomputable def zx_land : ZFn := fun mt bd ih d j lw sl stop pc loc st cs mc ms nL ret mM sM i x1 x2 => zbinJ (fun x y => x &&& y) (pc + 1) loc st (fun q l r => ih d j lw sl stop q l r cs mc ms)
noncomputable def zx_lshl : ZFn := fun mt bd ih d j lw sl stop pc loc st cs mc ms nL ret mM sM i x1 x2 => zshJ (fun x y => x <<< (y.toInt64 &&& 63)) (pc + 1) loc st (fun q l r => ih d j lw sl stop q l r cs mc ms)
noncomputable def zx_lshr : ZFn := fun mt bd ih d j lw sl stop pc loc st cs mc ms nL ret mM sM i x1 x2 => zshJ (fun x y => x >>> (y.toInt64 &&& 63)) (pc + 1) loc st (fun q l r => ih d j lw sl stop q l r cs mc ms)
noncomputable def zx_lushr : ZFn := fun mt bd ih d j lw sl stop pc loc st cs mc ms nL ret mM sM i x1 x2 => zshJ (fun x y => (x.toUInt64 >>> (y.toInt64.toUInt64 &&& Int64.toUInt64 63)).toInt64) (pc + 1) loc st (fun q l r => ih d j lw sl stop q l r cs mc ms)
noncomputable def zx_lcmp : ZFn := fun mt bd ih d j lw sl stop pc loc st cs mc ms nL ret mM sM i x1 x2 => match st with
    | .long y :: .long x :: r => zpush (.int (lg_cmp x y)) (pc + 1) loc r (fun q l r => ih d j lw sl stop q l r cs mc ms)
    | _ => none
noncomputable def zx_i2l : ZFn := fun mt bd ih d j lw sl stop pc loc st cs mc ms nL ret mM sM i x1 x2 => match st with
    | .int x :: r => zpush (.long x.toInt64) (pc + 1) loc r (fun q l r => ih d j lw sl stop q l r cs mc ms)
    | _ => none
noncomputable def zx_l2i : ZFn := fun mt bd ih d j lw sl stop pc loc st cs mc ms nL ret mM sM i x1 x2 => match st with
    | .long x :: r => zpush (.int x.toInt32) (pc + 1) loc r (fun q l r => ih d j lw sl stop q l r cs mc ms)
    | _ => none
noncomputable def zx_dup : ZFn := fun mt bd ih d j lw sl stop pc loc st cs mc ms nL ret mM sM i x1 x2 => match st with
    | v :: r => bif decide (v.category = 1) then zgo (pc + 1) loc (v :: v :: r) (fun q l r => ih d j lw sl stop q l r cs mc ms) else none
    | _ => none
noncomputable def zx_dup2 : ZFn := fun mt bd ih d j lw sl stop pc loc st cs mc ms nL ret mM sM i x1 x2 => match st with
    | v :: w :: r => bif decide (v.category = 1 ∧ w.category = 1) then zgo (pc + 1) loc (v :: w :: v :: w :: r) (fun q l r => ih d j lw sl stop q l r cs mc ms) else none
    | _ => none
noncomputable def zx_pop : ZFn := fun mt bd ih d j lw sl stop pc loc st cs mc ms nL ret mM sM i x1 x2 => match st with
    | v :: r => bif decide (v.category = 1) then zgo (pc + 1) loc r (fun q l r => ih d j lw sl stop q l r cs mc ms) else none
    | _ => none
noncomputable def zo_goto_off (i : Instr) : Int := match i with
  | .goto x => x
  | _ => 0
noncomputable def zx_goto : ZFn := fun mt bd ih d j lw sl stop pc loc st cs mc ms nL ret mM sM i x1 x2 => (fun (o_off : Int) => zjump pc o_off loc st (fun q l r => ih d j lw sl stop q l r cs mc ms)) (zo_goto_off i)
noncomputable def zo_ifCond_q (i : Instr) : ClassFile.Cond := match i with
  | .ifCond x _ => x
  | _ => .eq
noncomputable def zo_ifCond_off (i : Instr) : Int := match i with
  | .ifCond _ x => x
  | _ => 0
noncomputable def zx_ifCond : ZFn := fun mt bd ih d j lw sl stop pc loc st cs mc ms nL ret mM sM i x1 x2 => (fun (o_q : ClassFile.Cond) (o_off : Int) => match st with
    | v :: r => match o_q with
      | .eq => zif bd 0 false v (.int 0) pc o_off loc r (fun q l r => ih d j lw sl stop q l r cs mc ms)
      | .ne => zif bd 0 true v (.int 0) pc o_off loc r (fun q l r => ih d j lw sl stop q l r cs mc ms)
      | .lt => zif bd 1 false v (.int 0) pc o_off loc r (fun q l r => ih d j lw sl stop q l r cs mc ms)
      | .ge => zif bd 2 false (.int 0) v pc o_off loc r (fun q l r => ih d j lw sl stop q l r cs mc ms)
      | .gt => zif bd 1 false (.int 0) v pc o_off loc r (fun q l r => ih d j lw sl stop q l r cs mc ms)
      | .le => zif bd 2 false v (.int 0) pc o_off loc r (fun q l r => ih d j lw sl stop q l r cs mc ms)
    | _ => none) (zo_ifCond_q i) (zo_ifCond_off i)
noncomputable def zo_if_icmp_q (i : Instr) : ClassFile.Cond := match i with
  | .if_icmp x _ => x
  | _ => .eq
noncomputable def zo_if_icmp_off (i : Instr) : Int := match i with
  | .if_icmp _ x => x
  | _ => 0
noncomputable def zx_if_icmp : ZFn := fun mt bd ih d j lw sl stop pc loc st cs mc ms nL ret mM sM i x1 x2 => (fun (o_q : ClassFile.Cond) (o_off : Int) => match st with
    | w :: v :: r => match o_q with
      | .eq => zif bd 0 false v w pc o_off loc r (fun q l r => ih d j lw sl stop q l r cs mc ms)
      | .ne => zif bd 0 true v w pc o_off loc r (fun q l r => ih d j lw sl stop q l r cs mc ms)
      | .lt => zif bd 1 false v w pc o_off loc r (fun q l r => ih d j lw sl stop q l r cs mc ms)
      | .ge => zif bd 2 false w v pc o_off loc r (fun q l r => ih d j lw sl stop q l r cs mc ms)
      | .gt => zif bd 1 false w v pc o_off loc r (fun q l r => ih d j lw sl stop q l r cs mc ms)
      | .le => zif bd 2 false v w pc o_off loc r (fun q l r => ih d j lw sl stop q l r cs mc ms)
    | _ => none) (zo_if_icmp_q i) (zo_if_icmp_off i)
noncomputable def zo_ifnonnull_off (i : Instr) : Int := match i with
  | .ifnonnull x => x
  | _ => 0
noncomputable def zx_ifnonnull : ZFn := fun mt bd ih d j lw sl stop pc loc st cs mc ms nL ret mM sM i x1 x2 => (fun (o_off : Int) => match st with
    | .ref _ :: r => zjump pc o_off loc r (fun q l r => ih d j lw sl stop q l r cs mc ms)
    | .null :: r => zgo (pc + 3) loc r (fun q l r => ih d j lw sl stop q l r cs mc ms)
    | _ => none) (zo_ifnonnull_off i)
noncomputable def zo_tableswitch_d (i : Instr) : Int := match i with
  | .tableswitch x _ _ _ => x
  | _ => 0
noncomputable def zo_tableswitch_lo (i : Instr) : Int := match i with
  | .tableswitch _ x _ _ => x
  | _ => 0
noncomputable def zo_tableswitch_hi (i : Instr) : Int := match i with
  | .tableswitch _ _ x _ => x
  | _ => 0
noncomputable def zo_tableswitch_offs (i : Instr) : Array Int := match i with
  | .tableswitch _ _ _ x => x
  | _ => #[]
noncomputable def zx_tableswitch : ZFn := fun mt bd ih d j lw sl stop pc loc st cs mc ms nL ret mM sM i x1 x2 => (fun (o_d : Int) (o_lo : Int) (o_hi : Int) (o_offs : Array Int) => zsw bd o_d o_lo o_hi o_offs pc loc st (fun q l r => ih d j lw sl stop q l r cs mc ms)) (zo_tableswitch_d i) (zo_tableswitch_lo i) (zo_tableswitch_hi i) (zo_tableswitch_offs i)
noncomputable def zx_getfield : ZFn := fun mt bd ih d j lw sl stop pc loc st cs mc ms nL ret mM sM i x1 x2 => match st with
    | .ref a :: r => match zn cs a with
      | some (.inl (ci, fs)) => bif Nat.beq ci x1 then (match zn fs x2 with
        | some v => zgo (pc + 3) loc (v :: r) (fun q l r => ih d j lw sl stop q l r cs mc ms)
        | none => none) else none
      | _ => none
    | _ => none
noncomputable def zx_iaload : ZFn := fun mt bd ih d j lw sl stop pc loc st cs mc ms nL ret mM sM i x1 x2 => match st with
    | .int y :: .ref a :: r => bif zlw bd lw && Nat.beq a 1000001 then (bif zin y 7 then zpush (zsc bd y.toNatClampNeg) (pc + 1) loc r (fun q l r => ih d j lw sl stop q l r cs mc ms) else none) else zald 0 zisI cs a y (pc + 1) loc r (fun q l r => ih d j lw sl stop q l r cs mc ms)
    | _ => none
noncomputable def zx_laload : ZFn := fun mt bd ih d j lw sl stop pc loc st cs mc ms nL ret mM sM i x1 x2 => match st with
    | .int y :: .ref a :: r => zald 1 zisJ cs a y (pc + 1) loc r (fun q l r => ih d j lw sl stop q l r cs mc ms)
    | _ => none
noncomputable def zx_baload : ZFn := fun mt bd ih d j lw sl stop pc loc st cs mc ms nL ret mM sM i x1 x2 => match st with
    | .int y :: .ref a :: r => zald 2 zisI cs a y (pc + 1) loc r (fun q l r => ih d j lw sl stop q l r cs mc ms)
    | _ => none
noncomputable def zx_aaload : ZFn := fun mt bd ih d j lw sl stop pc loc st cs mc ms nL ret mM sM i x1 x2 => match st with
    | .int y :: .ref a :: r => bif Nat.beq x1 4 then zald 4 zisA cs a y (pc + 1) loc r (fun q l r => ih d j lw sl stop q l r cs mc ms) else zald 5 zisA cs a y (pc + 1) loc r (fun q l r => ih d j lw sl stop q l r cs mc ms)
    | _ => none
noncomputable def zx_arraylength : ZFn := fun mt bd ih d j lw sl stop pc loc st cs mc ms nL ret mM sM i x1 x2 => match st with
    | .ref a :: r => bif zlw bd lw && Nat.beq a 1000001 then zpush (.int 7) (pc + 1) loc r (fun q l r => ih d j lw sl stop q l r cs mc ms) else (match zn cs a with
      | some (.inr (t, n, _)) => bif decide (t < 6) then zpush (.int (Int32.ofNat n)) (pc + 1) loc r (fun q l r => ih d j lw sl stop q l r cs mc ms) else none
      | _ => none)
    | _ => none
noncomputable def zx_putfield : ZFn := fun mt bd ih d j lw sl stop pc loc st cs mc ms nL ret mM sM i x1 x2 => match st with
    | v :: .ref a :: r => match zn cs a with
      | some (.inl (ci, fs)) => bif Nat.beq ci x1 && (decide (x2 < fs.length) && zfit (ztf ci x2) v) then zfset fs v x2 (fun g => zput cs a (.inl (ci, g)) (pc + 3) r (fun q r c' => ih d j lw sl stop q loc r c' mc ms)) else none
      | _ => none
    | _ => none
noncomputable def zx_iastore : ZFn := fun mt bd ih d j lw sl stop pc loc st cs mc ms nL ret mM sM i x1 x2 => match st with
    | v :: .int y :: .ref a :: r => zast 0 zisI cs a y v (pc + 1) r (fun q r c' => ih d j lw sl stop q loc r c' mc ms)
    | _ => none
noncomputable def zx_lastore : ZFn := fun mt bd ih d j lw sl stop pc loc st cs mc ms nL ret mM sM i x1 x2 => match st with
    | v :: .int y :: .ref a :: r => zast 1 zisJ cs a y v (pc + 1) r (fun q r c' => ih d j lw sl stop q loc r c' mc ms)
    | _ => none
noncomputable def zx_bastore : ZFn := fun mt bd ih d j lw sl stop pc loc st cs mc ms nL ret mM sM i x1 x2 => match st with
    | v :: .int y :: .ref a :: r => zast 2 zisB cs a y v (pc + 1) r (fun q r c' => ih d j lw sl stop q loc r c' mc ms)
    | _ => none
noncomputable def zx_aastore : ZFn := fun mt bd ih d j lw sl stop pc loc st cs mc ms nL ret mM sM i x1 x2 => match st with
    | v :: .int y :: .ref a :: r => bif Nat.beq x1 4 then zast 4 (zisO cs 2) cs a y v (pc + 1) r (fun q r c' => ih d j lw sl stop q loc r c' mc ms) else zast 5 (zisO cs 5) cs a y v (pc + 1) r (fun q r c' => ih d j lw sl stop q loc r c' mc ms)
    | _ => none
noncomputable def zx_new : ZFn := fun mt bd ih d j lw sl stop pc loc st cs mc ms nL ret mM sM i x1 x2 => znew mM sM cs (.inl (x1, zdf x1)) (zdf x1).length (pc + 3) loc st mc ms (fun q r c' mc' ms' => ih d j lw sl stop q loc r c' mc' ms')
noncomputable def zo_newarray_t (i : Instr) : ArrayType := match i with
  | .newarray x => x
  | _ => .int
noncomputable def zx_newarray : ZFn := fun mt bd ih d j lw sl stop pc loc st cs mc ms nL ret mM sM i x1 x2 => (fun (o_t : ArrayType) => match zat o_t, st with
    | some t', .int y :: r => bif decide (¬ y < 0 ∧ y.toNatClampNeg ≤ 100000) then zfN y.toNatClampNeg (fun n => znew mM sM cs (.inr (t', n, [])) n (pc + 2) loc r mc ms (fun q r c' mc' ms' => ih d j lw sl stop q loc r c' mc' ms')) else none
    | _, _ => none) (zo_newarray_t i)
noncomputable def zx_anewarray : ZFn := fun mt bd ih d j lw sl stop pc loc st cs mc ms nL ret mM sM i x1 x2 => match st with
    | .int y :: r => bif decide (¬ y < 0 ∧ y.toNatClampNeg ≤ 100000) then zfN y.toNatClampNeg (fun n => bif Nat.beq x1 4 then znew mM sM cs (.inr (4, n, [])) n (pc + 3) loc r mc ms (fun q r c' mc' ms' => ih d j lw sl stop q loc r c' mc' ms') else znew mM sM cs (.inr (5, n, [])) n (pc + 3) loc r mc ms (fun q r c' mc' ms' => ih d j lw sl stop q loc r c' mc' ms')) else none
    | _ => none
noncomputable def zx_ireturn : ZFn := fun mt bd ih d j lw sl stop pc loc st cs mc ms nL ret mM sM i x1 x2 => match st with
    | [v] => bif (zisI v && decide (mc ≤ mM)) && (decide (ms ≤ sM) && (match ret with
      | some .int => true
      | some .boolean => zisB v
      | _ => false)) then some (some v, cs) else none
    | _ => none
noncomputable def zx_return_ : ZFn := fun mt bd ih d j lw sl stop pc loc st cs mc ms nL ret mM sM i x1 x2 => match st with
    | [] => bif (decide (mc ≤ mM) && decide (ms ≤ sM)) && ret.isNone then some (none, cs) else none
    | _ => none
noncomputable def zx_invokevirtual : ZFn := fun mt bd ih d j lw sl stop pc loc st cs mc ms nL ret mM sM i x1 x2 => bif Nat.beq x1 0 then zcall mt ih d j lw sl stop pc loc st cs mc ms x2 0 else bif decide (4 ≤ x1) then zprim x1 pc st cs d (fun q r c' => ih d j lw sl stop q loc r c' mc ms) else none
noncomputable def zx_invokestatic : ZFn := fun mt bd ih d j lw sl stop pc loc st cs mc ms nL ret mM sM i x1 x2 => bif Nat.beq x1 8 then zordC lw d mM sM pc st cs mc ms (fun q r c' mc' ms' => ih d j lw sl stop q loc r c' mc' ms') else bif Nat.beq x1 0 then zcall mt ih d j lw sl stop pc loc st cs mc ms x2 1 else bif Nat.beq x1 2 || Nat.beq x1 3 then zprim x1 pc st cs d (fun q r c' => ih d j lw sl stop q loc r c' mc ms) else none
noncomputable def zx_invokespecial : ZFn := fun mt bd ih d j lw sl stop pc loc st cs mc ms nL ret mM sM i x1 x2 => bif Nat.beq x1 0 || Nat.beq x1 6 then zcall mt ih d j lw sl stop pc loc st cs mc ms x2 2 else bif Nat.beq x1 1 then zprim x1 pc st cs d (fun q r c' => ih d j lw sl stop q loc r c' mc ms) else none
noncomputable def zx_ldc : ZFn := fun mt bd ih d j lw sl stop pc loc st cs mc ms nL ret mM sM i x1 x2 => bif Nat.beq x1 7 && (decide (4 ≤ d) && decide (zsum st ≤ 8)) then zgo (pc + 2) loc (.ref 1000000 :: st) (fun q l r => ih d j lw sl stop q l r cs mc ms) else none
noncomputable def zx_ldc2_w : ZFn := fun mt bd ih d j lw sl stop pc loc st cs mc ms nL ret mM sM i x1 x2 => zpush (.long (lN x1)) (pc + 3) loc st (fun q l r => ih d j lw sl stop q l r cs mc ms)
/-- the number of an instruction's function -/
noncomputable def zkd (i : Instr) : Nat := match i with
  | .aload_n _ => 0
  | .iload_n _ => 1
  | .getfield _ => 2
  | .iload _ => 3
  | .iconst _ => 4
  | .iaload => 5
  | .iadd => 6
  | .goto _ => 7
  | .if_icmp _ _ => 8
  | .iinc _ _ => 9
  | .iastore => 10
  | .bipush _ => 11
  | .sipush _ => 12
  | .ifCond _ _ => 13
  | .istore_n _ => 14
  | .istore _ => 15
  | .putfield _ => 16
  | .imul => 17
  | .ireturn => 18
  | .invokevirtual _ => 19
  | .dup => 20
  | .isub => 21
  | .aload _ => 22
  | .return_ => 23
  | .iand => 24
  | .lconst _ => 25
  | .lload_n _ => 26
  | .lload _ => 27
  | .astore_n _ => 28
  | .astore _ => 29
  | .lstore_n _ => 30
  | .lstore _ => 31
  | .ior => 32
  | .ishl => 33
  | .ishr => 34
  | .irem => 35
  | .idiv => 36
  | .ladd => 37
  | .lsub => 38
  | .lmul => 39
  | .lor => 40
  | .lxor => 41
  | .land => 42
  | .lshl => 43
  | .lshr => 44
  | .lushr => 45
  | .lcmp => 46
  | .i2l => 47
  | .l2i => 48
  | .dup2 => 49
  | .pop => 50
  | .ifnonnull _ => 51
  | .tableswitch _ _ _ _ => 52
  | .laload => 53
  | .baload => 54
  | .aaload => 55
  | .arraylength => 56
  | .lastore => 57
  | .bastore => 58
  | .aastore => 59
  | .new _ => 60
  | .newarray _ => 61
  | .anewarray _ => 62
  | .invokestatic _ => 63
  | .invokespecial _ => 64
  | .ldc _ => 65
  | .ldc2_w _ => 66
  | _ => 999
noncomputable def zfns : List ZFn := [zx_aload_n, zx_iload_n, zx_getfield, zx_iload, zx_iconst, zx_iaload, zx_iadd, zx_goto, zx_if_icmp, zx_iinc, zx_iastore, zx_bipush, zx_sipush, zx_ifCond, zx_istore_n, zx_istore, zx_putfield, zx_imul, zx_ireturn, zx_invokevirtual, zx_dup, zx_isub, zx_aload, zx_return_, zx_iand, zx_lconst, zx_lload_n, zx_lload, zx_astore_n, zx_astore, zx_lstore_n, zx_lstore, zx_ior, zx_ishl, zx_ishr, zx_irem, zx_idiv, zx_ladd, zx_lsub, zx_lmul, zx_lor, zx_lxor, zx_land, zx_lshl, zx_lshr, zx_lushr, zx_lcmp, zx_i2l, zx_l2i, zx_dup2, zx_pop, zx_ifnonnull, zx_tableswitch, zx_laload, zx_baload, zx_aaload, zx_arraylength, zx_lastore, zx_bastore, zx_aastore, zx_new, zx_newarray, zx_anewarray, zx_invokestatic, zx_invokespecial, zx_ldc, zx_ldc2_w]
noncomputable def zins2 : ZFn := fun mt bd ih d j lw sl stop pc loc st cs mc ms nL ret mM sM i x1 x2 => match zn zfns (zkd i) with
  | some f => f mt bd ih d j lw sl stop pc loc st cs mc ms nL ret mM sM i x1 x2
  | none => none
set_option maxHeartbeats 4000000 in
theorem zins2_eq (mt : Nat → ZMI) (bd : Nat → Int × Int) (ih : ZF) (d j : Nat) (lw : Bool) (sl : ZL) (stop pc : Nat) (loc : ZL) (st : List Value) (cs : List ZC) (mc ms nL : Nat) (ret : Option FieldType) (mM sM : Nat) (i : Instr) (x1 x2 : Nat) : zins2 mt bd ih d j lw sl stop pc loc st cs mc ms nL ret mM sM i x1 x2 = zins mt bd ih d j lw sl stop pc loc st cs mc ms nL ret mM sM i x1 x2 := by
  cases i <;> rfl
/-- one step -/
noncomputable def zstep (mt : Nat → ZMI) (bd : Nat → Int × Int) (ih : ZF) : ZF := fun d j lw sl stop pc loc st cs mc ms =>
  bif lw && Nat.beq pc stop then (match st with
    | [] => bif zeqL loc sl && (decide (mc ≤ 1000) && decide (ms ≤ 200000)) then some (none, cs) else none
    | _ => none)
  else match mt j with
  | (_, _, nL, ret, _, mM, sM, _, _, E) => match zfind E pc with
    | none => none
    | some (i, _, x1, x2) => zins2 mt bd ih d j lw sl stop pc loc st cs mc ms nL ret mM sM i x1 x2
theorem zstep_ok {mt : Nat → ZMI} {bd : Nat → Int × Int} {ih : ZF} {d j : Nat} {lw : Bool} {sl : ZL} {stop pc : Nat} {loc : ZL} {st : List Value} {cs : List ZC} {mc ms : Nat} {o : Option Value × List ZC} (h : zstep mt bd ih d j lw sl stop pc loc st cs mc ms = some o) :
    (lw = true ∧ pc = stop ∧ st = [] ∧ loc = sl ∧ o = (none, cs) ∧ mc ≤ 1000 ∧ ms ≤ 200000) ∨ ∃ (i : Instr) (L x1 x2 : Nat), zfind (mt j).2.2.2.2.2.2.2.2.2 pc = some (i, L, x1, x2) ∧ zins mt bd ih d j lw sl stop pc loc st cs mc ms (mt j).2.2.1 (mt j).2.2.2.1 (mt j).2.2.2.2.2.1 (mt j).2.2.2.2.2.2.1 i x1 x2 = some o := by
  unfold zstep at h
  cases hb : (lw && Nat.beq pc stop) with
  | true =>
    rw [hb, cond_true] at h
    rw [Bool.and_eq_true] at hb
    refine Or.inl ?_
    split at h
    · have h2 : (zeqL loc sl && (decide (mc ≤ 1000) && decide (ms ≤ 200000))) = true ∧ (some (none, cs) : ZO) = some o := by
        cases hq : (zeqL loc sl && (decide (mc ≤ 1000) && decide (ms ≤ 200000))) with
        | false => rw [hq] at h; cases h
        | true => rw [hq] at h; exact ⟨rfl, h⟩
      simp only [Bool.and_eq_true, decide_eq_true_eq] at h2
      exact ⟨hb.1, Nat.eq_of_beq_eq_true hb.2, rfl, zeqL_ok _ _ h2.1.1, (Option.some.inj h2.2).symm, h2.1.2.1, h2.1.2.2⟩
    · cases h
  | false =>
    rw [hb, cond_false] at h
    refine Or.inr ?_
    have h2 : (match zfind (mt j).2.2.2.2.2.2.2.2.2 pc with
      | none => none
      | some (i, _, x1, x2) => zins2 mt bd ih d j lw sl stop pc loc st cs mc ms (mt j).2.2.1 (mt j).2.2.2.1 (mt j).2.2.2.2.2.1 (mt j).2.2.2.2.2.2.1 i x1 x2) = some o := h
    cases hz : zfind (mt j).2.2.2.2.2.2.2.2.2 pc with
    | none => rw [hz] at h2; cases h2
    | some q =>
      obtain ⟨i, L, x1, x2⟩ := q
      rw [hz] at h2
      dsimp only at h2
      rw [zins2_eq] at h2
      exact ⟨i, L, x1, x2, rfl, h2⟩
noncomputable def zrun (mt : Nat → ZMI) (bd : Nat → Int × Int) (n : Nat) : ZF := Nat.rec (motive := fun _ => ZF) (fun _ _ _ _ _ _ _ _ _ _ _ => none) (fun _ ih => zstep mt bd ih) n
theorem zrun_succ (mt : Nat → ZMI) (bd : Nat → Int × Int) (n : Nat) : zrun mt bd (n + 1) = zstep mt bd (zrun mt bd n) := rfl
end ZRUN
end
section
/-! what a frame rests on; a call's end -/
section ZFRM
/-- the private constructors that nest mates call: class, entry, method -/
def znl : List (String × Nat × MethodName) := [(RX11, 28, yX0_init), (RX11, 47, yX2_init), (RX11, 65, yX7_init), (RX11, 72, yX1_init), (RX11, 95, yX3_init), (RX1, 11, yX5_init), (RX2, 11, yX5_init), (RX3, 46, yX5_init)]
def zyLen : MethodName := ⟨"java/lang/String", "length", "()I"⟩
def zyChr : MethodName := ⟨"java/lang/String", "charAt", "(I)C"⟩
/-- words on calls and constants -/
def zwi (Al : List Cond) (mt : Nat → ZMI) (own : String) (i : Instr) (x1 x2 : Nat) : Prop := match i with
  | .invokevirtual idx => (x1 = 0 → Cond.methodLink own idx (mt x2).1 ∈ Al) ∧ (x1 = 4 → Cond.methodLink own idx zyLen ∈ Al) ∧ (x1 = 5 → Cond.methodLink own idx zyChr ∈ Al)
  | .invokestatic idx => (x1 = 0 → Cond.methodLink own idx (mt x2).1 ∈ Al) ∧ (x1 = 2 → Cond.methodLink own idx arraycopyName ∈ Al) ∧ (x1 = 3 → Cond.methodLink own idx Lib.Math.min.name ∈ Al) ∧ (x1 = 8 → own = "BeggarHeapsLaw" ∧ idx = 139)
  | .invokespecial idx => (x1 = 0 → Cond.methodLink own idx (mt x2).1 ∈ Al) ∧ (x1 = 6 → (own, idx, (mt x2).1) ∈ znl) ∧ (x1 = 1 → Cond.methodLink own idx objectInit ∈ Al)
  | .ldc idx => x1 = 7 → own = RX10 ∧ idx = 19
  | .ldc2_w idx => Cond.constantLong own idx (lN x1) ∈ Al
  | _ => True
/-- a method's instructions are what the table says -/
def zEok (Al : List Cond) (mt : Nat → ZMI) (M : ZMI) : Prop := ∀ r ∈ M.2.2.2.2.2.2.2.2.2, ∀ e ∈ r, decode M.2.1 e.1 = .ok (e.2.1, zlen e.2.1 e.2.2.1) ∧ zwd Al M.1.cls M.1.name e.2.1 (e.2.2.2.1, e.2.2.2.2) ∧ zwi Al mt M.1.cls e.2.1 e.2.2.2.1 e.2.2.2.2
/-- a method can be called -/
def zMok (Al : List Cond) (M : ZMI) : Prop :=
  plainName M.1.cls = true ∧ Cond.code M.1 M.2.1 M.2.2.1 M.2.2.2.1 ∈ Al ∧ Cond.initialized M.1.cls ∈ Al ∧ (M.1.cls ≠ "java/lang/invoke/MethodHandle" ∧ M.1.cls ≠ "java/lang/invoke/VarHandle" ∧ (parseMethodDescriptor M.1.desc).map (fun d => d.parameters.length) = some M.2.2.2.2.2.2.2.1) ∧ (∃ q, zcl[M.2.2.2.2.2.2.2.2.1]? = some q ∧ q.1 = M.1.cls) ∧
  (M.2.2.2.2.1 = 0 → Cond.instanceMethod M.1 ∈ Al ∧ Cond.selects M.1.cls M.1 M.1 ∈ Al) ∧ (M.2.2.2.2.1 = 1 → Cond.static M.1 ∈ Al) ∧ (M.2.2.2.2.1 = 2 → M.1.name = "<init>" ∧ Cond.instanceMethod M.1 ∈ Al ∧ M.2.2.2.1 = none)
/-- the words of the JDK's -/
def zAl0 (Al : List Cond) : Prop := Cond.instanceMethod objectInit ∈ Al ∧ Cond.code objectInit ⟨#[0xb1]⟩ 1 none ∈ Al ∧ Cond.native arraycopyName ∈ Al ∧ Cond.static arraycopyName ∈ Al ∧ Cond.initialized "java/lang/System" ∈ Al ∧ Cond.static Lib.Math.min.name ∈ Al ∧ Cond.initialized "java/lang/Math" ∈ Al ∧ Cond.code Lib.Math.min.name Lib.Math.min.code 2 (some .int) ∈ Al
def zGood (Al : List Cond) : Prop := ∀ w ∈ Al, (w.onTables && w.keeps) = true ∨ ∃ ty, w = .arrayClass ty
/-- what holds of the tables at a frame's start -/
def ZX (D : va_G) (cA : Nat → ClassId) (s : State) : Prop := va_K D zcl (ztys cA) s ∧ va_AO RX2 s ∧ va_AO RX5 s ∧ ∀ q ∈ znl, va_Nw (.methodLinkNest q.1 q.2.1 q.2.2 "BeggarHeaps") s
theorem ZX.warm {D : va_G} {cA : Nat → ClassId} {s U : State} (h : ZX D cA s) (hW : s.WarmedH U.vm) : ZX D cA U := ⟨va_K.moved hW.alike h.1, va_AO.moved hW.alike h.2.1, va_AO.moved hW.alike h.2.2.1, fun q hq => va_Nw.warmM hW (h.2.2.2 q hq)⟩
theorem ZX.call {D : va_G} {cA : Nat → ClassId} {U : State} (h : ZX D cA U) (g : JFrame) (mk : MethodId) (a : Array Value) : ZX D cA (U.calling g mk a) :=
  ⟨va_K.moved (u := U) (U := U.calling g mk a) (Vm.Alike.refl U.vm) h.1, va_AO.moved (u := U) (U := U.calling g mk a) (Vm.Alike.refl U.vm) h.2.1, va_AO.moved (u := U) (U := U.calling g mk a) (Vm.Alike.refl U.vm) h.2.2.1, fun q hq => va_Nw.same (u := U) (U := U.calling g mk a) rfl rfl (h.2.2.2 q hq)⟩
/-- what is told of the String of words: kept at a call -/
def zZS (ZS : (Nat → Prop) → State → Nat → Prop) : Prop :=
  (∀ (A : Nat → Prop) (U : State) (b : Nat) (g : JFrame) (mk : MethodId) (a : Array Value), ZS A U b → ZS A (U.calling g mk a) b) ∧
  (∀ (A B : Nat → Prop) (s U : State) (b : Nat) (H : Heap) (locs : List Loc), ZS A s b → va_S A s.heap H locs → U.heap = H → s.WarmedH U.vm → (∀ q, B q → A q) → ZS B U b)
def zPc (D : va_G) (cA : Nat → ClassId) (ZS : (Nat → Prop) → State → Nat → Prop) (rh : Nat → Int32) (ad : Nat → Nat) (av : List Value) (cs : List ZC) (sz : Nat) : Array Value → State → Prop := va_Pc (av.map (zc rh ad)) (fun U => U.heap.size = sz ∧ va_P D zcl (zW cA rh ad cs) U.heap ∧ va_D (fun _ => True) (zW cA rh ad cs) ∧ ZX D cA U ∧ ZS (va_A (zW cA rh ad cs) sz) U (ad 1000000))
def zQc (D : va_G) (cA : Nat → ClassId) (rh : Nat → Int32) (ad : Nat → Nat) (n : Nat) (A : Nat → Prop) (rv : Option Value) (cs' : List ZC) : Array Value → State → Outcome → State → Prop := fun _ st oc t => (∃ ad' : Nat → Nat, oc = .returned (rv.map (zc rh ad')) ∧ zAg ad ad' n ∧ va_P D zcl (zW cA rh ad' cs') t.heap ∧ va_D A (zW cA rh ad' cs')) ∧ va_F A st t
theorem zPc_blind {D : va_G} {cA : Nat → ClassId} {ZS : (Nat → Prop) → State → Nat → Prop} (hZ : zZS ZS) {rh : Nat → Int32} {ad : Nat → Nat} {av : List Value} {cs : List ZC} {sz : Nat} : FrameBlind (zPc D cA ZS rh ad av cs sz) := fun a U g mk q => by
  obtain ⟨q0, q1, q2, q3, q4, q5⟩ := q
  exact ⟨q0, q1, q2, q3, q4.call g mk a, hZ.1 _ _ _ g mk a q5⟩
theorem zL_args {rh : Nat → Int32} {ad : Nat → Nat} : ∀ (vs : List Value) (i : Nat), zL rh ad (lv_args i vs) = lv_args i (vs.map (zc rh ad))
  | [], _ => rfl
  | v :: vs, i => by
    simp only [lv_args, zL, List.map_cons, zc_cat]
    congr 1
    exact zL_args vs _
theorem zlg_len {rh : Nat → Int32} {ad : Nat → Nat} : ∀ vs : List Value, (lg_sl (vs.map (zc rh ad))).length = (lg_sl vs).length
  | [] => rfl
  | v :: vs => by
    have ih := zlg_len (rh := rh) (ad := ad) vs
    simp only [lg_sl, List.map_cons, List.flatMap_cons, List.length_append, zc_cat] at ih ⊢
    rw [ih]
    congr 1
    by_cases h : v.category = 2 <;> simp [h]
variable {p : Program} {l : Launch} {e : Env} {R : Room} {s : State} {m : MethodId} {args : Array Value} {below : List Frame} {meth : Method} {c : Code} {H : Heap} {locs : List Loc} {mc ms : Nat} {Q : State → Prop}
variable {rh : Nat → Int32} {ad : Nat → Nat} {cA : Nat → ClassId} {D : va_G} {A : Nat → Prop} {cs cs' : List ZC} {pc : Nat} {ls : Array Slot} {st0 rest : List Value} {rv : Option Value} {mM' sM' : Nat} {a : Array Value} {free : Addr → Prop}
theorem z_cont (hr : va_Run p l e R s m args below meth c H locs mc ms mM' sM' (F0 m pc ls st0) rest (zQc D cA rh ad cs.length (va_A (zW cA rh ad cs) H.size) rv cs' a) free) (hS : va_S A s.heap H locs) (hF : ∀ q, va_A (zW cA rh ad cs) H.size q → A q) (hf : ∀ q, free q → A q)
    (kk : ∀ (ad' : Nat → Nat) (H1 : Heap) (locs1 : List Loc), zAg ad ad' cs.length → va_P D zcl (zW cA rh ad' cs') H1 → va_D A (zW cA rh ad' cs') → va_S A s.heap H1 locs1 → W p l e R s m args below meth c H1 locs1 (mc + mM') (ms + sM') Q (F0 m (pc + 3) ls ((rv.map (zc rh ad')).toList ++ rest))) : W p l e R s m args below meth c H locs mc ms Q (F0 m pc ls st0) := by
  intro T hT X
  obtain ⟨v, st₀, t, T', L, h0, X', hL, e1, e2, ⟨⟨ad', hv, hg, hp, hd⟩, hz, hk⟩, st⟩ := hr T hT X
  cases hv
  rw [h0] at hz hk
  obtain ⟨t2, a1, b1⟩ := kk ad' T'.heap (locs ++ L) hg (by rw [e1]; exact hp) (hd.weaken (fun _ q _ hq => hF _ hq))
    ⟨Nat.le_trans hS.1 (by rw [e1]; exact hz), fun q h1 h2 => by rw [e1, hk q (Nat.lt_of_lt_of_le h1 hS.1) (fun z => h2 (hF q z))]; exact hS.2.1 q h1 h2, fun q hq => by
      rcases List.mem_append.mp hq with h | h
      · exact hS.2.2 q h
      · exact hf _ (hL q h)⟩ T' rfl X'
  exact ⟨t2, st t2 a1, b1⟩
end ZFRM
end
section
/-! calls -/
section ZCL
theorem zsum_c {rh : Nat → Int32} {ad : Nat → Nat} (r : List Value) : ((r.map (zc rh ad)).map fun v => v.category).sum = zsum r := by
  unfold zsum
  rw [List.map_map]
  congr 1
  exact List.map_congr_left fun v _ => zc_cat rh ad v
theorem zcall_ok {mt : Nat → ZMI} {ih : ZF} {d j : Nat} {lw : Bool} {sl : ZL} {stop pc : Nat} {loc : ZL} {st : List Value} {cs : List ZC} {mc ms jj kd : Nat} {o : Option Value × List ZC} (h : zcall mt ih d j lw sl stop pc loc st cs mc ms jj kd = some o) :
    ∃ (d' : Nat) (av r : List Value) (rv : Option Value) (cs' : List ZC), d = d' + 1 ∧ zpop (bif Nat.beq kd 1 then (mt jj).2.2.2.2.2.2.2.1 else (mt jj).2.2.2.2.2.2.2.1 + 1) st [] = some (av, r) ∧ kd = (mt jj).2.2.2.2.1 ∧ (lg_sl av).length ≤ (mt jj).2.2.1 ∧ (mt jj).2.2.1 ≤ 21 ∧ zsum r ≤ 8 ∧ mc + (mt jj).2.2.2.2.2.1 ≤ (mt j).2.2.2.2.2.1 ∧ ms + (mt jj).2.2.2.2.2.2.1 ≤ (mt j).2.2.2.2.2.2.1 ∧ zwS cs.length r = true ∧ zwL cs.length loc = true ∧
      (kd ≠ 1 → ∃ (b : Nat) (as : List Value), av = .ref b :: as ∧ (kd = 0 → zisO cs (mt jj).2.2.2.2.2.2.2.2.1 (.ref b) = true)) ∧ ih d' jj false [] 0 0 (lv_args 0 av) [] cs 0 0 = some (rv, cs') ∧ rv.isSome = (mt jj).2.2.2.1.isSome ∧ cs.length ≤ cs'.length ∧ ih d j lw sl stop (pc + 3) loc (rv.toList ++ r) cs' (mc + (mt jj).2.2.2.2.2.1) (ms + (mt jj).2.2.2.2.2.2.1) = some o := by
  unfold zcall at h
  split at h
  · rename_i d' y0 c0 maxL ret kd' mM' sM' na ci E y1 c1 l1 r1 k1 mM sM n1 i1 E1 e1 e2
    split at h
    · rename_i av r hp
      obtain ⟨h1, h2⟩ := zbif h
      simp only [zln_eq, zwS'_eq, zwL'_eq, Bool.and_eq_true, decide_eq_true_eq] at h1
      obtain ⟨⟨a1, a2, a3⟩, ⟨b1, b2, b3⟩, ⟨c1', c2'⟩, d1⟩ := h1
      rw [e1, e2]
      dsimp only
      have hrec : kd ≠ 1 → ∃ (b : Nat) (as : List Value), av = .ref b :: as ∧ (kd = 0 → zisO cs ci (.ref b) = true) := by
        intro hk
        have hb : Nat.beq kd 1 = false := by
          cases hq : Nat.beq kd 1 with
          | false => rfl
          | true => exact absurd (Nat.eq_of_beq_eq_true hq) hk
        rw [hb, cond_false] at d1
        split at d1
        · rename_i b as
          refine ⟨b, as, rfl, fun h0 => ?_⟩
          rw [h0, show Nat.beq 0 0 = true from rfl, cond_true] at d1
          exact d1
        · cases d1
      split at h2
      · rename_i cs' hi
        obtain ⟨g1, g2⟩ := zbif h2
        rw [zfN_eq, zfN_eq, zfN_eq] at g2
        rw [zln_eq, zln_eq, Bool.and_eq_true] at g1
        refine ⟨d', av, r, none, cs', rfl, hp, Nat.eq_of_beq_eq_true a1, a2, a3, b1, b2, b3, c1', c2', hrec, hi, ?_, Nat.le_of_ble_eq_true g1.2, g2⟩
        cases ret
        · rfl
        · cases g1.1
      · rename_i v cs' hi
        obtain ⟨g1, g2⟩ := zbif h2
        rw [zfN_eq, zfN_eq, zfN_eq] at g2
        rw [zln_eq, zln_eq, Bool.and_eq_true] at g1
        refine ⟨d', av, r, some v, cs', rfl, hp, Nat.eq_of_beq_eq_true a1, a2, a3, b1, b2, b3, c1', c2', hrec, hi, ?_, Nat.le_of_ble_eq_true g1.2, g2⟩
        rw [g1.1]
        rfl
      · cases h2
    · cases h
  · cases h
/-- a frame of method j: what stays while it runs -/
def ZFr (Al : List Cond) (mt : Nat → ZMI) (bd : Nat → Int × Int) (rh : Nat → Int32) (ZS : (Nat → Prop) → State → Nat → Prop) (D : va_G) (cA : Nat → ClassId) (p : Program) (R : Room) (s : State) (m : MethodId) (args : Array Value) (meth : Method) (c : Code) (A : Nat → Prop) (ad : Nat → Nat) (d j : Nat) (lw : Bool) : Prop :=
  p.tables.exec = Jvm.exec ∧ c.code = (mt j).2.1 ∧ c.maxLocals = (mt j).2.2.1 ∧ meth.name = (mt j).1.name ∧ s.vm.findClass (mt j).1.cls = some m.cls ∧ (∀ w ∈ Al, w.before args s = true) ∧ zEok Al mt (mt j) ∧ ZX D cA s ∧ ZS A s (ad 1000000) ∧ (∀ q, s.heap.size ≤ q → A q) ∧ d ≤ R.frames ∧ 40 * d ≤ R.locals ∧ (mt j).2.2.2.2.2.1 ≤ R.cells ∧ (mt j).2.2.2.2.2.2.1 ≤ R.slots ∧ (zlw bd lw = true → va_X (ad 1000001) 7 rh s s.heap ∧ ad 1000001 < s.heap.size ∧ ¬ A (ad 1000001))
theorem ZFr.ag {Al : List Cond} {mt : Nat → ZMI} {bd : Nat → Int × Int} {rh : Nat → Int32} {ZS : (Nat → Prop) → State → Nat → Prop} {D : va_G} {cA : Nat → ClassId} {p : Program} {R : Room} {s : State} {m : MethodId} {args : Array Value} {meth : Method} {c : Code} {A : Nat → Prop} {ad ad' : Nat → Nat} {d j n : Nat} {lw : Bool} (h : ZFr Al mt bd rh ZS D cA p R s m args meth c A ad d j lw) (hA : zAg ad ad' n) : ZFr Al mt bd rh ZS D cA p R s m args meth c A ad' d j lw := by
  obtain ⟨h1, h2, h3, h4, h5, h6, h7, h8, h9, h10⟩ := h
  refine ⟨h1, h2, h3, h4, h5, h6, h7, h8, ?_, ?_⟩
  · rw [hA 1000000 (Or.inr (Nat.le_refl _))]; exact h9
  · rw [hA 1000001 (Or.inr (by omega))]; exact h10
/-- where a run ends: at the stop, or at a return -/
def zfin (M : ZMI) (lw : Bool) (sl : ZL) (stop pc' : Nat) (loc' : ZL) (st' : List Value) (rv : Option Value) (mc' ms' : Nat) : Prop :=
  (lw = true ∧ pc' = stop ∧ st' = [] ∧ loc' = sl ∧ rv = none ∧ mc' ≤ 1000 ∧ ms' ≤ 200000) ∨ (∃ v : Value, st' = [v] ∧ rv = some v ∧ decode M.2.1 pc' = .ok (.ireturn, 1) ∧ zisI v = true ∧ mc' ≤ M.2.2.2.2.2.1 ∧ ms' ≤ M.2.2.2.2.2.2.1 ∧ (M.2.2.2.1 = some .int ∨ (M.2.2.2.1 = some .boolean ∧ zisB v = true))) ∨ (st' = [] ∧ rv = none ∧ decode M.2.1 pc' = .ok (.return_, 1) ∧ mc' ≤ M.2.2.2.2.2.1 ∧ ms' ≤ M.2.2.2.2.2.2.1 ∧ M.2.2.2.1 = none)
/-- what a run of n steps says of the machine -/
def ZSnd (l : Launch) (Al : List Cond) (mt : Nat → ZMI) (bd : Nat → Int × Int) (rh : Nat → Int32) (ZS : (Nat → Prop) → State → Nat → Prop) (D : va_G) (cA : Nat → ClassId) (n : Nat) : Prop :=
  ∀ (d j : Nat) (lw : Bool) (sl : ZL) (stop pc : Nat) (loc : ZL) (st : List Value) (cs : List ZC) (mc ms : Nat) (rv : Option Value) (cs' : List ZC), zrun mt bd n d j lw sl stop pc loc st cs mc ms = some (rv, cs') →
  ∀ (p : Program) (e : Env) (R : Room) (s : State) (m : MethodId) (args : Array Value) (below : List Frame) (meth : Method) (c : Code) (H : Heap) (locs : List Loc) (Q : State → Prop) (ad : Nat → Nat) (ls : Array Slot) (A : Nat → Prop),
    ZFr Al mt bd rh ZS D cA p R s m args meth c A ad d j lw → mc ≤ (mt j).2.2.2.2.2.1 → ms ≤ (mt j).2.2.2.2.2.2.1 → va_P D zcl (zW cA rh ad cs) H → va_D A (zW cA rh ad cs) → va_S A s.heap H locs → lv_has ls (mt j).2.2.1 (zL rh ad loc) →
    (∀ (ad' : Nat → Nat) (H' : Heap) (locs' : List Loc) (ls' : Array Slot) (mc' ms' pc' : Nat) (loc' : ZL) (st' : List Value), zAg ad ad' cs.length → va_P D zcl (zW cA rh ad' cs') H' → va_D A (zW cA rh ad' cs') → va_S A s.heap H' locs' → lv_has ls' (mt j).2.2.1 (zL rh ad' loc') → zfin (mt j) lw sl stop pc' loc' st' rv mc' ms' → W p l e R s m args below meth c H' locs' mc' ms' Q (F0 m pc' ls' (st'.map (zc rh ad')))) →
    W p l e R s m args below meth c H locs mc ms Q (F0 m pc ls (st.map (zc rh ad)))
def zrm (M : ZMI) (d : Nat) : Room := { frames := d, cells := M.2.2.2.2.2.1, slots := M.2.2.2.2.2.2.1, locals := 40 * d }
set_option maxHeartbeats 2000000 in
/-- a method's contract out of its run -/
theorem zmet {l : Launch} {Al : List Cond} {mt : Nat → ZMI} {bd : Nat → Int × Int} {rh : Nat → Int32} {ZS : (Nat → Prop) → State → Nat → Prop} {D : va_G} {cA : Nat → ClassId} {n : Nat} (hS : ZSnd l Al mt bd rh ZS D cA n) {d j : Nat} (hM : zMok Al (mt j)) (hEk : zEok Al mt (mt j)) {av : List Value} {cs cs' : List ZC} {rv : Option Value} (hlen : (lg_sl av).length ≤ (mt j).2.2.1)
    (h : zrun mt bd n d j false [] 0 0 (lv_args 0 av) [] cs 0 0 = some (rv, cs')) (ad : Nat → Nat) (sz : Nat) :
    Met l (mt j).1 (Cond.code (mt j).1 (mt j).2.1 (mt j).2.2.1 (mt j).2.2.2.1 :: Al) (zrm (mt j) d) (zPc D cA ZS rh ad av cs sz) (zQc D cA rh ad cs.length (va_A (zW cA rh ad cs) sz) rv cs') (mt j).2.2.2.2.2.1 (mt j).2.2.2.2.2.2.1 (va_A (zW cA rh ad cs) sz) := by
  refine Met.ofW (cc := (mt j).2.1) (maxL := (mt j).2.2.1) (ret := (mt j).2.2.2.1) hM.1 rfl ?_
  intro p e s m args below meth c s₁ B hml hv
  obtain ⟨rfl, hsz, hP, hD0, hX, hZ⟩ := hv
  have hts := atoms_spec (ws := Cond.code (mt j).1 (mt j).2.1 (mt j).2.2.1 (mt j).2.2.2.1 :: Al) B.pre
  have hown : s.vm.findClass (mt j).1.cls = some m.cls := findClass_of_methodNamed B.named
  have hname : meth.name = (mt j).1.name := (name_of_methodNamed B.named B.method).1
  have hlocks := B.notSynchronized
  have hr := B.returns
  subst hsz
  have hD := hD0.self (sz := s.heap.size)
  have hl := lv_entry (av.map (zc rh ad)) (n := (mt j).2.2.1) (by rw [zlg_len]; exact hlen)
  rw [lg_entry_eq]
  rw [← zL_args] at hl
  refine hS d j false [] 0 0 _ [] cs 0 0 rv cs' h p e _ s m _ below meth c s.heap [] _ ad _ (va_A (zW cA rh ad cs) s.heap.size) ⟨B.exec, B.bytes, hml, hname, hown, fun w hw => hts w (List.mem_cons_of_mem _ hw), hEk, hX, hZ, fun q h => Or.inr h, Nat.le_refl _, Nat.le_refl _, Nat.le_refl _, Nat.le_refl _, fun h => by cases h⟩ (Nat.zero_le _) (Nat.zero_le _) hP hD va_S.rf hl ?_
  intro ad' H' locs' ls' mc' ms' pc' loc' st' g1 g2 g3 g4 g5 g6
  rcases g6 with ⟨z, -⟩ | ⟨v, rfl, rfl, q3, q4, q5, q6, q7⟩ | ⟨rfl, rfl, q3, q5, q6, q7⟩
  · cases z
  · refine W.widen q5 q6 ?_
    obtain ⟨x, ex⟩ := zisI_ok (rh := rh) (ad := ad') q4
    rw [List.map_cons, List.map_nil, ex]
    rcases q7 with q7 | ⟨q7, q8⟩
    · exact W.iret B.exec B.bytes (hr.trans q7) (fun t ht hW => ⟨⟨ad', by rw [Option.map_some, ex], g1, by rw [ht]; exact g2, g3⟩, g4.F ht⟩) g4.2.2 q3
    · refine W.zret B.exec B.bytes (hr.trans q7) ?_ (fun t ht hW => ⟨⟨ad', by rw [Option.map_some, ex], g1, by rw [ht]; exact g2, g3⟩, g4.F ht⟩) g4.2.2 q3
      have h8 := zfit_ok (rh := rh) (ad := ad') (ty := .boolean) (v := v) (by cases v <;> first | exact q8 | (cases q8; done))
      rw [ex] at h8
      exact h8.1
  · refine W.widen q5 q6 ?_
    exact W.vret B.exec B.bytes (hr.trans q7) (fun t ht hW => ⟨⟨ad', rfl, g1, by rw [ht]; exact g2, g3⟩, g4.F ht⟩) g4.2.2 q3
end ZCL
end
section
/-! a call of a method with a number -/
section ZCK
variable {p : Program} {l : Launch} {e : Env} {R : Room} {s : State} {m : MethodId} {args : Array Value} {below : List Frame} {meth : Method} {c : Code} {H : Heap} {locs : List Loc} {mc ms : Nat} {Q : State → Prop}
variable {Al : List Cond} {mt : Nat → ZMI} {bd : Nat → Int × Int} {rh : Nat → Int32} {ZS : (Nat → Prop) → State → Nat → Prop} {D : va_G} {cA : Nat → ClassId} {ad : Nat → Nat} {A : Nat → Prop} {cs : List ZC} {n d j pc : Nat} {lw : Bool} {sl : ZL} {stop : Nat} {loc : ZL} {st : List Value} {ls : Array Slot} {rv0 : Option Value} {cs0 : List ZC}
theorem zgoodIn (hg : zGood Al) {w : Cond} (hw : w ∈ Al) : GoodIn Al (w :: Al) := fun v hv => by
  rcases List.mem_cons.mp hv with rfl | h
  · exact ⟨hw, hg _ hw⟩
  · exact ⟨h, hg _ h⟩
theorem zpre (hZ : zZS ZS) (hX : ZX D cA s) (hZS : ZS A s (ad 1000000)) (hP : va_P D zcl (zW cA rh ad cs) H) (hD : va_D A (zW cA rh ad cs)) (hS : va_S A s.heap H locs) (hA : ∀ q, s.heap.size ≤ q → A q) (av : List Value) (U : State) (hU : U.heap = H) (hW : s.WarmedH U.vm) : zPc D cA ZS rh ad av cs H.size (av.map (zc rh ad)).toArray U := by
  have hF : ∀ q, va_A (zW cA rh ad cs) H.size q → A q := by
    intro q hq
    rcases hq with ⟨k, e, h⟩ | h
    · exact hD.2 k _ h
    · exact hA q (Nat.le_trans hS.1 h)
  exact ⟨rfl, by rw [hU], by rw [hU]; exact hP, hD.weaken (fun _ _ _ _ => trivial), hX.warm hW, hZ.2 A _ s U _ H locs hZS hS hU hW hF⟩
set_option maxHeartbeats 2000000 in
/-- the call itself is told by 'mk'; behind it the run goes on -/
theorem z_call (hI : ZSnd l Al mt bd rh ZS D cA n) (hMa : ∀ i, (mt i).2.2.2.2.1 ≤ 2 → zMok Al (mt i)) (hEa : ∀ i, zEok Al mt (mt i)) {jj kd : Nat} (hk2 : kd ≤ 2) (hf : ZFr Al mt bd rh ZS D cA p R s m args meth c A ad d j lw)
    (hP : va_P D zcl (zW cA rh ad cs) H) (hD : va_D A (zW cA rh ad cs)) (hS : va_S A s.heap H locs) (hl : lv_has ls (mt j).2.2.1 (zL rh ad loc))
    (h : zcall mt (zrun mt bd n) d j lw sl stop pc loc st cs mc ms jj kd = some (rv0, cs0))
    (mk : ∀ (d' : Nat) (av r : List Value) (rv : Option Value) (cs' : List ZC), d = d' + 1 → st = av.reverse ++ r → av.length = (bif Nat.beq kd 1 then (mt jj).2.2.2.2.2.2.2.1 else (mt jj).2.2.2.2.2.2.2.1 + 1) → kd = (mt jj).2.2.2.2.1 → (mt jj).2.2.1 ≤ 21 → zsum r ≤ 8 → mc + (mt jj).2.2.2.2.2.1 ≤ R.cells ∧ ms + (mt jj).2.2.2.2.2.2.1 ≤ R.slots →
      (kd ≠ 1 → ∃ (b : Nat) (as : List Value), av = .ref b :: as ∧ (kd = 0 → zisO cs (mt jj).2.2.2.2.2.2.2.2.1 (.ref b) = true)) →
      Met l (mt jj).1 (Cond.code (mt jj).1 (mt jj).2.1 (mt jj).2.2.1 (mt jj).2.2.2.1 :: Al) (zrm (mt jj) d') (zPc D cA ZS rh ad av cs H.size) (zQc D cA rh ad cs.length (va_A (zW cA rh ad cs) H.size) rv cs') (mt jj).2.2.2.2.2.1 (mt jj).2.2.2.2.2.2.1 (va_A (zW cA rh ad cs) H.size) →
      va_Run p l e R s m args below meth c H locs mc ms (mt jj).2.2.2.2.2.1 (mt jj).2.2.2.2.2.2.1 (F0 m pc ls (st.map (zc rh ad))) (r.map (zc rh ad)) (zQc D cA rh ad cs.length (va_A (zW cA rh ad cs) H.size) rv cs' (av.map (zc rh ad)).toArray) (va_A (zW cA rh ad cs) H.size))
    (kk : ∀ (ad' : Nat → Nat) (H' : Heap) (locs' : List Loc) (ls' : Array Slot) (mc' ms' pc' : Nat) (loc' : ZL) (st' : List Value), zAg ad ad' cs.length → va_P D zcl (zW cA rh ad' cs0) H' → va_D A (zW cA rh ad' cs0) → va_S A s.heap H' locs' → lv_has ls' (mt j).2.2.1 (zL rh ad' loc') → zfin (mt j) lw sl stop pc' loc' st' rv0 mc' ms' → W p l e R s m args below meth c H' locs' mc' ms' Q (F0 m pc' ls' (st'.map (zc rh ad')))) :
    W p l e R s m args below meth c H locs mc ms Q (F0 m pc ls (st.map (zc rh ad))) := by
  obtain ⟨d', av, r, rv, cs', e1, e2, e3, e4, e5, e6, e7, e8, e9, e10, e11, e12, e13, e14, e15⟩ := zcall_ok h
  obtain ⟨p1, p2⟩ := zpop_ok0 e2
  have hA := hf.2.2.2.2.2.2.2.2.2.1
  have hRc := hf.2.2.2.2.2.2.2.2.2.2.2.2.1
  have hRs := hf.2.2.2.2.2.2.2.2.2.2.2.2.2.1
  have hF : ∀ q, va_A (zW cA rh ad cs) H.size q → A q := by
    intro q hq
    rcases hq with ⟨k, e, h⟩ | h
    · exact hD.2 k _ h
    · exact hA q (Nat.le_trans hS.1 h)
  have hm := zmet hI (hMa jj (e3 ▸ hk2)) (hEa jj) e4 e12 ad H.size
  refine z_cont (mk d' av r rv cs' e1 p1 p2 e3 e5 e6 ⟨Nat.le_trans e7 hRc, Nat.le_trans e8 hRs⟩ e11 hm) hS hF hF (fun ad' H1 locs1 g1 g2 g3 g4 => ?_)
  have h9 := hI d j lw sl stop (pc + 3) loc (rv.toList ++ r) cs' (mc + (mt jj).2.2.2.2.2.1) (ms + (mt jj).2.2.2.2.2.2.1) rv0 cs0 e15 p e R s m args below meth c H1 locs1 Q ad' ls A (hf.ag g1) e7 e8 g2 g3 g4 (by rw [zw_l e10 g1]; exact hl) (fun ad'' H' locs' ls' mc' ms' pc' loc' st' k1 k2 k3 k4 k5 k6 => kk ad'' H' locs' ls' mc' ms' pc' loc' st' (g1.trans k1 e14) k2 k3 k4 k5 k6)
  rw [List.map_append, zw_s e9 g1] at h9
  have e16 : (rv.map (zc rh ad')).toList = rv.toList.map (zc rh ad') := by cases rv <;> rfl
  rw [e16]
  exact h9
theorem zcallB (hg : zGood Al) {jj d' : Nat} (hM : zMok Al (mt jj)) (hts : ∀ w ∈ Al, w.before args s = true) (h21 : (mt jj).2.2.1 ≤ 21) (hfr : d' + 1 ≤ R.frames) (hlo : 40 * (d' + 1) ≤ R.locals) {own : String} {idx : Nat} (hlink : Cond.methodLink own idx (mt jj).1 ∈ Al) {ret : Option FieldType} (hret : (mt jj).2.2.2.1 = ret) :
    CallB R s args own idx (mt jj).1 (mt jj).2.1 (mt jj).2.2.1 ret (Cond.code (mt jj).1 (mt jj).2.1 (mt jj).2.2.1 (mt jj).2.2.2.1 :: Al) (zrm (mt jj) d') (mt jj).2.2.2.2.2.1 (mt jj).2.2.2.2.2.2.1 (mt jj).2.2.2.2.2.2.2.1 := by
  obtain ⟨m1, m2, m3, m4, -⟩ := hM
  exact callB_of _ hts (zgoodIn hg m2) (by rw [hret]) rfl rfl (hts _ m3) (hts _ hlink) m4 ⟨hfr, by show 8 + (_ + 11) + 40 * d' ≤ _; omega⟩
set_option maxHeartbeats 2000000 in
theorem z_runV (hg : zGood Al) (hZ : zZS ZS) (hMa : ∀ i, (mt i).2.2.2.2.1 ≤ 2 → zMok Al (mt i)) (hf : ZFr Al mt bd rh ZS D cA p R s m args meth c A ad d j lw)
    (hP : va_P D zcl (zW cA rh ad cs) H) (hD : va_D A (zW cA rh ad cs)) (hS : va_S A s.heap H locs) (hl : lv_has ls (mt j).2.2.1 (zL rh ad loc)) {idx jj : Nat} (hdg : decode (mt j).2.1 pc = .ok (.invokevirtual idx, 3)) (hlink : Cond.methodLink (mt j).1.cls idx (mt jj).1 ∈ Al) :
    ∀ (d' : Nat) (av r : List Value) (rv : Option Value) (cs' : List ZC), d = d' + 1 → st = av.reverse ++ r → av.length = (bif Nat.beq 0 1 then (mt jj).2.2.2.2.2.2.2.1 else (mt jj).2.2.2.2.2.2.2.1 + 1) → 0 = (mt jj).2.2.2.2.1 → (mt jj).2.2.1 ≤ 21 → zsum r ≤ 8 → mc + (mt jj).2.2.2.2.2.1 ≤ R.cells ∧ ms + (mt jj).2.2.2.2.2.2.1 ≤ R.slots →
      (0 ≠ 1 → ∃ (b : Nat) (as : List Value), av = .ref b :: as ∧ (0 = 0 → zisO cs (mt jj).2.2.2.2.2.2.2.2.1 (.ref b) = true)) →
      Met l (mt jj).1 (Cond.code (mt jj).1 (mt jj).2.1 (mt jj).2.2.1 (mt jj).2.2.2.1 :: Al) (zrm (mt jj) d') (zPc D cA ZS rh ad av cs H.size) (zQc D cA rh ad cs.length (va_A (zW cA rh ad cs) H.size) rv cs') (mt jj).2.2.2.2.2.1 (mt jj).2.2.2.2.2.2.1 (va_A (zW cA rh ad cs) H.size) →
      va_Run p l e R s m args below meth c H locs mc ms (mt jj).2.2.2.2.2.1 (mt jj).2.2.2.2.2.2.1 (F0 m pc ls (st.map (zc rh ad))) (r.map (zc rh ad)) (zQc D cA rh ad cs.length (va_A (zW cA rh ad cs) H.size) rv cs' (av.map (zc rh ad)).toArray) (va_A (zW cA rh ad cs) H.size) := by
  intro d' av r rv cs' e1 e2 e3 e4 e5 e6 e7 e8 hm
  obtain ⟨b, as, rfl, hb⟩ := e8 (by decide)
  obtain ⟨f1, f2, f3, f4, f5, f6, f7, f8, f9, f10, f11, f12, f13, f14, f15⟩ := hf
  have hM := hMa jj (by omega)
  have hM' := hM
  obtain ⟨m1, m2, m3, m4, ⟨q, q1, q2⟩, m6, m7, m8⟩ := hM'
  obtain ⟨i1, i2⟩ := m6 e4.symm
  subst e1
  have hO := hb rfl
  simp only [zisO] at hO
  split at hO
  · rename_i cj fs hz
    have ec := Nat.eq_of_beq_eq_true hO
    subst ec
    obtain ⟨cell, r1, r2, r3⟩ := va_recv f8.1 hP q1 (zW_get hz)
    rw [q2] at r3
    refine va_runV (S := ⟨f1, f2, f3, f5, f6⟩) hm (b := ad b) (As := as.map (zc rh ad)) ⟨zcallB hg hM f6 e5 f11 f12 hlink rfl, f6 _ i1, f6 _ i2⟩ ⟨zPc_blind hZ, ⟨cell, r1, r2, r3⟩, fun U hU hW => zpre hZ f8 f9 hP hD hS f10 (.ref b :: as) U hU hW⟩ rfl (by rw [List.length_map]; exact Nat.succ.inj e3) hl.1 ?_ (lv_room (by rw [zsum_c]; exact e6)) hdg e7
    rw [e2]
    simp [F0, zc, List.map_reverse]
  · cases hO
set_option maxHeartbeats 2000000 in
theorem z_runS (hg : zGood Al) (hZ : zZS ZS) (hMa : ∀ i, (mt i).2.2.2.2.1 ≤ 2 → zMok Al (mt i)) (hf : ZFr Al mt bd rh ZS D cA p R s m args meth c A ad d j lw)
    (hP : va_P D zcl (zW cA rh ad cs) H) (hD : va_D A (zW cA rh ad cs)) (hS : va_S A s.heap H locs) (hl : lv_has ls (mt j).2.2.1 (zL rh ad loc)) {idx jj : Nat} (hdg : decode (mt j).2.1 pc = .ok (.invokestatic idx, 3)) (hlink : Cond.methodLink (mt j).1.cls idx (mt jj).1 ∈ Al) :
    ∀ (d' : Nat) (av r : List Value) (rv : Option Value) (cs' : List ZC), d = d' + 1 → st = av.reverse ++ r → av.length = (bif Nat.beq 1 1 then (mt jj).2.2.2.2.2.2.2.1 else (mt jj).2.2.2.2.2.2.2.1 + 1) → 1 = (mt jj).2.2.2.2.1 → (mt jj).2.2.1 ≤ 21 → zsum r ≤ 8 → mc + (mt jj).2.2.2.2.2.1 ≤ R.cells ∧ ms + (mt jj).2.2.2.2.2.2.1 ≤ R.slots →
      (1 ≠ 1 → ∃ (b : Nat) (as : List Value), av = .ref b :: as ∧ (1 = 0 → zisO cs (mt jj).2.2.2.2.2.2.2.2.1 (.ref b) = true)) →
      Met l (mt jj).1 (Cond.code (mt jj).1 (mt jj).2.1 (mt jj).2.2.1 (mt jj).2.2.2.1 :: Al) (zrm (mt jj) d') (zPc D cA ZS rh ad av cs H.size) (zQc D cA rh ad cs.length (va_A (zW cA rh ad cs) H.size) rv cs') (mt jj).2.2.2.2.2.1 (mt jj).2.2.2.2.2.2.1 (va_A (zW cA rh ad cs) H.size) →
      va_Run p l e R s m args below meth c H locs mc ms (mt jj).2.2.2.2.2.1 (mt jj).2.2.2.2.2.2.1 (F0 m pc ls (st.map (zc rh ad))) (r.map (zc rh ad)) (zQc D cA rh ad cs.length (va_A (zW cA rh ad cs) H.size) rv cs' (av.map (zc rh ad)).toArray) (va_A (zW cA rh ad cs) H.size) := by
  intro d' av r rv cs' e1 e2 e3 e4 e5 e6 e7 e8 hm
  obtain ⟨f1, f2, f3, f4, f5, f6, f7, f8, f9, f10, f11, f12, f13, f14, f15⟩ := hf
  have hM := hMa jj (by omega)
  have hM' := hM
  obtain ⟨m1, m2, m3, m4, ⟨q, q1, q2⟩, m6, m7, m8⟩ := hM'
  have i1 := m7 e4.symm
  subst e1
  refine va_runS (S := ⟨f1, f2, f3, f5, f6⟩) hm (As := av.map (zc rh ad)) ⟨zcallB hg hM f6 e5 f11 f12 hlink rfl, f6 _ i1⟩ ⟨zPc_blind hZ, fun U hU hW => zpre hZ f8 f9 hP hD hS f10 av U hU hW⟩ rfl (by rw [List.length_map]; exact e3) hl.1 ?_ (lv_room (by rw [zsum_c]; exact e6)) hdg e7
  rw [e2]
  simp [F0, List.map_reverse]
set_option maxHeartbeats 2000000 in
theorem z_runI (hg : zGood Al) (hZ : zZS ZS) (hMa : ∀ i, (mt i).2.2.2.2.1 ≤ 2 → zMok Al (mt i)) (hf : ZFr Al mt bd rh ZS D cA p R s m args meth c A ad d j lw)
    (hP : va_P D zcl (zW cA rh ad cs) H) (hD : va_D A (zW cA rh ad cs)) (hS : va_S A s.heap H locs) (hl : lv_has ls (mt j).2.2.1 (zL rh ad loc)) {idx jj : Nat} (hdg : decode (mt j).2.1 pc = .ok (.invokespecial idx, 3)) (hlink : Cond.methodLink (mt j).1.cls idx (mt jj).1 ∈ Al ∨ ((mt j).1.cls, idx, (mt jj).1) ∈ znl) :
    ∀ (d' : Nat) (av r : List Value) (rv : Option Value) (cs' : List ZC), d = d' + 1 → st = av.reverse ++ r → av.length = (bif Nat.beq 2 1 then (mt jj).2.2.2.2.2.2.2.1 else (mt jj).2.2.2.2.2.2.2.1 + 1) → 2 = (mt jj).2.2.2.2.1 → (mt jj).2.2.1 ≤ 21 → zsum r ≤ 8 → mc + (mt jj).2.2.2.2.2.1 ≤ R.cells ∧ ms + (mt jj).2.2.2.2.2.2.1 ≤ R.slots →
      (2 ≠ 1 → ∃ (b : Nat) (as : List Value), av = .ref b :: as ∧ (2 = 0 → zisO cs (mt jj).2.2.2.2.2.2.2.2.1 (.ref b) = true)) →
      Met l (mt jj).1 (Cond.code (mt jj).1 (mt jj).2.1 (mt jj).2.2.1 (mt jj).2.2.2.1 :: Al) (zrm (mt jj) d') (zPc D cA ZS rh ad av cs H.size) (zQc D cA rh ad cs.length (va_A (zW cA rh ad cs) H.size) rv cs') (mt jj).2.2.2.2.2.1 (mt jj).2.2.2.2.2.2.1 (va_A (zW cA rh ad cs) H.size) →
      va_Run p l e R s m args below meth c H locs mc ms (mt jj).2.2.2.2.2.1 (mt jj).2.2.2.2.2.2.1 (F0 m pc ls (st.map (zc rh ad))) (r.map (zc rh ad)) (zQc D cA rh ad cs.length (va_A (zW cA rh ad cs) H.size) rv cs' (av.map (zc rh ad)).toArray) (va_A (zW cA rh ad cs) H.size) := by
  intro d' av r rv cs' e1 e2 e3 e4 e5 e6 e7 e8 hm
  obtain ⟨b, as, rfl, hb⟩ := e8 (by decide)
  obtain ⟨f1, f2, f3, f4, f5, f6, f7, f8, f9, f10, f11, f12, f13, f14, f15⟩ := hf
  have hM := hMa jj (by omega)
  have hM' := hM
  obtain ⟨m1, m2, m3, m4, ⟨q, q1, q2⟩, m6, m7, m8⟩ := hM'
  obtain ⟨i1, i2, i3⟩ := m8 e4.symm
  subst e1
  have hst : (F0 m pc ls (st.map (zc rh ad))).stack = (as.map (zc rh ad)).reverse ++ .ref (ad b) :: r.map (zc rh ad) := by
    rw [e2]
    simp [F0, zc, List.map_reverse]
  rcases hlink with hlink | hlink
  · exact va_runI (S := ⟨f1, f2, f3, f5, f6⟩) hm (b := ad b) (As := as.map (zc rh ad)) ⟨zcallB hg hM f6 e5 f11 f12 hlink i3, i1, f6 _ i2⟩ ⟨zPc_blind hZ, fun U hU hW => zpre hZ f8 f9 hP hD hS f10 (.ref b :: as) U hU hW⟩ rfl (by rw [List.length_map]; exact Nat.succ.inj e3) hl.1 hst (lv_room (by rw [zsum_c]; exact e6)) hdg e7
  · exact va_runIN (S := ⟨f1, f2, f3, f5, f6⟩) hm (b := ad b) (As := as.map (zc rh ad)) ⟨va_cnB _ f6 (zgoodIn hg m2) (by rw [i3]) rfl rfl (f8.2.2.2 _ hlink) (f6 _ m3) m4 ⟨f11, by show 8 + (_ + 11) + 40 * d' ≤ _; omega⟩, i1, f6 _ i2⟩ ⟨zPc_blind hZ, fun U hU hW => zpre hZ f8 f9 hP hD hS f10 (.ref b :: as) U hU hW⟩ rfl (by rw [List.length_map]; exact Nat.succ.inj e3) hl.1 hst (lv_room (by rw [zsum_c]; exact e6)) hdg e7
end ZCK
end
section
/-! every run is the machine's -/
section ZST
/-- the String of words: its length, its signs, its address -/
def zJ (l : Launch) (Al : List Cond) (ZS : (Nat → Prop) → State → Nat → Prop) : Prop :=
  ∀ (p : Program) (e : Env) (R : Room) (s : State) (m : MethodId) (args : Array Value) (below : List Frame) (meth : Method) (c : Code) (H : Heap) (locs : List Loc) (mc ms : Nat) (Q : State → Prop) (cc : ByteArray) (pc : Nat) (ls : Array Slot) (rest : List Value) (own : String) (A : Nat → Prop) (b : Nat),
    p.tables.exec = Jvm.exec → c.code = cc → c.maxLocals = ls.size → s.vm.findClass own = some m.cls → (∀ w ∈ Al, w.before args s = true) → ZS A s b → va_S A s.heap H locs → (∀ q, s.heap.size ≤ q → A q) → 4 ≤ R.frames → 160 ≤ R.locals → mc ≤ R.cells → ms ≤ R.slots → (rest.map fun v => v.category).sum ≤ 8 →
    (∀ idx : Nat, Cond.methodLink own idx zyLen ∈ Al → decode cc pc = .ok (.invokevirtual idx, 3) → W p l e R s m args below meth c H locs mc ms Q (F0 m (pc + 3) ls (.int (nI zchars.length) :: rest)) → W p l e R s m args below meth c H locs mc ms Q (F0 m pc ls (.ref b :: rest))) ∧
    (∀ (idx : Nat) (y : Int32), Cond.methodLink own idx zyChr ∈ Al → vp_in y zchars.length → decode cc pc = .ok (.invokevirtual idx, 3) → W p l e R s m args below meth c H locs mc ms Q (F0 m (pc + 3) ls (.int (nI (zchars.getD y.toNatClampNeg 0)) :: rest)) → W p l e R s m args below meth c H locs mc ms Q (F0 m pc ls (.int y :: .ref b :: rest))) ∧
    (own = RX10 → decode cc pc = .ok (.ldc 19, 2) → W p l e R s m args below meth c H locs mc ms Q (F0 m (pc + 2) ls (.ref b :: rest)) → W p l e R s m args below meth c H locs mc ms Q (F0 m pc ls rest))
/-- the law's own 'orders' -/
def zJO (l : Launch) (Al : List Cond) (mt : Nat → ZMI) (bd : Nat → Int × Int) (rh : Nat → Int32) (ZS : (Nat → Prop) → State → Nat → Prop) (D : va_G) (cA : Nat → ClassId) : Prop :=
  ∀ (p : Program) (e : Env) (R : Room) (s : State) (m : MethodId) (args : Array Value) (below : List Frame) (meth : Method) (c : Code) (H : Heap) (locs : List Loc) (mc ms : Nat) (Q : State → Prop) (pc : Nat) (ls : Array Slot) (rest : List Value) (A : Nat → Prop) (ad : Nat → Nat) (d j : Nat) (cs : List ZC) (a o idx x2 : Nat),
    ZFr Al mt bd rh ZS D cA p R s m args meth c A ad d j true → 10 ≤ d → va_P D zcl (zW cA rh ad cs) H → va_D A (zW cA rh ad cs) → va_S A s.heap H locs → ls.size = (mt j).2.2.1 → mc + 100 ≤ R.cells → ms + 10000 ≤ R.slots → (rest.map fun v => v.category).sum ≤ 8 → zord cs a = true → decode (mt j).2.1 pc = .ok (.invokestatic idx, 3) → zwi Al mt (mt j).1.cls (.invokestatic idx) 8 x2 →
    (∀ (H1 : Heap) (locs1 : List Loc), va_P D zcl (zW cA rh ad cs) H1 → va_D A (zW cA rh ad cs) → va_S A s.heap H1 locs1 → W p l e R s m args below meth c H1 locs1 (mc + 100) (ms + 10000) Q (F0 m (pc + 3) ls (.int 1 :: rest))) → W p l e R s m args below meth c H locs mc ms Q (F0 m pc ls (.ref (ad o) :: .ref (ad a) :: rest))
theorem vp_cell_cpy {cI : ClassId} {n : Nat} {f g : Nat → Int32} : vp_cell cI (n, .inl (va_cpy f g 0 0 n)) = vp_cell cI (n, .inl f) := by
  rw [vp_cell_i, vp_cell_i]
  unfold arrV
  congr 1
  congr 1
  funext j
  unfold va_cpy
  dsimp only
  rw [if_pos ⟨Nat.zero_le _, by omega⟩]
  simp
theorem zP_cpy {D : va_G} {ws : va_W} {H : Heap} {q1 a : Nat} {c1 : ClassId} {n : Nat} {f g : Nat → Int32} (h : va_P D zcl (ws.set q1 (a, .inl (c1, n, .inl (va_cpy f g 0 0 n)))) H) : va_P D zcl (ws.set q1 (a, .inl (c1, n, .inl f))) H := by
  intro k q hq
  by_cases e : q1 = k
  · subst e
    by_cases hk : q1 < ws.length
    · rw [List.getElem?_set_self hk] at hq
      cases hq
      have h1 := h q1 _ (List.getElem?_set_self hk)
      show H[a]? = some (vp_cell c1 (n, .inl f))
      rw [← vp_cell_cpy (g := g)]
      exact h1
    · rw [List.getElem?_eq_none (by rw [List.length_set]; omega)] at hq
      cases hq
  · rw [List.getElem?_set_ne e] at hq
    exact h k q (by rw [List.getElem?_set_ne e]; exact hq)
theorem zD_set {A : Nat → Prop} {ws : va_W} {q1 a : Nat} {e0 e1 : va_E} (h : va_D A (ws.set q1 (a, e0))) : va_D A (ws.set q1 (a, e1)) := by
  have key : ∀ (k : Nat) (q : Nat × va_E), (ws.set q1 (a, e1))[k]? = some q → ∃ e2, (ws.set q1 (a, e0))[k]? = some (q.1, e2) := by
    intro k q hq
    by_cases e : q1 = k
    · subst e
      by_cases hk : q1 < ws.length
      · rw [List.getElem?_set_self hk] at hq
        cases hq
        exact ⟨e0, List.getElem?_set_self hk⟩
      · rw [List.getElem?_eq_none (by rw [List.length_set]; omega)] at hq
        cases hq
    · rw [List.getElem?_set_ne e] at hq
      exact ⟨q.2, by rw [List.getElem?_set_ne e]; exact hq⟩
  refine ⟨fun i k x y hi hk hxy => ?_, fun k q hq => ?_⟩
  · obtain ⟨ei, h1⟩ := key i x hi
    obtain ⟨ek, h2⟩ := key k y hk
    exact h.1 i k _ _ h1 h2 hxy
  · obtain ⟨ek, h2⟩ := key k q hq
    exact h.2 k (q.1, ek) h2
theorem znfw : nativeFrameWords "java/lang/System" "arraycopy" 5 + 11 ≤ 32 := by decide +kernel
variable {p : Program} {l : Launch} {e : Env} {R : Room} {s : State} {m : MethodId} {args : Array Value} {below : List Frame} {meth : Method} {c : Code} {H : Heap} {locs : List Loc} {mc ms : Nat} {Q : State → Prop}
variable {Al : List Cond} {mt : Nat → ZMI} {bd : Nat → Int × Int} {rh : Nat → Int32} {ZS : (Nat → Prop) → State → Nat → Prop} {D : va_G} {cA : Nat → ClassId} {ad : Nat → Nat} {A : Nat → Prop} {cs : List ZC} {n d j pc : Nat} {lw : Bool} {loc : ZL} {st : List Value} {ls : Array Slot} {o : Option Value × List ZC}
set_option maxHeartbeats 4000000 in
/-- calls of the JDK's -/
theorem z_prim (hA0 : zAl0 Al) (hJ : zJ l Al ZS) (hf : ZFr Al mt bd rh ZS D cA p R s m args meth c A ad d j lw) (hmc : mc ≤ (mt j).2.2.2.2.2.1) (hms : ms ≤ (mt j).2.2.2.2.2.2.1) (hP : va_P D zcl (zW cA rh ad cs) H) (hD : va_D A (zW cA rh ad cs)) (hS : va_S A s.heap H locs) (hl : lv_has ls (mt j).2.2.1 (zL rh ad loc))
    {i : Instr} {x1 x2 : Nat} (hdg : decode (mt j).2.1 pc = .ok (i, 3)) (hw : zwi Al mt (mt j).1.cls i x1 x2) (hi : (∃ idx, i = .invokevirtual idx ∧ 4 ≤ x1) ∨ (∃ idx, i = .invokestatic idx ∧ (x1 = 2 ∨ x1 = 3)) ∨ (∃ idx, i = .invokespecial idx ∧ x1 = 1))
    {k : ZKW} (h : zprim x1 pc st cs d k = some o) : ZGW p l e R s m args below meth c H locs mc ms Q D cA A rh ad pc st cs ls k o := by
  obtain ⟨f1, f2, f3, f4, f5, f6, f7, f8, f9, f10, f11, f12, f13, f14, f15⟩ := hf
  obtain ⟨a1, a2, a3, a4, a5, a6, a7, a8⟩ := hA0
  have hsz : c.maxLocals = ls.size := f3.trans hl.1.symm
  have hcR : mc ≤ R.cells := Nat.le_trans hmc f13
  have hsR : ms ≤ R.slots := Nat.le_trans hms f14
  rcases hi with ⟨idx, rfl, hx⟩ | ⟨idx, rfl, rfl | rfl⟩ | ⟨idx, rfl, rfl⟩
  · have hx' : x1 = 4 ∨ x1 = 5 ∨ ∃ q : Nat, x1 = q + 6 := by
      by_cases h4 : x1 = 4
      · exact Or.inl h4
      · by_cases h5 : x1 = 5
        · exact Or.inr (Or.inl h5)
        · exact Or.inr (Or.inr ⟨x1 - 6, by omega⟩)
    clear hx
    rcases hx' with rfl | rfl | ⟨q, rfl⟩
    · simp only [zprim] at h
      split at h
      · rename_i a r
        obtain ⟨h1, h2⟩ := zbif h
        rw [zfN_eq] at h2
        simp only [Bool.and_eq_true, decide_eq_true_eq] at h1
        have e1 := Nat.eq_of_beq_eq_true h1.2.2
        subst e1
        refine ⟨_, _, _, h2, rfl, fun kk => ?_⟩
        exact (hJ p e R s m args below meth c H locs mc ms Q (mt j).2.1 pc ls (r.map (zc rh ad)) (mt j).1.cls A (ad 1000000) f1 f2 hsz f5 f6 f9 hS f10 (by omega) (by omega) hcR hsR (by rw [zsum_c]; exact h1.1)).1 idx (hw.2.1 rfl) hdg (kk H locs hP hD hS)
      · cases h
    · simp only [zprim] at h
      split at h
      · rename_i y a r
        obtain ⟨h1, h2⟩ := zbif h
        rw [zfN_eq, zfN_eq] at h2
        simp only [Bool.and_eq_true, decide_eq_true_eq] at h1
        have e1 := Nat.eq_of_beq_eq_true h1.2.2.1
        subst e1
        refine ⟨_, _, _, h2, rfl, fun kk => ?_⟩
        exact (hJ p e R s m args below meth c H locs mc ms Q (mt j).2.1 pc ls (r.map (zc rh ad)) (mt j).1.cls A (ad 1000000) f1 f2 hsz f5 f6 f9 hS f10 (by omega) (by omega) hcR hsR (by rw [zsum_c]; exact h1.1)).2.1 idx y (hw.2.2 rfl) (show ¬ (y < 0 ∨ _ ≤ y.toNatClampNeg) from of_decide_eq_true h1.2.2.2) hdg (kk H locs hP hD hS)
      · cases h
    · exact znone (show (none : ZO) = some o from h)
  · simp only [zprim] at h
    split at h
    · rename_i n dp b sp a r
      split at h
      · rename_i n0 u n1 u1 hz0 hz1
        obtain ⟨h1, h2⟩ := zbif h
        rw [zput_eq] at h2
        simp only [Bool.and_eq_true, decide_eq_true_eq] at h1
        obtain ⟨⟨b1, b2⟩, rfl, rfl, b5, b6, b7⟩ := h1
        subst b7
        refine ⟨_, _, _, h2, List.length_set, fun kk => ?_⟩
        refine va_copyi (ty := .int) f1 f2 hsz f5 (f6 _ (hw.2.1 rfl)) (f6 _ a3) (f6 _ a4) (f6 _ a5) f8.1 hP hD hS a b 0 0 (zW_get hz0) (zW_get hz1) rfl rfl rfl (by decide) (by decide) b5 (by show 0 + _ ≤ _; omega) (by show 0 + _ ≤ _; omega) (fun _ _ => rfl) (by omega) (by rw [zsum_c]; have := znfw; omega) hdg (fun H1 l1 g1 g2 g3 => ?_)
        rw [b6] at g1 g2
        have g1 := zP_cpy g1
        have g2 := zD_set (e1 := .inl (cA 0, n0, .inl (fun j => zi rh (zl (.int 0) u j)))) g2
        have es : (zW cA rh ad cs).set b (ad b, .inl (cA 0, n0, .inl (fun j => zi rh (zl (.int 0) u j)))) = zW cA rh ad (cs.set b (.inr (0, n0, u))) := by
          rw [← zW_set]; rfl
        rw [es] at g1 g2
        exact kk H1 l1 g1 g2 g3
      · cases h
    · cases h
  · simp only [zprim] at h
    split at h
    · rename_i y x r
      obtain ⟨h1, h2⟩ := zbif h
      rw [zfI_eq, zfN_eq] at h2
      simp only [Bool.and_eq_true, decide_eq_true_eq] at h1
      refine ⟨_, _, _, h2, rfl, fun kk => ?_⟩
      exact va_mmin f1 f2 hsz f5 (f6 _ (hw.2.2.1 rfl)) (f6 _ a6) (f6 _ a7) (f6 _ a8) (by omega) (by rw [zsum_c]; omega) hcR hsR hdg (kk H locs hP hD hS)
    · cases h
  · simp only [zprim] at h
    split at h
    · rename_i a r
      obtain ⟨h1, h2⟩ := zbif h
      rw [zfN_eq] at h2
      simp only [Bool.and_eq_true, decide_eq_true_eq] at h1
      refine ⟨_, _, _, h2, rfl, fun kk => ?_⟩
      exact W.objInit f1 f2 f5 (f6 _ (hw.2.2 rfl)) (f6 _ a1) (f6 _ a2) rfl (show ls.size = c.maxLocals from hsz.symm) rfl hdg (by omega) (by show 2 * 0 + _ + 12 ≤ _; rw [zsum_c]; omega) (kk H locs hP hD hS)
    · cases h
end ZST
end
section
/-! every run is the machine's: the induction -/
section ZSO
variable {l : Launch} {Al : List Cond} {mt : Nat → ZMI} {bd : Nat → Int × Int} {rh : Nat → Int32} {ZS : (Nat → Prop) → State → Nat → Prop} {D : va_G} {cA : Nat → ClassId} {n : Nat}
set_option maxHeartbeats 8000000 in
theorem z_step (hg : zGood Al) (hcw : zcw Al) (hA0 : zAl0 Al) (hZ : zZS ZS) (hJ : zJ l Al ZS) (hO : zJO l Al mt bd rh ZS D cA) (hMa : ∀ i, (mt i).2.2.2.2.1 ≤ 2 → zMok Al (mt i)) (hEa : ∀ i, zEok Al mt (mt i)) (hE : zEnv bd rh) (hE2 : zEnv2 rh) (hI : ZSnd l Al mt bd rh ZS D cA n) : ZSnd l Al mt bd rh ZS D cA (n + 1) := by
  intro d j lw sl stop pc loc st cs mc ms rv cs' h p e R s m args below meth c H locs Q ad ls A hf hmc hms hP hD hS hl kk
  rw [zrun_succ] at h
  have h9 := zstep_ok h
  clear h
  rcases h9 with ⟨h1, h2, h3, h4, h5, h6, h7⟩ | ⟨i, L, x1, x2, hz, h⟩
  · subst h2; subst h3; subst h4
    obtain ⟨e1, e2⟩ := Prod.mk.inj h5
    subst e1; subst e2
    exact kk ad H locs ls mc ms _ _ [] zAg.rf hP hD hS hl (Or.inl ⟨h1, rfl, rfl, rfl, rfl, h6, h7⟩)
  · have hf0 := hf
    obtain ⟨f1, f2, f3, f4, f5, f6, f7, f8, f9, f10, f11, f12, f13, f14, f15⟩ := hf0
    obtain ⟨r, hr, hm⟩ := zfind_mem hz
    obtain ⟨hdg, hw, hwi⟩ := f7 r hr _ hm
    dsimp only at hdg hw hwi
    have plain : ZG p l e R s m args below meth c H locs mc ms Q (mt j).2.2.1 rh ad pc st ls (fun q l' r' => zrun mt bd n d j lw sl stop q l' r' cs mc ms) (rv, cs') → W p l e R s m args below meth c H locs mc ms Q (F0 m pc ls (st.map (zc rh ad))) := by
      rintro ⟨pc', loc', st', g1, g2⟩
      exact g2 (fun ls' hl' => hI d j lw sl stop pc' loc' st' cs mc ms rv cs' g1 p e R s m args below meth c H locs Q ad ls' A hf hmc hms hP hD hS hl' kk)
    have wr : ZGW p l e R s m args below meth c H locs mc ms Q D cA A rh ad pc st cs ls (fun q r' c' => zrun mt bd n d j lw sl stop q loc r' c' mc ms) (rv, cs') → W p l e R s m args below meth c H locs mc ms Q (F0 m pc ls (st.map (zc rh ad))) := by
      rintro ⟨pc', st', c1, g1, g2, g3⟩
      exact g3 (fun H1 l1 k1 k2 k3 => hI d j lw sl stop pc' loc st' c1 mc ms rv cs' g1 p e R s m args below meth c H1 l1 Q ad ls A hf hmc hms k1 k2 k3 hl (fun ad'' H' locs' ls' mc' ms' pc' loc' st' q1 => kk ad'' H' locs' ls' mc' ms' pc' loc' st' (g2 ▸ q1)))
    have mkn : ∀ {k : ZKN}, k = (fun q r' c' mc' ms' => zrun mt bd n d j lw sl stop q loc r' c' mc' ms') → zhn (mt j).2.2.2.2.2.1 (mt j).2.2.2.2.2.2.1 cs i (x1, x2) pc loc st mc ms k = some (rv, cs') → W p l e R s m args below meth c H locs mc ms Q (F0 m pc ls (st.map (zc rh ad))) := by
      intro k ek hk
      subst ek
      have hb : ∀ {k : ZKN}, zhn (mt j).2.2.2.2.2.1 (mt j).2.2.2.2.2.2.1 cs i (x1, x2) pc loc st mc ms k = some (rv, cs') → zhn (mt j).2.2.2.2.2.1 (mt j).2.2.2.2.2.2.1 cs i (x1, x2) pc loc st mc ms (fun q r' c' mc' ms' => bif decide (mc' ≤ (mt j).2.2.2.2.2.1) && decide (ms' ≤ (mt j).2.2.2.2.2.2.1) then k q r' c' mc' ms' else none) = some (rv, cs') := by
        intro k hk
        have key : ∀ {q : ZC} {N pc' : Nat} {r' : List Value}, znew (mt j).2.2.2.2.2.1 (mt j).2.2.2.2.2.2.1 cs q N pc' loc r' mc ms k = some (rv, cs') → znew (mt j).2.2.2.2.2.1 (mt j).2.2.2.2.2.2.1 cs q N pc' loc r' mc ms (fun q r' c' mc' ms' => bif decide (mc' ≤ (mt j).2.2.2.2.2.1) && decide (ms' ≤ (mt j).2.2.2.2.2.2.1) then k q r' c' mc' ms' else none) = some (rv, cs') := by
          intro q N pc' r' hq
          obtain ⟨h1, h2, h3, h4, h5, h6, h7⟩ := znew_ok hq
          unfold znew
          rw [zfN_eq, zln_eq, zwS'_eq, zwL'_eq, zwC'_eq, h1, h2, h3, decide_eq_true h4, decide_eq_true h5, decide_eq_true h6]
          simp only [Bool.and_self, cond_true, zfS_eq, zfN_eq]
          rw [decide_eq_true h5, decide_eq_true h6]
          exact h7
        cases i with
        | new idx => exact key hk
        | newarray t =>
          simp only [zhn] at hk ⊢
          split at hk
          · rename_i t' y r' ht
            obtain ⟨b1, b2⟩ := zbif hk
            rw [b1, cond_true, zfN_eq]
            rw [zfN_eq] at b2
            exact key b2
          · cases hk
        | anewarray idx =>
          simp only [zhn] at hk ⊢
          split at hk
          · rename_i y r'
            obtain ⟨b1, b2⟩ := zbif hk
            rw [b1, cond_true, zfN_eq]
            rw [zfN_eq] at b2
            cases hb4 : Nat.beq x1 4 with
            | true => rw [hb4, cond_true] at b2; exact key b2
            | false => rw [hb4, cond_false] at b2; exact key b2
          · cases hk
        | _ => exact znone (show (none : ZO) = some (rv, cs') from hk)
      obtain ⟨pc', st', c1, mc1, ms1, g1, g2, g3⟩ := z_hn (L := L) (nm := (mt j).1.name) f1 f2 f6 hcw f5 f8.1 hP hD hS f10 f13 f14 f8.2.1 f8.2.2.1 hdg hl hw (hb hk)
      obtain ⟨g4, g5⟩ := zbif g1
      rw [Bool.and_eq_true, decide_eq_true_eq, decide_eq_true_eq] at g4
      exact g3 (fun ad' H1 l1 k0 k1 k2 k3 k4 => hI d j lw sl stop pc' loc st' c1 mc1 ms1 rv cs' g5 p e R s m args below meth c H1 l1 Q ad' ls A (hf.ag k0) g4.1 g4.2 k1 k2 k3 k4 (fun ad'' H' locs' ls' mc' ms' pc' loc' st' q1 => kk ad'' H' locs' ls' mc' ms' pc' loc' st' (k0.trans q1 g2)))
    cases i with
    | ireturn =>
      simp only [zins] at h
      split at h
      · rename_i v
        obtain ⟨b1, b2⟩ : ((zisI v && decide (mc ≤ (mt j).2.2.2.2.2.1)) && (decide (ms ≤ (mt j).2.2.2.2.2.2.1) && (match (mt j).2.2.2.1 with
          | some .int => true
          | some .boolean => zisB v
          | _ => false))) = true ∧ (some (some v, cs) : ZO) = some (rv, cs') := zbif h
        simp only [Bool.and_eq_true, decide_eq_true_eq] at b1
        obtain ⟨e1, e2⟩ := Prod.mk.inj (Option.some.inj b2)
        subst e1; subst e2
        refine kk ad H locs ls mc ms pc loc [v] zAg.rf hP hD hS hl (Or.inr (Or.inl ⟨v, rfl, rfl, hdg, b1.1.1, b1.1.2, b1.2.1, ?_⟩))
        have b3 := b1.2.2
        split at b3
        · rename_i hq; exact Or.inl hq
        · rename_i hq; exact Or.inr ⟨hq, b3⟩
        · cases b3
      · cases h
    | return_ =>
      simp only [zins] at h
      split at h
      · obtain ⟨b1, b2⟩ := zbif h
        simp only [Bool.and_eq_true, decide_eq_true_eq] at b1
        obtain ⟨e1, e2⟩ := Prod.mk.inj (Option.some.inj b2)
        subst e1; subst e2
        exact kk ad H locs ls mc ms pc loc [] zAg.rf hP hD hS hl (Or.inr (Or.inr ⟨rfl, rfl, hdg, b1.1.1, b1.1.2, Option.isNone_iff_eq_none.mp b1.2⟩))
      · cases h
    | invokevirtual idx =>
      simp only [zins] at h
      cases hb : Nat.beq x1 0 with
      | true =>
        rw [hb, cond_true] at h
        have e0 := Nat.eq_of_beq_eq_true hb
        exact z_call hI hMa hEa (by decide) hf hP hD hS hl h (z_runV hg hZ hMa hf hP hD hS hl hdg (hwi.1 e0)) kk
      | false =>
        rw [hb, cond_false] at h
        obtain ⟨b1, b2⟩ := zbif h
        exact wr (z_prim hA0 hJ hf hmc hms hP hD hS hl hdg hwi (Or.inl ⟨idx, rfl, of_decide_eq_true b1⟩) b2)
    | invokestatic idx =>
      simp only [zins] at h
      cases hb8 : Nat.beq x1 8 with
      | true =>
        rw [hb8, cond_true] at h
        have e8 := Nat.eq_of_beq_eq_true hb8
        subst e8
        unfold zordC at h
        split at h
        · rename_i o1 a r
          obtain ⟨b1, b2⟩ := zbif h
          rw [zfN_eq, zfN_eq, zfN_eq] at b2
          simp only [Bool.and_eq_true, decide_eq_true_eq] at b1
          obtain ⟨⟨c1, c2, c3⟩, c4, c5, c6⟩ := b1
          subst c1
          exact hO p e R s m args below meth c H locs mc ms Q pc ls (r.map (zc rh ad)) A ad d j cs a o1 idx x2 hf c3 hP hD hS hl.1 (Nat.le_trans c5 f13) (Nat.le_trans c6 f14) (by rw [zsum_c]; exact c4) c2 hdg hwi (fun H1 l1 k1 k2 k3 => hI d j true sl stop (pc + 3) loc (.int 1 :: r) cs (mc + 100) (ms + 10000) rv cs' b2 p e R s m args below meth c H1 l1 Q ad ls A hf c5 c6 k1 k2 k3 hl kk)
        · cases h
      | false =>
      rw [hb8, cond_false] at h
      cases hb : Nat.beq x1 0 with
      | true =>
        rw [hb, cond_true] at h
        have e0 := Nat.eq_of_beq_eq_true hb
        exact z_call hI hMa hEa (by decide) hf hP hD hS hl h (z_runS hg hZ hMa hf hP hD hS hl hdg (hwi.1 e0)) kk
      | false =>
        rw [hb, cond_false] at h
        obtain ⟨b1, b2⟩ := zbif h
        rw [Bool.or_eq_true] at b1
        exact wr (z_prim hA0 hJ hf hmc hms hP hD hS hl hdg hwi (Or.inr (Or.inl ⟨idx, rfl, b1.imp Nat.eq_of_beq_eq_true Nat.eq_of_beq_eq_true⟩)) b2)
    | invokespecial idx =>
      simp only [zins] at h
      cases hb : (Nat.beq x1 0 || Nat.beq x1 6) with
      | true =>
        rw [hb, cond_true] at h
        rw [Bool.or_eq_true] at hb
        exact z_call hI hMa hEa (by decide) hf hP hD hS hl h (z_runI hg hZ hMa hf hP hD hS hl hdg (hb.imp (fun z => hwi.1 (Nat.eq_of_beq_eq_true z)) (fun z => hwi.2.1 (Nat.eq_of_beq_eq_true z)))) kk
      | false =>
        rw [hb, cond_false] at h
        obtain ⟨b1, b2⟩ := zbif h
        exact wr (z_prim hA0 hJ hf hmc hms hP hD hS hl hdg hwi (Or.inr (Or.inr ⟨idx, rfl, Nat.eq_of_beq_eq_true b1⟩)) b2)
    | ldc idx =>
      simp only [zins] at h
      obtain ⟨b1, b2⟩ := zbif h
      rw [zgo_eq] at b2
      simp only [Bool.and_eq_true, decide_eq_true_eq] at b1
      obtain ⟨w1, w2⟩ := hwi (Nat.eq_of_beq_eq_true b1.1)
      subst w2
      exact plain ⟨_, _, _, b2, fun k2 => (hJ p e R s m args below meth c H locs mc ms Q (mt j).2.1 pc ls (st.map (zc rh ad)) (mt j).1.cls A (ad 1000000) f1 f2 (f3.trans hl.1.symm) f5 f6 f9 hS f10 (by omega) (by omega) (Nat.le_trans hmc f13) (Nat.le_trans hms f14) (by rw [zsum_c]; exact b1.2.2)).2.2 w1 hdg (k2 ls hl)⟩
    | ldc2_w idx =>
      simp only [zins] at h
      rw [zpush_eq] at h
      exact plain ⟨_, _, _, h, fun k2 => lv_ldc2 f1 f2 f5 (f6 _ hwi) hdg (k2 ls hl)⟩
    | getfield idx => exact plain (z_hr f1 f2 hE f6 hcw f5 f8.1 hP hS hdg hl hw f15 h)
    | iaload => exact plain (z_hr f1 f2 hE f6 hcw f5 f8.1 hP hS hdg hl hw f15 h)
    | laload => exact plain (z_hr f1 f2 hE f6 hcw f5 f8.1 hP hS hdg hl hw f15 h)
    | baload => exact plain (z_hr f1 f2 hE f6 hcw f5 f8.1 hP hS hdg hl hw f15 h)
    | aaload => exact plain (z_hr f1 f2 hE f6 hcw f5 f8.1 hP hS hdg hl hw f15 h)
    | arraylength => exact plain (z_hr f1 f2 hE f6 hcw f5 f8.1 hP hS hdg hl hw f15 h)
    | putfield idx => exact wr (z_hw f1 f2 f6 hcw f5 f8.1 hP hD hS hdg (f4 ▸ hw) h)
    | iastore => exact wr (z_hw f1 f2 f6 hcw f5 f8.1 hP hD hS hdg (f4 ▸ hw) h)
    | lastore => exact wr (z_hw f1 f2 f6 hcw f5 f8.1 hP hD hS hdg (f4 ▸ hw) h)
    | bastore => exact wr (z_hw f1 f2 f6 hcw f5 f8.1 hP hD hS hdg (f4 ▸ hw) h)
    | aastore => exact wr (z_hw f1 f2 f6 hcw f5 f8.1 hP hD hS hdg (f4 ▸ hw) h)
    | new idx => exact mkn rfl h
    | newarray t => exact mkn rfl h
    | anewarray idx => exact mkn rfl h
    | _ => exact plain (z_p f1 f2 hE hE2 hdg hl h)
theorem z_snd (hg : zGood Al) (hcw : zcw Al) (hA0 : zAl0 Al) (hZ : zZS ZS) (hJ : zJ l Al ZS) (hO : zJO l Al mt bd rh ZS D cA) (hMa : ∀ i, (mt i).2.2.2.2.1 ≤ 2 → zMok Al (mt i)) (hEa : ∀ i, zEok Al mt (mt i)) (hE : zEnv bd rh) (hE2 : zEnv2 rh) : ∀ n, ZSnd l Al mt bd rh ZS D cA n := by
  intro n
  induction n with
  | zero => intro d j lw sl stop pc loc st cs mc ms rv cs' h; cases h
  | succ n ih => exact z_step hg hcw hA0 hZ hJ hO hMa hEa hE hE2 ih
end ZSO
end
section
/-! the words that the table's instructions rest on, by program -/
section ZWO
noncomputable def zwo (mt : Nat → ZMI) (own : String) (e : ZEn) : List Cond := match e.2.1 with
  | .getfield idx => match zn zcl e.2.2.2.1 with
    | some q => [.fieldLink own idx (q.2.1 e.2.2.2.2).1 (q.2.1 e.2.2.2.2).2.1 (q.2.1 e.2.2.2.2).2.2.1]
    | none => []
  | .putfield idx => match zn zcl e.2.2.2.1 with
    | some q => [.fieldLink own idx (q.2.1 e.2.2.2.2).1 (q.2.1 e.2.2.2.2).2.1 (q.2.1 e.2.2.2.2).2.2.1]
    | none => []
  | .new idx => match zn zcl e.2.2.2.1 with
    | some q => [.classLink own idx q.1, .instantiable q.1 q.2.2, .initialized q.1]
    | none => []
  | .newarray t => [.arrayClass (newarray.typeOf t)]
  | .anewarray idx => match e.2.2.2.1 with
    | 4 => [.classLink own idx RX2]
    | _ => [.classLink own idx RX5]
  | .invokevirtual idx => match e.2.2.2.1 with
    | 0 => [.methodLink own idx (mt e.2.2.2.2).1]
    | 4 => [.methodLink own idx zyLen]
    | 5 => [.methodLink own idx zyChr]
    | _ => []
  | .invokestatic idx => match e.2.2.2.1 with
    | 0 => [.methodLink own idx (mt e.2.2.2.2).1]
    | 2 => [.methodLink own idx arraycopyName]
    | 3 => [.methodLink own idx Lib.Math.min.name]
    | _ => []
  | .invokespecial idx => match e.2.2.2.1 with
    | 0 => [.methodLink own idx (mt e.2.2.2.2).1]
    | 1 => [.methodLink own idx objectInit]
    | _ => []
  | .ldc2_w idx => [.constantLong own idx (lN e.2.2.2.1)]
  | _ => []
noncomputable def zwb (mt : Nat → ZMI) (own nm : String) (e : ZEn) : Bool := match e.2.1 with
  | .getfield _ => match zn zcl e.2.2.2.1 with
    | some q => decide (e.2.2.2.2 < q.2.2)
    | none => false
  | .putfield _ => match zn zcl e.2.2.2.1 with
    | some q => decide (e.2.2.2.2 < q.2.2) && (decide ((q.2.1 e.2.2.2.2).2.2.2 = false) || decide (nm = "<init>" ∧ (q.2.1 e.2.2.2.2).2.2.2 = true ∧ (q.2.1 e.2.2.2.2).1 = own))
    | none => false
  | .new _ => (zn zcl e.2.2.2.1).isSome
  | .anewarray _ => decide (e.2.2.2.1 = 4 ∨ e.2.2.2.1 = 5)
  | .invokestatic idx => decide (e.2.2.2.1 = 8 → own = "BeggarHeapsLaw" ∧ idx = 139)
  | .invokespecial idx => decide (e.2.2.2.1 = 6 → (own, idx, (mt e.2.2.2.2).1) ∈ znl)
  | .ldc idx => decide (e.2.2.2.1 = 7 → own = RX10 ∧ idx = 19)
  | _ => true
theorem zw_ok {Al : List Cond} {mt : Nat → ZMI} {own nm : String} {e : ZEn} (h1 : ∀ w ∈ zwo mt own e, w ∈ Al) (h2 : zwb mt own nm e = true) : zwd Al own nm e.2.1 (e.2.2.2.1, e.2.2.2.2) ∧ zwi Al mt own e.2.1 e.2.2.2.1 e.2.2.2.2 := by
  obtain ⟨pc, i, L, x1, x2⟩ := e
  dsimp only at h1 h2 ⊢
  cases i with
  | getfield idx =>
    simp only [zwo, zwb] at h1 h2
    cases hz : zn zcl x1 with
    | none => rw [hz] at h2; cases h2
    | some q =>
      rw [hz] at h1 h2
      rw [zn_eq] at hz
      exact ⟨⟨q, hz, of_decide_eq_true h2, h1 _ List.mem_cons_self⟩, trivial⟩
  | putfield idx =>
    simp only [zwo, zwb] at h1 h2
    cases hz : zn zcl x1 with
    | none => rw [hz] at h2; cases h2
    | some q =>
      rw [hz] at h1 h2
      rw [zn_eq] at hz
      simp only [Bool.and_eq_true, Bool.or_eq_true, decide_eq_true_eq] at h2
      exact ⟨⟨q, hz, h2.1, h1 _ List.mem_cons_self, h2.2⟩, trivial⟩
  | new idx =>
    simp only [zwo, zwb] at h1 h2
    cases hz : zn zcl x1 with
    | none => rw [hz] at h2; cases h2
    | some q =>
      rw [hz] at h1
      rw [zn_eq] at hz
      exact ⟨⟨q, hz, h1 _ List.mem_cons_self, h1 _ (List.mem_cons_of_mem _ List.mem_cons_self), h1 _ (List.mem_cons_of_mem _ (List.mem_cons_of_mem _ List.mem_cons_self))⟩, trivial⟩
  | newarray t => exact ⟨h1 _ List.mem_cons_self, trivial⟩
  | anewarray idx =>
    refine ⟨?_, trivial⟩
    rcases (of_decide_eq_true h2 : x1 = 4 ∨ x1 = 5) with rfl | rfl
    · exact Or.inl ⟨rfl, h1 _ List.mem_cons_self⟩
    · exact Or.inr ⟨rfl, h1 _ List.mem_cons_self⟩
  | invokevirtual idx =>
    refine ⟨trivial, fun z => ?_, fun z => ?_, fun z => ?_⟩ <;> subst z <;> exact h1 _ List.mem_cons_self
  | invokestatic idx =>
    refine ⟨trivial, fun z => ?_, fun z => ?_, fun z => ?_, fun z => ?_⟩
    · subst z; exact h1 _ List.mem_cons_self
    · subst z; exact h1 _ List.mem_cons_self
    · subst z; exact h1 _ List.mem_cons_self
    · exact (of_decide_eq_true h2 : x1 = 8 → own = "BeggarHeapsLaw" ∧ idx = 139) z
  | invokespecial idx =>
    refine ⟨trivial, fun z => ?_, fun z => ?_, fun z => ?_⟩
    · subst z; exact h1 _ List.mem_cons_self
    · exact (of_decide_eq_true h2 : x1 = 6 → (own, idx, (mt x2).1) ∈ znl) z
    · subst z; exact h1 _ List.mem_cons_self
  | ldc idx => exact ⟨trivial, (of_decide_eq_true h2 : x1 = 7 → own = RX10 ∧ idx = 19)⟩
  | ldc2_w idx => exact ⟨trivial, h1 _ List.mem_cons_self⟩
  | _ => exact ⟨trivial, trivial⟩
/-- a method's words and checks -/
noncomputable def zwM (mt : Nat → ZMI) (M : ZMI) : List Cond := (match M.2.2.2.2.1 with
  | 0 => [.initialized M.1.cls, .instanceMethod M.1, .selects M.1.cls M.1 M.1]
  | 1 => [.initialized M.1.cls, .static M.1]
  | 2 => [.initialized M.1.cls, .instanceMethod M.1]
  | _ => []) ++ M.2.2.2.2.2.2.2.2.2.flatMap (fun r => r.flatMap (zwo mt M.1.cls))
noncomputable def zbM (mt : Nat → ZMI) (M : ZMI) : Bool := (match M.2.2.2.2.1 with
  | 0 => true
  | 1 => true
  | 2 => decide (M.1.name = "<init>" ∧ M.2.2.2.1 = none)
  | _ => true) && (decide (plainName M.1.cls = true) && (decide (M.1.cls ≠ "java/lang/invoke/MethodHandle" ∧ M.1.cls ≠ "java/lang/invoke/VarHandle" ∧ (parseMethodDescriptor M.1.desc).map (fun d => d.parameters.length) = some M.2.2.2.2.2.2.2.1) && ((match zn zcl M.2.2.2.2.2.2.2.2.1 with
    | some q => decide (q.1 = M.1.cls) || decide (2 < M.2.2.2.2.1)
    | none => decide (2 < M.2.2.2.2.1)) && M.2.2.2.2.2.2.2.2.2.all (fun r => r.all (zwb mt M.1.cls M.1.name)))))
noncomputable def zdM (M : ZMI) : Prop := ∀ r ∈ M.2.2.2.2.2.2.2.2.2, ∀ e ∈ r, decode M.2.1 e.1 = .ok (e.2.1, zlen e.2.1 e.2.2.1)
theorem zM_ok {Al : List Cond} {mt : Nat → ZMI} {M : ZMI} (h1 : ∀ w ∈ zwM mt M, w ∈ Al) (h2 : zbM mt M = true) (h3 : zdM M) (h4 : M.2.2.2.2.1 ≤ 2 → Cond.code M.1 M.2.1 M.2.2.1 M.2.2.2.1 ∈ Al) : zEok Al mt M ∧ (M.2.2.2.2.1 ≤ 2 → zMok Al M) := by
  unfold zbM at h2
  simp only [Bool.and_eq_true] at h2
  obtain ⟨b1, b2, b3, b4, b5⟩ := h2
  unfold zwM at h1
  constructor
  · intro r hr e he
    have hw := zw_ok (Al := Al) (mt := mt) (own := M.1.cls) (nm := M.1.name) (e := e) (fun w hw => h1 w (List.mem_append_right _ (List.mem_flatMap.mpr ⟨r, hr, List.mem_flatMap.mpr ⟨e, he, hw⟩⟩))) (List.all_eq_true.mp (List.all_eq_true.mp b5 r hr) e he)
    exact ⟨h3 r hr e he, hw.1, hw.2⟩
  · intro hk
    have hq : ∃ q, zcl[M.2.2.2.2.2.2.2.2.1]? = some q ∧ q.1 = M.1.cls := by
      cases hz : zn zcl M.2.2.2.2.2.2.2.2.1 with
      | none =>
        rw [hz] at b4
        have := of_decide_eq_true b4
        omega
      | some q =>
        rw [hz] at b4
        rw [zn_eq] at hz
        simp only [Bool.or_eq_true, decide_eq_true_eq] at b4
        rcases b4 with b4 | b4
        · exact ⟨q, hz, b4⟩
        · omega
    have hini : ∀ k, k = M.2.2.2.2.1 → k ≤ 2 → Cond.initialized M.1.cls ∈ Al ∧ (k = 0 → Cond.instanceMethod M.1 ∈ Al ∧ Cond.selects M.1.cls M.1 M.1 ∈ Al) ∧ (k = 1 → Cond.static M.1 ∈ Al) ∧ (k = 2 → M.1.name = "<init>" ∧ Cond.instanceMethod M.1 ∈ Al ∧ M.2.2.2.1 = none) := by
      intro k e1 e2
      rw [← e1] at h1 b1
      match k, e2 with
      | 0, _ => exact ⟨h1 _ (List.mem_append_left _ List.mem_cons_self), fun _ => ⟨h1 _ (List.mem_append_left _ (List.mem_cons_of_mem _ List.mem_cons_self)), h1 _ (List.mem_append_left _ (List.mem_cons_of_mem _ (List.mem_cons_of_mem _ List.mem_cons_self)))⟩, (fun z => by cases z), (fun z => by cases z)⟩
      | 1, _ => exact ⟨h1 _ (List.mem_append_left _ List.mem_cons_self), (fun z => by cases z), fun _ => h1 _ (List.mem_append_left _ (List.mem_cons_of_mem _ List.mem_cons_self)), (fun z => by cases z)⟩
      | 2, _ => exact ⟨h1 _ (List.mem_append_left _ List.mem_cons_self), (fun z => by cases z), (fun z => by cases z), fun _ => ⟨(of_decide_eq_true b1).1, h1 _ (List.mem_append_left _ (List.mem_cons_of_mem _ List.mem_cons_self)), (of_decide_eq_true b1).2⟩⟩
      | k + 3, h => omega
    obtain ⟨i1, i2, i3, i4⟩ := hini _ rfl hk
    exact ⟨of_decide_eq_true b2, h4 hk, i1, of_decide_eq_true b3, hq, i2, i3, i4⟩
end ZWO
end
section
/-! the words that all methods rest on: the good ones of the tables -/
def zAl : List Cond := lw_tbl.filter goodWord
theorem zin_of {ws : List Cond} (ps : List Nat) (h : ws = ps.filterMap (fun p => lw_tbl[p]?)) (hg : ws.all goodWord = true) : ∀ w ∈ ws, w ∈ zAl := by
  intro w hw
  refine List.mem_filter.mpr ⟨?_, List.all_eq_true.mp hg w hw⟩
  rw [h] at hw
  obtain ⟨i, -, hi⟩ := List.mem_filterMap.mp hw
  exact List.mem_of_getElem? hi
end
section
/-! the String of words: the JDK's own methods -/
section ZSTR
theorem zwc_Len : Cond.code zyLen prog_21_method_54_code 1 (some .int) ∈ zAl := List.mem_filter.mpr ⟨List.mem_of_getElem? (i := 167) (by decide +kernel), rfl⟩
theorem zwn_Len : Cond.instanceMethod zyLen ∈ zAl := List.mem_filter.mpr ⟨List.mem_of_getElem? (i := 165) (by decide +kernel), rfl⟩
theorem zwl_Len : Cond.selects "java/lang/String" zyLen zyLen ∈ zAl := List.mem_filter.mpr ⟨List.mem_of_getElem? (i := 166) (by decide +kernel), rfl⟩
def zyCod : MethodName := ⟨"java/lang/String", "coder", "()B"⟩
theorem zwc_Cod : Cond.code zyCod prog_21_method_152_code 1 (some .byte) ∈ zAl := List.mem_filter.mpr ⟨List.mem_of_getElem? (i := 171) (by decide +kernel), rfl⟩
theorem zwn_Cod : Cond.instanceMethod zyCod ∈ zAl := List.mem_filter.mpr ⟨List.mem_of_getElem? (i := 169) (by decide +kernel), rfl⟩
theorem zwl_Cod : Cond.selects "java/lang/String" zyCod zyCod ∈ zAl := List.mem_filter.mpr ⟨List.mem_of_getElem? (i := 170) (by decide +kernel), rfl⟩
theorem zwc_Chr : Cond.code zyChr prog_21_method_56_code 2 (some .char) ∈ zAl := List.mem_filter.mpr ⟨List.mem_of_getElem? (i := 177) (by decide +kernel), rfl⟩
theorem zwn_Chr : Cond.instanceMethod zyChr ∈ zAl := List.mem_filter.mpr ⟨List.mem_of_getElem? (i := 175) (by decide +kernel), rfl⟩
theorem zwl_Chr : Cond.selects "java/lang/String" zyChr zyChr ∈ zAl := List.mem_filter.mpr ⟨List.mem_of_getElem? (i := 176) (by decide +kernel), rfl⟩
def zyLat : MethodName := ⟨"java/lang/String", "isLatin1", "()Z"⟩
theorem zwc_Lat : Cond.code zyLat prog_21_method_154_code 1 (some .boolean) ∈ zAl := List.mem_filter.mpr ⟨List.mem_of_getElem? (i := 181) (by decide +kernel), rfl⟩
theorem zwn_Lat : Cond.instanceMethod zyLat ∈ zAl := List.mem_filter.mpr ⟨List.mem_of_getElem? (i := 179) (by decide +kernel), rfl⟩
theorem zwl_Lat : Cond.selects "java/lang/String" zyLat zyLat ∈ zAl := List.mem_filter.mpr ⟨List.mem_of_getElem? (i := 180) (by decide +kernel), rfl⟩
def zyLch : MethodName := ⟨"java/lang/StringLatin1", "charAt", "([BI)C"⟩
theorem zwc_Lch : Cond.code zyLch prog_22_method_2_code 2 (some .char) ∈ zAl := List.mem_filter.mpr ⟨List.mem_of_getElem? (i := 184) (by decide +kernel), rfl⟩
theorem zws_Lch : Cond.static zyLch ∈ zAl := List.mem_filter.mpr ⟨List.mem_of_getElem? (i := 183) (by decide +kernel), rfl⟩
def zyChk : MethodName := ⟨"java/lang/String", "checkIndex", "(II)V"⟩
theorem zwc_Chk : Cond.code zyChk prog_21_method_155_code 2 none ∈ zAl := List.mem_filter.mpr ⟨List.mem_of_getElem? (i := 187) (by decide +kernel), rfl⟩
theorem zws_Chk : Cond.static zyChk ∈ zAl := List.mem_filter.mpr ⟨List.mem_of_getElem? (i := 186) (by decide +kernel), rfl⟩
def zyPci : MethodName := ⟨"jdk/internal/util/Preconditions", "checkIndex", "(IILjava/util/function/BiFunction;)I"⟩
theorem zwc_Pci : Cond.code zyPci prog_29_method_11_code 3 (some .int) ∈ zAl := List.mem_filter.mpr ⟨List.mem_of_getElem? (i := 192) (by decide +kernel), rfl⟩
theorem zws_Pci : Cond.static zyPci ∈ zAl := List.mem_filter.mpr ⟨List.mem_of_getElem? (i := 191) (by decide +kernel), rfl⟩
theorem zwk_Cod : Cond.methodLink "java/lang/String" 335 zyCod ∈ zAl := List.mem_filter.mpr ⟨List.mem_of_getElem? (i := 168) (by decide +kernel), rfl⟩
theorem zwk_Lat : Cond.methodLink "java/lang/String" 492 zyLat ∈ zAl := List.mem_filter.mpr ⟨List.mem_of_getElem? (i := 178) (by decide +kernel), rfl⟩
theorem zwk_Lch : Cond.methodLink "java/lang/String" 495 zyLch ∈ zAl := List.mem_filter.mpr ⟨List.mem_of_getElem? (i := 182) (by decide +kernel), rfl⟩
theorem zwk_Chk : Cond.methodLink "java/lang/StringLatin1" 9 zyChk ∈ zAl := List.mem_filter.mpr ⟨List.mem_of_getElem? (i := 185) (by decide +kernel), rfl⟩
theorem zwk_Pci : Cond.methodLink "java/lang/String" 1059 zyPci ∈ zAl := List.mem_filter.mpr ⟨List.mem_of_getElem? (i := 190) (by decide +kernel), rfl⟩
theorem zwi_S : Cond.initialized "java/lang/String" ∈ zAl := List.mem_filter.mpr ⟨List.mem_of_getElem? (i := 128) (by decide +kernel), rfl⟩
theorem zwi_L : Cond.initialized "java/lang/StringLatin1" ∈ zAl := List.mem_filter.mpr ⟨List.mem_of_getElem? (i := 129) (by decide +kernel), rfl⟩
theorem zwi_P : Cond.initialized "jdk/internal/util/Preconditions" ∈ zAl := List.mem_filter.mpr ⟨List.mem_of_getElem? (i := 130) (by decide +kernel), rfl⟩
theorem zwf_val : Cond.fieldLink "java/lang/String" 9 "java/lang/String" "value" "[B" ∈ zAl := List.mem_filter.mpr ⟨List.mem_of_getElem? (i := 2264) (by decide +kernel), rfl⟩
theorem zwf_cod : Cond.fieldLink "java/lang/String" 15 "java/lang/String" "coder" "B" ∈ zAl := List.mem_filter.mpr ⟨List.mem_of_getElem? (i := 2265) (by decide +kernel), rfl⟩
theorem zwf_cs : Cond.fieldLink "java/lang/String" 38 "java/lang/String" "COMPACT_STRINGS" "Z" ∈ zAl := List.mem_filter.mpr ⟨List.mem_of_getElem? (i := 172) (by decide +kernel), rfl⟩
theorem zwf_si : Cond.fieldLink "java/lang/String" 1053 "jdk/internal/util/Preconditions" "SIOOBE_FORMATTER" "Ljava/util/function/BiFunction;" ∈ zAl := List.mem_filter.mpr ⟨List.mem_of_getElem? (i := 188) (by decide +kernel), rfl⟩
theorem zjLen_0 : decode prog_21_method_54_code 0 = .ok (.aload_n 0, 1) := by decide +kernel
theorem zjLen_1 : decode prog_21_method_54_code 1 = .ok (.getfield 9, 3) := by decide +kernel
theorem zjLen_4 : decode prog_21_method_54_code 4 = .ok (.arraylength, 1) := by decide +kernel
theorem zjLen_5 : decode prog_21_method_54_code 5 = .ok (.aload_n 0, 1) := by decide +kernel
theorem zjLen_6 : decode prog_21_method_54_code 6 = .ok (.invokevirtual 335, 3) := by decide +kernel
theorem zjLen_9 : decode prog_21_method_54_code 9 = .ok (.ishr, 1) := by decide +kernel
theorem zjLen_10 : decode prog_21_method_54_code 10 = .ok (.ireturn, 1) := by decide +kernel
theorem zjCod_0 : decode prog_21_method_152_code 0 = .ok (.getstatic 38, 3) := by decide +kernel
theorem zjCod_3 : decode prog_21_method_152_code 3 = .ok (.ifCond .eq 10, 3) := by decide +kernel
theorem zjCod_6 : decode prog_21_method_152_code 6 = .ok (.aload_n 0, 1) := by decide +kernel
theorem zjCod_7 : decode prog_21_method_152_code 7 = .ok (.getfield 15, 3) := by decide +kernel
theorem zjCod_10 : decode prog_21_method_152_code 10 = .ok (.goto 4, 3) := by decide +kernel
theorem zjCod_13 : decode prog_21_method_152_code 13 = .ok (.iconst 1, 1) := by decide +kernel
theorem zjCod_14 : decode prog_21_method_152_code 14 = .ok (.ireturn, 1) := by decide +kernel
theorem zjChr_0 : decode prog_21_method_56_code 0 = .ok (.aload_n 0, 1) := by decide +kernel
theorem zjChr_1 : decode prog_21_method_56_code 1 = .ok (.invokevirtual 492, 3) := by decide +kernel
theorem zjChr_4 : decode prog_21_method_56_code 4 = .ok (.ifCond .eq 12, 3) := by decide +kernel
theorem zjChr_7 : decode prog_21_method_56_code 7 = .ok (.aload_n 0, 1) := by decide +kernel
theorem zjChr_8 : decode prog_21_method_56_code 8 = .ok (.getfield 9, 3) := by decide +kernel
theorem zjChr_11 : decode prog_21_method_56_code 11 = .ok (.iload_n 1, 1) := by decide +kernel
theorem zjChr_12 : decode prog_21_method_56_code 12 = .ok (.invokestatic 495, 3) := by decide +kernel
theorem zjChr_15 : decode prog_21_method_56_code 15 = .ok (.ireturn, 1) := by decide +kernel
theorem zjChr_16 : decode prog_21_method_56_code 16 = .ok (.aload_n 0, 1) := by decide +kernel
theorem zjChr_17 : decode prog_21_method_56_code 17 = .ok (.getfield 9, 3) := by decide +kernel
theorem zjChr_20 : decode prog_21_method_56_code 20 = .ok (.iload_n 1, 1) := by decide +kernel
theorem zjChr_21 : decode prog_21_method_56_code 21 = .ok (.invokestatic 498, 3) := by decide +kernel
theorem zjChr_24 : decode prog_21_method_56_code 24 = .ok (.ireturn, 1) := by decide +kernel
theorem zjLat_0 : decode prog_21_method_154_code 0 = .ok (.getstatic 38, 3) := by decide +kernel
theorem zjLat_3 : decode prog_21_method_154_code 3 = .ok (.ifCond .eq 14, 3) := by decide +kernel
theorem zjLat_6 : decode prog_21_method_154_code 6 = .ok (.aload_n 0, 1) := by decide +kernel
theorem zjLat_7 : decode prog_21_method_154_code 7 = .ok (.getfield 15, 3) := by decide +kernel
theorem zjLat_10 : decode prog_21_method_154_code 10 = .ok (.ifCond .ne 7, 3) := by decide +kernel
theorem zjLat_13 : decode prog_21_method_154_code 13 = .ok (.iconst 1, 1) := by decide +kernel
theorem zjLat_14 : decode prog_21_method_154_code 14 = .ok (.goto 4, 3) := by decide +kernel
theorem zjLat_17 : decode prog_21_method_154_code 17 = .ok (.iconst 0, 1) := by decide +kernel
theorem zjLat_18 : decode prog_21_method_154_code 18 = .ok (.ireturn, 1) := by decide +kernel
theorem zjLch_0 : decode prog_22_method_2_code 0 = .ok (.iload_n 1, 1) := by decide +kernel
theorem zjLch_1 : decode prog_22_method_2_code 1 = .ok (.aload_n 0, 1) := by decide +kernel
theorem zjLch_2 : decode prog_22_method_2_code 2 = .ok (.arraylength, 1) := by decide +kernel
theorem zjLch_3 : decode prog_22_method_2_code 3 = .ok (.invokestatic 9, 3) := by decide +kernel
theorem zjLch_6 : decode prog_22_method_2_code 6 = .ok (.aload_n 0, 1) := by decide +kernel
theorem zjLch_7 : decode prog_22_method_2_code 7 = .ok (.iload_n 1, 1) := by decide +kernel
theorem zjLch_8 : decode prog_22_method_2_code 8 = .ok (.baload, 1) := by decide +kernel
theorem zjLch_9 : decode prog_22_method_2_code 9 = .ok (.sipush 255, 3) := by decide +kernel
theorem zjLch_12 : decode prog_22_method_2_code 12 = .ok (.iand, 1) := by decide +kernel
theorem zjLch_13 : decode prog_22_method_2_code 13 = .ok (.i2c, 1) := by decide +kernel
theorem zjLch_14 : decode prog_22_method_2_code 14 = .ok (.ireturn, 1) := by decide +kernel
theorem zjChk_0 : decode prog_21_method_155_code 0 = .ok (.iload_n 0, 1) := by decide +kernel
theorem zjChk_1 : decode prog_21_method_155_code 1 = .ok (.iload_n 1, 1) := by decide +kernel
theorem zjChk_2 : decode prog_21_method_155_code 2 = .ok (.getstatic 1053, 3) := by decide +kernel
theorem zjChk_5 : decode prog_21_method_155_code 5 = .ok (.invokestatic 1059, 3) := by decide +kernel
theorem zjChk_8 : decode prog_21_method_155_code 8 = .ok (.pop, 1) := by decide +kernel
theorem zjChk_9 : decode prog_21_method_155_code 9 = .ok (.return_, 1) := by decide +kernel
theorem zjPci_0 : decode prog_29_method_11_code 0 = .ok (.iload_n 0, 1) := by decide +kernel
theorem zjPci_1 : decode prog_29_method_11_code 1 = .ok (.ifCond .lt 8, 3) := by decide +kernel
theorem zjPci_4 : decode prog_29_method_11_code 4 = .ok (.iload_n 0, 1) := by decide +kernel
theorem zjPci_5 : decode prog_29_method_11_code 5 = .ok (.iload_n 1, 1) := by decide +kernel
theorem zjPci_6 : decode prog_29_method_11_code 6 = .ok (.if_icmp .lt 10, 3) := by decide +kernel
theorem zjPci_9 : decode prog_29_method_11_code 9 = .ok (.aload_n 2, 1) := by decide +kernel
theorem zjPci_10 : decode prog_29_method_11_code 10 = .ok (.iload_n 0, 1) := by decide +kernel
theorem zjPci_11 : decode prog_29_method_11_code 11 = .ok (.iload_n 1, 1) := by decide +kernel
theorem zjPci_12 : decode prog_29_method_11_code 12 = .ok (.invokestatic 95, 3) := by decide +kernel
theorem zjPci_15 : decode prog_29_method_11_code 15 = .ok (.athrow, 1) := by decide +kernel
theorem zjPci_16 : decode prog_29_method_11_code 16 = .ok (.iload_n 0, 1) := by decide +kernel
theorem zjPci_17 : decode prog_29_method_11_code 17 = .ok (.ireturn, 1) := by decide +kernel
noncomputable def zbytes : List Int32 := zchars.map nI
/-- what is told of the words' String, the cell b -/
def zStr (A : Nat → Prop) (U : State) (b : Nat) : Prop := ∃ adK adV : Nat → Nat, vk_S 1 [127] [zbytes] adK adV A U U.heap ∧ va_Z "java/lang/String" "COMPACT_STRINGS" "Z" (.int 1) A U U.heap ∧ va_Zq "jdk/internal/util/Preconditions" "SIOOBE_FORMATTER" "Ljava/util/function/BiFunction;" A U U.heap ∧ vk_R RX10 19 "kind pays pack lay first bet limit under about high low halves left right nobody opening won not and or ahead more heaps turns " (adK 0) U ∧ adK 0 = b
theorem zStr_ZS : zZS zStr := by
  constructor
  · rintro A U b g mk a ⟨adK, adV, h1, h2, h3, h4, h5⟩
    exact ⟨adK, adV, vk_S.moved (u := U) (U := U.calling g mk a) (Vm.Alike.refl U.vm) h1, va_Z.moved (u := U) (U := U.calling g mk a) (Vm.Alike.refl U.vm) h2, va_Zq.moved (u := U) (U := U.calling g mk a) (Vm.Alike.refl U.vm) h3, vk_R.same (u := U) (U := U.calling g mk a) rfl h4, h5⟩
  · rintro A B s U b H locs ⟨adK, adV, h1, h2, h3, h4, h5⟩ hS hU hW hAB
    refine ⟨adK, adV, ?_, ?_, ?_, vk_R.warm hW h4, h5⟩
    · rw [hU]; exact vk_S.narrow (vk_S.moved hW.alike (vk_S.kept h1 hS.2.1)) hAB
    · rw [hU]; exact va_Z.narrow (va_Z.moved hW.alike (va_Z.kept h2 hS.2.1)) hAB
    · rw [hU]; exact va_Zq.narrow (va_Zq.moved hW.alike (va_Zq.kept h3 hS.2.1)) hAB
def zrmJ (k : Nat) : Room := { frames := k, cells := 0, slots := 0, locals := 40 * k }
def zJP (av : List Value) (b : Nat) : Array Value → State → Prop := va_Pc av (fun U => zStr (fun _ => False) U b)
theorem zJP_blind {av : List Value} {b : Nat} : FrameBlind (zJP av b) := fun a U g mk q => ⟨q.1, zStr_ZS.1 _ _ _ g mk a q.2⟩
theorem zAl_good : zGood zAl := fun w hw => good_of_word (List.mem_filter.mp hw).2
def zbv (adV : Nat → Nat) (U : State) (b : Nat) : Prop := ∃ adK : Nat → Nat, vk_S 1 [127] [zbytes] adK adV (fun _ => False) U U.heap ∧ adK 0 = b
set_option maxHeartbeats 2000000 in
theorem zc_Cod (l : Launch) (b : Nat) : Met l zyCod (Cond.code zyCod prog_21_method_152_code 1 (some .byte) :: zAl) (zrmJ 0) (zJP [.ref b] b) (QcRead 0) 0 0 (fun _ => False) := by
  refine Met.ofW (cc := prog_21_method_152_code) (maxL := 1) (ret := (some .byte)) (by decide) rfl ?_
  intro p e s m args below meth c s₁ B hml hv
  obtain ⟨rfl, hZS⟩ := hv
  have hZS0 := hZS
  obtain ⟨adK, adV, hV, hZ, hZq, hR, hK0⟩ := hZS0
  have hx := B.exec
  have hb := B.bytes
  have hr := B.returns
  have hts0 := atoms_spec (ws := Cond.code zyCod prog_21_method_152_code 1 (some .byte) :: zAl) B.pre
  have hts : ∀ w ∈ zAl, w.before _ s = true := fun w hw => hts0 w (List.mem_cons_of_mem _ hw)
  have hown : s.vm.findClass "java/lang/String" = some m.cls := findClass_of_methodNamed B.named
  have hlocks := B.notSynchronized
  have hS : va_S (fun _ => False) s.heap s.heap [] := va_S.rf
  have hl := lv_entry ([.ref b]) (n := 1) (Nat.le_of_ble_eq_true rfl)
  rw [lg_entry_eq]
  generalize (lg_sl ([.ref b]) ++ List.replicate (1 - (lg_sl ([.ref b])).length) Slot.unset).toArray = ls at hl ⊢
  have hl : lv_has ls 1 [(0, .ref b)] := hl
  have hpre : ∀ (av : List Value) (U : State), U.heap = s.heap → s.WarmedH U.vm → zJP av b av.toArray U := fun av U hU hW => ⟨rfl, zStr_ZS.2 _ _ s U b s.heap [] hZS hS hU hW (fun _ h => h)⟩
  refine va_gets hx hb hZ hS hown (hts _ zwf_cs) (fun _ h9 => h9) zjCod_0 ?_
  refine lv_if_eq (tgt := 13) hx hb zjCod_3 (by decide) (fun h => absurd h (by decide)) (fun _ => ?_)
  refine lv_aload_n hx hb zjCod_6 rfl (lv_at hl 0 rfl) ?_
  refine vk_getf hx hb (hK0 ▸ (hV.1 0 (by decide)).2.1) hS hown (hts _ zwf_cod) (fun _ h9 => h9) zjCod_7 ?_
  refine lv_goto (tgt := 14) hx hb zjCod_10 (by decide) ?_
  exact W.zret hx hb hr rfl (fun t ht hW => ⟨rfl, ht⟩) (fun _ h => by cases h) zjCod_14
set_option maxHeartbeats 2000000 in
theorem zc_Lat (l : Launch) (b : Nat) : Met l zyLat (Cond.code zyLat prog_21_method_154_code 1 (some .boolean) :: zAl) (zrmJ 0) (zJP [.ref b] b) (QcRead 1) 0 0 (fun _ => False) := by
  refine Met.ofW (cc := prog_21_method_154_code) (maxL := 1) (ret := (some .boolean)) (by decide) rfl ?_
  intro p e s m args below meth c s₁ B hml hv
  obtain ⟨rfl, hZS⟩ := hv
  have hZS0 := hZS
  obtain ⟨adK, adV, hV, hZ, hZq, hR, hK0⟩ := hZS0
  have hx := B.exec
  have hb := B.bytes
  have hr := B.returns
  have hts0 := atoms_spec (ws := Cond.code zyLat prog_21_method_154_code 1 (some .boolean) :: zAl) B.pre
  have hts : ∀ w ∈ zAl, w.before _ s = true := fun w hw => hts0 w (List.mem_cons_of_mem _ hw)
  have hown : s.vm.findClass "java/lang/String" = some m.cls := findClass_of_methodNamed B.named
  have hlocks := B.notSynchronized
  have hS : va_S (fun _ => False) s.heap s.heap [] := va_S.rf
  have hl := lv_entry ([.ref b]) (n := 1) (Nat.le_of_ble_eq_true rfl)
  rw [lg_entry_eq]
  generalize (lg_sl ([.ref b]) ++ List.replicate (1 - (lg_sl ([.ref b])).length) Slot.unset).toArray = ls at hl ⊢
  have hl : lv_has ls 1 [(0, .ref b)] := hl
  have hpre : ∀ (av : List Value) (U : State), U.heap = s.heap → s.WarmedH U.vm → zJP av b av.toArray U := fun av U hU hW => ⟨rfl, zStr_ZS.2 _ _ s U b s.heap [] hZS hS hU hW (fun _ h => h)⟩
  refine va_gets hx hb hZ hS hown (hts _ zwf_cs) (fun _ h9 => h9) zjLat_0 ?_
  refine lv_if_eq (tgt := 17) hx hb zjLat_3 (by decide) (fun h => absurd h (by decide)) (fun _ => ?_)
  refine lv_aload_n hx hb zjLat_6 rfl (lv_at hl 0 rfl) ?_
  refine vk_getf hx hb (hK0 ▸ (hV.1 0 (by decide)).2.1) hS hown (hts _ zwf_cod) (fun _ h9 => h9) zjLat_7 ?_
  refine lv_if_ne (tgt := 17) hx hb zjLat_10 (by decide) (fun h => absurd rfl h) (fun _ => ?_)
  refine lv_iconst (v := 1) hx hb zjLat_13 (by decide) ?_
  refine lv_goto (tgt := 18) hx hb zjLat_14 (by decide) ?_
  exact W.zret hx hb hr rfl (fun t ht hW => ⟨rfl, ht⟩) (fun _ h => by cases h) zjLat_18
set_option maxHeartbeats 2000000 in
theorem zc_Len (l : Launch) (b : Nat) : Met l zyLen (Cond.code zyLen prog_21_method_54_code 1 (some .int) :: zAl) (zrmJ 1) (zJP [.ref b] b) (QcRead (nI zchars.length)) 0 0 (fun _ => False) := by
  refine Met.ofW (cc := prog_21_method_54_code) (maxL := 1) (ret := (some .int)) (by decide) rfl ?_
  intro p e s m args below meth c s₁ B hml hv
  obtain ⟨rfl, hZS⟩ := hv
  have hZS0 := hZS
  obtain ⟨adK, adV, hV, hZ, hZq, hR, hK0⟩ := hZS0
  have hx := B.exec
  have hb := B.bytes
  have hr := B.returns
  have hts0 := atoms_spec (ws := Cond.code zyLen prog_21_method_54_code 1 (some .int) :: zAl) B.pre
  have hts : ∀ w ∈ zAl, w.before _ s = true := fun w hw => hts0 w (List.mem_cons_of_mem _ hw)
  have hown : s.vm.findClass "java/lang/String" = some m.cls := findClass_of_methodNamed B.named
  have hlocks := B.notSynchronized
  have hS : va_S (fun _ => False) s.heap s.heap [] := va_S.rf
  have hl := lv_entry ([.ref b]) (n := 1) (Nat.le_of_ble_eq_true rfl)
  rw [lg_entry_eq]
  generalize (lg_sl ([.ref b]) ++ List.replicate (1 - (lg_sl ([.ref b])).length) Slot.unset).toArray = ls at hl ⊢
  have hl : lv_has ls 1 [(0, .ref b)] := hl
  have hpre : ∀ (av : List Value) (U : State), U.heap = s.heap → s.WarmedH U.vm → zJP av b av.toArray U := fun av U hU hW => ⟨rfl, zStr_ZS.2 _ _ s U b s.heap [] hZS hS hU hW (fun _ h => h)⟩
  refine lv_aload_n hx hb zjLen_0 rfl (lv_at hl 0 rfl) ?_
  refine vk_getf hx hb (hK0 ▸ (hV.1 0 (by decide)).2.2.1) hS hown (hts _ zwf_val) (fun _ h9 => h9) zjLen_1 ?_
  refine va_tlen (v := 127) hx hb (hV.1 0 (by decide)).2.2.2 hS rfl zjLen_4 ?_
  refine lv_aload_n hx hb zjLen_5 rfl (lv_at hl 0 rfl) ?_
  refine W.callR (W.runV (b := b) (As := []) (rest := [.int 127]) ⟨hx, hb, hml, hown, hts⟩ (zc_Cod l b) ⟨callB_of 0 hts (zgoodIn zAl_good zwc_Cod) rfl rfl rfl (hts _ zwi_S) (hts _ zwk_Cod) (by decide +kernel) ⟨Nat.le_of_ble_eq_true rfl, Nat.le_of_ble_eq_true rfl⟩, hts _ zwn_Cod, hts _ zwl_Cod⟩ ⟨zJP_blind, hK0 ▸ vk_recv hV (by decide) hS, fun U hU hW => hpre _ U hU hW⟩ rfl rfl hl.1 rfl (lv_room (Nat.le_of_ble_eq_true rfl)) zjLen_6 ⟨Nat.zero_le _, Nat.zero_le _⟩) ?_
  refine lv_ishr hx hb zjLen_9 ?_
  refine lv_topi (fun r er => ?_)
  have er : r = nI zchars.length := by rw [er]; decide +kernel
  subst er
  exact W.iret (v := nI zchars.length) hx hb hr (fun t ht hW => ⟨rfl, ht⟩) (fun _ h => by cases h) zjLen_10
set_option maxHeartbeats 2000000 in
theorem zc_Pci (l : Launch) (b : Nat) (y : Int32) (hy : vp_in y 127) (w : Value) (hw : w.category = 1) : Met l zyPci (Cond.code zyPci prog_29_method_11_code 3 (some .int) :: zAl) (zrmJ 0) (zJP [.int y, .int 127, w] b) (QcRead y) 0 0 (fun _ => False) := by
  refine Met.ofW (cc := prog_29_method_11_code) (maxL := 3) (ret := (some .int)) (by decide) rfl ?_
  intro p e s m args below meth c s₁ B hml hv
  obtain ⟨rfl, hZS⟩ := hv
  have hZS0 := hZS
  obtain ⟨adK, adV, hV, hZ, hZq, hR, hK0⟩ := hZS0
  have hx := B.exec
  have hb := B.bytes
  have hr := B.returns
  have hts0 := atoms_spec (ws := Cond.code zyPci prog_29_method_11_code 3 (some .int) :: zAl) B.pre
  have hts : ∀ w ∈ zAl, w.before _ s = true := fun w hw => hts0 w (List.mem_cons_of_mem _ hw)
  have hown : s.vm.findClass "jdk/internal/util/Preconditions" = some m.cls := findClass_of_methodNamed B.named
  have hlocks := B.notSynchronized
  have hS : va_S (fun _ => False) s.heap s.heap [] := va_S.rf
  have hl := lv_entry ([.int y, .int 127, w]) (n := 3) (by rw [show lg_sl [.int y, .int 127, w] = [.val (.int y), .val (.int 127), .val w] by simp [lg_sl, hw, show (Value.int y).category = 1 from rfl, show (Value.int 127).category = 1 from rfl]]; exact Nat.le_refl _)
  rw [lg_entry_eq]
  generalize (lg_sl ([.int y, .int 127, w]) ++ List.replicate (3 - (lg_sl ([.int y, .int 127, w])).length) Slot.unset).toArray = ls at hl ⊢
  have hl : lv_has ls 3 [(0, .int y), (1, .int 127), (2, w)] := hl
  have hpre : ∀ (av : List Value) (U : State), U.heap = s.heap → s.WarmedH U.vm → zJP av b av.toArray U := fun av U hU hW => ⟨rfl, zStr_ZS.2 _ _ s U b s.heap [] hZS hS hU hW (fun _ h => h)⟩
  have hy1 : ¬ y < 0 := fun h => hy (Or.inl h)
  have hy2 : y < 127 := by
    obtain ⟨j, hj, rfl⟩ := vp_in_of hy (by decide)
    exact nI_lt hj (by decide)
  refine lv_iload_n hx hb zjPci_0 rfl (lv_at hl 0 rfl) ?_
  refine lv_if_lt (tgt := 9) hx hb zjPci_1 (by decide) (fun h => absurd h hy1) (fun _ => ?_)
  refine lv_iload_n hx hb zjPci_4 rfl (lv_at hl 0 rfl) ?_
  refine lv_iload_n hx hb zjPci_5 rfl (lv_at hl 1 rfl) ?_
  refine lv_icmp_lt (tgt := 16) hx hb zjPci_6 (by decide) (fun _ => ?_) (fun h => absurd hy2 h)
  refine lv_iload_n hx hb zjPci_16 rfl (lv_at hl 0 rfl) ?_
  exact W.iret hx hb hr (fun t ht hW => ⟨rfl, ht⟩) (fun _ h => by cases h) zjPci_17
set_option maxHeartbeats 2000000 in
theorem zc_Chk (l : Launch) (b : Nat) (y : Int32) (hy : vp_in y 127) : Met l zyChk (Cond.code zyChk prog_21_method_155_code 2 none :: zAl) (zrmJ 1) (zJP [.int y, .int 127] b) (va_Sv (fun _ => True)) 0 0 (fun _ => False) := by
  refine Met.ofW (cc := prog_21_method_155_code) (maxL := 2) (ret := none) (by decide) rfl ?_
  intro p e s m args below meth c s₁ B hml hv
  obtain ⟨rfl, hZS⟩ := hv
  have hZS0 := hZS
  obtain ⟨adK, adV, hV, hZ, hZq, hR, hK0⟩ := hZS0
  have hx := B.exec
  have hb := B.bytes
  have hr := B.returns
  have hts0 := atoms_spec (ws := Cond.code zyChk prog_21_method_155_code 2 none :: zAl) B.pre
  have hts : ∀ w ∈ zAl, w.before _ s = true := fun w hw => hts0 w (List.mem_cons_of_mem _ hw)
  have hown : s.vm.findClass "java/lang/String" = some m.cls := findClass_of_methodNamed B.named
  have hlocks := B.notSynchronized
  have hS : va_S (fun _ => False) s.heap s.heap [] := va_S.rf
  have hl := lv_entry ([.int y, .int 127]) (n := 2) (Nat.le_of_ble_eq_true rfl)
  rw [lg_entry_eq]
  generalize (lg_sl ([.int y, .int 127]) ++ List.replicate (2 - (lg_sl ([.int y, .int 127])).length) Slot.unset).toArray = ls at hl ⊢
  have hl : lv_has ls 2 [(0, .int y), (1, .int 127)] := hl
  have hpre : ∀ (av : List Value) (U : State), U.heap = s.heap → s.WarmedH U.vm → zJP av b av.toArray U := fun av U hU hW => ⟨rfl, zStr_ZS.2 _ _ s U b s.heap [] hZS hS hU hW (fun _ h => h)⟩
  have go : ∀ w : Value, w.category = 1 → W p l e (headSpec (Cond.code zyChk prog_21_method_155_code 2 none :: zAl) (zrmJ 1)).room s m #[Value.int y, .int 127] below meth c s.heap [] 0 0 (MQ below (va_Sv (fun _ => True)) #[Value.int y, .int 127] s 0 0 (fun _ => False)) (F0 m 5 ls [w, .int 127, .int y]) := by
    intro w hw
    refine W.callR (W.runS (As := [.int y, .int 127, w]) (rest := []) ⟨hx, hb, hml, hown, hts⟩ (zc_Pci l b y hy w hw) ⟨callB_of 3 hts (zgoodIn zAl_good zwc_Pci) rfl rfl rfl (hts _ zwi_P) (hts _ zwk_Pci) (by decide +kernel) ⟨Nat.le_of_ble_eq_true rfl, Nat.le_of_ble_eq_true rfl⟩, hts _ zws_Pci⟩ ⟨zJP_blind, fun U hU hW => hpre _ U hU hW⟩ rfl rfl hl.1 rfl (lv_room (Nat.le_of_ble_eq_true rfl)) zjChk_5 ⟨Nat.zero_le _, Nat.zero_le _⟩) ?_
    refine lv_pop hx hb zjChk_8 rfl ?_
    exact W.vret hx hb hr (fun t ht hW => ⟨rfl, trivial, ht⟩) (fun _ h => by cases h) zjChk_9
  refine lv_iload_n hx hb zjChk_0 rfl (lv_at hl 0 rfl) ?_
  refine lv_iload_n hx hb zjChk_1 rfl (lv_at hl 1 rfl) ?_
  rcases hZq with hq | ⟨t, hq⟩
  · exact va_gets hx hb hq hS hown (hts _ zwf_si) (fun _ h9 => h9) zjChk_2 (go .null rfl)
  · exact va_gets hx hb hq hS hown (hts _ zwf_si) (fun _ h9 => h9) zjChk_2 (go (.ref t) rfl)
def zBA (t : Nat) (U : State) : Prop := va_T .byte t 127 (fun j => .int (zbytes.getD j 0)) (fun _ => False) U U.heap
def zJP2 (av : List Value) (b t : Nat) : Array Value → State → Prop := va_Pc av (fun U => zStr (fun _ => False) U b ∧ zBA t U)
theorem zJP2_blind {av : List Value} {b t : Nat} : FrameBlind (zJP2 av b t) := fun a U g mk q => ⟨q.1, zStr_ZS.1 _ _ _ g mk a q.2.1, va_T.moved (u := U) (U := U.calling g mk a) (Vm.Alike.refl U.vm) q.2.2⟩
theorem zbyte_ok : ∀ j, j < 127 → (((zbytes.getD j 0) &&& 255).toUInt32 % 65536).toInt32 = nI (zchars.getD j 0) := by decide +kernel
set_option maxHeartbeats 2000000 in
theorem zc_Lch (l : Launch) (b : Nat) (t : Nat) (y : Int32) (hy : vp_in y 127) : Met l zyLch (Cond.code zyLch prog_22_method_2_code 2 (some .char) :: zAl) (zrmJ 2) (zJP2 [.ref t, .int y] b t) (QcRead (nI (zchars.getD y.toNatClampNeg 0))) 0 0 (fun _ => False) := by
  refine Met.ofW (cc := prog_22_method_2_code) (maxL := 2) (ret := (some .char)) (by decide) rfl ?_
  intro p e s m args below meth c s₁ B hml hv
  obtain ⟨rfl, hZS, hBA⟩ := hv
  have hZS0 := hZS
  obtain ⟨adK, adV, hV, hZ, hZq, hR, hK0⟩ := hZS0
  have hx := B.exec
  have hb := B.bytes
  have hr := B.returns
  have hts0 := atoms_spec (ws := Cond.code zyLch prog_22_method_2_code 2 (some .char) :: zAl) B.pre
  have hts : ∀ w ∈ zAl, w.before _ s = true := fun w hw => hts0 w (List.mem_cons_of_mem _ hw)
  have hown : s.vm.findClass "java/lang/StringLatin1" = some m.cls := findClass_of_methodNamed B.named
  have hlocks := B.notSynchronized
  have hS : va_S (fun _ => False) s.heap s.heap [] := va_S.rf
  have hl := lv_entry ([.ref t, .int y]) (n := 2) (Nat.le_of_ble_eq_true rfl)
  rw [lg_entry_eq]
  generalize (lg_sl ([.ref t, .int y]) ++ List.replicate (2 - (lg_sl ([.ref t, .int y])).length) Slot.unset).toArray = ls at hl ⊢
  have hl : lv_has ls 2 [(0, .ref t), (1, .int y)] := hl
  have hpre : ∀ (av : List Value) (U : State), U.heap = s.heap → s.WarmedH U.vm → zJP av b av.toArray U := fun av U hU hW => ⟨rfl, zStr_ZS.2 _ _ s U b s.heap [] hZS hS hU hW (fun _ h => h)⟩
  refine lv_iload_n hx hb zjLch_0 rfl (lv_at hl 1 rfl) ?_
  refine lv_aload_n hx hb zjLch_1 rfl (lv_at hl 0 rfl) ?_
  refine va_tlen (v := 127) hx hb hBA hS rfl zjLch_2 ?_
  refine va_csv (W.runS (As := [.int y, .int 127]) (rest := []) ⟨hx, hb, hml, hown, hts⟩ (zc_Chk l b y hy) ⟨callB_of 2 hts (zgoodIn zAl_good zwc_Chk) rfl rfl rfl (hts _ zwi_S) (hts _ zwk_Chk) (by decide +kernel) ⟨Nat.le_of_ble_eq_true rfl, Nat.le_of_ble_eq_true rfl⟩, hts _ zws_Chk⟩ ⟨zJP_blind, fun U hU hW => hpre _ U hU hW⟩ rfl rfl hl.1 rfl (lv_room (Nat.le_of_ble_eq_true rfl)) zjLch_3 ⟨Nat.zero_le _, Nat.zero_le _⟩) (fun _ => ?_)
  refine lv_aload_n hx hb zjLch_6 rfl (lv_at hl 0 rfl) ?_
  refine lv_iload_n hx hb zjLch_7 rfl (lv_at hl 1 rfl) ?_
  refine va_tb (v := .int (zbytes.getD y.toNatClampNeg 0)) hx hb hBA hS hy rfl zjLch_8 ?_
  refine lv_sipush (v := 255) hx hb zjLch_9 (by decide) ?_
  refine lv_iand hx hb zjLch_12 ?_
  refine lv_i2c (v := nI (zchars.getD y.toNatClampNeg 0)) hx hb zjLch_13 (zbyte_ok _ (Nat.not_le.mp fun q => hy (Or.inr q))) ?_
  refine W.zret hx hb hr ?_ (fun t ht hW => ⟨rfl, ht⟩) (fun _ h => by cases h) zjLch_14
  rw [← zbyte_ok _ (Nat.not_le.mp fun q => hy (Or.inr q))]
  exact pk_nc _
set_option maxHeartbeats 2000000 in
theorem zc_Chr (l : Launch) (b : Nat) (y : Int32) (hy : vp_in y 127) : Met l zyChr (Cond.code zyChr prog_21_method_56_code 2 (some .char) :: zAl) (zrmJ 3) (zJP [.ref b, .int y] b) (QcRead (nI (zchars.getD y.toNatClampNeg 0))) 0 0 (fun _ => False) := by
  refine Met.ofW (cc := prog_21_method_56_code) (maxL := 2) (ret := (some .char)) (by decide) rfl ?_
  intro p e s m args below meth c s₁ B hml hv
  obtain ⟨rfl, hZS⟩ := hv
  have hZS0 := hZS
  obtain ⟨adK, adV, hV, hZ, hZq, hR, hK0⟩ := hZS0
  have hx := B.exec
  have hb := B.bytes
  have hr := B.returns
  have hts0 := atoms_spec (ws := Cond.code zyChr prog_21_method_56_code 2 (some .char) :: zAl) B.pre
  have hts : ∀ w ∈ zAl, w.before _ s = true := fun w hw => hts0 w (List.mem_cons_of_mem _ hw)
  have hown : s.vm.findClass "java/lang/String" = some m.cls := findClass_of_methodNamed B.named
  have hlocks := B.notSynchronized
  have hS : va_S (fun _ => False) s.heap s.heap [] := va_S.rf
  have hl := lv_entry ([.ref b, .int y]) (n := 2) (Nat.le_of_ble_eq_true rfl)
  rw [lg_entry_eq]
  generalize (lg_sl ([.ref b, .int y]) ++ List.replicate (2 - (lg_sl ([.ref b, .int y])).length) Slot.unset).toArray = ls at hl ⊢
  have hl : lv_has ls 2 [(0, .ref b), (1, .int y)] := hl
  have hpre : ∀ (av : List Value) (U : State), U.heap = s.heap → s.WarmedH U.vm → zJP av b av.toArray U := fun av U hU hW => ⟨rfl, zStr_ZS.2 _ _ s U b s.heap [] hZS hS hU hW (fun _ h => h)⟩
  refine lv_aload_n hx hb zjChr_0 rfl (lv_at hl 0 rfl) ?_
  refine W.callR (W.runV (b := b) (As := []) (rest := []) ⟨hx, hb, hml, hown, hts⟩ (zc_Lat l b) ⟨callB_of 0 hts (zgoodIn zAl_good zwc_Lat) rfl rfl rfl (hts _ zwi_S) (hts _ zwk_Lat) (by decide +kernel) ⟨Nat.le_of_ble_eq_true rfl, Nat.le_of_ble_eq_true rfl⟩, hts _ zwn_Lat, hts _ zwl_Lat⟩ ⟨zJP_blind, hK0 ▸ vk_recv hV (by decide) hS, fun U hU hW => hpre _ U hU hW⟩ rfl rfl hl.1 rfl (lv_room (Nat.le_of_ble_eq_true rfl)) zjChr_1 ⟨Nat.zero_le _, Nat.zero_le _⟩) ?_
  show W p l e _ s m _ below meth c s.heap [] 0 0 _ (F0 m 4 ls [.int 1])
  refine lv_if_eq (tgt := 16) hx hb zjChr_4 (by decide) (fun h => absurd h (by decide)) (fun _ => ?_)
  refine lv_aload_n hx hb zjChr_7 rfl (lv_at hl 0 rfl) ?_
  refine vk_getf hx hb (hK0 ▸ (hV.1 0 (by decide)).2.2.1) hS hown (hts _ zwf_val) (fun _ h9 => h9) zjChr_8 ?_
  refine lv_iload_n hx hb zjChr_11 rfl (lv_at hl 1 rfl) ?_
  refine W.callR (W.runS (As := [.ref (adV 0), .int y]) (rest := []) ⟨hx, hb, hml, hown, hts⟩ (zc_Lch l b (adV 0) y hy) ⟨callB_of 2 hts (zgoodIn zAl_good zwc_Lch) rfl rfl rfl (hts _ zwi_L) (hts _ zwk_Lch) (by decide +kernel) ⟨Nat.le_of_ble_eq_true rfl, Nat.le_of_ble_eq_true rfl⟩, hts _ zws_Lch⟩ ⟨zJP2_blind, fun U hU hW => ⟨rfl, (hpre [] U hU hW).2, va_T.moved hW.alike (by rw [hU]; exact (hV.1 0 (by decide)).2.2.2)⟩⟩ rfl rfl hl.1 rfl (lv_room (Nat.le_of_ble_eq_true rfl)) zjChr_12 ⟨Nat.zero_le _, Nat.zero_le _⟩) ?_
  refine W.zret hx hb hr ?_ (fun t ht hW => ⟨rfl, ht⟩) (fun _ h => by cases h) zjChr_15
  rw [← zbyte_ok _ (Nat.not_le.mp fun q => hy (Or.inr q))]
  exact pk_nc _
set_option maxHeartbeats 2000000 in
theorem zJ_ok (l : Launch) : zJ l zAl zStr := by
  intro p e R s m args below meth c H locs mc ms Q cc pc ls rest own A b hx hb hml hown hts hZS hS hA hF hL hcR hsR hrest
  have hZS0 := hZS
  obtain ⟨adK, adV, hV, hZ, hZq, hR, hK0⟩ := hZS0
  have hpre : ∀ (av : List Value) (U : State), U.heap = H → s.WarmedH U.vm → zJP av b av.toArray U := fun av U hU hW => ⟨rfl, zStr_ZS.2 _ _ s U b H locs hZS hS hU hW (fun _ h => h.elim)⟩
  refine ⟨fun idx hl hdg kk => ?_, fun idx y hl hy hdg kk => ?_, fun ho hdg kk => ?_⟩
  · exact W.callR (W.runV (b := b) (As := []) (rest := rest) ⟨hx, hb, hml, hown, hts⟩ (zc_Len l b) ⟨callB_of 0 hts (zgoodIn zAl_good zwc_Len) rfl rfl rfl (hts _ zwi_S) (hts _ hl) (by decide +kernel) ⟨by show 1 + 1 ≤ _; omega, by show 8 + (1 + 11) + 40 * 1 ≤ _; omega⟩, hts _ zwn_Len, hts _ zwl_Len⟩ ⟨zJP_blind, hK0 ▸ vk_recv hV (by decide) hS, fun U hU hW => hpre _ U hU hW⟩ rfl rfl rfl rfl (lv_room hrest) hdg ⟨hcR, hsR⟩) kk
  · exact W.callR (W.runV (b := b) (As := [.int y]) (rest := rest) ⟨hx, hb, hml, hown, hts⟩ (zc_Chr l b y hy) ⟨callB_of 1 hts (zgoodIn zAl_good zwc_Chr) rfl rfl rfl (hts _ zwi_S) (hts _ hl) (by decide +kernel) ⟨by show 3 + 1 ≤ _; omega, by show 8 + (2 + 11) + 40 * 3 ≤ _; omega⟩, hts _ zwn_Chr, hts _ zwl_Chr⟩ ⟨zJP_blind, hK0 ▸ vk_recv hV (by decide) hS, fun U hU hW => hpre _ U hU hW⟩ rfl rfl rfl rfl (lv_room hrest) hdg ⟨hcR, hsR⟩) kk
  · subst ho
    rw [← hK0] at kk
    exact va_ldcS hx hb hown hR hdg kk
end ZSTR
end
section
/-! the table of methods: what the runs reach, by program -/
def ze0 : List (List ZEn) := [[(0, .aload_n 0, 1, 0, 0), (1, .invokespecial 3, 3, 1, 0), (4, .aload_n 0, 1, 0, 0), (5, .bipush 12, 2, 0, 0), (7, .newarray .int, 2, 0, 0), (9, .putfield 11, 3, 0, 1), (12, .aload_n 0, 1, 0, 0), (13, .bipush 24, 2, 0, 0), (15, .newarray .int, 2, 0, 0)],
  [(17, .putfield 15, 3, 0, 2), (20, .aload_n 0, 1, 0, 0), (21, .sipush 144, 3, 0, 0), (24, .newarray .int, 2, 0, 0), (26, .putfield 18, 3, 0, 3), (29, .return_, 1, 0, 0)]]
def zm0 : ZMI := (yX0_init, cX0_init, 1, none, 2, 3, 180, 0, 0, ze0)
def ze1 : List (List ZEn) := [[(0, .aload_n 0, 1, 0, 0), (1, .iconst 0, 1, 0, 0), (2, .putfield 21, 3, 0, 0), (5, .return_, 1, 0, 0)]]
def zm1 : ZMI := (yX0_reset, cX0_reset, 1, none, 0, 0, 0, 0, 0, ze1)
def ze2 : List (List ZEn) := [[(0, .iconst 0, 1, 0, 0), (1, .istore_n 3, 1, 0, 0), (2, .iconst 0, 1, 0, 0), (3, .istore 4, 2, 0, 0), (5, .iload 4, 2, 0, 0), (7, .aload_n 0, 1, 0, 0), (8, .getfield 21, 3, 0, 0), (11, .if_icmp .ge 78, 3, 0, 0)],
  [],
  [],
  [],
  [],
  [(89, .iload_n 3, 1, 0, 0), (90, .ireturn, 1, 0, 0)]]
def zm2 : ZMI := (yX0_fitting, cX0_fitting, 6, (some .int), 0, 0, 0, 2, 0, ze2)
def ze3 : List (List ZEn) := [[(0, .aload_n 0, 1, 0, 0), (1, .invokespecial 3, 3, 1, 0), (4, .aload_n 0, 1, 0, 0), (5, .new 9, 3, 5, 0), (8, .dup, 1, 0, 0), (9, .invokespecial 11, 3, 6, 33), (12, .putfield 12, 3, 1, 0), (15, .aload_n 0, 1, 0, 0)],
  [(16, .iconst 4, 1, 0, 0), (17, .newarray .long, 2, 0, 0), (19, .putfield 18, 3, 1, 7), (22, .return_, 1, 0, 0)]]
def zm3 : ZMI := (yX1_init, cX1_init, 1, none, 2, 8, 287, 0, 1, ze3)
def ze4 : List (List ZEn) := [[(0, .aload_n 0, 1, 0, 0), (1, .invokevirtual 22, 3, 0, 6), (4, .aload_n 0, 1, 0, 0), (5, .getfield 12, 3, 1, 0), (8, .getfield 25, 3, 5, 11), (11, .istore_n 3, 1, 0, 0), (12, .aload_n 0, 1, 0, 0), (13, .getfield 12, 3, 1, 0)],
  [(16, .getfield 29, 3, 5, 6), (19, .ifCond .ne 20, 3, 0, 0), (22, .aload_n 0, 1, 0, 0), (23, .getfield 12, 3, 1, 0), (26, .getfield 32, 3, 5, 14), (29, .ifCond .ne 10, 3, 0, 0)],
  [(32, .aload_n 0, 1, 0, 0), (33, .iconst 0, 1, 0, 0), (34, .iconst 0, 1, 0, 0), (35, .invokevirtual 36, 3, 0, 7), (38, .pop, 1, 0, 0), (39, .iconst 0, 1, 0, 0), (40, .istore 4, 2, 0, 0), (42, .iload 4, 2, 0, 0), (44, .iload_n 2, 1, 0, 0), (45, .if_icmp .gt 125, 3, 0, 0)],
  [(48, .aload_n 0, 1, 0, 0), (49, .getfield 12, 3, 1, 0), (52, .invokevirtual 40, 3, 0, 39), (55, .ifCond .eq 27, 3, 0, 0), (58, .aload_n 0, 1, 0, 0), (59, .aload_n 0, 1, 0, 0), (60, .getfield 12, 3, 1, 0), (63, .getfield 44, 3, 5, 13)],
  [(66, .iload 4, 2, 0, 0), (68, .aload_n 0, 1, 0, 0), (69, .getfield 12, 3, 1, 0), (72, .getfield 25, 3, 5, 11), (75, .iload_n 3, 1, 0, 0), (76, .isub, 1, 0, 0), (77, .iconst 0, 1, 0, 0), (78, .invokevirtual 47, 3, 0, 5)],
  [(81, .return_, 1, 0, 0)]]
def zm4 : ZMI := (yX1_go, cX1_go, 6, none, 0, 4, 11776, 2, 1, ze4)
def ze5 : List (List ZEn) := [[(0, .aload_n 0, 1, 0, 0), (1, .iload_n 1, 1, 0, 0), (2, .putfield 66, 3, 1, 1), (5, .aload_n 0, 1, 0, 0), (6, .iload_n 2, 1, 0, 0), (7, .putfield 69, 3, 1, 2), (10, .aload_n 0, 1, 0, 0), (11, .iload_n 3, 1, 0, 0), (12, .putfield 72, 3, 1, 3), (15, .aload_n 0, 1, 0, 0)],
  [(16, .iload 4, 2, 0, 0), (18, .putfield 73, 3, 1, 4), (21, .return_, 1, 0, 0)]]
def zm5 : ZMI := (yX1_answer, cX1_answer, 5, none, 0, 0, 0, 4, 1, ze5)
def ze6 : List (List ZEn) := [[(0, .aload_n 0, 1, 0, 0), (1, .getfield 76, 3, 1, 11), (4, .ifnonnull 39, 3, 0, 0), (7, .aload_n 0, 1, 0, 0), (8, .sipush 4608, 3, 0, 0), (11, .newarray .long, 2, 0, 0), (13, .putfield 79, 3, 1, 8)],
  [(16, .aload_n 0, 1, 0, 0), (17, .sipush 1536, 3, 0, 0), (20, .newarray .int, 2, 0, 0), (22, .putfield 59, 3, 1, 9), (25, .aload_n 0, 1, 0, 0), (26, .sipush 1536, 3, 0, 0), (29, .newarray .int, 2, 0, 0), (31, .putfield 63, 3, 1, 10)],
  [(34, .aload_n 0, 1, 0, 0), (35, .sipush 4096, 3, 0, 0), (38, .newarray .long, 2, 0, 0), (40, .putfield 76, 3, 1, 11), (43, .aload_n 0, 1, 0, 0), (44, .iconst 0, 1, 0, 0), (45, .putfield 82, 3, 1, 5)],
  [(48, .aload_n 0, 1, 0, 0), (49, .dup, 1, 0, 0), (50, .getfield 85, 3, 1, 6), (53, .lconst 1, 1, 0, 0), (54, .ladd, 1, 0, 0), (55, .putfield 85, 3, 1, 6), (58, .return_, 1, 0, 0)]]
def zm6 : ZMI := (yX1_forgetStates, cX1_forgetStates, 1, none, 0, 4, 11776, 0, 1, ze6)
def ze7 : List (List ZEn) := [[(0, .aload_n 0, 1, 0, 0), (1, .invokevirtual 89, 3, 0, 9), (4, .aload_n 0, 1, 0, 0), (5, .invokevirtual 92, 3, 0, 10), (8, .istore_n 3, 1, 0, 0), (9, .iconst 0, 1, 0, 0), (10, .istore 4, 2, 0, 0), (12, .iload 4, 2, 0, 0), (14, .sipush 4096, 3, 0, 0)],
  [(17, .if_icmp .ge 77, 3, 0, 0), (20, .aload_n 0, 1, 0, 0), (21, .getfield 76, 3, 1, 11), (24, .iload_n 3, 1, 0, 0), (25, .laload, 1, 0, 0), (26, .lstore 5, 2, 0, 0), (28, .lload 5, 2, 0, 0), (30, .l2i, 1, 0, 0), (31, .sipush 2047, 3, 0, 0)],
  [(34, .iand, 1, 0, 0), (35, .istore 7, 2, 0, 0), (37, .lload 5, 2, 0, 0), (39, .bipush 11, 2, 0, 0), (41, .lshr, 1, 0, 0), (42, .aload_n 0, 1, 0, 0), (43, .getfield 85, 3, 1, 6), (46, .lcmp, 1, 0, 0), (47, .ifCond .eq 12, 3, 0, 0)],
  [(50, .aload_n 0, 1, 0, 0), (51, .iload_n 3, 1, 0, 0), (52, .iload_n 1, 1, 0, 0), (53, .iload_n 2, 1, 0, 0), (54, .invokevirtual 95, 3, 0, 8), (57, .iconst (-1), 1, 0, 0), (58, .ireturn, 1, 0, 0)]]
def zm7 : ZMI := (yX1_noteState, cX1_noteState, 8, (some .int), 0, 0, 0, 2, 1, ze7)
def ze8 : List (List ZEn) := [[(0, .aload_n 0, 1, 0, 0), (1, .getfield 82, 3, 1, 5), (4, .sipush 1536, 3, 0, 0), (7, .if_icmp .lt 4, 3, 0, 0), (11, .iconst 0, 1, 0, 0), (12, .istore 4, 2, 0, 0), (14, .iload 4, 2, 0, 0)],
  [(16, .iconst 3, 1, 0, 0), (17, .if_icmp .ge 30, 3, 0, 0), (20, .aload_n 0, 1, 0, 0), (21, .getfield 79, 3, 1, 8), (24, .aload_n 0, 1, 0, 0), (25, .getfield 82, 3, 1, 5), (28, .iconst 3, 1, 0, 0), (29, .imul, 1, 0, 0), (30, .iload 4, 2, 0, 0)],
  [(32, .iadd, 1, 0, 0), (33, .aload_n 0, 1, 0, 0), (34, .getfield 18, 3, 1, 7), (37, .iload 4, 2, 0, 0), (39, .laload, 1, 0, 0), (40, .lastore, 1, 0, 0), (41, .iinc 4 1, 3, 0, 0), (44, .goto (-30), 3, 0, 0), (47, .aload_n 0, 1, 0, 0)],
  [(48, .getfield 59, 3, 1, 9), (51, .aload_n 0, 1, 0, 0), (52, .getfield 82, 3, 1, 5), (55, .iload_n 2, 1, 0, 0), (56, .iastore, 1, 0, 0), (57, .aload_n 0, 1, 0, 0), (58, .getfield 63, 3, 1, 10), (61, .aload_n 0, 1, 0, 0), (62, .getfield 82, 3, 1, 5)],
  [(65, .iload_n 3, 1, 0, 0), (66, .iastore, 1, 0, 0), (67, .aload_n 0, 1, 0, 0), (68, .getfield 76, 3, 1, 11), (71, .iload_n 1, 1, 0, 0), (72, .aload_n 0, 1, 0, 0), (73, .getfield 85, 3, 1, 6), (76, .bipush 11, 2, 0, 0), (78, .lshl, 1, 0, 0), (79, .aload_n 0, 1, 0, 0)],
  [(80, .getfield 82, 3, 1, 5), (83, .i2l, 1, 0, 0), (84, .lor, 1, 0, 0), (85, .lastore, 1, 0, 0), (86, .aload_n 0, 1, 0, 0), (87, .dup, 1, 0, 0), (88, .getfield 82, 3, 1, 5), (91, .iconst 1, 1, 0, 0), (92, .iadd, 1, 0, 0), (93, .putfield 82, 3, 1, 5)],
  [(96, .return_, 1, 0, 0)]]
def zm8 : ZMI := (yX1_addState, cX1_addState, 5, none, 0, 0, 0, 3, 1, ze8)
def ze9 : List (List ZEn) := [[(0, .aload_n 0, 1, 0, 0), (1, .getfield 12, 3, 1, 0), (4, .getfield 103, 3, 5, 2), (7, .iconst 0, 1, 0, 0), (8, .iaload, 1, 0, 0), (9, .istore_n 1, 1, 0, 0), (10, .aload_n 0, 1, 0, 0), (11, .getfield 12, 3, 1, 0), (14, .getfield 103, 3, 5, 2)],
  [(17, .iconst 1, 1, 0, 0), (18, .iaload, 1, 0, 0), (19, .istore_n 2, 1, 0, 0), (20, .aload_n 0, 1, 0, 0), (21, .getfield 18, 3, 1, 7), (24, .iconst 0, 1, 0, 0), (25, .iload_n 1, 1, 0, 0), (26, .iconst 2, 1, 0, 0), (27, .imul, 1, 0, 0), (28, .aload_n 0, 1, 0, 0), (29, .getfield 12, 3, 1, 0)],
  [(32, .getfield 106, 3, 5, 7), (35, .iadd, 1, 0, 0), (36, .i2l, 1, 0, 0), (37, .bipush 48, 2, 0, 0), (39, .lshl, 1, 0, 0), (40, .lastore, 1, 0, 0), (41, .aload_n 0, 1, 0, 0), (42, .getfield 18, 3, 1, 7), (45, .iconst 1, 1, 0, 0), (46, .lconst 0, 1, 0, 0), (47, .lastore, 1, 0, 0)],
  [(48, .aload_n 0, 1, 0, 0), (49, .getfield 18, 3, 1, 7), (52, .iconst 2, 1, 0, 0), (53, .lconst 0, 1, 0, 0), (54, .lastore, 1, 0, 0), (55, .iconst 0, 1, 0, 0), (56, .istore_n 3, 1, 0, 0), (57, .iload_n 3, 1, 0, 0), (58, .iload_n 1, 1, 0, 0), (59, .if_icmp .ge 31, 3, 0, 0)],
  [],
  [(90, .iconst 0, 1, 0, 0), (91, .istore_n 3, 1, 0, 0), (92, .iload_n 3, 1, 0, 0), (93, .iload_n 2, 1, 0, 0), (94, .if_icmp .ge 33, 3, 0, 0)],
  [],
  [(127, .return_, 1, 0, 0)]]
def zm9 : ZMI := (yX1_makeKey, cX1_makeKey, 4, none, 0, 0, 0, 0, 1, ze9)
def ze10 : List (List ZEn) := [[(0, .aload_n 0, 1, 0, 0), (1, .getfield 18, 3, 1, 7), (4, .iconst 0, 1, 0, 0), (5, .laload, 1, 0, 0), (6, .ldc2_w 119, 3, 11400714819323198485, 0), (9, .lmul, 1, 0, 0), (10, .aload_n 0, 1, 0, 0), (11, .getfield 18, 3, 1, 7), (14, .iconst 1, 1, 0, 0), (15, .laload, 1, 0, 0)],
  [(16, .ldc2_w 121, 3, 14029467366897019727, 0), (19, .lmul, 1, 0, 0), (20, .lxor, 1, 0, 0), (21, .aload_n 0, 1, 0, 0), (22, .getfield 18, 3, 1, 7), (25, .iconst 2, 1, 0, 0), (26, .laload, 1, 0, 0), (27, .ldc2_w 123, 3, 1609587929392839161, 0), (30, .lmul, 1, 0, 0), (31, .lxor, 1, 0, 0)],
  [(32, .lstore_n 1, 1, 0, 0), (33, .lload_n 1, 1, 0, 0), (34, .bipush 40, 2, 0, 0), (36, .lushr, 1, 0, 0), (37, .lload_n 1, 1, 0, 0), (38, .bipush 20, 2, 0, 0), (40, .lushr, 1, 0, 0), (41, .lxor, 1, 0, 0), (42, .l2i, 1, 0, 0), (43, .sipush 4095, 3, 0, 0), (46, .iand, 1, 0, 0), (47, .ireturn, 1, 0, 0)]]
def zm10 : ZMI := (yX1_hashOfKey, cX1_hashOfKey, 3, (some .int), 0, 0, 0, 0, 1, ze10)
def ze11 : List (List ZEn) := [[(0, .aload_n 0, 1, 0, 0), (1, .invokespecial 3, 3, 1, 0), (4, .aload_n 0, 1, 0, 0), (5, .new 9, 3, 5, 0), (8, .dup, 1, 0, 0), (9, .invokespecial 11, 3, 6, 33), (12, .putfield 12, 3, 2, 0), (15, .aload_n 0, 1, 0, 0)],
  [(16, .bipush 48, 2, 0, 0), (18, .newarray .int, 2, 0, 0), (20, .putfield 18, 3, 2, 1), (23, .aload_n 0, 1, 0, 0), (24, .iconst 2, 1, 0, 0), (25, .newarray .int, 2, 0, 0), (27, .putfield 22, 3, 2, 2), (30, .aload_n 0, 1, 0, 0), (31, .bipush 40, 2, 0, 0)],
  [(33, .newarray .int, 2, 0, 0), (35, .putfield 25, 3, 2, 4), (38, .aload_n 0, 1, 0, 0), (39, .bipush 64, 2, 0, 0), (41, .newarray .int, 2, 0, 0), (43, .putfield 28, 3, 2, 7), (46, .aload_n 0, 1, 0, 0), (47, .bipush 12, 2, 0, 0)],
  [(49, .newarray .int, 2, 0, 0), (51, .putfield 31, 3, 2, 9), (54, .aload_n 0, 1, 0, 0), (55, .bipush 8, 2, 0, 0), (57, .newarray .int, 2, 0, 0), (59, .putfield 34, 3, 2, 11), (62, .aload_n 0, 1, 0, 0), (63, .bipush 8, 2, 0, 0)],
  [(65, .newarray .int, 2, 0, 0), (67, .putfield 37, 3, 2, 12), (70, .aload_n 0, 1, 0, 0), (71, .bipush 8, 2, 0, 0), (73, .newarray .int, 2, 0, 0), (75, .putfield 40, 3, 2, 13), (78, .return_, 1, 0, 0)]]
def zm11 : ZMI := (yX2_init, cX2_init, 1, none, 2, 15, 473, 0, 2, ze11)
def ze12 : List (List ZEn) := [[(0, .aload_n 0, 1, 0, 0), (1, .iconst 0, 1, 0, 0), (2, .putfield 43, 3, 2, 3), (5, .aload_n 0, 1, 0, 0), (6, .getfield 22, 3, 2, 2), (9, .iconst 0, 1, 0, 0), (10, .iconst 0, 1, 0, 0), (11, .iastore, 1, 0, 0), (12, .aload_n 0, 1, 0, 0), (13, .getfield 22, 3, 2, 2)],
  [(16, .iconst 1, 1, 0, 0), (17, .iconst 0, 1, 0, 0), (18, .iastore, 1, 0, 0), (19, .aload_n 0, 1, 0, 0), (20, .aload_n 1, 1, 0, 0), (21, .invokevirtual 47, 3, 0, 14), (24, .return_, 1, 0, 0)]]
def zm12 : ZMI := (yX2_startEmpty, cX2_startEmpty, 2, none, 0, 0, 0, 1, 2, ze12)
def ze13 : List (List ZEn) := [[(0, .aload_n 1, 1, 0, 0), (1, .arraylength, 1, 0, 0), (2, .bipush 48, 2, 0, 0), (4, .invokestatic 51, 3, 3, 0), (7, .istore 4, 2, 0, 0), (9, .iload_n 2, 1, 0, 0), (10, .ifCond .lt 27, 3, 0, 0), (13, .iload_n 3, 1, 0, 0), (14, .ifCond .lt 23, 3, 0, 0)],
  [(17, .iload_n 2, 1, 0, 0), (18, .bipush 24, 2, 0, 0), (20, .if_icmp .gt 17, 3, 0, 0), (23, .iload_n 3, 1, 0, 0), (24, .bipush 24, 2, 0, 0), (26, .if_icmp .gt 11, 3, 0, 0), (29, .iload_n 2, 1, 0, 0), (30, .iload_n 3, 1, 0, 0), (31, .iadd, 1, 0, 0)],
  [(32, .iload 4, 2, 0, 0), (34, .if_icmp .le 4, 3, 0, 0), (38, .iconst 0, 1, 0, 0), (39, .istore 5, 2, 0, 0), (41, .iload 5, 2, 0, 0), (43, .iload_n 2, 1, 0, 0), (44, .if_icmp .ge 20, 3, 0, 0)],
  [],
  [(64, .iconst 0, 1, 0, 0), (65, .istore 5, 2, 0, 0), (67, .iload 5, 2, 0, 0), (69, .iload_n 3, 1, 0, 0), (70, .if_icmp .ge 25, 3, 0, 0)],
  [(95, .aload_n 0, 1, 0, 0)],
  [(96, .getfield 22, 3, 2, 2), (99, .iconst 0, 1, 0, 0), (100, .iload_n 2, 1, 0, 0), (101, .iastore, 1, 0, 0), (102, .aload_n 0, 1, 0, 0), (103, .getfield 22, 3, 2, 2), (106, .iconst 1, 1, 0, 0), (107, .iload_n 3, 1, 0, 0), (108, .iastore, 1, 0, 0), (109, .aload_n 0, 1, 0, 0), (110, .iconst 1, 1, 0, 0), (111, .putfield 43, 3, 2, 3)],
  [(114, .return_, 1, 0, 0)]]
def zm13 : ZMI := (yX2_dealRows, cX2_dealRows, 6, none, 0, 0, 0, 3, 2, ze13)
def ze14 : List (List ZEn) := [[(0, .aload_n 0, 1, 0, 0), (1, .getfield 12, 3, 2, 0), (4, .aload_n 1, 1, 0, 0), (5, .getfield 57, 3, 9, 7), (8, .aload_n 1, 1, 0, 0), (9, .getfield 63, 3, 9, 2), (12, .invokevirtual 66, 3, 0, 34), (15, .aload_n 0, 1, 0, 0)],
  [(16, .getfield 12, 3, 2, 0), (19, .iconst 0, 1, 0, 0), (20, .aload_n 0, 1, 0, 0), (21, .getfield 18, 3, 2, 1), (24, .iconst 0, 1, 0, 0), (25, .aload_n 0, 1, 0, 0), (26, .getfield 22, 3, 2, 2), (29, .iconst 0, 1, 0, 0), (30, .iaload, 1, 0, 0), (31, .invokevirtual 70, 3, 0, 35)],
  [(34, .aload_n 0, 1, 0, 0), (35, .getfield 12, 3, 2, 0), (38, .iconst 1, 1, 0, 0), (39, .aload_n 0, 1, 0, 0), (40, .getfield 18, 3, 2, 1), (43, .bipush 24, 2, 0, 0), (45, .aload_n 0, 1, 0, 0), (46, .getfield 22, 3, 2, 2)],
  [(49, .iconst 1, 1, 0, 0), (50, .iaload, 1, 0, 0), (51, .invokevirtual 70, 3, 0, 35), (54, .aload_n 0, 1, 0, 0), (55, .iconst 0, 1, 0, 0), (56, .putfield 74, 3, 2, 5), (59, .aload_n 0, 1, 0, 0), (60, .iconst 0, 1, 0, 0), (61, .putfield 77, 3, 2, 6)],
  [(64, .aload_n 0, 1, 0, 0), (65, .iconst 0, 1, 0, 0), (66, .putfield 80, 3, 2, 8), (69, .aload_n 0, 1, 0, 0), (70, .iconst 0, 1, 0, 0), (71, .putfield 83, 3, 2, 10), (74, .aload_n 0, 1, 0, 0), (75, .iconst 0, 1, 0, 0), (76, .putfield 86, 3, 2, 14), (79, .aload_n 0, 1, 0, 0)],
  [(80, .bipush 100, 2, 0, 0), (82, .putfield 89, 3, 2, 15), (85, .return_, 1, 0, 0)]]
def zm14 : ZMI := (yX2_startDealt, cX2_startDealt, 2, none, 0, 0, 0, 1, 2, ze14)
def ze15 : List (List ZEn) := [[(0, .aload_n 0, 1, 0, 0), (1, .getfield 12, 3, 2, 0), (4, .aload_n 1, 1, 0, 0), (5, .getfield 12, 3, 2, 0), (8, .invokevirtual 92, 3, 0, 36), (11, .aload_n 1, 1, 0, 0), (12, .getfield 18, 3, 2, 1), (15, .iconst 0, 1, 0, 0)],
  [(16, .aload_n 0, 1, 0, 0), (17, .getfield 18, 3, 2, 1), (20, .iconst 0, 1, 0, 0), (21, .bipush 48, 2, 0, 0), (23, .invokestatic 96, 3, 2, 0), (26, .aload_n 0, 1, 0, 0), (27, .getfield 22, 3, 2, 2), (30, .iconst 0, 1, 0, 0), (31, .aload_n 1, 1, 0, 0)],
  [(32, .getfield 22, 3, 2, 2), (35, .iconst 0, 1, 0, 0), (36, .iaload, 1, 0, 0), (37, .iastore, 1, 0, 0), (38, .aload_n 0, 1, 0, 0), (39, .getfield 22, 3, 2, 2), (42, .iconst 1, 1, 0, 0), (43, .aload_n 1, 1, 0, 0), (44, .getfield 22, 3, 2, 2), (47, .iconst 1, 1, 0, 0)],
  [(48, .iaload, 1, 0, 0), (49, .iastore, 1, 0, 0), (50, .aload_n 0, 1, 0, 0), (51, .aload_n 1, 1, 0, 0), (52, .getfield 43, 3, 2, 3), (55, .putfield 43, 3, 2, 3), (58, .aload_n 1, 1, 0, 0), (59, .getfield 25, 3, 2, 4), (62, .iconst 0, 1, 0, 0), (63, .aload_n 0, 1, 0, 0)],
  [(64, .getfield 25, 3, 2, 4), (67, .iconst 0, 1, 0, 0), (68, .bipush 40, 2, 0, 0), (70, .invokestatic 96, 3, 2, 0), (73, .aload_n 0, 1, 0, 0), (74, .aload_n 1, 1, 0, 0), (75, .getfield 74, 3, 2, 5), (78, .putfield 74, 3, 2, 5)],
  [(81, .aload_n 0, 1, 0, 0), (82, .aload_n 1, 1, 0, 0), (83, .getfield 77, 3, 2, 6), (86, .putfield 77, 3, 2, 6), (89, .aload_n 1, 1, 0, 0), (90, .getfield 28, 3, 2, 7), (93, .iconst 0, 1, 0, 0), (94, .aload_n 0, 1, 0, 0), (95, .getfield 28, 3, 2, 7)],
  [(98, .iconst 0, 1, 0, 0), (99, .bipush 64, 2, 0, 0), (101, .invokestatic 96, 3, 2, 0), (104, .aload_n 0, 1, 0, 0), (105, .aload_n 1, 1, 0, 0), (106, .getfield 80, 3, 2, 8), (109, .putfield 80, 3, 2, 8)],
  [(112, .aload_n 1, 1, 0, 0), (113, .getfield 31, 3, 2, 9), (116, .iconst 0, 1, 0, 0), (117, .aload_n 0, 1, 0, 0), (118, .getfield 31, 3, 2, 9), (121, .iconst 0, 1, 0, 0), (122, .bipush 12, 2, 0, 0), (124, .invokestatic 96, 3, 2, 0), (127, .aload_n 0, 1, 0, 0)],
  [(128, .aload_n 1, 1, 0, 0), (129, .getfield 83, 3, 2, 10), (132, .putfield 83, 3, 2, 10), (135, .aload_n 1, 1, 0, 0), (136, .getfield 34, 3, 2, 11), (139, .iconst 0, 1, 0, 0), (140, .aload_n 0, 1, 0, 0), (141, .getfield 34, 3, 2, 11)],
  [(144, .iconst 0, 1, 0, 0), (145, .bipush 8, 2, 0, 0), (147, .invokestatic 96, 3, 2, 0), (150, .aload_n 1, 1, 0, 0), (151, .getfield 37, 3, 2, 12), (154, .iconst 0, 1, 0, 0), (155, .aload_n 0, 1, 0, 0), (156, .getfield 37, 3, 2, 12), (159, .iconst 0, 1, 0, 0)],
  [(160, .bipush 8, 2, 0, 0), (162, .invokestatic 96, 3, 2, 0), (165, .aload_n 1, 1, 0, 0), (166, .getfield 40, 3, 2, 13), (169, .iconst 0, 1, 0, 0), (170, .aload_n 0, 1, 0, 0), (171, .getfield 40, 3, 2, 13), (174, .iconst 0, 1, 0, 0), (175, .bipush 8, 2, 0, 0)],
  [(177, .invokestatic 96, 3, 2, 0), (180, .aload_n 0, 1, 0, 0), (181, .aload_n 1, 1, 0, 0), (182, .getfield 86, 3, 2, 14), (185, .putfield 86, 3, 2, 14), (188, .aload_n 0, 1, 0, 0), (189, .aload_n 1, 1, 0, 0), (190, .getfield 89, 3, 2, 15)],
  [(193, .putfield 89, 3, 2, 15), (196, .return_, 1, 0, 0)]]
def zm15 : ZMI := (yX2_copyFrom, cX2_copyFrom, 2, none, 0, 0, 0, 1, 2, ze15)
def ze16 : List (List ZEn) := [[(0, .iload_n 1, 1, 0, 0), (1, .ifCond .lt 11, 3, 0, 0), (4, .iload_n 1, 1, 0, 0), (5, .aload_n 0, 1, 0, 0), (6, .getfield 77, 3, 2, 6), (9, .if_icmp .lt 5, 3, 0, 0), (12, .iconst (-1), 1, 0, 0), (13, .ireturn, 1, 0, 0)]]
def zm16 : ZMI := (yX2_keptHeap, cX2_keptHeap, 4, (some .int), 0, 0, 0, 2, 2, ze16)
def ze17 : List (List ZEn) := [[(0, .aload_n 0, 1, 0, 0), (1, .getfield 12, 3, 2, 0), (4, .getfield 102, 3, 5, 13), (7, .iconst (-1), 1, 0, 0), (8, .if_icmp .eq 5, 3, 0, 0), (13, .aload_n 0, 1, 0, 0), (14, .getfield 12, 3, 2, 0)],
  [(17, .invokevirtual 105, 3, 0, 40), (20, .istore_n 2, 1, 0, 0), (21, .iload_n 2, 1, 0, 0), (22, .ifCond .ne 9, 3, 0, 0), (25, .aload_n 0, 1, 0, 0), (26, .invokevirtual 109, 3, 0, 21), (29, .iconst 0, 1, 0, 0), (30, .ireturn, 1, 0, 0)]]
def zm17 : ZMI := (yX2_turnByHand, cX2_turnByHand, 3, (some .boolean), 0, 0, 0, 1, 2, ze17)
def ze18 : List (List ZEn) := [[(0, .aload_n 0, 1, 0, 0), (1, .getfield 12, 3, 2, 0), (4, .getfield 102, 3, 5, 13), (7, .iconst (-1), 1, 0, 0), (8, .if_icmp .eq 5, 3, 0, 0), (13, .iload_n 1, 1, 0, 0), (14, .tableswitch 67 0 2 #[26, 51, 26], 26, 0, 0)],
  [],
  [(40, .aload_n 0, 1, 0, 0), (41, .getfield 12, 3, 2, 0), (44, .getfield 116, 3, 5, 2), (47, .aload_n 0, 1, 0, 0)],
  [(48, .getfield 12, 3, 2, 0), (51, .getfield 119, 3, 5, 7), (54, .iaload, 1, 0, 0), (55, .iconst 2, 1, 0, 0), (56, .if_icmp .lt 7, 3, 0, 0), (63, .iconst 0, 1, 0, 0)],
  [(64, .ireturn, 1, 0, 0), (65, .aload_n 0, 1, 0, 0), (66, .getfield 12, 3, 2, 0), (69, .getfield 122, 3, 5, 14), (72, .ifCond .ne 7, 3, 0, 0), (75, .iconst 1, 1, 0, 0), (76, .goto 4, 3, 0, 0)],
  [(80, .ireturn, 1, 0, 0), (81, .iconst 0, 1, 0, 0), (82, .ireturn, 1, 0, 0)]]
def zm18 : ZMI := (yX2_canSlip, cX2_canSlip, 2, (some .boolean), 0, 0, 0, 1, 2, ze18)
def ze19 : List (List ZEn) := [[(0, .iload_n 1, 1, 0, 0), (1, .ifCond .ne 20, 3, 0, 0)],
  [(21, .iload_n 1, 1, 0, 0), (22, .iconst 1, 1, 0, 0), (23, .if_icmp .ne 14, 3, 0, 0), (26, .aload_n 0, 1, 0, 0), (27, .getfield 12, 3, 2, 0), (30, .iconst 1, 1, 0, 0), (31, .putfield 122, 3, 5, 14)],
  [(34, .goto 10, 3, 0, 0), (44, .return_, 1, 0, 0)]]
def zm19 : ZMI := (yX2_doSlip, cX2_doSlip, 3, none, 0, 0, 0, 2, 2, ze19)
def ze20 : List (List ZEn) := [[(0, .aload_n 0, 1, 0, 0), (1, .getfield 86, 3, 2, 14), (4, .bipush 8, 2, 0, 0), (6, .if_icmp .ge 53, 3, 0, 0), (9, .aload_n 0, 1, 0, 0), (10, .getfield 34, 3, 2, 11), (13, .aload_n 0, 1, 0, 0), (14, .getfield 86, 3, 2, 14)],
  [(17, .iload_n 1, 1, 0, 0), (18, .iastore, 1, 0, 0), (19, .aload_n 0, 1, 0, 0), (20, .getfield 37, 3, 2, 12), (23, .aload_n 0, 1, 0, 0), (24, .getfield 86, 3, 2, 14), (27, .iload_n 2, 1, 0, 0), (28, .iastore, 1, 0, 0), (29, .aload_n 0, 1, 0, 0), (30, .getfield 40, 3, 2, 13)],
  [(33, .aload_n 0, 1, 0, 0), (34, .getfield 86, 3, 2, 14), (37, .iload_n 3, 1, 0, 0), (38, .iastore, 1, 0, 0), (39, .aload_n 0, 1, 0, 0), (40, .dup, 1, 0, 0), (41, .getfield 86, 3, 2, 14), (44, .iconst 1, 1, 0, 0), (45, .iadd, 1, 0, 0), (46, .putfield 86, 3, 2, 14)],
  [(49, .aload_n 0, 1, 0, 0), (50, .dup, 1, 0, 0), (51, .getfield 89, 3, 2, 15), (54, .iload_n 2, 1, 0, 0), (55, .isub, 1, 0, 0), (56, .putfield 89, 3, 2, 15), (59, .return_, 1, 0, 0)]]
def zm20 : ZMI := (yX2_layBet, cX2_layBet, 4, none, 0, 0, 0, 3, 2, ze20)
def ze21 : List (List ZEn) := [[(0, .iconst 0, 1, 0, 0), (1, .istore_n 1, 1, 0, 0), (2, .iload_n 1, 1, 0, 0), (3, .aload_n 0, 1, 0, 0), (4, .getfield 86, 3, 2, 14), (7, .if_icmp .ge 63, 3, 0, 0)],
  [],
  [],
  [],
  [(70, .return_, 1, 0, 0)]]
def zm21 : ZMI := (yX2_payBets, cX2_payBets, 2, none, 0, 0, 0, 0, 2, ze21)
def ze22 : List (List ZEn) := [[(0, .aload_n 0, 1, 0, 0), (1, .invokespecial 3, 3, 1, 0), (4, .aload_n 0, 1, 0, 0), (5, .bipush 6, 2, 0, 0), (7, .newarray .int, 2, 0, 0), (9, .putfield 11, 3, 3, 0), (12, .aload_n 0, 1, 0, 0), (13, .iconst (-1), 1, 0, 0), (14, .putfield 15, 3, 3, 3)],
  [(17, .return_, 1, 0, 0)]]
def zm22 : ZMI := (yX3_init, cX3_init, 1, none, 2, 1, 6, 0, 3, ze22)
def ze23 : List (List ZEn) := [[(0, .aload_n 0, 1, 0, 0), (1, .iconst (-1), 1, 0, 0), (2, .putfield 15, 3, 3, 3), (5, .aload_n 0, 1, 0, 0), (6, .iconst 0, 1, 0, 0), (7, .putfield 19, 3, 3, 4), (10, .return_, 1, 0, 0)]]
def zm23 : ZMI := (yX3_forget, cX3_forget, 1, none, 0, 0, 0, 0, 3, ze23)
def ze24 : List (List ZEn) := [[(0, .aload_n 0, 1, 0, 0), (1, .getfield 19, 3, 3, 4), (4, .iload_n 3, 1, 0, 0), (5, .if_icmp .gt 60, 3, 0, 0), (8, .aload_n 0, 1, 0, 0), (9, .getfield 19, 3, 3, 4), (12, .bipush 6, 2, 0, 0), (14, .if_icmp .gt 51, 3, 0, 0)],
  [(17, .aload_n 0, 1, 0, 0), (18, .getfield 15, 3, 3, 3), (21, .iconst (-1), 1, 0, 0), (22, .if_icmp .ne 43, 3, 0, 0), (25, .aload_n 0, 1, 0, 0), (26, .aload_n 1, 1, 0, 0), (27, .invokevirtual 22, 3, 0, 26), (30, .aload_n 0, 1, 0, 0), (31, .iconst 0, 1, 0, 0)],
  [(32, .aload_n 0, 1, 0, 0), (33, .getfield 19, 3, 3, 4), (36, .iconst 0, 1, 0, 0), (37, .iload_n 2, 1, 0, 0), (38, .invokevirtual 26, 3, 0, 27), (41, .ifCond .eq 11, 3, 0, 0)],
  [(52, .aload_n 0, 1, 0, 0), (53, .dup, 1, 0, 0), (54, .getfield 19, 3, 3, 4), (57, .iconst 1, 1, 0, 0), (58, .iadd, 1, 0, 0), (59, .putfield 19, 3, 3, 4), (62, .goto (-62), 3, 0, 0)],
  [(65, .aload_n 0, 1, 0, 0), (66, .getfield 15, 3, 3, 3), (69, .iload_n 3, 1, 0, 0), (70, .if_icmp .gt 10, 3, 0, 0), (73, .aload_n 0, 1, 0, 0), (74, .getfield 15, 3, 3, 3), (77, .goto 4, 3, 0, 0)],
  [(81, .ireturn, 1, 0, 0)]]
def zm24 : ZMI := (yX3_fewestHeaps, cX3_fewestHeaps, 4, (some .int), 0, 350, 13916, 3, 3, ze24)
def ze25 : List (List ZEn) := [[(0, .aload_n 0, 1, 0, 0), (1, .aload_n 1, 1, 0, 0), (2, .invokevirtual 22, 3, 0, 26), (5, .aload_n 0, 1, 0, 0), (6, .iconst 0, 1, 0, 0), (7, .iload_n 2, 1, 0, 0), (8, .iconst 4, 1, 0, 0), (9, .invokestatic 30, 3, 3, 0), (12, .invokevirtual 36, 3, 0, 28), (15, .ireturn, 1, 0, 0)]]
def zm25 : ZMI := (yX3_winsAgainstAny, cX3_winsAgainstAny, 3, (some .boolean), 0, 50, 1988, 2, 3, ze25)
def ze26 : List (List ZEn) := [[(0, .aload_n 0, 1, 0, 0), (1, .getfield 40, 3, 3, 2), (4, .ifnonnull 39, 3, 0, 0), (7, .aload_n 0, 1, 0, 0), (8, .bipush 7, 2, 0, 0), (10, .anewarray 44, 3, 5, 0), (13, .putfield 40, 3, 3, 2)],
  [(16, .iconst 0, 1, 0, 0), (17, .istore_n 2, 1, 0, 0), (18, .iload_n 2, 1, 0, 0), (19, .bipush 6, 2, 0, 0), (21, .if_icmp .gt 22, 3, 0, 0), (24, .aload_n 0, 1, 0, 0), (25, .getfield 40, 3, 3, 2), (28, .iload_n 2, 1, 0, 0), (29, .new 44, 3, 5, 0)],
  [(32, .dup, 1, 0, 0), (33, .invokespecial 46, 3, 6, 33), (36, .aastore, 1, 5, 0), (37, .iinc 2 1, 3, 0, 0), (40, .goto (-22), 3, 0, 0), (43, .aload_n 0, 1, 0, 0), (44, .getfield 40, 3, 3, 2), (47, .iconst 0, 1, 0, 0)],
  [(48, .aaload, 1, 5, 0), (49, .aload_n 1, 1, 0, 0), (50, .invokevirtual 47, 3, 0, 36), (53, .return_, 1, 0, 0)]]
def zm26 : ZMI := (yX3_begin, cX3_begin, 3, none, 0, 50, 1988, 1, 3, ze26)
def ze27 : List (List ZEn) := [[(0, .aload_n 0, 1, 0, 0), (1, .getfield 40, 3, 3, 2), (4, .iload_n 1, 1, 0, 0), (5, .aaload, 1, 5, 0), (6, .astore 5, 2, 0, 0), (8, .aload 5, 2, 0, 0), (10, .invokevirtual 50, 3, 0, 41), (13, .ifCond .ne 22, 3, 0, 0)],
  [(16, .aload_n 0, 1, 0, 0), (17, .iload_n 3, 1, 0, 0), (18, .putfield 54, 3, 3, 1), (21, .aload 5, 2, 0, 0), (23, .getfield 57, 3, 5, 13), (26, .ifCond .ne 7, 3, 0, 0)],
  [(33, .iconst 0, 1, 0, 0), (34, .ireturn, 1, 0, 0)]]
def zm27 : ZMI := (yX3_canWin, cX3_canWin, 7, (some .boolean), 0, 0, 0, 4, 3, ze27)
def ze28 : List (List ZEn) := [[(0, .aload_n 0, 1, 0, 0), (1, .getfield 40, 3, 3, 2), (4, .iload_n 1, 1, 0, 0), (5, .aaload, 1, 5, 0), (6, .astore_n 3, 1, 0, 0), (7, .aload_n 3, 1, 0, 0), (8, .invokevirtual 50, 3, 0, 41), (11, .ifCond .ne 16, 3, 0, 0), (14, .aload_n 3, 1, 0, 0), (15, .getfield 57, 3, 5, 13)],
  [(18, .ifCond .ne 7, 3, 0, 0), (25, .iconst 0, 1, 0, 0), (26, .ireturn, 1, 0, 0)]]
def zm28 : ZMI := (yX3_winsHowever, cX3_winsHowever, 6, (some .boolean), 0, 0, 0, 2, 3, ze28)
def ze29 : List (List ZEn) := [[(0, .aload_n 0, 1, 0, 0), (1, .invokespecial 3, 3, 1, 0), (4, .aload_n 0, 1, 0, 0), (5, .iconst 3, 1, 0, 0), (6, .newarray .int, 2, 0, 0), (8, .putfield 9, 3, 4, 0), (11, .aload_n 0, 1, 0, 0), (12, .bipush 8, 2, 0, 0), (14, .newarray .int, 2, 0, 0)],
  [(16, .putfield 15, 3, 4, 5), (19, .aload_n 0, 1, 0, 0), (20, .bipush 10, 2, 0, 0), (22, .newarray .int, 2, 0, 0), (24, .putfield 20, 3, 4, 6), (27, .aload_n 0, 1, 0, 0), (28, .bipush 10, 2, 0, 0), (30, .newarray .int, 2, 0, 0)],
  [(32, .putfield 23, 3, 4, 7), (35, .aload_n 0, 1, 0, 0), (36, .aload_n 1, 1, 0, 0), (37, .putfield 26, 3, 4, 3), (40, .aload_n 0, 1, 0, 0), (41, .aload_n 2, 1, 0, 0), (42, .putfield 30, 3, 4, 4), (45, .return_, 1, 0, 0)]]
def zm29 : ZMI := (yX4_init, cX4_init, 3, none, 2, 4, 31, 2, 4, ze29)
def ze30 : List (List ZEn) := [[(0, .aload_n 0, 1, 0, 0), (1, .getfield 34, 3, 4, 1), (4, .ifCond .ne 53, 3, 0, 0), (7, .aload_n 0, 1, 0, 0), (8, .iconst 1, 1, 0, 0), (9, .putfield 34, 3, 4, 1), (12, .aload_n 0, 1, 0, 0), (13, .aload_n 0, 1, 0, 0), (14, .aload_n 1, 1, 0, 0), (15, .invokevirtual 38, 3, 0, 31)],
  [(18, .ifCond .eq 18, 3, 0, 0), (21, .aload_n 0, 1, 0, 0), (22, .getfield 26, 3, 4, 3), (25, .aload_n 0, 1, 0, 0), (26, .getfield 15, 3, 4, 5), (29, .invokevirtual 42, 3, 0, 50)],
  [(32, .iconst (-1), 1, 0, 0), (33, .if_icmp .ne 7, 3, 0, 0), (40, .iconst 0, 1, 0, 0), (41, .putfield 46, 3, 4, 2), (44, .aload_n 0, 1, 0, 0), (45, .getfield 46, 3, 4, 2)],
  [(48, .ifCond .ne 9, 3, 0, 0), (51, .aload_n 0, 1, 0, 0), (52, .aload_n 1, 1, 0, 0), (53, .aload_n 2, 1, 0, 0), (54, .invokevirtual 49, 3, 0, 32), (57, .aload_n 0, 1, 0, 0), (58, .getfield 46, 3, 4, 2), (61, .ifCond .ne 7, 3, 0, 0)],
  [(64, .iconst 1, 1, 0, 0), (65, .goto 4, 3, 0, 0), (69, .ireturn, 1, 0, 0)]]
def zm30 : ZMI := (yX4_find, cX4_find, 3, (some .boolean), 0, 4, 11776, 2, 4, ze30)
def ze31 : List (List ZEn) := [[(0, .aload_n 0, 1, 0, 0), (1, .iconst 0, 1, 0, 0), (2, .putfield 53, 3, 4, 8), (5, .iconst 0, 1, 0, 0), (6, .istore_n 2, 1, 0, 0), (7, .iload_n 2, 1, 0, 0), (8, .bipush 8, 2, 0, 0), (10, .if_icmp .ge 16, 3, 0, 0), (13, .aload_n 0, 1, 0, 0), (14, .getfield 15, 3, 4, 5)],
  [(17, .iload_n 2, 1, 0, 0), (18, .iconst 0, 1, 0, 0), (19, .iastore, 1, 0, 0), (20, .iinc 2 1, 3, 0, 0), (23, .goto (-16), 3, 0, 0), (26, .iconst 0, 1, 0, 0), (27, .istore_n 2, 1, 0, 0), (28, .iload_n 2, 1, 0, 0), (29, .iconst 1, 1, 0, 0), (30, .if_icmp .gt 92, 3, 0, 0)],
  [(33, .iconst 0, 1, 0, 0), (34, .istore_n 3, 1, 0, 0), (35, .iload_n 3, 1, 0, 0), (36, .aload_n 1, 1, 0, 0), (37, .getfield 57, 3, 5, 2), (40, .iload_n 2, 1, 0, 0), (41, .iaload, 1, 0, 0), (42, .if_icmp .ge 74, 3, 0, 0)],
  [],
  [],
  [],
  [],
  [(116, .iinc 2 1, 3, 0, 0), (119, .goto (-91), 3, 0, 0), (122, .iconst 1, 1, 0, 0), (123, .ireturn, 1, 0, 0)]]
def zm31 : ZMI := (yX4_collect, cX4_collect, 4, (some .boolean), 0, 0, 0, 1, 4, ze31)
def ze32 : List (List ZEn) := [[(0, .aload_n 0, 1, 0, 0), (1, .getfield 9, 3, 4, 0), (4, .iconst 0, 1, 0, 0), (5, .iconst 0, 1, 0, 0), (6, .iastore, 1, 0, 0), (7, .aload_n 0, 1, 0, 0), (8, .getfield 9, 3, 4, 0), (11, .iconst 1, 1, 0, 0), (12, .iconst 0, 1, 0, 0), (13, .iastore, 1, 0, 0), (14, .aload_n 0, 1, 0, 0), (15, .getfield 9, 3, 4, 0)],
  [(18, .iconst 2, 1, 0, 0), (19, .iconst 0, 1, 0, 0), (20, .iastore, 1, 0, 0), (21, .aload_n 0, 1, 0, 0), (22, .getfield 26, 3, 4, 3), (25, .aload_n 0, 1, 0, 0), (26, .getfield 15, 3, 4, 5), (29, .invokevirtual 70, 3, 0, 51)],
  [(32, .iconst 0, 1, 0, 0), (33, .istore_n 3, 1, 0, 0), (34, .iload_n 3, 1, 0, 0), (35, .sipush 20000, 3, 0, 0), (38, .if_icmp .ge 148, 3, 0, 0), (41, .aload_n 0, 1, 0, 0), (42, .getfield 30, 3, 4, 4), (45, .getfield 74, 3, 1, 0)],
  [(48, .aload_n 1, 1, 0, 0), (49, .invokevirtual 80, 3, 0, 36), (52, .iconst 0, 1, 0, 0), (53, .istore 4, 2, 0, 0), (55, .iload 4, 2, 0, 0), (57, .aload_n 0, 1, 0, 0), (58, .getfield 53, 3, 4, 8), (61, .if_icmp .ge 54, 3, 0, 0)],
  [],
  [],
  [],
  [(115, .aload_n 0, 1, 0, 0), (116, .getfield 30, 3, 4, 4), (119, .aload_n 2, 1, 0, 0), (120, .getfield 91, 3, 9, 6), (123, .aload_n 2, 1, 0, 0), (124, .getfield 96, 3, 9, 8), (127, .invokevirtual 99, 3, 0, 4)],
  [(130, .aload_n 0, 1, 0, 0), (131, .getfield 30, 3, 4, 4), (134, .getfield 103, 3, 1, 1), (137, .iconst 2, 1, 0, 0), (138, .if_icmp .ge 19, 3, 0, 0), (141, .aload_n 0, 1, 0, 0), (142, .getfield 9, 3, 4, 0)],
  [(145, .aload_n 0, 1, 0, 0), (146, .getfield 30, 3, 4, 4), (149, .getfield 103, 3, 1, 1), (152, .dup2, 1, 0, 0), (153, .iaload, 1, 0, 0), (154, .iconst 1, 1, 0, 0), (155, .iadd, 1, 0, 0), (156, .iastore, 1, 0, 0), (157, .aload_n 0, 1, 0, 0), (158, .getfield 9, 3, 4, 0)],
  [(161, .iconst 2, 1, 0, 0), (162, .dup2, 1, 0, 0), (163, .iaload, 1, 0, 0), (164, .iconst 1, 1, 0, 0), (165, .iadd, 1, 0, 0), (166, .iastore, 1, 0, 0), (167, .aload_n 0, 1, 0, 0), (168, .getfield 26, 3, 4, 3), (171, .invokevirtual 106, 3, 0, 52), (174, .ifCond .ne 6, 3, 0, 0)],
  [(177, .goto 9, 3, 0, 0), (186, .return_, 1, 0, 0)]]
def zm32 : ZMI := (yX4_playAll, cX4_playAll, 5, none, 0, 4, 11776, 2, 4, ze32)
def ze33 : List (List ZEn) := [[(0, .aload_n 0, 1, 0, 0), (1, .invokespecial 3, 3, 1, 0), (4, .aload_n 0, 1, 0, 0), (5, .sipush 128, 3, 0, 0), (8, .newarray .int, 2, 0, 0), (10, .putfield 11, 3, 5, 0), (13, .aload_n 0, 1, 0, 0), (14, .iconst 2, 1, 0, 0), (15, .newarray .int, 2, 0, 0)],
  [(17, .putfield 15, 3, 5, 1), (20, .aload_n 0, 1, 0, 0), (21, .iconst 2, 1, 0, 0), (22, .newarray .int, 2, 0, 0), (24, .putfield 18, 3, 5, 2), (27, .aload_n 0, 1, 0, 0), (28, .bipush 64, 2, 0, 0), (30, .newarray .int, 2, 0, 0)],
  [(32, .putfield 21, 3, 5, 3), (35, .aload_n 0, 1, 0, 0), (36, .bipush 64, 2, 0, 0), (38, .newarray .int, 2, 0, 0), (40, .putfield 24, 3, 5, 4), (43, .aload_n 0, 1, 0, 0), (44, .bipush 8, 2, 0, 0), (46, .newarray .int, 2, 0, 0)],
  [(48, .putfield 27, 3, 5, 5), (51, .aload_n 0, 1, 0, 0), (52, .iconst (-1), 1, 0, 0), (53, .putfield 30, 3, 5, 13), (56, .return_, 1, 0, 0)]]
def zm33 : ZMI := (yX5_init, cX5_init, 1, none, 2, 6, 268, 0, 5, ze33)
def ze34 : List (List ZEn) := [[(0, .iconst 0, 1, 0, 0), (1, .istore_n 3, 1, 0, 0), (2, .iload_n 3, 1, 0, 0), (3, .bipush 8, 2, 0, 0), (5, .if_icmp .ge 24, 3, 0, 0), (8, .iload_n 3, 1, 0, 0), (9, .aload_n 2, 1, 0, 0), (10, .arraylength, 1, 0, 0), (11, .if_icmp .ge 18, 3, 0, 0), (14, .aload_n 0, 1, 0, 0), (15, .getfield 27, 3, 5, 5)],
  [(18, .iload_n 3, 1, 0, 0), (19, .aload_n 2, 1, 0, 0), (20, .iload_n 3, 1, 0, 0), (21, .iaload, 1, 0, 0), (22, .iastore, 1, 0, 0), (23, .iinc 3 1, 3, 0, 0), (26, .goto (-24), 3, 0, 0), (29, .aload_n 0, 1, 0, 0), (30, .getfield 15, 3, 5, 1)],
  [(33, .iconst 0, 1, 0, 0), (34, .iconst 0, 1, 0, 0), (35, .iastore, 1, 0, 0), (36, .aload_n 0, 1, 0, 0), (37, .getfield 15, 3, 5, 1), (40, .iconst 1, 1, 0, 0), (41, .iconst 0, 1, 0, 0), (42, .iastore, 1, 0, 0), (43, .aload_n 0, 1, 0, 0), (44, .getfield 18, 3, 5, 2), (47, .iconst 0, 1, 0, 0)],
  [(48, .iconst 0, 1, 0, 0), (49, .iastore, 1, 0, 0), (50, .aload_n 0, 1, 0, 0), (51, .getfield 18, 3, 5, 2), (54, .iconst 1, 1, 0, 0), (55, .iconst 0, 1, 0, 0), (56, .iastore, 1, 0, 0), (57, .aload_n 0, 1, 0, 0), (58, .iconst 0, 1, 0, 0), (59, .putfield 34, 3, 5, 6), (62, .aload_n 0, 1, 0, 0), (63, .iload_n 1, 1, 0, 0)],
  [(64, .putfield 37, 3, 5, 7), (67, .aload_n 0, 1, 0, 0), (68, .iconst 0, 1, 0, 0), (69, .putfield 40, 3, 5, 8), (72, .aload_n 0, 1, 0, 0), (73, .iconst 0, 1, 0, 0), (74, .putfield 43, 3, 5, 9), (77, .aload_n 0, 1, 0, 0), (78, .iconst 0, 1, 0, 0), (79, .putfield 46, 3, 5, 10)],
  [(82, .aload_n 0, 1, 0, 0), (83, .iconst 0, 1, 0, 0), (84, .putfield 49, 3, 5, 11), (87, .aload_n 0, 1, 0, 0), (88, .iconst 0, 1, 0, 0), (89, .putfield 52, 3, 5, 12), (92, .aload_n 0, 1, 0, 0), (93, .iconst (-1), 1, 0, 0), (94, .putfield 30, 3, 5, 13)],
  [(97, .aload_n 0, 1, 0, 0), (98, .iconst 0, 1, 0, 0), (99, .putfield 55, 3, 5, 14), (102, .return_, 1, 0, 0)]]
def zm34 : ZMI := (yX5_start, cX5_start, 4, none, 0, 0, 0, 2, 5, ze34)
def ze35 : List (List ZEn) := [[(0, .iload_n 3, 1, 0, 0), (1, .ifCond .lt 19, 3, 0, 0), (4, .iload 4, 2, 0, 0), (6, .bipush 24, 2, 0, 0), (8, .if_icmp .gt 12, 3, 0, 0), (11, .iload_n 3, 1, 0, 0), (12, .iload 4, 2, 0, 0), (14, .iadd, 1, 0, 0), (15, .aload_n 2, 1, 0, 0)],
  [(16, .arraylength, 1, 0, 0), (17, .if_icmp .le 4, 3, 0, 0), (21, .iconst 0, 1, 0, 0), (22, .istore 5, 2, 0, 0), (24, .iload 5, 2, 0, 0), (26, .iload 4, 2, 0, 0), (28, .if_icmp .ge 30, 3, 0, 0)],
  [],
  [(58, .aload_n 0, 1, 0, 0), (59, .getfield 18, 3, 5, 2), (62, .iload_n 1, 1, 0, 0), (63, .iload 4, 2, 0, 0)],
  [(65, .iastore, 1, 0, 0), (66, .return_, 1, 0, 0)]]
def zm35 : ZMI := (yX5_give, cX5_give, 6, none, 0, 0, 0, 4, 5, ze35)
def ze36 : List (List ZEn) := [[(0, .aload_n 0, 1, 0, 0), (1, .aload_n 1, 1, 0, 0), (2, .iconst 0, 1, 0, 0), (3, .invokevirtual 63, 3, 0, 37), (6, .aload_n 0, 1, 0, 0), (7, .aload_n 1, 1, 0, 0), (8, .iconst 1, 1, 0, 0), (9, .invokevirtual 63, 3, 0, 37), (12, .aload_n 1, 1, 0, 0), (13, .getfield 21, 3, 5, 3)],
  [(16, .iconst 0, 1, 0, 0), (17, .aload_n 0, 1, 0, 0), (18, .getfield 21, 3, 5, 3), (21, .iconst 0, 1, 0, 0), (22, .bipush 64, 2, 0, 0), (24, .invokestatic 67, 3, 2, 0), (27, .aload_n 1, 1, 0, 0), (28, .getfield 27, 3, 5, 5), (31, .iconst 0, 1, 0, 0)],
  [(32, .aload_n 0, 1, 0, 0), (33, .getfield 27, 3, 5, 5), (36, .iconst 0, 1, 0, 0), (37, .bipush 8, 2, 0, 0), (39, .invokestatic 67, 3, 2, 0), (42, .aload_n 0, 1, 0, 0), (43, .aload_n 1, 1, 0, 0), (44, .getfield 34, 3, 5, 6), (47, .putfield 34, 3, 5, 6)],
  [(50, .aload_n 0, 1, 0, 0), (51, .aload_n 1, 1, 0, 0), (52, .getfield 37, 3, 5, 7), (55, .putfield 37, 3, 5, 7), (58, .aload_n 0, 1, 0, 0), (59, .aload_n 1, 1, 0, 0), (60, .getfield 40, 3, 5, 8), (63, .putfield 40, 3, 5, 8)],
  [(66, .aload_n 0, 1, 0, 0), (67, .aload_n 1, 1, 0, 0), (68, .getfield 43, 3, 5, 9), (71, .putfield 43, 3, 5, 9), (74, .aload_n 0, 1, 0, 0), (75, .aload_n 1, 1, 0, 0), (76, .getfield 46, 3, 5, 10), (79, .putfield 46, 3, 5, 10)],
  [(82, .aload_n 0, 1, 0, 0), (83, .aload_n 1, 1, 0, 0), (84, .getfield 49, 3, 5, 11), (87, .putfield 49, 3, 5, 11), (90, .aload_n 0, 1, 0, 0), (91, .aload_n 1, 1, 0, 0), (92, .getfield 52, 3, 5, 12), (95, .putfield 52, 3, 5, 12)],
  [(98, .aload_n 0, 1, 0, 0), (99, .aload_n 1, 1, 0, 0), (100, .getfield 30, 3, 5, 13), (103, .putfield 30, 3, 5, 13), (106, .aload_n 0, 1, 0, 0), (107, .aload_n 1, 1, 0, 0), (108, .getfield 55, 3, 5, 14), (111, .putfield 55, 3, 5, 14)],
  [(114, .return_, 1, 0, 0)]]
def zm36 : ZMI := (yX5_copyFrom, cX5_copyFrom, 2, none, 0, 0, 0, 1, 5, ze36)
def ze37 : List (List ZEn) := [[(0, .aload_n 0, 1, 0, 0), (1, .getfield 15, 3, 5, 1), (4, .iload_n 2, 1, 0, 0), (5, .iconst 0, 1, 0, 0), (6, .iastore, 1, 0, 0), (7, .aload_n 0, 1, 0, 0), (8, .getfield 18, 3, 5, 2), (11, .iload_n 2, 1, 0, 0), (12, .aload_n 1, 1, 0, 0), (13, .getfield 18, 3, 5, 2)],
  [(16, .iload_n 2, 1, 0, 0), (17, .iaload, 1, 0, 0), (18, .iastore, 1, 0, 0), (19, .iconst 0, 1, 0, 0), (20, .istore_n 3, 1, 0, 0), (21, .iload_n 3, 1, 0, 0), (22, .aload_n 0, 1, 0, 0), (23, .getfield 18, 3, 5, 2), (26, .iload_n 2, 1, 0, 0), (27, .iaload, 1, 0, 0), (28, .if_icmp .ge 31, 3, 0, 0)],
  [],
  [(59, .return_, 1, 0, 0)]]
def zm37 : ZMI := (yX5_copyRow, cX5_copyRow, 4, none, 0, 0, 0, 2, 5, ze37)
def ze38 : List (List ZEn) := [[(0, .iconst 0, 1, 0, 0), (1, .istore_n 2, 1, 0, 0), (2, .iconst 0, 1, 0, 0), (3, .istore_n 3, 1, 0, 0), (4, .iload_n 3, 1, 0, 0), (5, .aload_n 0, 1, 0, 0), (6, .getfield 18, 3, 5, 2), (9, .iload_n 1, 1, 0, 0), (10, .iaload, 1, 0, 0), (11, .if_icmp .ge 21, 3, 0, 0)],
  [],
  [(32, .iload_n 2, 1, 0, 0), (33, .ireturn, 1, 0, 0)]]
def zm38 : ZMI := (yX5_countUnseen, cX5_countUnseen, 4, (some .int), 0, 0, 0, 1, 5, ze38)
def ze39 : List (List ZEn) := [[(0, .aload_n 0, 1, 0, 0), (1, .getfield 18, 3, 5, 2), (4, .aload_n 0, 1, 0, 0), (5, .getfield 37, 3, 5, 7), (8, .iaload, 1, 0, 0), (9, .ifCond .le 5, 3, 0, 0), (14, .aload_n 0, 1, 0, 0), (15, .iconst 1, 1, 0, 0)],
  [(16, .aload_n 0, 1, 0, 0), (17, .getfield 37, 3, 5, 7), (20, .isub, 1, 0, 0), (21, .putfield 30, 3, 5, 13), (24, .iconst 1, 1, 0, 0), (25, .ireturn, 1, 0, 0)]]
def zm39 : ZMI := (yX5_nextHasLost, cX5_nextHasLost, 1, (some .boolean), 0, 0, 0, 0, 5, ze39)
def ze40 : List (List ZEn) := [[(0, .aload_n 0, 1, 0, 0), (1, .invokevirtual 84, 3, 0, 39), (4, .ifCond .eq 5, 3, 0, 0), (7, .iconst 0, 1, 0, 0), (8, .ireturn, 1, 0, 0)]]
def zm40 : ZMI := (yX5_turnUp, cX5_turnUp, 2, (some .int), 0, 0, 0, 0, 5, ze40)
def ze41 : List (List ZEn) := [[(0, .iconst 1, 1, 0, 0), (1, .istore_n 1, 1, 0, 0), (2, .iconst 0, 1, 0, 0), (3, .istore_n 2, 1, 0, 0), (4, .iload_n 2, 1, 0, 0), (5, .sipush 128, 3, 0, 0), (8, .if_icmp .gt 19, 3, 0, 0), (11, .iload_n 1, 1, 0, 0), (12, .iconst 1, 1, 0, 0), (13, .if_icmp .ne 14, 3, 0, 0)],
  [(16, .aload_n 0, 1, 0, 0), (17, .invokevirtual 92, 3, 0, 40), (20, .istore_n 1, 1, 0, 0), (21, .iinc 2 1, 3, 0, 0), (24, .goto (-20), 3, 0, 0), (27, .iload_n 1, 1, 0, 0), (28, .ireturn, 1, 0, 0)]]
def zm41 : ZMI := (yX5_turnToHeap, cX5_turnToHeap, 3, (some .int), 0, 0, 0, 0, 5, ze41)
def ze42 : List (List ZEn) := [[(0, .aload_n 0, 1, 0, 0), (1, .invokespecial 3, 3, 1, 0), (4, .aload_n 0, 1, 0, 0), (5, .bipush 48, 2, 0, 0), (7, .newarray .int, 2, 0, 0), (9, .putfield 9, 3, 6, 1), (12, .aload_n 0, 1, 0, 0), (13, .iconst 2, 1, 0, 0), (14, .newarray .int, 2, 0, 0)],
  [(16, .putfield 15, 3, 6, 2), (19, .aload_n 0, 1, 0, 0), (20, .aload_n 1, 1, 0, 0), (21, .putfield 18, 3, 6, 0), (24, .aload_n 0, 1, 0, 0), (25, .aload_n 2, 1, 0, 0), (26, .putfield 22, 3, 6, 3), (29, .aload_n 0, 1, 0, 0), (30, .aload_n 3, 1, 0, 0), (31, .putfield 26, 3, 6, 4)],
  [(34, .return_, 1, 0, 0)]]
def zm42 : ZMI := (yX6_init, cX6_init, 4, none, 2, 2, 50, 3, 6, ze42)
def ze43 : List (List ZEn) := [[(0, .aload_n 0, 1, 0, 0), (1, .aload_n 1, 1, 0, 0), (2, .putfield 22, 3, 6, 3), (5, .aload_n 1, 1, 0, 0), (6, .invokevirtual 30, 3, 0, 58), (9, .aload_n 0, 1, 0, 0), (10, .invokevirtual 35, 3, 0, 46), (13, .iconst 0, 1, 0, 0), (14, .istore_n 2, 1, 0, 0), (15, .iload_n 2, 1, 0, 0)],
  [(16, .sipush 1000, 3, 0, 0), (19, .if_icmp .ge 29, 3, 0, 0), (22, .aload_n 0, 1, 0, 0), (23, .getfield 18, 3, 6, 0), (26, .getfield 40, 3, 10, 5), (29, .ifCond .eq 19, 3, 0, 0)],
  [],
  [(48, .aload_n 0, 1, 0, 0), (49, .invokevirtual 48, 3, 0, 47), (52, .ireturn, 1, 0, 0)]]
def zm43 : ZMI := (yX6_readTable, cX6_readTable, 3, (some .int), 0, 0, 0, 1, 6, ze43)
def ze44 : List (List ZEn) := [[(0, .aload_n 0, 1, 0, 0), (1, .aload_n 1, 1, 0, 0), (2, .putfield 22, 3, 6, 3), (5, .aload_n 0, 1, 0, 0), (6, .getfield 15, 3, 6, 2), (9, .iconst 0, 1, 0, 0), (10, .iconst 0, 1, 0, 0), (11, .iastore, 1, 0, 0), (12, .aload_n 0, 1, 0, 0), (13, .getfield 15, 3, 6, 2)],
  [(16, .iconst 1, 1, 0, 0), (17, .iconst 0, 1, 0, 0), (18, .iastore, 1, 0, 0), (19, .aload_n 0, 1, 0, 0), (20, .iconst 0, 1, 0, 0), (21, .putfield 52, 3, 6, 6), (24, .aload_n 0, 1, 0, 0), (25, .iconst 0, 1, 0, 0), (26, .putfield 56, 3, 6, 7), (29, .aload_n 0, 1, 0, 0), (30, .invokevirtual 35, 3, 0, 46)],
  [(33, .iconst 0, 1, 0, 0), (34, .istore_n 2, 1, 0, 0), (35, .iload_n 2, 1, 0, 0), (36, .sipush 1000, 3, 0, 0), (39, .if_icmp .ge 29, 3, 0, 0), (42, .aload_n 0, 1, 0, 0), (43, .getfield 18, 3, 6, 0), (46, .getfield 40, 3, 10, 5)],
  [(49, .ifCond .eq 19, 3, 0, 0)],
  [(68, .aload_n 0, 1, 0, 0), (69, .invokevirtual 62, 3, 0, 48), (72, .aload_n 0, 1, 0, 0), (73, .invokevirtual 48, 3, 0, 47), (76, .ireturn, 1, 0, 0)]]
def zm44 : ZMI := (yX6_readDeal, cX6_readDeal, 3, (some .int), 0, 0, 0, 1, 6, ze44)
def ze45 : List (List ZEn) := [[(0, .aload_n 0, 1, 0, 0), (1, .aload_n 1, 1, 0, 0), (2, .putfield 22, 3, 6, 3), (5, .aload_n 0, 1, 0, 0), (6, .aload_n 2, 1, 0, 0), (7, .putfield 26, 3, 6, 4), (10, .aload_n 2, 1, 0, 0), (11, .invokevirtual 65, 3, 0, 1), (14, .aload_n 0, 1, 0, 0), (15, .invokevirtual 35, 3, 0, 46)],
  [(18, .iconst 0, 1, 0, 0), (19, .istore_n 3, 1, 0, 0), (20, .iload_n 3, 1, 0, 0), (21, .sipush 1000, 3, 0, 0), (24, .if_icmp .ge 29, 3, 0, 0), (27, .aload_n 0, 1, 0, 0), (28, .getfield 18, 3, 6, 0), (31, .getfield 40, 3, 10, 5)],
  [(34, .ifCond .eq 19, 3, 0, 0)],
  [(53, .aload_n 0, 1, 0, 0), (54, .invokevirtual 48, 3, 0, 47), (57, .ireturn, 1, 0, 0)]]
def zm45 : ZMI := (yX6_readBook, cX6_readBook, 4, (some .int), 0, 0, 0, 2, 6, ze45)
def ze46 : List (List ZEn) := [[(0, .aload_n 0, 1, 0, 0), (1, .iconst 0, 1, 0, 0), (2, .putfield 71, 3, 6, 5), (5, .aload_n 0, 1, 0, 0), (6, .getfield 18, 3, 6, 0), (9, .invokevirtual 74, 3, 0, 61), (12, .return_, 1, 0, 0)]]
def zm46 : ZMI := (yX6_begin, cX6_begin, 1, none, 0, 0, 0, 0, 6, ze46)
def ze47 : List (List ZEn) := [[(0, .aload_n 0, 1, 0, 0), (1, .getfield 18, 3, 6, 0), (4, .invokevirtual 75, 3, 0, 62), (7, .aload_n 0, 1, 0, 0), (8, .getfield 71, 3, 6, 5), (11, .ireturn, 1, 0, 0)]]
def zm47 : ZMI := (yX6_finish, cX6_finish, 1, (some .int), 0, 0, 0, 0, 6, ze47)
def ze48 : List (List ZEn) := [[(0, .iconst 0, 1, 0, 0), (1, .istore_n 1, 1, 0, 0), (2, .iload_n 1, 1, 0, 0), (3, .aload_n 0, 1, 0, 0), (4, .getfield 15, 3, 6, 2), (7, .iconst 1, 1, 0, 0), (8, .iaload, 1, 0, 0), (9, .if_icmp .ge 52, 3, 0, 0)],
  [],
  [],
  [(61, .return_, 1, 0, 0)]]
def zm48 : ZMI := (yX6_closeUp, cX6_closeUp, 3, none, 0, 0, 0, 0, 6, ze48)
def ze49 : List (List ZEn) := [[(0, .aload_n 0, 1, 0, 0), (1, .invokespecial 3, 3, 1, 0), (4, .aload_n 0, 1, 0, 0), (5, .bipush 24, 2, 0, 0), (7, .newarray .int, 2, 0, 0), (9, .putfield 9, 3, 7, 0), (12, .aload_n 0, 1, 0, 0), (13, .bipush 8, 2, 0, 0), (15, .newarray .int, 2, 0, 0)],
  [(17, .putfield 15, 3, 7, 1), (20, .return_, 1, 0, 0)]]
def zm49 : ZMI := (yX7_init, cX7_init, 1, none, 2, 2, 32, 0, 7, ze49)
def ze50 : List (List ZEn) := [[(0, .iconst 0, 1, 0, 0), (1, .istore_n 2, 1, 0, 0), (2, .iconst 1, 1, 0, 0), (3, .istore_n 3, 1, 0, 0), (4, .iconst 0, 1, 0, 0), (5, .istore 4, 2, 0, 0), (7, .iload 4, 2, 0, 0), (9, .bipush 8, 2, 0, 0), (11, .if_icmp .ge 52, 3, 0, 0), (14, .iload 4, 2, 0, 0)],
  [(16, .aload_n 1, 1, 0, 0), (17, .arraylength, 1, 0, 0), (18, .if_icmp .ge 45, 3, 0, 0), (21, .iconst 1, 1, 0, 0), (22, .istore 5, 2, 0, 0), (24, .iload 5, 2, 0, 0), (26, .aload_n 1, 1, 0, 0), (27, .iload 4, 2, 0, 0), (29, .iaload, 1, 0, 0), (30, .if_icmp .gt 27, 3, 0, 0)],
  [],
  [(57, .iinc 4 1, 3, 0, 0), (60, .goto (-53), 3, 0, 0), (63, .iload_n 3, 1, 0, 0)],
  [(64, .sipush 20000, 3, 0, 0), (67, .if_icmp .le 7, 3, 0, 0), (74, .iload_n 3, 1, 0, 0), (75, .ireturn, 1, 0, 0)]]
def zm50 : ZMI := (yX7_howMany, cX7_howMany, 6, (some .int), 0, 0, 0, 1, 7, ze50)
def ze51 : List (List ZEn) := [[(0, .aload_n 0, 1, 0, 0), (1, .iconst 0, 1, 0, 0), (2, .putfield 18, 3, 7, 2), (5, .iconst 0, 1, 0, 0), (6, .istore_n 2, 1, 0, 0), (7, .iload_n 2, 1, 0, 0), (8, .bipush 8, 2, 0, 0), (10, .if_icmp .ge 59, 3, 0, 0), (13, .iload_n 2, 1, 0, 0), (14, .aload_n 1, 1, 0, 0), (15, .arraylength, 1, 0, 0)],
  [(16, .if_icmp .ge 53, 3, 0, 0), (19, .iconst 0, 1, 0, 0), (20, .istore_n 3, 1, 0, 0), (21, .iload_n 3, 1, 0, 0), (22, .aload_n 1, 1, 0, 0), (23, .iload_n 2, 1, 0, 0), (24, .iaload, 1, 0, 0), (25, .if_icmp .ge 38, 3, 0, 0)],
  [],
  [(63, .iinc 2 1, 3, 0, 0)],
  [(66, .goto (-59), 3, 0, 0), (69, .return_, 1, 0, 0)]]
def zm51 : ZMI := (yX7_toFirst, cX7_toFirst, 4, none, 0, 0, 0, 1, 7, ze51)
def ze52 : List (List ZEn) := [[(0, .aload_n 0, 1, 0, 0), (1, .getfield 18, 3, 7, 2), (4, .iconst 2, 1, 0, 0), (5, .isub, 1, 0, 0), (6, .istore_n 1, 1, 0, 0), (7, .iload_n 1, 1, 0, 0), (8, .ifCond .lt 26, 3, 0, 0)],
  [],
  [(34, .iload_n 1, 1, 0, 0), (35, .ifCond .ge 5, 3, 0, 0), (38, .iconst 0, 1, 0, 0), (39, .ireturn, 1, 0, 0)]]
def zm52 : ZMI := (yX7_toNext, cX7_toNext, 5, (some .boolean), 0, 0, 0, 0, 7, ze52)
def ze53 : List (List ZEn) := [[(0, .aload_n 0, 1, 0, 0), (1, .invokespecial 3, 3, 1, 0), (4, .aload_n 0, 1, 0, 0), (5, .bipush 7, 2, 0, 0), (7, .newarray .int, 2, 0, 0), (9, .putfield 9, 3, 8, 0), (12, .aload_n 0, 1, 0, 0), (13, .bipush 16, 2, 0, 0), (15, .newarray .int, 2, 0, 0)],
  [(17, .putfield 15, 3, 8, 1), (20, .aload_n 0, 1, 0, 0), (21, .iconst 3, 1, 0, 0), (22, .newarray .int, 2, 0, 0), (24, .putfield 18, 3, 8, 2), (27, .aload_n 0, 1, 0, 0), (28, .bipush 80, 2, 0, 0), (30, .newarray .int, 2, 0, 0)],
  [(32, .putfield 21, 3, 8, 3), (35, .aload_n 0, 1, 0, 0), (36, .sipush 168, 3, 0, 0), (39, .newarray .int, 2, 0, 0), (41, .putfield 24, 3, 8, 4), (44, .aload_n 0, 1, 0, 0), (45, .iconst 4, 1, 0, 0), (46, .newarray .int, 2, 0, 0)],
  [(48, .putfield 27, 3, 8, 5), (51, .aload_n 0, 1, 0, 0), (52, .bipush 24, 2, 0, 0), (54, .newarray .int, 2, 0, 0), (56, .putfield 30, 3, 8, 6), (59, .aload_n 0, 1, 0, 0), (60, .bipush 56, 2, 0, 0), (62, .newarray .boolean, 2, 0, 0)],
  [(64, .putfield 33, 3, 8, 10), (67, .aload_n 0, 1, 0, 0), (68, .bipush 8, 2, 0, 0), (70, .newarray .int, 2, 0, 0), (72, .putfield 37, 3, 8, 11), (75, .aload_n 0, 1, 0, 0), (76, .bipush 8, 2, 0, 0), (78, .newarray .int, 2, 0, 0)],
  [(80, .putfield 40, 3, 8, 12), (83, .aload_n 0, 1, 0, 0), (84, .iconst (-1), 1, 0, 0), (85, .putfield 43, 3, 8, 16), (88, .aload_n 0, 1, 0, 0), (89, .iconst (-1), 1, 0, 0), (90, .putfield 47, 3, 8, 17), (93, .aload_n 0, 1, 0, 0), (94, .aload_n 1, 1, 0, 0), (95, .putfield 50, 3, 8, 8)],
  [(98, .aload_n 0, 1, 0, 0), (99, .aload_n 2, 1, 0, 0), (100, .putfield 54, 3, 8, 9), (103, .return_, 1, 0, 0)]]
def zm53 : ZMI := (yX8_init, cX8_init, 3, none, 2, 10, 374, 2, 8, ze53)
def ze54 : List (List ZEn) := [[(0, .iload_n 0, 1, 0, 0), (1, .ifCond .lt 14, 3, 0, 0), (4, .iload_n 0, 1, 0, 0), (5, .sipush 9999, 3, 0, 0), (8, .if_icmp .gt 7, 3, 0, 0), (11, .iconst 1, 1, 0, 0), (12, .goto 4, 3, 0, 0), (15, .iconst 0, 1, 0, 0)],
  [(16, .ireturn, 1, 0, 0)]]
def zm54 : ZMI := (yX8_isSeed, cX8_isSeed, 1, (some .boolean), 1, 0, 0, 1, 8, ze54)
def ze55 : List (List ZEn) := [[(0, .aload_n 0, 1, 0, 0), (1, .iconst 0, 1, 0, 0), (2, .putfield 58, 3, 8, 13), (5, .aload_n 0, 1, 0, 0), (6, .iconst 0, 1, 0, 0), (7, .putfield 62, 3, 8, 14), (10, .aload_n 0, 1, 0, 0), (11, .iconst 0, 1, 0, 0), (12, .putfield 65, 3, 8, 15), (15, .aload_n 0, 1, 0, 0)],
  [(16, .iconst (-1), 1, 0, 0), (17, .putfield 43, 3, 8, 16), (20, .aload_n 0, 1, 0, 0), (21, .iconst (-1), 1, 0, 0), (22, .putfield 47, 3, 8, 17), (25, .iconst 0, 1, 0, 0), (26, .istore_n 1, 1, 0, 0), (27, .iload_n 1, 1, 0, 0), (28, .aload_n 0, 1, 0, 0), (29, .getfield 33, 3, 8, 10)],
  [(32, .arraylength, 1, 0, 0), (33, .if_icmp .ge 16, 3, 0, 0), (36, .aload_n 0, 1, 0, 0), (37, .getfield 33, 3, 8, 10), (40, .iload_n 1, 1, 0, 0), (41, .iconst 0, 1, 0, 0), (42, .bastore, 1, 0, 0), (43, .iinc 1 1, 3, 0, 0), (46, .goto (-19), 3, 0, 0)],
  [(49, .return_, 1, 0, 0)]]
def zm55 : ZMI := (yX8_forget, cX8_forget, 2, none, 0, 0, 0, 0, 8, ze55)
def ze56 : List (List ZEn) := [[(0, .aload_n 1, 1, 0, 0), (1, .getfield 68, 3, 9, 5), (4, .iconst 1, 1, 0, 0), (5, .if_icmp .lt 22, 3, 0, 0)],
  [(27, .iconst 0, 1, 0, 0), (28, .ireturn, 1, 0, 0)]]
def zm56 : ZMI := (yX8_canAsk, cX8_canAsk, 2, (some .boolean), 0, 0, 0, 1, 8, ze56)
def ze57 : List (List ZEn) := [[(0, .aload_n 0, 1, 0, 0), (1, .invokespecial 3, 3, 1, 0), (4, .aload_n 0, 1, 0, 0), (5, .bipush 8, 2, 0, 0), (7, .newarray .long, 2, 0, 0), (9, .putfield 9, 3, 9, 1), (12, .aload_n 0, 1, 0, 0), (13, .bipush 8, 2, 0, 0), (15, .newarray .int, 2, 0, 0)],
  [(17, .putfield 15, 3, 9, 2), (20, .aload_n 0, 1, 0, 0), (21, .bipush 8, 2, 0, 0), (23, .newarray .int, 2, 0, 0), (25, .putfield 19, 3, 9, 3), (28, .aload_n 0, 1, 0, 0), (29, .bipush 8, 2, 0, 0), (31, .newarray .boolean, 2, 0, 0)],
  [(33, .putfield 22, 3, 9, 4), (36, .aload_n 0, 1, 0, 0), (37, .sipush 1000, 3, 0, 0), (40, .newarray .int, 2, 0, 0), (42, .putfield 26, 3, 9, 14), (45, .aload_n 0, 1, 0, 0), (46, .bipush 64, 2, 0, 0)],
  [(48, .newarray .int, 2, 0, 0), (50, .putfield 29, 3, 9, 15), (53, .aload_n 0, 1, 0, 0), (54, .sipush 1000, 3, 0, 0), (57, .putfield 32, 3, 9, 8), (60, .return_, 1, 0, 0)]]
def zm57 : ZMI := (yX9_init, cX9_init, 1, none, 2, 6, 1096, 0, 9, ze57)
def ze58 : List (List ZEn) := [[(0, .aload_n 0, 1, 0, 0), (1, .iconst 0, 1, 0, 0), (2, .putfield 36, 3, 9, 0), (5, .aload_n 0, 1, 0, 0), (6, .iconst 0, 1, 0, 0), (7, .putfield 39, 3, 9, 5), (10, .iconst 0, 1, 0, 0), (11, .istore_n 1, 1, 0, 0), (12, .iload_n 1, 1, 0, 0), (13, .bipush 8, 2, 0, 0), (15, .if_icmp .ge 37, 3, 0, 0)],
  [(18, .aload_n 0, 1, 0, 0), (19, .getfield 9, 3, 9, 1), (22, .iload_n 1, 1, 0, 0), (23, .lconst 0, 1, 0, 0), (24, .lastore, 1, 0, 0), (25, .aload_n 0, 1, 0, 0), (26, .getfield 15, 3, 9, 2), (29, .iload_n 1, 1, 0, 0), (30, .iconst 0, 1, 0, 0), (31, .iastore, 1, 0, 0)],
  [(32, .aload_n 0, 1, 0, 0), (33, .getfield 19, 3, 9, 3), (36, .iload_n 1, 1, 0, 0), (37, .iconst 0, 1, 0, 0), (38, .iastore, 1, 0, 0), (39, .aload_n 0, 1, 0, 0), (40, .getfield 22, 3, 9, 4), (43, .iload_n 1, 1, 0, 0), (44, .iconst 0, 1, 0, 0), (45, .bastore, 1, 0, 0), (46, .iinc 1 1, 3, 0, 0)],
  [(49, .goto (-37), 3, 0, 0), (52, .aload_n 0, 1, 0, 0), (53, .iconst 0, 1, 0, 0), (54, .putfield 42, 3, 9, 6), (57, .aload_n 0, 1, 0, 0), (58, .iconst 0, 1, 0, 0), (59, .putfield 45, 3, 9, 7), (62, .aload_n 0, 1, 0, 0), (63, .sipush 1000, 3, 0, 0)],
  [(66, .putfield 32, 3, 9, 8), (69, .aload_n 0, 1, 0, 0), (70, .iconst 0, 1, 0, 0), (71, .putfield 48, 3, 9, 9), (74, .aload_n 0, 1, 0, 0), (75, .iconst 0, 1, 0, 0), (76, .putfield 52, 3, 9, 10), (79, .aload_n 0, 1, 0, 0)],
  [(80, .iconst 0, 1, 0, 0), (81, .putfield 55, 3, 9, 11), (84, .aload_n 0, 1, 0, 0), (85, .iconst 0, 1, 0, 0), (86, .putfield 58, 3, 9, 12), (89, .aload_n 0, 1, 0, 0), (90, .iconst 0, 1, 0, 0), (91, .putfield 61, 3, 9, 13), (94, .return_, 1, 0, 0)]]
def zm58 : ZMI := (yX9_reset, cX9_reset, 2, none, 0, 0, 0, 0, 9, ze58)
def ze59 : List (List ZEn) := [[(0, .aload_n 0, 1, 0, 0), (1, .getfield 58, 3, 9, 12), (4, .ifCond .ne 6, 3, 0, 0), (7, .bipush 10, 2, 0, 0), (9, .ireturn, 1, 0, 0)]]
def zm59 : ZMI := (yX9_offerFor, cX9_offerFor, 3, (some .int), 0, 0, 0, 1, 9, ze59)
def ze60 : List (List ZEn) := [[(0, .aload_n 0, 1, 0, 0), (1, .invokespecial 3, 3, 1, 0), (4, .aload_n 0, 1, 0, 0), (5, .sipush 1000, 3, 0, 0), (8, .newarray .byte, 2, 0, 0), (10, .putfield 11, 3, 10, 0), (13, .aload_n 0, 1, 0, 0), (14, .bipush 24, 2, 0, 0)],
  [(16, .newarray .long, 2, 0, 0), (18, .putfield 15, 3, 10, 1), (21, .iconst 0, 1, 0, 0), (22, .istore_n 1, 1, 0, 0), (23, .lconst 0, 1, 0, 0), (24, .lstore_n 2, 1, 0, 0), (25, .iconst 0, 1, 0, 0), (26, .istore 4, 2, 0, 0), (28, .iload 4, 2, 0, 0), (30, .ldc 19, 2, 7, 0)],
  [(32, .invokevirtual 21, 3, 4, 0), (35, .if_icmp .ge 61, 3, 0, 0), (38, .iload_n 1, 1, 0, 0), (39, .bipush 24, 2, 0, 0), (41, .if_icmp .ge 55, 3, 0, 0), (44, .ldc 19, 2, 7, 0), (46, .iload 4, 2, 0, 0)],
  [(48, .invokevirtual 27, 3, 5, 0), (51, .istore 5, 2, 0, 0), (53, .iload 5, 2, 0, 0), (55, .bipush 32, 2, 0, 0), (57, .if_icmp .ne 18, 3, 0, 0), (60, .aload_n 0, 1, 0, 0), (61, .getfield 15, 3, 10, 1)],
  [(64, .iload_n 1, 1, 0, 0), (65, .lload_n 2, 1, 0, 0), (66, .lastore, 1, 0, 0), (67, .iinc 1 1, 3, 0, 0), (70, .lconst 0, 1, 0, 0), (71, .lstore_n 2, 1, 0, 0), (72, .goto 18, 3, 0, 0), (75, .lload_n 2, 1, 0, 0), (76, .ldc2_w 31, 3, 32, 0), (79, .lmul, 1, 0, 0)],
  [(80, .iload 5, 2, 0, 0), (82, .bipush 97, 2, 0, 0), (84, .isub, 1, 0, 0), (85, .iconst 1, 1, 0, 0), (86, .iadd, 1, 0, 0), (87, .i2l, 1, 0, 0), (88, .ladd, 1, 0, 0), (89, .lstore_n 2, 1, 0, 0), (90, .iinc 4 1, 3, 0, 0), (93, .goto (-65), 3, 0, 0)],
  [(96, .return_, 1, 0, 0)]]
def zm60 : ZMI := (yX10_init, cX10_init, 6, none, 2, 2, 1024, 0, 10, ze60)
def ze61 : List (List ZEn) := [[(0, .aload_n 0, 1, 0, 0), (1, .iconst 0, 1, 0, 0), (2, .putfield 36, 3, 10, 3), (5, .aload_n 0, 1, 0, 0), (6, .invokevirtual 39, 3, 0, 63), (9, .return_, 1, 0, 0)]]
def zm61 : ZMI := (yX10_begin, cX10_begin, 1, none, 0, 0, 0, 0, 10, ze61)
def ze62 : List (List ZEn) := [[(0, .aload_n 0, 1, 0, 0), (1, .iconst 0, 1, 0, 0), (2, .putfield 33, 3, 10, 2), (5, .aload_n 0, 1, 0, 0), (6, .iconst 0, 1, 0, 0), (7, .putfield 36, 3, 10, 3), (10, .return_, 1, 0, 0)]]
def zm62 : ZMI := (yX10_empty, cX10_empty, 1, none, 0, 0, 0, 0, 10, ze62)
def ze63 : List (List ZEn) := [[(0, .aload_n 0, 1, 0, 0), (1, .getfield 36, 3, 10, 3), (4, .aload_n 0, 1, 0, 0), (5, .getfield 33, 3, 10, 2), (8, .if_icmp .ge 44, 3, 0, 0)],
  [],
  [],
  [(52, .aload_n 0, 1, 0, 0), (53, .aload_n 0, 1, 0, 0), (54, .getfield 36, 3, 10, 3), (57, .putfield 42, 3, 10, 4), (60, .aload_n 0, 1, 0, 0), (61, .iconst (-1), 1, 0, 0), (62, .putfield 45, 3, 10, 6)],
  [(65, .aload_n 0, 1, 0, 0), (66, .getfield 42, 3, 10, 4), (69, .aload_n 0, 1, 0, 0), (70, .getfield 33, 3, 10, 2), (73, .if_icmp .ge 15, 3, 0, 0)],
  [(88, .iconst 0, 1, 0, 0), (89, .istore_n 1, 1, 0, 0), (90, .aload_n 0, 1, 0, 0), (91, .getfield 42, 3, 10, 4), (94, .aload_n 0, 1, 0, 0), (95, .getfield 33, 3, 10, 2)],
  [(98, .if_icmp .lt 11, 3, 0, 0), (101, .aload_n 0, 1, 0, 0), (102, .iconst 0, 1, 0, 0), (103, .putfield 48, 3, 10, 5), (106, .goto 72, 3, 0, 0)],
  [],
  [],
  [],
  [],
  [(178, .return_, 1, 0, 0)]]
def zm63 : ZMI := (yX10_advance, cX10_advance, 2, none, 0, 0, 0, 0, 10, ze63)
def ze64 : List (List ZEn) := [[(0, .aload_n 0, 1, 0, 0), (1, .invokespecial 1, 3, 1, 0), (4, .aload_n 0, 1, 0, 0), (5, .new 7, 3, 10, 0), (8, .dup, 1, 0, 0), (9, .invokespecial 9, 3, 0, 60), (12, .putfield 10, 3, 11, 0), (15, .aload_n 0, 1, 0, 0)],
  [(16, .new 16, 3, 9, 0), (19, .dup, 1, 0, 0), (20, .invokespecial 18, 3, 0, 57), (23, .putfield 19, 3, 11, 1), (26, .aload_n 0, 1, 0, 0), (27, .new 16, 3, 9, 0), (30, .dup, 1, 0, 0), (31, .invokespecial 18, 3, 0, 57)],
  [(34, .putfield 23, 3, 11, 2), (37, .aload_n 0, 1, 0, 0), (38, .new 26, 3, 0, 0), (41, .dup, 1, 0, 0), (42, .invokespecial 28, 3, 6, 0), (45, .putfield 29, 3, 11, 3)],
  [(48, .aload_n 0, 1, 0, 0), (49, .new 26, 3, 0, 0), (52, .dup, 1, 0, 0), (53, .invokespecial 28, 3, 6, 0), (56, .putfield 33, 3, 11, 4), (59, .aload_n 0, 1, 0, 0), (60, .new 36, 3, 6, 0), (63, .dup, 1, 0, 0)],
  [(64, .aload_n 0, 1, 0, 0), (65, .getfield 10, 3, 11, 0), (68, .aload_n 0, 1, 0, 0), (69, .getfield 19, 3, 11, 1), (72, .aload_n 0, 1, 0, 0), (73, .getfield 29, 3, 11, 3), (76, .invokespecial 38, 3, 0, 42), (79, .putfield 41, 3, 11, 5)],
  [(82, .aload_n 0, 1, 0, 0), (83, .new 45, 3, 2, 0), (86, .dup, 1, 0, 0), (87, .invokespecial 47, 3, 6, 11), (90, .putfield 48, 3, 11, 6), (93, .aload_n 0, 1, 0, 0), (94, .bipush 16, 2, 0, 0)],
  [(96, .anewarray 45, 3, 4, 0), (99, .putfield 52, 3, 11, 7), (102, .aload_n 0, 1, 0, 0), (103, .iconst 4, 1, 0, 0), (104, .anewarray 45, 3, 4, 0), (107, .putfield 56, 3, 11, 10), (110, .aload_n 0, 1, 0, 0), (111, .iconst 4, 1, 0, 0)],
  [(112, .newarray .boolean, 2, 0, 0), (114, .putfield 59, 3, 11, 11), (117, .aload_n 0, 1, 0, 0), (118, .new 63, 3, 7, 0), (121, .dup, 1, 0, 0), (122, .invokespecial 65, 3, 6, 49), (125, .putfield 66, 3, 11, 12)],
  [(128, .aload_n 0, 1, 0, 0), (129, .new 70, 3, 1, 0), (132, .dup, 1, 0, 0), (133, .invokespecial 72, 3, 6, 3), (136, .putfield 73, 3, 11, 13), (139, .aload_n 0, 1, 0, 0), (140, .new 77, 3, 8, 0), (143, .dup, 1, 0, 0)],
  [(144, .aload_n 0, 1, 0, 0), (145, .getfield 66, 3, 11, 12), (148, .aload_n 0, 1, 0, 0), (149, .getfield 73, 3, 11, 13), (152, .invokespecial 79, 3, 0, 53), (155, .putfield 82, 3, 11, 14), (158, .aload_n 0, 1, 0, 0), (159, .new 86, 3, 4, 0)],
  [(162, .dup, 1, 0, 0), (163, .aload_n 0, 1, 0, 0), (164, .getfield 66, 3, 11, 12), (167, .aload_n 0, 1, 0, 0), (168, .getfield 73, 3, 11, 13), (171, .invokespecial 88, 3, 0, 29), (174, .putfield 89, 3, 11, 15)],
  [(177, .aload_n 0, 1, 0, 0), (178, .new 93, 3, 3, 0), (181, .dup, 1, 0, 0), (182, .invokespecial 95, 3, 6, 22), (185, .putfield 96, 3, 11, 16), (188, .aload_n 0, 1, 0, 0), (189, .iconst 4, 1, 0, 0), (190, .newarray .int, 2, 0, 0)],
  [(192, .putfield 100, 3, 11, 17), (195, .aload_n 0, 1, 0, 0), (196, .getfield 48, 3, 11, 6), (199, .aload_n 0, 1, 0, 0), (200, .getfield 19, 3, 11, 1), (203, .invokevirtual 104, 3, 0, 12), (206, .return_, 1, 0, 0)]]
def zm64 : ZMI := (yX11_init, cX11_init, 1, none, 2, 78, 4979, 0, 11, ze64)
def ze65 : List (List ZEn) := [[(0, .aload_n 0, 1, 0, 0), (1, .getfield 41, 3, 11, 5), (4, .aload_n 0, 1, 0, 0), (5, .getfield 23, 3, 11, 2), (8, .invokevirtual 116, 3, 0, 43), (11, .istore_n 1, 1, 0, 0), (12, .iload_n 1, 1, 0, 0), (13, .ifCond .ne 70, 3, 0, 0)],
  [(16, .aload_n 0, 1, 0, 0), (17, .getfield 19, 3, 11, 1), (20, .astore_n 2, 1, 0, 0), (21, .aload_n 0, 1, 0, 0), (22, .aload_n 0, 1, 0, 0), (23, .getfield 23, 3, 11, 2), (26, .putfield 19, 3, 11, 1), (29, .aload_n 0, 1, 0, 0), (30, .aload_n 2, 1, 0, 0), (31, .putfield 23, 3, 11, 2)],
  [(34, .aload_n 0, 1, 0, 0), (35, .getfield 29, 3, 11, 3), (38, .invokevirtual 120, 3, 0, 1), (41, .iconst 0, 1, 0, 0), (42, .istore_n 3, 1, 0, 0), (43, .iload_n 3, 1, 0, 0), (44, .iconst 4, 1, 0, 0), (45, .if_icmp .ge 16, 3, 0, 0)],
  [(48, .aload_n 0, 1, 0, 0), (49, .getfield 59, 3, 11, 11), (52, .iload_n 3, 1, 0, 0), (53, .iconst 0, 1, 0, 0), (54, .bastore, 1, 0, 0), (55, .iinc 3 1, 3, 0, 0), (58, .goto (-15), 3, 0, 0), (61, .aload_n 0, 1, 0, 0), (62, .getfield 82, 3, 11, 14)],
  [(65, .invokevirtual 123, 3, 0, 55), (68, .aload_n 0, 1, 0, 0), (69, .getfield 48, 3, 11, 6), (72, .aload_n 0, 1, 0, 0), (73, .getfield 19, 3, 11, 1), (76, .invokevirtual 104, 3, 0, 12), (79, .aload_n 0, 1, 0, 0)],
  [(80, .invokevirtual 126, 3, 0, 101), (83, .iload_n 1, 1, 0, 0), (84, .ireturn, 1, 0, 0)]]
def zm65 : ZMI := (yX11_table, cX11_table, 4, (some .int), 0, 0, 0, 0, 11, ze65)
def ze66 : List (List ZEn) := [[(0, .aload_n 0, 1, 0, 0), (1, .getfield 41, 3, 11, 5), (4, .aload_n 0, 1, 0, 0), (5, .getfield 19, 3, 11, 1), (8, .invokevirtual 129, 3, 0, 44), (11, .istore_n 1, 1, 0, 0), (12, .iload_n 1, 1, 0, 0), (13, .ifCond .ne 50, 3, 0, 0)],
  [(16, .aload_n 0, 1, 0, 0), (17, .getfield 48, 3, 11, 6), (20, .aload_n 0, 1, 0, 0), (21, .getfield 41, 3, 11, 5), (24, .getfield 132, 3, 6, 1), (27, .aload_n 0, 1, 0, 0), (28, .getfield 41, 3, 11, 5), (31, .getfield 135, 3, 6, 2)],
  [(34, .iconst 0, 1, 0, 0), (35, .iaload, 1, 0, 0), (36, .aload_n 0, 1, 0, 0), (37, .getfield 41, 3, 11, 5), (40, .getfield 135, 3, 6, 2), (43, .iconst 1, 1, 0, 0), (44, .iaload, 1, 0, 0), (45, .invokevirtual 138, 3, 0, 13)],
  [(48, .aload_n 0, 1, 0, 0), (49, .getfield 48, 3, 11, 6), (52, .aload_n 0, 1, 0, 0), (53, .getfield 19, 3, 11, 1), (56, .invokevirtual 142, 3, 0, 14), (59, .aload_n 0, 1, 0, 0), (60, .invokevirtual 126, 3, 0, 101), (63, .iload_n 1, 1, 0, 0)],
  [(64, .ireturn, 1, 0, 0)]]
def zm66 : ZMI := (yX11_deal, cX11_deal, 2, (some .int), 0, 0, 0, 0, 11, ze66)
def ze67 : List (List ZEn) := [[(0, .aload_n 0, 1, 0, 0), (1, .getfield 41, 3, 11, 5), (4, .aload_n 0, 1, 0, 0), (5, .getfield 19, 3, 11, 1), (8, .aload_n 0, 1, 0, 0), (9, .getfield 33, 3, 11, 4), (12, .invokevirtual 145, 3, 0, 45), (15, .istore_n 1, 1, 0, 0)],
  [(16, .iload_n 1, 1, 0, 0), (17, .ifCond .ne 21, 3, 0, 0), (20, .aload_n 0, 1, 0, 0), (21, .getfield 29, 3, 11, 3), (24, .astore_n 2, 1, 0, 0), (25, .aload_n 0, 1, 0, 0), (26, .aload_n 0, 1, 0, 0), (27, .getfield 33, 3, 11, 4), (30, .putfield 29, 3, 11, 3)],
  [(33, .aload_n 0, 1, 0, 0), (34, .aload_n 2, 1, 0, 0), (35, .putfield 33, 3, 11, 4), (38, .iload_n 1, 1, 0, 0), (39, .ireturn, 1, 0, 0)]]
def zm67 : ZMI := (yX11_book, cX11_book, 3, (some .int), 0, 0, 0, 0, 11, ze67)
def ze68 : List (List ZEn) := [[(0, .iload_n 1, 1, 0, 0), (1, .ifCond .lt 14, 3, 0, 0), (4, .iload_n 1, 1, 0, 0), (5, .aload_n 0, 1, 0, 0), (6, .getfield 19, 3, 11, 1), (9, .getfield 149, 3, 9, 0), (12, .if_icmp .lt 5, 3, 0, 0), (15, .iconst (-1), 1, 0, 0)],
  [(16, .ireturn, 1, 0, 0)]]
def zm68 : ZMI := (yX11_kind, cX11_kind, 3, (some .int), 0, 0, 0, 2, 11, ze68)
def ze69 : List (List ZEn) := [[(0, .iload_n 1, 1, 0, 0), (1, .invokestatic 172, 3, 0, 98), (4, .ifCond .eq 23, 3, 0, 0), (7, .iload_n 2, 1, 0, 0), (8, .ifCond .lt 19, 3, 0, 0), (11, .iload_n 2, 1, 0, 0), (12, .aload_n 0, 1, 0, 0), (13, .getfield 48, 3, 11, 6)],
  [(16, .getfield 158, 3, 2, 0), (19, .getfield 176, 3, 5, 2), (22, .iload_n 1, 1, 0, 0), (23, .iaload, 1, 0, 0), (24, .if_icmp .lt 5, 3, 0, 0), (27, .iconst (-1), 1, 0, 0), (28, .ireturn, 1, 0, 0)]]
def zm69 : ZMI := (yX11_card, cX11_card, 3, (some .int), 0, 0, 0, 2, 11, ze69)
def ze70 : List (List ZEn) := [[(0, .iload_n 1, 1, 0, 0), (1, .ifCond .lt 17, 3, 0, 0), (4, .iload_n 1, 1, 0, 0), (5, .aload_n 0, 1, 0, 0), (6, .getfield 48, 3, 11, 6), (9, .getfield 158, 3, 2, 0), (12, .getfield 180, 3, 5, 6), (15, .if_icmp .lt 5, 3, 0, 0)],
  [(18, .iconst (-1), 1, 0, 0), (19, .ireturn, 1, 0, 0)]]
def zm70 : ZMI := (yX11_heap, cX11_heap, 2, (some .int), 0, 0, 0, 1, 11, ze70)
def ze71 : List (List ZEn) := [[(0, .aload_n 0, 1, 0, 0), (1, .getfield 48, 3, 11, 6), (4, .iload_n 1, 1, 0, 0), (5, .iload_n 2, 1, 0, 0), (6, .invokevirtual 186, 3, 0, 16), (9, .ireturn, 1, 0, 0)]]
def zm71 : ZMI := (yX11_taken, cX11_taken, 3, (some .int), 0, 0, 0, 2, 11, ze71)
def ze72 : List (List ZEn) := [[(0, .iload_n 1, 1, 0, 0), (1, .iconst 1, 1, 0, 0), (2, .if_icmp .lt 10, 3, 0, 0), (5, .iload_n 1, 1, 0, 0), (6, .sipush 1000, 3, 0, 0), (9, .if_icmp .le 5, 3, 0, 0), (12, .iconst (-1), 1, 0, 0), (13, .ireturn, 1, 0, 0), (14, .aload_n 0, 1, 0, 0), (15, .getfield 48, 3, 11, 6)],
  [(18, .getfield 158, 3, 2, 0), (21, .getfield 189, 3, 5, 13), (24, .iconst (-1), 1, 0, 0), (25, .if_icmp .eq 5, 3, 0, 0), (30, .aload_n 0, 1, 0, 0), (31, .invokevirtual 192, 3, 0, 100)],
  [(34, .iconst 0, 1, 0, 0), (35, .istore_n 2, 1, 0, 0), (36, .iconst 0, 1, 0, 0), (37, .istore_n 3, 1, 0, 0), (38, .iload_n 3, 1, 0, 0), (39, .iload_n 1, 1, 0, 0), (40, .if_icmp .ge 29, 3, 0, 0), (43, .aload_n 0, 1, 0, 0), (44, .getfield 48, 3, 11, 6), (47, .aload_n 0, 1, 0, 0)],
  [(48, .getfield 19, 3, 11, 1), (51, .getfield 195, 3, 9, 6), (54, .invokevirtual 198, 3, 0, 17), (57, .ifCond .eq 12, 3, 0, 0)],
  [(69, .aload_n 0, 1, 0, 0), (70, .invokevirtual 201, 3, 0, 102), (73, .iload_n 2, 1, 0, 0), (74, .ireturn, 1, 0, 0)]]
def zm72 : ZMI := (yX11_turn, cX11_turn, 4, (some .int), 0, 16, 489, 1, 11, ze72)
def ze73 : List (List ZEn) := [[(0, .aload_n 0, 1, 0, 0), (1, .getfield 48, 3, 11, 6), (4, .iload_n 1, 1, 0, 0), (5, .invokevirtual 204, 3, 0, 18), (8, .ifCond .ne 5, 3, 0, 0), (11, .iconst 0, 1, 0, 0), (12, .ireturn, 1, 0, 0), (13, .aload_n 0, 1, 0, 0), (14, .invokevirtual 192, 3, 0, 100)],
  [(17, .aload_n 0, 1, 0, 0), (18, .getfield 48, 3, 11, 6), (21, .iload_n 1, 1, 0, 0), (22, .aload_n 0, 1, 0, 0), (23, .getfield 19, 3, 11, 1), (26, .getfield 195, 3, 9, 6), (29, .invokevirtual 207, 3, 0, 19)],
  [(32, .aload_n 0, 1, 0, 0), (33, .invokevirtual 201, 3, 0, 102), (36, .iconst 1, 1, 0, 0), (37, .ireturn, 1, 0, 0)]]
def zm73 : ZMI := (yX11_slip, cX11_slip, 2, (some .boolean), 0, 16, 489, 1, 11, ze73)
def ze74 : List (List ZEn) := [[(0, .aload_n 0, 1, 0, 0), (1, .getfield 211, 3, 11, 9), (4, .ifCond .gt 5, 3, 0, 0), (7, .iconst 0, 1, 0, 0), (8, .ireturn, 1, 0, 0)]]
def zm74 : ZMI := (yX11_undo, cX11_undo, 3, (some .boolean), 0, 0, 0, 0, 11, ze74)
def ze75 : List (List ZEn) := [[(0, .aload_n 0, 1, 0, 0), (1, .getfield 48, 3, 11, 6), (4, .getfield 221, 3, 2, 3), (7, .ifCond .ne 5, 3, 0, 0), (10, .iconst 0, 1, 0, 0), (11, .ireturn, 1, 0, 0)]]
def zm75 : ZMI := (yX11_again, cX11_again, 1, (some .boolean), 0, 0, 0, 0, 11, ze75)
def ze76 : List (List ZEn) := [[(0, .iload_n 1, 1, 0, 0), (1, .ifCond .lt 8, 3, 0, 0), (4, .iload_n 1, 1, 0, 0), (5, .iconst 3, 1, 0, 0), (6, .if_icmp .le 5, 3, 0, 0), (9, .iconst (-1), 1, 0, 0), (10, .ireturn, 1, 0, 0), (11, .aload_n 0, 1, 0, 0), (12, .getfield 225, 3, 11, 18), (15, .ifCond .ne 98, 3, 0, 0)],
  [(18, .aload_n 0, 1, 0, 0), (19, .iconst 1, 1, 0, 0), (20, .putfield 225, 3, 11, 18), (23, .aload_n 0, 1, 0, 0), (24, .getfield 73, 3, 11, 13), (27, .getfield 228, 3, 1, 0), (30, .aload_n 0, 1, 0, 0), (31, .getfield 48, 3, 11, 6)],
  [(34, .getfield 158, 3, 2, 0), (37, .invokevirtual 229, 3, 0, 36), (40, .aload_n 0, 1, 0, 0), (41, .getfield 73, 3, 11, 13), (44, .aload_n 0, 1, 0, 0), (45, .getfield 19, 3, 11, 1)],
  [(48, .getfield 195, 3, 9, 6), (51, .aload_n 0, 1, 0, 0), (52, .getfield 19, 3, 11, 1), (55, .getfield 232, 3, 9, 8), (58, .invokevirtual 235, 3, 0, 4), (61, .aload_n 0, 1, 0, 0), (62, .getfield 100, 3, 11, 17)],
  [(65, .iconst 0, 1, 0, 0), (66, .aload_n 0, 1, 0, 0), (67, .getfield 73, 3, 11, 13), (70, .getfield 238, 3, 1, 1), (73, .iastore, 1, 0, 0), (74, .aload_n 0, 1, 0, 0), (75, .getfield 100, 3, 11, 17), (78, .iconst 1, 1, 0, 0), (79, .aload_n 0, 1, 0, 0)],
  [(80, .getfield 73, 3, 11, 13), (83, .getfield 241, 3, 1, 2), (86, .iastore, 1, 0, 0), (87, .aload_n 0, 1, 0, 0), (88, .getfield 100, 3, 11, 17), (91, .iconst 2, 1, 0, 0), (92, .aload_n 0, 1, 0, 0), (93, .getfield 73, 3, 11, 13)],
  [(96, .getfield 244, 3, 1, 3), (99, .iastore, 1, 0, 0), (100, .aload_n 0, 1, 0, 0), (101, .getfield 100, 3, 11, 17), (104, .iconst 3, 1, 0, 0), (105, .aload_n 0, 1, 0, 0), (106, .getfield 73, 3, 11, 13), (109, .getfield 247, 3, 1, 4)],
  [(112, .iastore, 1, 0, 0), (113, .aload_n 0, 1, 0, 0), (114, .getfield 100, 3, 11, 17), (117, .iload_n 1, 1, 0, 0), (118, .iaload, 1, 0, 0), (119, .ireturn, 1, 0, 0)]]
def zm76 : ZMI := (yX11_ends, cX11_ends, 2, (some .int), 0, 4, 11776, 1, 11, ze76)
def ze77 : List (List ZEn) := [[(0, .iload_n 1, 1, 0, 0), (1, .ifCond .lt 23, 3, 0, 0), (4, .iload_n 1, 1, 0, 0), (5, .bipush 6, 2, 0, 0), (7, .if_icmp .gt 17, 3, 0, 0), (10, .aload_n 0, 1, 0, 0), (11, .getfield 82, 3, 11, 14), (14, .aload_n 0, 1, 0, 0), (15, .getfield 19, 3, 11, 1)],
  [(18, .invokevirtual 250, 3, 0, 56), (21, .ifCond .ne 5, 3, 0, 0), (24, .iconst (-1), 1, 0, 0), (25, .ireturn, 1, 0, 0)]]
def zm77 : ZMI := (yX11_all, cX11_all, 2, (some .int), 0, 0, 0, 1, 11, ze77)
def ze78 : List (List ZEn) := [[(0, .aload_n 0, 1, 0, 0), (1, .getfield 82, 3, 11, 14), (4, .aload_n 0, 1, 0, 0), (5, .getfield 19, 3, 11, 1), (8, .invokevirtual 250, 3, 0, 56), (11, .ifCond .eq 25, 3, 0, 0)],
  [],
  [(36, .iconst (-1), 1, 0, 0), (37, .ireturn, 1, 0, 0)]]
def zm78 : ZMI := (yX11_row, cX11_row, 3, (some .int), 0, 0, 0, 2, 11, ze78)
def ze79 : List (List ZEn) := [[(0, .iload_n 1, 1, 0, 0), (1, .ifCond .lt 22, 3, 0, 0), (4, .iload_n 1, 1, 0, 0), (5, .iconst 2, 1, 0, 0), (6, .if_icmp .gt 17, 3, 0, 0), (9, .aload_n 0, 1, 0, 0), (10, .getfield 82, 3, 11, 14), (13, .aload_n 0, 1, 0, 0), (14, .getfield 19, 3, 11, 1)],
  [(17, .invokevirtual 250, 3, 0, 56), (20, .ifCond .ne 5, 3, 0, 0), (23, .iconst (-1), 1, 0, 0), (24, .ireturn, 1, 0, 0)]]
def zm79 : ZMI := (yX11_beginner, cX11_beginner, 2, (some .int), 0, 0, 0, 1, 11, ze79)
def ze80 : List (List ZEn) := [[(0, .iload_n 1, 1, 0, 0), (1, .ifCond .lt 37, 3, 0, 0), (4, .iload_n 1, 1, 0, 0), (5, .aload_n 0, 1, 0, 0), (6, .getfield 19, 3, 11, 1), (9, .getfield 149, 3, 9, 0), (12, .if_icmp .ge 26, 3, 0, 0)],
  [],
  [(38, .iconst (-1), 1, 0, 0), (39, .ireturn, 1, 0, 0)]]
def zm80 : ZMI := (yX11_worth, cX11_worth, 3, (some .int), 0, 0, 0, 2, 11, ze80)
def ze81 : List (List ZEn) := [[(0, .iload_n 1, 1, 0, 0), (1, .iconst 1, 1, 0, 0), (2, .if_icmp .lt 32, 3, 0, 0), (5, .iload_n 1, 1, 0, 0), (6, .bipush 20, 2, 0, 0), (8, .if_icmp .gt 26, 3, 0, 0), (11, .iload_n 2, 1, 0, 0), (12, .ifCond .lt 22, 3, 0, 0), (15, .iload_n 2, 1, 0, 0)],
  [(16, .iconst 3, 1, 0, 0), (17, .if_icmp .gt 17, 3, 0, 0), (20, .aload_n 0, 1, 0, 0), (21, .getfield 82, 3, 11, 14), (24, .aload_n 0, 1, 0, 0), (25, .getfield 19, 3, 11, 1), (28, .invokevirtual 250, 3, 0, 56), (31, .ifCond .ne 5, 3, 0, 0)],
  [(34, .iconst (-1), 1, 0, 0), (35, .ireturn, 1, 0, 0)]]
def zm81 : ZMI := (yX11_leads, cX11_leads, 3, (some .int), 0, 0, 0, 2, 11, ze81)
def ze82 : List (List ZEn) := [[(0, .iload_n 1, 1, 0, 0), (1, .ifCond .lt 24, 3, 0, 0), (4, .iload_n 1, 1, 0, 0), (5, .aload_n 0, 1, 0, 0), (6, .getfield 19, 3, 11, 1), (9, .getfield 149, 3, 9, 0), (12, .if_icmp .ge 13, 3, 0, 0)],
  [(25, .iconst (-1), 1, 0, 0), (26, .ireturn, 1, 0, 0)]]
def zm82 : ZMI := (yX11_laws, cX11_laws, 4, (some .int), 0, 0, 0, 3, 11, ze82)
def ze83 : List (List ZEn) := [[(0, .iload_n 1, 1, 0, 0), (1, .invokestatic 172, 3, 0, 98), (4, .ifCond .eq 17, 3, 0, 0), (7, .aload_n 0, 1, 0, 0), (8, .getfield 48, 3, 11, 6), (11, .getfield 158, 3, 2, 0), (14, .iload_n 1, 1, 0, 0), (15, .invokevirtual 293, 3, 0, 38)],
  [(18, .goto 4, 3, 0, 0), (21, .iconst (-1), 1, 0, 0), (22, .ireturn, 1, 0, 0)]]
def zm83 : ZMI := (yX11_unseen, cX11_unseen, 2, (some .int), 0, 0, 0, 1, 11, ze83)
def ze84 : List (List ZEn) := [[(0, .iload_n 1, 1, 0, 0), (1, .ifCond .lt 29, 3, 0, 0), (4, .iload_n 1, 1, 0, 0), (5, .iconst 2, 1, 0, 0), (6, .if_icmp .gt 24, 3, 0, 0), (9, .aload_n 0, 1, 0, 0), (10, .getfield 89, 3, 11, 15), (13, .aload_n 0, 1, 0, 0), (14, .getfield 48, 3, 11, 6)],
  [(17, .getfield 158, 3, 2, 0), (20, .aload_n 0, 1, 0, 0), (21, .getfield 19, 3, 11, 1), (24, .invokevirtual 296, 3, 0, 30), (27, .ifCond .ne 5, 3, 0, 0), (30, .iconst (-1), 1, 0, 0), (31, .ireturn, 1, 0, 0)],
  [(32, .aload_n 0, 1, 0, 0), (33, .getfield 89, 3, 11, 15), (36, .getfield 300, 3, 4, 0), (39, .iload_n 1, 1, 0, 0), (40, .iaload, 1, 0, 0), (41, .ireturn, 1, 0, 0)]]
def zm84 : ZMI := (yX11_odds, cX11_odds, 2, (some .int), 0, 4, 11776, 1, 11, ze84)
def ze85 : List (List ZEn) := [[(0, .aload_n 0, 1, 0, 0), (1, .getfield 19, 3, 11, 1), (4, .aload_n 0, 1, 0, 0), (5, .getfield 48, 3, 11, 6), (8, .getfield 158, 3, 2, 0), (11, .invokevirtual 303, 3, 0, 59), (14, .ireturn, 1, 0, 0)]]
def zm85 : ZMI := (yX11_offer, cX11_offer, 1, (some .int), 0, 0, 0, 0, 11, ze85)
def ze86 : List (List ZEn) := [[(0, .iload_n 1, 1, 0, 0), (1, .invokestatic 172, 3, 0, 98), (4, .ifCond .eq 19, 3, 0, 0), (7, .iload_n 2, 1, 0, 0), (8, .iconst 1, 1, 0, 0), (9, .if_icmp .lt 14, 3, 0, 0), (12, .iload_n 2, 1, 0, 0), (13, .aload_n 0, 1, 0, 0), (14, .getfield 48, 3, 11, 6)],
  [(17, .getfield 307, 3, 2, 15), (20, .if_icmp .le 5, 3, 0, 0), (23, .iconst (-1), 1, 0, 0), (24, .ireturn, 1, 0, 0), (25, .aload_n 0, 1, 0, 0), (26, .getfield 48, 3, 11, 6), (29, .getfield 158, 3, 2, 0)],
  [(32, .getfield 189, 3, 5, 13), (35, .iconst (-1), 1, 0, 0), (36, .if_icmp .ne 15, 3, 0, 0), (39, .aload_n 0, 1, 0, 0), (40, .getfield 48, 3, 11, 6), (43, .getfield 310, 3, 2, 14), (46, .bipush 8, 2, 0, 0)],
  [(48, .if_icmp .lt 5, 3, 0, 0), (53, .aload_n 0, 1, 0, 0), (54, .invokevirtual 192, 3, 0, 100), (57, .aload_n 0, 1, 0, 0), (58, .getfield 48, 3, 11, 6), (61, .iload_n 1, 1, 0, 0), (62, .iload_n 2, 1, 0, 0), (63, .aload_n 0, 1, 0, 0)],
  [(64, .getfield 19, 3, 11, 1), (67, .aload_n 0, 1, 0, 0), (68, .getfield 48, 3, 11, 6), (71, .getfield 158, 3, 2, 0), (74, .invokevirtual 303, 3, 0, 59), (77, .invokevirtual 313, 3, 0, 20)],
  [(80, .aload_n 0, 1, 0, 0), (81, .getfield 48, 3, 11, 6), (84, .getfield 307, 3, 2, 15), (87, .ireturn, 1, 0, 0)]]
def zm86 : ZMI := (yX11_bet, cX11_bet, 3, (some .int), 0, 16, 489, 2, 11, ze86)
def ze87 : List (List ZEn) := [[(0, .iload_n 1, 1, 0, 0), (1, .invokestatic 172, 3, 0, 98), (4, .ifCond .eq 24, 3, 0, 0), (7, .aload_n 0, 1, 0, 0), (8, .getfield 89, 3, 11, 15), (11, .aload_n 0, 1, 0, 0), (12, .getfield 48, 3, 11, 6), (15, .getfield 158, 3, 2, 0)],
  [(18, .aload_n 0, 1, 0, 0), (19, .getfield 19, 3, 11, 1), (22, .invokevirtual 296, 3, 0, 30), (25, .ifCond .ne 5, 3, 0, 0), (28, .iconst (-1), 1, 0, 0), (29, .ireturn, 1, 0, 0), (30, .aload_n 0, 1, 0, 0), (31, .getfield 89, 3, 11, 15)],
  [(34, .getfield 300, 3, 4, 0), (37, .iload_n 1, 1, 0, 0), (38, .iaload, 1, 0, 0), (39, .i2l, 1, 0, 0), (40, .lstore_n 2, 1, 0, 0), (41, .aload_n 0, 1, 0, 0), (42, .getfield 89, 3, 11, 15), (45, .getfield 300, 3, 4, 0)],
  [(48, .iconst 2, 1, 0, 0), (49, .iaload, 1, 0, 0), (50, .i2l, 1, 0, 0), (51, .lload_n 2, 1, 0, 0), (52, .lsub, 1, 0, 0), (53, .lstore 4, 2, 0, 0), (55, .lload_n 2, 1, 0, 0), (56, .aload_n 0, 1, 0, 0), (57, .getfield 19, 3, 11, 1), (60, .aload_n 0, 1, 0, 0), (61, .getfield 48, 3, 11, 6)],
  [(64, .getfield 158, 3, 2, 0), (67, .invokevirtual 303, 3, 0, 59), (70, .i2l, 1, 0, 0), (71, .lmul, 1, 0, 0), (72, .lload 4, 2, 0, 0), (74, .ldc2_w 317, 3, 10, 0), (77, .lmul, 1, 0, 0), (78, .lcmp, 1, 0, 0), (79, .ifCond .le 7, 3, 0, 0)],
  [(82, .iconst 1, 1, 0, 0), (83, .goto 4, 3, 0, 0), (86, .iconst 0, 1, 0, 0), (87, .ireturn, 1, 0, 0)]]
def zm87 : ZMI := (yX11_take, cX11_take, 6, (some .int), 0, 4, 11776, 1, 11, ze87)
def ze88 : List (List ZEn) := [[(0, .iload_n 1, 1, 0, 0), (1, .iconst 1, 1, 0, 0), (2, .if_icmp .lt 27, 3, 0, 0), (5, .iload_n 1, 1, 0, 0), (6, .bipush 6, 2, 0, 0), (8, .if_icmp .gt 21, 3, 0, 0), (11, .iload_n 2, 1, 0, 0), (12, .iconst (-1), 1, 0, 0), (13, .if_icmp .lt 16, 3, 0, 0)],
  [(16, .aload_n 0, 1, 0, 0), (17, .getfield 48, 3, 11, 6), (20, .getfield 158, 3, 2, 0), (23, .getfield 319, 3, 5, 14), (26, .ifCond .eq 5, 3, 0, 0), (29, .iconst (-1), 1, 0, 0), (30, .ireturn, 1, 0, 0), (31, .aload_n 0, 1, 0, 0)],
  [(32, .getfield 96, 3, 11, 16), (35, .aload_n 0, 1, 0, 0), (36, .getfield 48, 3, 11, 6), (39, .getfield 158, 3, 2, 0), (42, .aload_n 0, 1, 0, 0), (43, .getfield 19, 3, 11, 1), (46, .getfield 195, 3, 9, 6)],
  [(49, .iload_n 1, 1, 0, 0), (50, .invokevirtual 322, 3, 0, 24), (53, .istore_n 3, 1, 0, 0), (54, .iload_n 3, 1, 0, 0), (55, .iconst (-1), 1, 0, 0), (56, .if_icmp .eq 8, 3, 0, 0)],
  [(64, .iload_n 3, 1, 0, 0), (65, .ireturn, 1, 0, 0)]]
def zm88 : ZMI := (yX11_choice, cX11_choice, 4, (some .int), 0, 350, 13916, 2, 11, ze88)
def ze89 : List (List ZEn) := [[(0, .iload_n 1, 1, 0, 0), (1, .iconst 1, 1, 0, 0), (2, .if_icmp .lt 21, 3, 0, 0), (5, .iload_n 1, 1, 0, 0), (6, .iconst 4, 1, 0, 0), (7, .if_icmp .gt 16, 3, 0, 0), (10, .aload_n 0, 1, 0, 0), (11, .getfield 48, 3, 11, 6), (14, .getfield 158, 3, 2, 0)],
  [(17, .getfield 319, 3, 5, 14), (20, .ifCond .eq 5, 3, 0, 0), (23, .iconst (-1), 1, 0, 0), (24, .ireturn, 1, 0, 0), (25, .aload_n 0, 1, 0, 0), (26, .getfield 96, 3, 11, 16), (29, .aload_n 0, 1, 0, 0), (30, .getfield 48, 3, 11, 6)],
  [(33, .getfield 158, 3, 2, 0), (36, .iload_n 1, 1, 0, 0), (37, .invokevirtual 332, 3, 0, 25), (40, .ifCond .eq 7, 3, 0, 0), (47, .iconst 0, 1, 0, 0)],
  [(48, .ireturn, 1, 0, 0)]]
def zm89 : ZMI := (yX11_both, cX11_both, 2, (some .int), 0, 50, 1988, 1, 11, ze89)
def ze90 : List (List ZEn) := [[(0, .iload_n 1, 1, 0, 0), (1, .ifCond .lt 8, 3, 0, 0), (4, .iload_n 1, 1, 0, 0), (5, .iconst 3, 1, 0, 0), (6, .if_icmp .le 7, 3, 0, 0), (9, .iconst (-1), 1, 0, 0), (10, .goto 15, 3, 0, 0), (13, .aload_n 0, 1, 0, 0), (14, .getfield 29, 3, 11, 3)],
  [(17, .aload_n 0, 1, 0, 0), (18, .getfield 48, 3, 11, 6), (21, .iload_n 1, 1, 0, 0), (22, .invokevirtual 336, 3, 0, 2), (25, .ireturn, 1, 0, 0)]]
def zm90 : ZMI := (yX11_opening, cX11_opening, 2, (some .int), 0, 0, 0, 1, 11, ze90)
def ze91 : List (List ZEn) := [[(0, .iload_n 1, 1, 0, 0), (1, .ifCond .lt 14, 3, 0, 0), (4, .iload_n 1, 1, 0, 0), (5, .aload_n 0, 1, 0, 0), (6, .getfield 19, 3, 11, 1), (9, .getfield 149, 3, 9, 0), (12, .if_icmp .lt 5, 3, 0, 0), (15, .iconst (-1), 1, 0, 0)],
  [(16, .ireturn, 1, 0, 0)]]
def zm91 : ZMI := (yX11_comes, cX11_comes, 2, (some .int), 0, 0, 0, 1, 11, ze91)
def ze92 : List (List ZEn) := [[(0, .aload_n 0, 1, 0, 0), (1, .getfield 48, 3, 11, 6), (4, .iconst 0, 1, 0, 0), (5, .putfield 355, 3, 2, 10), (8, .iconst 1, 1, 0, 0), (9, .ireturn, 1, 0, 0)]]
def zm92 : ZMI := (yX11_clear, cX11_clear, 1, (some .boolean), 0, 0, 0, 0, 11, ze92)
def ze93 : List (List ZEn) := [[(0, .iload_n 1, 1, 0, 0), (1, .invokestatic 358, 3, 0, 54), (4, .ifCond .eq 13, 3, 0, 0), (7, .aload_n 0, 1, 0, 0), (8, .getfield 19, 3, 11, 1), (11, .getfield 264, 3, 9, 5), (14, .ifCond .ne 5, 3, 0, 0)],
  [(17, .iconst 0, 1, 0, 0), (18, .ireturn, 1, 0, 0)]]
def zm93 : ZMI := (yX11_drawn, cX11_drawn, 3, (some .boolean), 0, 0, 0, 1, 11, ze93)
def ze94 : List (List ZEn) := [[(0, .iload_n 1, 1, 0, 0), (1, .invokestatic 358, 3, 0, 54), (4, .ifCond .eq 33, 3, 0, 0), (7, .iload_n 2, 1, 0, 0), (8, .iconst 1, 1, 0, 0), (9, .if_icmp .lt 28, 3, 0, 0), (12, .iload_n 2, 1, 0, 0), (13, .bipush 50, 2, 0, 0), (15, .if_icmp .gt 22, 3, 0, 0)],
  [(18, .iload_n 3, 1, 0, 0), (19, .ifCond .lt 18, 3, 0, 0), (22, .iload_n 3, 1, 0, 0), (23, .iconst 3, 1, 0, 0), (24, .if_icmp .gt 13, 3, 0, 0), (27, .aload_n 0, 1, 0, 0), (28, .getfield 19, 3, 11, 1), (31, .getfield 264, 3, 9, 5)],
  [(34, .ifCond .ne 5, 3, 0, 0), (37, .iconst (-1), 1, 0, 0), (38, .ireturn, 1, 0, 0)]]
def zm94 : ZMI := (yX11_games, cX11_games, 4, (some .int), 0, 0, 0, 3, 11, ze94)
def ze95 : List (List ZEn) := [[(0, .iload_n 1, 1, 0, 0), (1, .invokestatic 358, 3, 0, 54), (4, .ifCond .eq 30, 3, 0, 0), (7, .iload_n 2, 1, 0, 0), (8, .iconst 1, 1, 0, 0), (9, .if_icmp .lt 25, 3, 0, 0), (12, .iload_n 2, 1, 0, 0), (13, .sipush 200, 3, 0, 0)],
  [(16, .if_icmp .gt 18, 3, 0, 0), (19, .iload_n 3, 1, 0, 0), (20, .iconst (-1), 1, 0, 0), (21, .if_icmp .lt 13, 3, 0, 0), (24, .aload_n 0, 1, 0, 0), (25, .getfield 19, 3, 11, 1), (28, .getfield 264, 3, 9, 5), (31, .ifCond .ne 5, 3, 0, 0)],
  [(34, .iconst (-1), 1, 0, 0), (35, .ireturn, 1, 0, 0)]]
def zm95 : ZMI := (yX11_looked, cX11_looked, 4, (some .int), 0, 0, 0, 3, 11, ze95)
def ze96 : List (List ZEn) := [[(0, .iload_n 1, 1, 0, 0), (1, .ifCond .lt 8, 3, 0, 0), (4, .iload_n 1, 1, 0, 0), (5, .iconst 4, 1, 0, 0), (6, .if_icmp .lt 5, 3, 0, 0), (9, .iconst 0, 1, 0, 0), (10, .ireturn, 1, 0, 0), (11, .iload_n 2, 1, 0, 0), (12, .ifCond .eq 9, 3, 0, 0), (15, .aload_n 0, 1, 0, 0)],
  [(16, .iload_n 1, 1, 0, 0), (17, .invokevirtual 389, 3, 0, 99), (20, .ireturn, 1, 0, 0), (21, .aload_n 0, 1, 0, 0), (22, .getfield 56, 3, 11, 10), (25, .iload_n 1, 1, 0, 0), (26, .aaload, 1, 4, 0), (27, .ifnonnull 16, 3, 0, 0), (30, .aload_n 0, 1, 0, 0), (31, .getfield 56, 3, 11, 10)],
  [(34, .iload_n 1, 1, 0, 0), (35, .new 45, 3, 2, 0), (38, .dup, 1, 0, 0), (39, .invokespecial 47, 3, 6, 11), (42, .aastore, 1, 4, 0), (43, .aload_n 0, 1, 0, 0), (44, .getfield 56, 3, 11, 10), (47, .iload_n 1, 1, 0, 0)],
  [(48, .aaload, 1, 4, 0), (49, .aload_n 0, 1, 0, 0), (50, .getfield 48, 3, 11, 6), (53, .invokevirtual 217, 3, 0, 15), (56, .aload_n 0, 1, 0, 0), (57, .getfield 59, 3, 11, 11), (60, .iload_n 1, 1, 0, 0), (61, .iconst 1, 1, 0, 0), (62, .bastore, 1, 0, 0), (63, .iconst 1, 1, 0, 0)],
  [(64, .ireturn, 1, 0, 0)]]
def zm96 : ZMI := (yX11_mark, cX11_mark, 3, (some .boolean), 0, 16, 489, 2, 11, ze96)
def ze97 : List (List ZEn) := [[(0, .aload_n 0, 1, 0, 0), (1, .getfield 48, 3, 11, 6), (4, .getfield 158, 3, 2, 0), (7, .astore_n 2, 1, 0, 0), (8, .iload_n 1, 1, 0, 0), (9, .tableswitch 228 0 18 #[91, 99, 107, 114, 121, 126, 131, 136, 152, 157, 162, 167, 175, 183, 191, 199, 204, 212, 220], 91, 0, 0)],
  [],
  [],
  [],
  [],
  [],
  [(100, .aload_n 0, 1, 0, 0), (101, .getfield 19, 3, 11, 1), (104, .getfield 149, 3, 9, 0), (107, .ireturn, 1, 0, 0), (108, .aload_n 0, 1, 0, 0), (109, .getfield 19, 3, 11, 1)],
  [(112, .getfield 264, 3, 9, 5), (115, .ireturn, 1, 0, 0), (116, .aload_n 2, 1, 0, 0), (117, .getfield 176, 3, 5, 2), (120, .iconst 0, 1, 0, 0), (121, .iaload, 1, 0, 0), (122, .ireturn, 1, 0, 0), (123, .aload_n 2, 1, 0, 0), (124, .getfield 176, 3, 5, 2), (127, .iconst 1, 1, 0, 0)],
  [(128, .iaload, 1, 0, 0), (129, .ireturn, 1, 0, 0), (130, .aload_n 2, 1, 0, 0), (131, .getfield 180, 3, 5, 6), (134, .ireturn, 1, 0, 0), (135, .aload_n 2, 1, 0, 0), (136, .getfield 392, 3, 5, 7), (139, .ireturn, 1, 0, 0), (140, .aload_n 2, 1, 0, 0), (141, .getfield 395, 3, 5, 8)],
  [(144, .ireturn, 1, 0, 0), (145, .aload_n 2, 1, 0, 0), (146, .getfield 395, 3, 5, 8), (149, .ifCond .le 10, 3, 0, 0), (159, .iconst (-1), 1, 0, 0)],
  [(160, .ireturn, 1, 0, 0), (161, .aload_n 2, 1, 0, 0), (162, .getfield 401, 3, 5, 10), (165, .ireturn, 1, 0, 0), (166, .aload_n 2, 1, 0, 0), (167, .getfield 343, 3, 5, 11), (170, .ireturn, 1, 0, 0), (171, .aload_n 2, 1, 0, 0), (172, .getfield 189, 3, 5, 13), (175, .ireturn, 1, 0, 0)],
  [(176, .aload_n 0, 1, 0, 0), (177, .getfield 48, 3, 11, 6), (180, .getfield 307, 3, 2, 15), (183, .ireturn, 1, 0, 0), (184, .aload_n 0, 1, 0, 0), (185, .getfield 48, 3, 11, 6), (188, .getfield 310, 3, 2, 14), (191, .ireturn, 1, 0, 0)],
  [(192, .aload_n 0, 1, 0, 0), (193, .getfield 29, 3, 11, 3), (196, .getfield 404, 3, 0, 0), (199, .ireturn, 1, 0, 0), (200, .aload_n 0, 1, 0, 0), (201, .getfield 48, 3, 11, 6), (204, .getfield 355, 3, 2, 10), (207, .ireturn, 1, 0, 0)],
  [(208, .aload_n 0, 1, 0, 0), (209, .getfield 211, 3, 11, 9), (212, .ireturn, 1, 0, 0), (213, .aload_n 0, 1, 0, 0), (214, .getfield 19, 3, 11, 1), (217, .getfield 232, 3, 9, 8), (220, .ireturn, 1, 0, 0), (221, .aload_n 0, 1, 0, 0), (222, .getfield 19, 3, 11, 1)],
  [(225, .getfield 195, 3, 9, 6), (228, .ireturn, 1, 0, 0), (229, .aload_n 0, 1, 0, 0), (230, .getfield 10, 3, 11, 0), (233, .getfield 112, 3, 10, 2), (236, .ireturn, 1, 0, 0), (237, .iconst (-1), 1, 0, 0), (238, .ireturn, 1, 0, 0)]]
def zm97 : ZMI := (yX11_count, cX11_count, 3, (some .int), 0, 0, 0, 1, 11, ze97)
def ze98 : List (List ZEn) := [[(0, .iload_n 0, 1, 0, 0), (1, .ifCond .eq 8, 3, 0, 0), (4, .iload_n 0, 1, 0, 0), (5, .iconst 1, 1, 0, 0), (6, .if_icmp .ne 7, 3, 0, 0), (9, .iconst 1, 1, 0, 0), (10, .goto 4, 3, 0, 0), (13, .iconst 0, 1, 0, 0), (14, .ireturn, 1, 0, 0)]]
def zm98 : ZMI := (yX11_isSide, cX11_isSide, 1, (some .boolean), 1, 0, 0, 1, 11, ze98)
def ze99 : List (List ZEn) := [[(0, .aload_n 0, 1, 0, 0), (1, .getfield 56, 3, 11, 10), (4, .iload_n 1, 1, 0, 0), (5, .aaload, 1, 4, 0), (6, .astore_n 2, 1, 0, 0), (7, .aload_n 0, 1, 0, 0), (8, .getfield 59, 3, 11, 11), (11, .iload_n 1, 1, 0, 0), (12, .baload, 1, 0, 0), (13, .ifCond .eq 7, 3, 0, 0)],
  [(20, .iconst 0, 1, 0, 0), (21, .ireturn, 1, 0, 0)]]
def zm99 : ZMI := (yX11_goBack, cX11_goBack, 3, (some .boolean), 0, 0, 0, 1, 11, ze99)
def ze100 : List (List ZEn) := [[(0, .aload_n 0, 1, 0, 0), (1, .getfield 52, 3, 11, 7), (4, .aload_n 0, 1, 0, 0), (5, .getfield 214, 3, 11, 8), (8, .aaload, 1, 4, 0), (9, .ifnonnull 19, 3, 0, 0), (12, .aload_n 0, 1, 0, 0), (13, .getfield 52, 3, 11, 7)],
  [(16, .aload_n 0, 1, 0, 0), (17, .getfield 214, 3, 11, 8), (20, .new 45, 3, 2, 0), (23, .dup, 1, 0, 0), (24, .invokespecial 47, 3, 6, 11), (27, .aastore, 1, 4, 0), (28, .aload_n 0, 1, 0, 0), (29, .getfield 52, 3, 11, 7)],
  [(32, .aload_n 0, 1, 0, 0), (33, .getfield 214, 3, 11, 8), (36, .aaload, 1, 4, 0), (37, .aload_n 0, 1, 0, 0), (38, .getfield 48, 3, 11, 6), (41, .invokevirtual 217, 3, 0, 15), (44, .aload_n 0, 1, 0, 0), (45, .aload_n 0, 1, 0, 0), (46, .getfield 214, 3, 11, 8)],
  [(49, .iconst 1, 1, 0, 0), (50, .iadd, 1, 0, 0), (51, .bipush 16, 2, 0, 0), (53, .irem, 1, 0, 0), (54, .putfield 214, 3, 11, 8), (57, .aload_n 0, 1, 0, 0), (58, .getfield 211, 3, 11, 9), (61, .bipush 16, 2, 0, 0), (63, .if_icmp .ge 13, 3, 0, 0)],
  [(66, .aload_n 0, 1, 0, 0), (67, .dup, 1, 0, 0), (68, .getfield 211, 3, 11, 9), (71, .iconst 1, 1, 0, 0), (72, .iadd, 1, 0, 0), (73, .putfield 211, 3, 11, 9), (76, .return_, 1, 0, 0)]]
def zm100 : ZMI := (yX11_remember, cX11_remember, 1, none, 0, 16, 489, 0, 11, ze100)
def ze101 : List (List ZEn) := [[(0, .aload_n 0, 1, 0, 0), (1, .iconst 0, 1, 0, 0), (2, .putfield 211, 3, 11, 9), (5, .aload_n 0, 1, 0, 0), (6, .invokevirtual 201, 3, 0, 102), (9, .return_, 1, 0, 0)]]
def zm101 : ZMI := (yX11_gameBegan, cX11_gameBegan, 1, none, 0, 0, 0, 0, 11, ze101)
def ze102 : List (List ZEn) := [[(0, .aload_n 0, 1, 0, 0), (1, .iconst 0, 1, 0, 0), (2, .putfield 225, 3, 11, 18), (5, .aload_n 0, 1, 0, 0), (6, .getfield 89, 3, 11, 15), (9, .iconst 0, 1, 0, 0), (10, .putfield 407, 3, 4, 1), (13, .aload_n 0, 1, 0, 0), (14, .getfield 96, 3, 11, 16)],
  [(17, .invokevirtual 410, 3, 0, 23), (20, .return_, 1, 0, 0)]]
def zm102 : ZMI := (yX11_gameChanged, cX11_gameChanged, 1, none, 0, 0, 0, 0, 11, ze102)
def ze103 : List (List ZEn) := [[(0, .aload_n 0, 1, 0, 0), (1, .getfield 1, 3, 12, 0), (4, .ireturn, 1, 0, 0)]]
def zm103 : ZMI := (yX12_thrown, cX12_thrown, 1, (some .int), 0, 0, 0, 0, 12, ze103)
def ze104 : List (List ZEn) := [[(0, .aload_n 0, 1, 0, 0), (1, .invokespecial 18, 3, 1, 0), (4, .aload_n 0, 1, 0, 0), (5, .sipush 1000, 3, 0, 0), (8, .newarray .int, 2, 0, 0), (10, .putfield 14, 3, 12, 1), (13, .aload_n 0, 1, 0, 0), (14, .sipush 1002, 3, 0, 0)],
  [(17, .newarray .int, 2, 0, 0), (19, .putfield 24, 3, 12, 4), (22, .aload_n 0, 1, 0, 0), (23, .sipush 1002, 3, 0, 0), (26, .newarray .int, 2, 0, 0), (28, .putfield 27, 3, 12, 5), (31, .aload_n 0, 1, 0, 0)],
  [(32, .sipush 1002, 3, 0, 0), (35, .newarray .long, 2, 0, 0), (37, .putfield 30, 3, 12, 6), (40, .aload_n 0, 1, 0, 0), (41, .bipush 24, 2, 0, 0), (43, .newarray .long, 2, 0, 0), (45, .dup, 1, 0, 0), (46, .iconst 0, 1, 0, 0), (47, .ldc2_w 34, 3, 570026, 0)],
  [(50, .lastore, 1, 0, 0), (51, .dup, 1, 0, 0), (52, .iconst 1, 1, 0, 0), (53, .ldc2_w 36, 3, 812761, 0), (56, .lastore, 1, 0, 0), (57, .dup, 1, 0, 0), (58, .iconst 2, 1, 0, 0), (59, .ldc2_w 38, 3, 811939, 0), (62, .lastore, 1, 0, 0), (63, .dup, 1, 0, 0)],
  [(64, .iconst 3, 1, 0, 0), (65, .ldc2_w 40, 3, 16490, 0), (68, .lastore, 1, 0, 0), (69, .dup, 1, 0, 0), (70, .iconst 4, 1, 0, 0), (71, .ldc2_w 42, 3, 11726208, 0), (74, .lastore, 1, 0, 0), (75, .dup, 1, 0, 0), (76, .iconst 5, 1, 0, 0), (77, .ldc2_w 44, 3, 2943, 0)],
  [(80, .lastore, 1, 0, 0), (81, .dup, 1, 0, 0), (82, .bipush 6, 2, 0, 0), (84, .ldc2_w 46, 3, 22963959, 0), (87, .lastore, 1, 0, 0), (88, .dup, 1, 0, 0), (89, .bipush 7, 2, 0, 0), (91, .ldc2_w 48, 3, 40072202, 0), (94, .lastore, 1, 0, 0), (95, .dup, 1, 0, 0)],
  [(96, .bipush 8, 2, 0, 0), (98, .ldc2_w 50, 3, 1996799, 0), (101, .lastore, 1, 0, 0), (102, .dup, 1, 0, 0), (103, .bipush 9, 2, 0, 0), (105, .ldc2_w 52, 3, 417812, 0), (108, .lastore, 1, 0, 0), (109, .dup, 1, 0, 0), (110, .bipush 10, 2, 0, 0)],
  [(112, .ldc2_w 54, 3, 17006, 0), (115, .lastore, 1, 0, 0), (116, .dup, 1, 0, 0), (117, .bipush 11, 2, 0, 0), (119, .ldc2_w 56, 3, 557263975, 0), (122, .lastore, 1, 0, 0), (123, .dup, 1, 0, 0), (124, .bipush 12, 2, 0, 0), (126, .ldc2_w 58, 3, 614923, 0)],
  [(129, .lastore, 1, 0, 0), (130, .dup, 1, 0, 0), (131, .bipush 13, 2, 0, 0), (133, .ldc2_w 60, 3, 34200674, 0), (136, .lastore, 1, 0, 0), (137, .dup, 1, 0, 0), (138, .bipush 14, 2, 0, 0), (140, .ldc2_w 62, 3, 999049827, 0), (143, .lastore, 1, 0, 0)],
  [(144, .dup, 1, 0, 0), (145, .bipush 15, 2, 0, 0), (147, .ldc2_w 64, 3, 39605492240, 0), (150, .lastore, 1, 0, 0), (151, .dup, 1, 0, 0), (152, .bipush 16, 2, 0, 0), (154, .ldc2_w 66, 3, 32056, 0), (157, .lastore, 1, 0, 0), (158, .dup, 1, 0, 0), (159, .bipush 17, 2, 0, 0)],
  [(161, .ldc2_w 68, 3, 19741, 0), (164, .lastore, 1, 0, 0), (165, .dup, 1, 0, 0), (166, .bipush 18, 2, 0, 0), (168, .ldc2_w 70, 3, 1891, 0), (171, .lastore, 1, 0, 0), (172, .dup, 1, 0, 0), (173, .bipush 19, 2, 0, 0), (175, .ldc2_w 72, 3, 573, 0)],
  [(178, .lastore, 1, 0, 0), (179, .dup, 1, 0, 0), (180, .bipush 20, 2, 0, 0), (182, .ldc2_w 74, 3, 2286271, 0), (185, .lastore, 1, 0, 0), (186, .dup, 1, 0, 0), (187, .bipush 21, 2, 0, 0), (189, .ldc2_w 76, 3, 679695, 0)],
  [(192, .lastore, 1, 0, 0), (193, .dup, 1, 0, 0), (194, .bipush 22, 2, 0, 0), (196, .ldc2_w 78, 3, 15248533, 0), (199, .lastore, 1, 0, 0), (200, .dup, 1, 0, 0), (201, .bipush 23, 2, 0, 0), (203, .ldc2_w 80, 3, 38572112, 0), (206, .lastore, 1, 0, 0), (207, .putfield 82, 3, 12, 9)],
  [(210, .aload_n 0, 1, 0, 0), (211, .sipush 420, 3, 0, 0), (214, .newarray .int, 2, 0, 0), (216, .putfield 85, 3, 12, 10), (219, .aload_n 0, 1, 0, 0), (220, .sipush 2200, 3, 0, 0), (223, .newarray .int, 2, 0, 0)],
  [(225, .putfield 88, 3, 12, 11), (228, .aload_n 0, 1, 0, 0), (229, .sipush 2200, 3, 0, 0), (232, .newarray .int, 2, 0, 0), (234, .putfield 91, 3, 12, 12), (237, .aload_n 0, 1, 0, 0), (238, .bipush 8, 2, 0, 0)],
  [(240, .newarray .long, 2, 0, 0), (242, .putfield 94, 3, 12, 14), (245, .aload_n 0, 1, 0, 0), (246, .bipush 8, 2, 0, 0), (248, .newarray .long, 2, 0, 0), (250, .putfield 97, 3, 12, 15), (253, .aload_n 0, 1, 0, 0), (254, .bipush 48, 2, 0, 0)],
  [(256, .newarray .int, 2, 0, 0), (258, .putfield 100, 3, 12, 17), (261, .aload_n 0, 1, 0, 0), (262, .iconst 2, 1, 0, 0), (263, .newarray .int, 2, 0, 0), (265, .putfield 103, 3, 12, 18), (268, .aload_n 0, 1, 0, 0), (269, .sipush 190, 3, 0, 0)],
  [(272, .newarray .int, 2, 0, 0), (274, .putfield 106, 3, 12, 19), (277, .aload_n 0, 1, 0, 0), (278, .iconst 4, 1, 0, 0), (279, .newarray .int, 2, 0, 0), (281, .putfield 109, 3, 12, 20), (284, .aload_n 0, 1, 0, 0), (285, .sipush 1100, 3, 0, 0)],
  [(288, .newarray .int, 2, 0, 0), (290, .putfield 112, 3, 12, 21), (293, .aload_n 0, 1, 0, 0), (294, .sipush 16560, 3, 0, 0), (297, .newarray .int, 2, 0, 0), (299, .putfield 115, 3, 12, 22), (302, .aload_n 0, 1, 0, 0), (303, .iconst 4, 1, 0, 0)],
  [(304, .newarray .boolean, 2, 0, 0), (306, .putfield 118, 3, 12, 24), (309, .aload_n 0, 1, 0, 0), (310, .iconst (-1), 1, 0, 0), (311, .putfield 122, 3, 12, 25), (314, .aload_n 0, 1, 0, 0), (315, .bipush 48, 2, 0, 0), (317, .newarray .int, 2, 0, 0), (319, .putfield 125, 3, 12, 27)],
  [(322, .aload_n 0, 1, 0, 0), (323, .sipush 3010, 3, 0, 0), (326, .newarray .long, 2, 0, 0), (328, .putfield 128, 3, 12, 28), (331, .aload_n 0, 1, 0, 0), (332, .sipush 3010, 3, 0, 0), (335, .newarray .long, 2, 0, 0)],
  [(337, .putfield 131, 3, 12, 29), (340, .aload_n 0, 1, 0, 0), (341, .sipush 3010, 3, 0, 0), (344, .newarray .long, 2, 0, 0), (346, .putfield 134, 3, 12, 30), (349, .aload_n 0, 1, 0, 0), (350, .sipush 3010, 3, 0, 0)],
  [(353, .newarray .int, 2, 0, 0), (355, .putfield 137, 3, 12, 31), (358, .aload_n 0, 1, 0, 0), (359, .sipush 3010, 3, 0, 0), (362, .newarray .int, 2, 0, 0), (364, .putfield 140, 3, 12, 32), (367, .aload_n 0, 1, 0, 0)],
  [(368, .sipush 3010, 3, 0, 0), (371, .newarray .int, 2, 0, 0), (373, .putfield 143, 3, 12, 33), (376, .aload_n 0, 1, 0, 0), (377, .sipush 1024, 3, 0, 0), (380, .newarray .int, 2, 0, 0), (382, .putfield 146, 3, 12, 34)],
  [(385, .aload_n 0, 1, 0, 0), (386, .bipush 24, 2, 0, 0), (388, .newarray .int, 2, 0, 0), (390, .putfield 149, 3, 12, 40), (393, .aload_n 0, 1, 0, 0), (394, .sipush 20000, 3, 0, 0), (397, .newarray .int, 2, 0, 0), (399, .putfield 152, 3, 12, 42)],
  [(402, .aload_n 0, 1, 0, 0), (403, .sipush 20000, 3, 0, 0), (406, .newarray .int, 2, 0, 0), (408, .putfield 155, 3, 12, 43), (411, .aload_n 0, 1, 0, 0), (412, .bipush 48, 2, 0, 0), (414, .newarray .int, 2, 0, 0)],
  [(416, .putfield 158, 3, 12, 46), (419, .aload_n 0, 1, 0, 0), (420, .bipush 48, 2, 0, 0), (422, .newarray .int, 2, 0, 0), (424, .putfield 161, 3, 12, 47), (427, .aload_n 0, 1, 0, 0), (428, .bipush 8, 2, 0, 0), (430, .newarray .int, 2, 0, 0)],
  [(432, .putfield 164, 3, 12, 52), (435, .aload_n 0, 1, 0, 0), (436, .bipush 8, 2, 0, 0), (438, .newarray .int, 2, 0, 0), (440, .putfield 167, 3, 12, 53), (443, .aload_n 0, 1, 0, 0), (444, .iconst 0, 1, 0, 0), (445, .invokevirtual 170, 3, 0, 107)],
  [(448, .aload_n 0, 1, 0, 0), (449, .iconst 0, 1, 0, 0), (450, .invokevirtual 174, 3, 0, 115), (453, .return_, 1, 0, 0)]]
def zm104 : ZMI := (yX12_init, cX12_init, 1, none, 2, 32, 86042, 0, 12, ze104)
def ze105 : List (List ZEn) := [[(0, .aload_n 0, 1, 0, 0), (1, .aload_n 0, 1, 0, 0), (2, .getfield 11, 3, 12, 2), (5, .putfield 181, 3, 12, 3), (8, .aload_n 0, 1, 0, 0), (9, .iconst 0, 1, 0, 0), (10, .putfield 11, 3, 12, 2), (13, .iconst 0, 1, 0, 0), (14, .istore_n 1, 1, 0, 0), (15, .iconst 0, 1, 0, 0)],
  [(16, .istore_n 2, 1, 0, 0), (17, .iload_n 2, 1, 0, 0), (18, .aload_n 0, 1, 0, 0), (19, .getfield 181, 3, 12, 3), (22, .if_icmp .ge 257, 3, 0, 0)],
  [],
  [],
  [],
  [],
  [],
  [],
  [],
  [],
  [],
  [],
  [],
  [],
  [],
  [],
  [],
  [(279, .aload_n 0, 1, 0, 0), (280, .getfield 24, 3, 12, 4), (283, .iload_n 1, 1, 0, 0), (284, .iconst 0, 1, 0, 0), (285, .iastore, 1, 0, 0), (286, .aload_n 0, 1, 0, 0), (287, .getfield 27, 3, 12, 5)],
  [(290, .iload_n 1, 1, 0, 0), (291, .aload_n 0, 1, 0, 0), (292, .getfield 181, 3, 12, 3), (295, .iastore, 1, 0, 0), (296, .aload_n 0, 1, 0, 0), (297, .iconst 0, 1, 0, 0), (298, .putfield 200, 3, 12, 7), (301, .aload_n 0, 1, 0, 0), (302, .iconst 0, 1, 0, 0), (303, .putfield 203, 3, 12, 8)],
  [(306, .return_, 1, 0, 0)]]
def zm105 : ZMI := (yX12_cutAll, cX12_cutAll, 7, none, 0, 0, 0, 0, 12, ze105)
def ze106 : List (List ZEn) := [[(0, .iload_n 0, 1, 0, 0), (1, .iload_n 1, 1, 0, 0), (2, .if_icmp .lt 12, 3, 0, 0), (5, .iload_n 0, 1, 0, 0), (6, .iload_n 2, 1, 0, 0), (7, .if_icmp .gt 7, 3, 0, 0), (10, .iconst 1, 1, 0, 0), (11, .goto 4, 3, 0, 0), (14, .iconst 0, 1, 0, 0), (15, .ireturn, 1, 0, 0)]]
def zm106 : ZMI := (yX12_within, cX12_within, 3, (some .boolean), 1, 0, 0, 3, 12, ze106)
def ze107 : List (List ZEn) := [[(0, .iconst 0, 1, 0, 0), (1, .istore_n 2, 1, 0, 0), (2, .iload_n 2, 1, 0, 0), (3, .sipush 210, 3, 0, 0), (6, .if_icmp .ge 18, 3, 0, 0), (9, .aload_n 0, 1, 0, 0), (10, .getfield 85, 3, 12, 10), (13, .iload_n 1, 1, 0, 0), (14, .iload_n 2, 1, 0, 0), (15, .iadd, 1, 0, 0)],
  [(16, .iconst 0, 1, 0, 0), (17, .iastore, 1, 0, 0), (18, .iinc 2 1, 3, 0, 0), (21, .goto (-19), 3, 0, 0), (24, .aload_n 0, 1, 0, 0), (25, .getfield 85, 3, 12, 10), (28, .iload_n 1, 1, 0, 0), (29, .iconst 3, 1, 0, 0), (30, .iadd, 1, 0, 0), (31, .sipush 1000, 3, 0, 0)],
  [(34, .iastore, 1, 0, 0), (35, .aload_n 0, 1, 0, 0), (36, .getfield 85, 3, 12, 10), (39, .iload_n 1, 1, 0, 0), (40, .iconst 4, 1, 0, 0), (41, .iadd, 1, 0, 0), (42, .iconst (-1), 1, 0, 0), (43, .iastore, 1, 0, 0), (44, .return_, 1, 0, 0)]]
def zm107 : ZMI := (yX12_standsAsAlways, cX12_standsAsAlways, 3, none, 0, 0, 0, 1, 12, ze107)
def ze108 : List (List ZEn) := [[(0, .aload_n 0, 1, 0, 0), (1, .iconst 0, 1, 0, 0), (2, .putfield 1, 3, 12, 0), (5, .aload_n 0, 1, 0, 0), (6, .invokevirtual 222, 3, 0, 105), (9, .aload_n 0, 1, 0, 0), (10, .iconst 0, 1, 0, 0), (11, .putfield 225, 3, 12, 13), (14, .aload_n 0, 1, 0, 0), (15, .iconst 0, 1, 0, 0)],
  [(16, .putfield 228, 3, 12, 16), (19, .aload_n 0, 1, 0, 0), (20, .sipush 210, 3, 0, 0), (23, .invokevirtual 170, 3, 0, 107), (26, .aload_n 0, 1, 0, 0), (27, .getfield 203, 3, 12, 8), (30, .ifCond .ne 28, 3, 0, 0)],
  [(33, .aload_n 0, 1, 0, 0), (34, .getfield 24, 3, 12, 4), (37, .aload_n 0, 1, 0, 0), (38, .getfield 200, 3, 12, 7), (41, .iaload, 1, 0, 0), (42, .ifCond .eq 16, 3, 0, 0)],
  [(58, .aload_n 0, 1, 0, 0), (59, .getfield 203, 3, 12, 8), (62, .ifCond .le 8, 3, 0, 0)],
  [(70, .iconst 0, 1, 0, 0), (71, .istore_n 1, 1, 0, 0), (72, .iload_n 1, 1, 0, 0), (73, .sipush 210, 3, 0, 0), (76, .if_icmp .ge 25, 3, 0, 0), (79, .aload_n 0, 1, 0, 0)],
  [(80, .getfield 85, 3, 12, 10), (83, .iload_n 1, 1, 0, 0), (84, .aload_n 0, 1, 0, 0), (85, .getfield 85, 3, 12, 10), (88, .sipush 210, 3, 0, 0), (91, .iload_n 1, 1, 0, 0), (92, .iadd, 1, 0, 0), (93, .iaload, 1, 0, 0), (94, .iastore, 1, 0, 0), (95, .iinc 1 1, 3, 0, 0)],
  [(98, .goto (-26), 3, 0, 0), (101, .iconst 0, 1, 0, 0), (102, .istore_n 1, 1, 0, 0), (103, .iload_n 1, 1, 0, 0), (104, .bipush 8, 2, 0, 0), (106, .if_icmp .ge 21, 3, 0, 0), (109, .aload_n 0, 1, 0, 0), (110, .getfield 94, 3, 12, 14)],
  [(113, .iload_n 1, 1, 0, 0), (114, .aload_n 0, 1, 0, 0), (115, .getfield 97, 3, 12, 15), (118, .iload_n 1, 1, 0, 0), (119, .laload, 1, 0, 0), (120, .lastore, 1, 0, 0), (121, .iinc 1 1, 3, 0, 0), (124, .goto (-21), 3, 0, 0), (127, .iconst 0, 1, 0, 0)],
  [(128, .istore_n 1, 1, 0, 0), (129, .iload_n 1, 1, 0, 0), (130, .aload_n 0, 1, 0, 0), (131, .getfield 225, 3, 12, 13), (134, .if_icmp .ge 41, 3, 0, 0)],
  [],
  [(175, .iconst 0, 1, 0, 0)],
  [(176, .istore_n 1, 1, 0, 0), (177, .iload_n 1, 1, 0, 0), (178, .iconst 4, 1, 0, 0), (179, .if_icmp .ge 16, 3, 0, 0), (182, .aload_n 0, 1, 0, 0), (183, .getfield 118, 3, 12, 24), (186, .iload_n 1, 1, 0, 0), (187, .iconst 0, 1, 0, 0), (188, .bastore, 1, 0, 0), (189, .iinc 1 1, 3, 0, 0)],
  [(192, .goto (-15), 3, 0, 0), (195, .aload_n 0, 1, 0, 0), (196, .getfield 115, 3, 12, 22), (199, .bipush 15, 2, 0, 0), (201, .iconst 0, 1, 0, 0), (202, .iastore, 1, 0, 0), (203, .aload_n 0, 1, 0, 0), (204, .getfield 115, 3, 12, 22), (207, .bipush 16, 2, 0, 0)],
  [(209, .iconst 0, 1, 0, 0), (210, .iastore, 1, 0, 0), (211, .aload_n 0, 1, 0, 0), (212, .getfield 115, 3, 12, 22), (215, .bipush 17, 2, 0, 0), (217, .iconst 0, 1, 0, 0), (218, .iastore, 1, 0, 0), (219, .aload_n 0, 1, 0, 0), (220, .iconst 0, 1, 0, 0), (221, .invokevirtual 174, 3, 0, 115)],
  [(224, .aload_n 0, 1, 0, 0), (225, .iconst 0, 1, 0, 0), (226, .putfield 237, 3, 12, 23), (229, .aload_n 0, 1, 0, 0), (230, .iconst 0, 1, 0, 0), (231, .putfield 240, 3, 12, 45), (234, .iconst 0, 1, 0, 0), (235, .ireturn, 1, 0, 0)]]
def zm108 : ZMI := (yX12_table, cX12_table, 2, (some .int), 0, 0, 0, 0, 12, ze108)
def ze109 : List (List ZEn) := [[(0, .iconst 0, 1, 0, 0), (1, .istore_n 2, 1, 0, 0), (2, .iconst 0, 1, 0, 0), (3, .istore_n 3, 1, 0, 0), (4, .iload_n 3, 1, 0, 0), (5, .bipush 8, 2, 0, 0), (7, .if_icmp .ge 26, 3, 0, 0), (10, .iload_n 2, 1, 0, 0), (11, .aload_n 0, 1, 0, 0), (12, .getfield 85, 3, 12, 10), (15, .iload_n 1, 1, 0, 0)],
  [(16, .iconst 5, 1, 0, 0), (17, .iadd, 1, 0, 0), (18, .iconst 2, 1, 0, 0), (19, .iload_n 3, 1, 0, 0), (20, .imul, 1, 0, 0), (21, .iadd, 1, 0, 0), (22, .iconst 1, 1, 0, 0), (23, .iadd, 1, 0, 0), (24, .iaload, 1, 0, 0), (25, .iadd, 1, 0, 0), (26, .istore_n 2, 1, 0, 0), (27, .iinc 3 1, 3, 0, 0), (30, .goto (-26), 3, 0, 0)],
  [(33, .iload_n 2, 1, 0, 0), (34, .ireturn, 1, 0, 0)]]
def zm109 : ZMI := (yX12_cards, cX12_cards, 4, (some .int), 0, 0, 0, 1, 12, ze109)
def ze110 : List (List ZEn) := [[(0, .aload_n 0, 1, 0, 0), (1, .iconst 0, 1, 0, 0), (2, .putfield 1, 3, 12, 0), (5, .aload_n 0, 1, 0, 0), (6, .invokevirtual 222, 3, 0, 105), (9, .aload_n 0, 1, 0, 0), (10, .iconst 0, 1, 0, 0), (11, .putfield 228, 3, 12, 16), (14, .aload_n 0, 1, 0, 0), (15, .getfield 103, 3, 12, 18)],
  [(18, .iconst 0, 1, 0, 0), (19, .iconst 0, 1, 0, 0), (20, .iastore, 1, 0, 0), (21, .aload_n 0, 1, 0, 0), (22, .getfield 103, 3, 12, 18), (25, .iconst 1, 1, 0, 0), (26, .iconst 0, 1, 0, 0), (27, .iastore, 1, 0, 0), (28, .aload_n 0, 1, 0, 0), (29, .getfield 203, 3, 12, 8)],
  [(32, .ifCond .ne 97, 3, 0, 0), (35, .aload_n 0, 1, 0, 0), (36, .getfield 24, 3, 12, 4), (39, .aload_n 0, 1, 0, 0), (40, .getfield 200, 3, 12, 7), (43, .iaload, 1, 0, 0), (44, .ifCond .eq 85, 3, 0, 0)],
  [],
  [],
  [],
  [],
  [],
  [(129, .aload_n 0, 1, 0, 0), (130, .getfield 203, 3, 12, 8), (133, .ifCond .le 8, 3, 0, 0), (141, .aload_n 0, 1, 0, 0), (142, .invokevirtual 283, 3, 0, 111)],
  [(145, .iconst 0, 1, 0, 0), (146, .ireturn, 1, 0, 0)]]
def zm110 : ZMI := (yX12_deal, cX12_deal, 2, (some .int), 0, 0, 0, 0, 12, ze110)
def ze111 : List (List ZEn) := [[(0, .aload_n 0, 1, 0, 0), (1, .getfield 115, 3, 12, 22), (4, .bipush 15, 2, 0, 0), (6, .iconst 1, 1, 0, 0), (7, .iastore, 1, 0, 0), (8, .iconst 0, 1, 0, 0), (9, .istore_n 1, 1, 0, 0), (10, .iload_n 1, 1, 0, 0), (11, .iconst 2, 1, 0, 0), (12, .if_icmp .ge 68, 3, 0, 0), (15, .aload_n 0, 1, 0, 0)],
  [(16, .getfield 115, 3, 12, 22), (19, .bipush 16, 2, 0, 0), (21, .iload_n 1, 1, 0, 0), (22, .iadd, 1, 0, 0), (23, .aload_n 0, 1, 0, 0), (24, .getfield 103, 3, 12, 18), (27, .iload_n 1, 1, 0, 0), (28, .iaload, 1, 0, 0), (29, .iastore, 1, 0, 0), (30, .iconst 0, 1, 0, 0), (31, .istore_n 2, 1, 0, 0)],
  [(32, .iload_n 2, 1, 0, 0), (33, .aload_n 0, 1, 0, 0), (34, .getfield 103, 3, 12, 18), (37, .iload_n 1, 1, 0, 0), (38, .iaload, 1, 0, 0), (39, .if_icmp .ge 35, 3, 0, 0)],
  [],
  [(74, .iinc 1 1, 3, 0, 0), (77, .goto (-67), 3, 0, 0)],
  [(80, .aload_n 0, 1, 0, 0), (81, .iconst 0, 1, 0, 0), (82, .invokevirtual 174, 3, 0, 115), (85, .aload_n 0, 1, 0, 0), (86, .iconst 0, 1, 0, 0), (87, .putfield 237, 3, 12, 23), (90, .return_, 1, 0, 0)]]
def zm111 : ZMI := (yX12_dealsRead, cX12_dealsRead, 3, none, 0, 0, 0, 0, 12, ze111)
def ze112 : List (List ZEn) := [[(0, .aload_n 0, 1, 0, 0), (1, .iconst 0, 1, 0, 0), (2, .putfield 1, 3, 12, 0), (5, .aload_n 0, 1, 0, 0), (6, .invokevirtual 222, 3, 0, 105), (9, .iconst 0, 1, 0, 0), (10, .istore_n 1, 1, 0, 0), (11, .aload_n 0, 1, 0, 0), (12, .getfield 203, 3, 12, 8), (15, .ifCond .ne 80, 3, 0, 0)],
  [(18, .aload_n 0, 1, 0, 0), (19, .getfield 24, 3, 12, 4), (22, .aload_n 0, 1, 0, 0), (23, .getfield 200, 3, 12, 7), (26, .iaload, 1, 0, 0), (27, .ifCond .eq 68, 3, 0, 0)],
  [],
  [],
  [],
  [(95, .aload_n 0, 1, 0, 0)],
  [(96, .getfield 203, 3, 12, 8), (99, .ifCond .le 8, 3, 0, 0), (107, .aload_n 0, 1, 0, 0), (108, .getfield 85, 3, 12, 10), (111, .bipush 21, 2, 0, 0)],
  [(113, .iload_n 1, 1, 0, 0), (114, .iastore, 1, 0, 0), (115, .iconst 0, 1, 0, 0), (116, .istore_n 2, 1, 0, 0), (117, .iload_n 2, 1, 0, 0), (118, .bipush 15, 2, 0, 0), (120, .iload_n 1, 1, 0, 0), (121, .imul, 1, 0, 0), (122, .if_icmp .ge 24, 3, 0, 0)],
  [],
  [(146, .iconst 0, 1, 0, 0), (147, .ireturn, 1, 0, 0)]]
def zm112 : ZMI := (yX12_book, cX12_book, 3, (some .int), 0, 0, 0, 0, 12, ze112)
def ze113 : List (List ZEn) := [[(0, .iconst 0, 1, 0, 0), (1, .istore 4, 2, 0, 0), (3, .iload 4, 2, 0, 0), (5, .iload_n 3, 1, 0, 0), (6, .if_icmp .ge 27, 3, 0, 0), (9, .aload_n 0, 1, 0, 0), (10, .getfield 115, 3, 12, 22), (13, .iload_n 2, 1, 0, 0), (14, .iload 4, 2, 0, 0)],
  [(16, .iadd, 1, 0, 0), (17, .aload_n 0, 1, 0, 0), (18, .getfield 115, 3, 12, 22), (21, .iload_n 1, 1, 0, 0), (22, .iload 4, 2, 0, 0), (24, .iadd, 1, 0, 0), (25, .iaload, 1, 0, 0), (26, .iastore, 1, 0, 0), (27, .iinc 4 1, 3, 0, 0), (30, .goto (-27), 3, 0, 0)],
  [(33, .return_, 1, 0, 0)]]
def zm113 : ZMI := (yX12_copies, cX12_copies, 5, none, 0, 0, 0, 3, 12, ze113)
def ze114 : List (List ZEn) := [[(0, .aload_n 0, 1, 0, 0), (1, .getfield 237, 3, 12, 23), (4, .bipush 16, 2, 0, 0), (6, .if_icmp .ne 50, 3, 0, 0)],
  [],
  [],
  [(56, .aload_n 0, 1, 0, 0), (57, .iconst 0, 1, 0, 0), (58, .sipush 460, 3, 0, 0), (61, .iconst 5, 1, 0, 0), (62, .aload_n 0, 1, 0, 0), (63, .getfield 237, 3, 12, 23)],
  [(66, .iadd, 1, 0, 0), (67, .imul, 1, 0, 0), (68, .sipush 460, 3, 0, 0), (71, .invokevirtual 308, 3, 0, 113), (74, .aload_n 0, 1, 0, 0), (75, .dup, 1, 0, 0), (76, .getfield 237, 3, 12, 23), (79, .iconst 1, 1, 0, 0)],
  [(80, .iadd, 1, 0, 0), (81, .putfield 237, 3, 12, 23), (84, .return_, 1, 0, 0)]]
def zm114 : ZMI := (yX12_keeps, cX12_keeps, 2, none, 0, 0, 0, 0, 12, ze114)
def ze115 : List (List ZEn) := [[(0, .iconst 0, 1, 0, 0), (1, .istore_n 2, 1, 0, 0), (2, .iload_n 2, 1, 0, 0), (3, .bipush 15, 2, 0, 0), (5, .if_icmp .ge 18, 3, 0, 0), (8, .aload_n 0, 1, 0, 0), (9, .getfield 115, 3, 12, 22), (12, .iload_n 1, 1, 0, 0), (13, .iload_n 2, 1, 0, 0), (14, .iadd, 1, 0, 0), (15, .iconst 0, 1, 0, 0)],
  [(16, .iastore, 1, 0, 0), (17, .iinc 2 1, 3, 0, 0), (20, .goto (-18), 3, 0, 0), (23, .aload_n 0, 1, 0, 0), (24, .getfield 115, 3, 12, 22), (27, .iload_n 1, 1, 0, 0), (28, .bipush 18, 2, 0, 0), (30, .iadd, 1, 0, 0), (31, .iconst 0, 1, 0, 0)],
  [(32, .iastore, 1, 0, 0), (33, .aload_n 0, 1, 0, 0), (34, .getfield 115, 3, 12, 22), (37, .iload_n 1, 1, 0, 0), (38, .iconst 3, 1, 0, 0), (39, .iadd, 1, 0, 0), (40, .aload_n 0, 1, 0, 0), (41, .getfield 85, 3, 12, 10), (44, .iconst 2, 1, 0, 0), (45, .iaload, 1, 0, 0), (46, .iastore, 1, 0, 0), (47, .aload_n 0, 1, 0, 0)],
  [(48, .getfield 115, 3, 12, 22), (51, .iload_n 1, 1, 0, 0), (52, .bipush 8, 2, 0, 0), (54, .iadd, 1, 0, 0), (55, .iconst (-1), 1, 0, 0), (56, .iastore, 1, 0, 0), (57, .aload_n 0, 1, 0, 0), (58, .getfield 115, 3, 12, 22), (61, .iload_n 1, 1, 0, 0), (62, .iconst 5, 1, 0, 0), (63, .iadd, 1, 0, 0)],
  [(64, .iconst (-1), 1, 0, 0), (65, .iastore, 1, 0, 0), (66, .aload_n 0, 1, 0, 0), (67, .getfield 115, 3, 12, 22), (70, .iload_n 1, 1, 0, 0), (71, .bipush 9, 2, 0, 0), (73, .iadd, 1, 0, 0), (74, .bipush 100, 2, 0, 0), (76, .iastore, 1, 0, 0), (77, .iconst 0, 1, 0, 0), (78, .istore_n 2, 1, 0, 0), (79, .iload_n 2, 1, 0, 0)],
  [(80, .iconst 2, 1, 0, 0), (81, .if_icmp .ge 89, 3, 0, 0), (84, .aload_n 0, 1, 0, 0), (85, .getfield 115, 3, 12, 22), (88, .iload_n 1, 1, 0, 0), (89, .iconst 0, 1, 0, 0), (90, .iadd, 1, 0, 0), (91, .iload_n 2, 1, 0, 0), (92, .iadd, 1, 0, 0), (93, .aload_n 0, 1, 0, 0), (94, .getfield 115, 3, 12, 22)],
  [(97, .iload_n 1, 1, 0, 0), (98, .bipush 16, 2, 0, 0), (100, .iadd, 1, 0, 0), (101, .iload_n 2, 1, 0, 0), (102, .iadd, 1, 0, 0), (103, .iaload, 1, 0, 0), (104, .iastore, 1, 0, 0), (105, .iconst 0, 1, 0, 0), (106, .istore_n 3, 1, 0, 0), (107, .iload_n 3, 1, 0, 0), (108, .aload_n 0, 1, 0, 0), (109, .getfield 115, 3, 12, 22)],
  [(112, .iload_n 1, 1, 0, 0), (113, .bipush 16, 2, 0, 0), (115, .iadd, 1, 0, 0), (116, .iload_n 2, 1, 0, 0), (117, .iadd, 1, 0, 0), (118, .iaload, 1, 0, 0), (119, .if_icmp .ge 45, 3, 0, 0)],
  [],
  [],
  [(164, .iinc 2 1, 3, 0, 0), (167, .goto (-88), 3, 0, 0), (170, .return_, 1, 0, 0)]]
def zm115 : ZMI := (yX12_begins, cX12_begins, 4, none, 0, 0, 0, 1, 12, ze115)
def ze116 : List (List ZEn) := [[(0, .aload_n 0, 1, 0, 0), (1, .getfield 85, 3, 12, 10), (4, .iconst 0, 1, 0, 0), (5, .iaload, 1, 0, 0), (6, .ireturn, 1, 0, 0)]]
def zm116 : ZMI := (yX12_kinds, cX12_kinds, 1, (some .int), 0, 0, 0, 0, 12, ze116)
def ze117 : List (List ZEn) := [[(0, .iload_n 1, 1, 0, 0), (1, .ifCond .lt 15, 3, 0, 0), (4, .iload_n 1, 1, 0, 0), (5, .aload_n 0, 1, 0, 0), (6, .invokevirtual 312, 3, 0, 116), (9, .if_icmp .ge 7, 3, 0, 0)],
  [(16, .iconst 0, 1, 0, 0), (17, .ireturn, 1, 0, 0)]]
def zm117 : ZMI := (yX12_isKind, cX12_isKind, 2, (some .boolean), 0, 0, 0, 1, 12, ze117)
def ze118 : List (List ZEn) := [[(0, .aload_n 0, 1, 0, 0), (1, .getfield 115, 3, 12, 22), (4, .iload_n 1, 1, 0, 0), (5, .iconst 3, 1, 0, 0), (6, .iadd, 1, 0, 0), (7, .iaload, 1, 0, 0), (8, .istore_n 2, 1, 0, 0), (9, .aload_n 0, 1, 0, 0), (10, .getfield 115, 3, 12, 22), (13, .iload_n 1, 1, 0, 0), (14, .bipush 8, 2, 0, 0)],
  [(16, .iadd, 1, 0, 0), (17, .iaload, 1, 0, 0), (18, .ifCond .ge 121, 3, 0, 0), (21, .aload_n 0, 1, 0, 0), (22, .getfield 115, 3, 12, 22), (25, .iload_n 1, 1, 0, 0), (26, .iconst 0, 1, 0, 0), (27, .iadd, 1, 0, 0), (28, .iload_n 2, 1, 0, 0), (29, .iadd, 1, 0, 0), (30, .iaload, 1, 0, 0), (31, .ifCond .ne 108, 3, 0, 0)],
  [(34, .aload_n 0, 1, 0, 0), (35, .getfield 115, 3, 12, 22), (38, .iload_n 1, 1, 0, 0), (39, .bipush 8, 2, 0, 0), (41, .iadd, 1, 0, 0), (42, .iconst 1, 1, 0, 0), (43, .iload_n 2, 1, 0, 0), (44, .isub, 1, 0, 0), (45, .iastore, 1, 0, 0), (46, .iconst 0, 1, 0, 0), (47, .istore_n 3, 1, 0, 0)],
  [(48, .iload_n 3, 1, 0, 0), (49, .aload_n 0, 1, 0, 0), (50, .getfield 115, 3, 12, 22), (53, .iload_n 1, 1, 0, 0), (54, .bipush 10, 2, 0, 0), (56, .iadd, 1, 0, 0), (57, .iaload, 1, 0, 0), (58, .if_icmp .ge 81, 3, 0, 0)],
  [],
  [],
  [],
  [],
  [(139, .aload_n 0, 1, 0, 0), (140, .getfield 115, 3, 12, 22), (143, .iload_n 1, 1, 0, 0)],
  [(144, .bipush 8, 2, 0, 0), (146, .iadd, 1, 0, 0), (147, .iaload, 1, 0, 0), (148, .ifCond .lt 7, 3, 0, 0), (151, .iconst 1, 1, 0, 0), (152, .goto 4, 3, 0, 0), (156, .ireturn, 1, 0, 0)]]
def zm118 : ZMI := (yX12_isWon, cX12_isWon, 5, (some .boolean), 0, 0, 0, 1, 12, ze118)
def ze119 : List (List ZEn) := [[(0, .iload_n 0, 1, 0, 0), (1, .ifCond .eq 8, 3, 0, 0), (4, .iload_n 0, 1, 0, 0), (5, .iconst 1, 1, 0, 0), (6, .if_icmp .ne 7, 3, 0, 0), (9, .iconst 1, 1, 0, 0), (10, .goto 4, 3, 0, 0), (13, .iconst 0, 1, 0, 0), (14, .ireturn, 1, 0, 0)]]
def zm119 : ZMI := (yX12_isSide, cX12_isSide, 1, (some .boolean), 1, 0, 0, 1, 12, ze119)
def ze120 : List (List ZEn) := [[(0, .aload_n 0, 1, 0, 0), (1, .iconst 0, 1, 0, 0), (2, .putfield 1, 3, 12, 0), (5, .aload_n 0, 1, 0, 0), (6, .iload_n 1, 1, 0, 0), (7, .invokevirtual 344, 3, 0, 117), (10, .ifCond .eq 12, 3, 0, 0)],
  [(22, .iconst (-1), 1, 0, 0), (23, .ireturn, 1, 0, 0)]]
def zm120 : ZMI := (yX12_kind, cX12_kind, 3, (some .int), 0, 0, 0, 2, 12, ze120)
def ze121 : List (List ZEn) := [[(0, .aload_n 0, 1, 0, 0), (1, .iconst 0, 1, 0, 0), (2, .putfield 1, 3, 12, 0), (5, .iload_n 1, 1, 0, 0), (6, .invokestatic 354, 3, 0, 119), (9, .ifCond .eq 39, 3, 0, 0), (12, .iload_n 2, 1, 0, 0), (13, .ifCond .lt 35, 3, 0, 0)],
  [(16, .iload_n 2, 1, 0, 0), (17, .aload_n 0, 1, 0, 0), (18, .getfield 115, 3, 12, 22), (21, .iconst 0, 1, 0, 0), (22, .iload_n 1, 1, 0, 0), (23, .iadd, 1, 0, 0), (24, .iaload, 1, 0, 0), (25, .if_icmp .ge 23, 3, 0, 0)],
  [],
  [(48, .iconst (-1), 1, 0, 0), (49, .ireturn, 1, 0, 0)]]
def zm121 : ZMI := (yX12_card, cX12_card, 3, (some .int), 0, 0, 0, 2, 12, ze121)
def ze122 : List (List ZEn) := [[(0, .aload_n 0, 1, 0, 0), (1, .iconst 0, 1, 0, 0), (2, .putfield 1, 3, 12, 0), (5, .iload_n 1, 1, 0, 0), (6, .ifCond .lt 25, 3, 0, 0), (9, .iload_n 1, 1, 0, 0), (10, .aload_n 0, 1, 0, 0), (11, .getfield 115, 3, 12, 22), (14, .iconst 2, 1, 0, 0), (15, .iaload, 1, 0, 0)],
  [(16, .if_icmp .ge 15, 3, 0, 0), (31, .iconst (-1), 1, 0, 0)],
  [(32, .ireturn, 1, 0, 0)]]
def zm122 : ZMI := (yX12_heap, cX12_heap, 2, (some .int), 0, 0, 0, 1, 12, ze122)
def ze123 : List (List ZEn) := [[(0, .aload_n 0, 1, 0, 0), (1, .iconst 0, 1, 0, 0), (2, .putfield 1, 3, 12, 0), (5, .iload_n 1, 1, 0, 0), (6, .ifCond .lt 40, 3, 0, 0), (9, .iload_n 1, 1, 0, 0), (10, .aload_n 0, 1, 0, 0), (11, .getfield 115, 3, 12, 22), (14, .bipush 12, 2, 0, 0)],
  [(16, .iaload, 1, 0, 0), (17, .if_icmp .ge 29, 3, 0, 0)],
  [(46, .iconst (-1), 1, 0, 0), (47, .ireturn, 1, 0, 0)]]
def zm123 : ZMI := (yX12_taken, cX12_taken, 3, (some .int), 0, 0, 0, 2, 12, ze123)
def ze124 : List (List ZEn) := [[(0, .aload_n 0, 1, 0, 0), (1, .iconst 0, 1, 0, 0), (2, .putfield 1, 3, 12, 0), (5, .iload_n 1, 1, 0, 0), (6, .iconst 1, 1, 0, 0), (7, .sipush 1000, 3, 0, 0), (10, .invokestatic 347, 3, 0, 106), (13, .ifCond .ne 5, 3, 0, 0)],
  [(16, .iconst (-1), 1, 0, 0), (17, .ireturn, 1, 0, 0), (18, .aload_n 0, 1, 0, 0), (19, .getfield 115, 3, 12, 22), (22, .bipush 8, 2, 0, 0), (24, .iaload, 1, 0, 0), (25, .ifCond .lt 5, 3, 0, 0), (30, .aload_n 0, 1, 0, 0), (31, .invokevirtual 357, 3, 0, 114)],
  [(34, .iconst 0, 1, 0, 0), (35, .istore_n 2, 1, 0, 0), (36, .iload_n 2, 1, 0, 0), (37, .iload_n 1, 1, 0, 0), (38, .if_icmp .ge 22, 3, 0, 0), (41, .aload_n 0, 1, 0, 0), (42, .iconst 0, 1, 0, 0), (43, .invokevirtual 360, 3, 0, 118), (46, .ifCond .ne 14, 3, 0, 0)],
  [(60, .iload_n 2, 1, 0, 0), (61, .ireturn, 1, 0, 0)]]
def zm124 : ZMI := (yX12_turn, cX12_turn, 3, (some .int), 0, 0, 0, 1, 12, ze124)
def ze125 : List (List ZEn) := [[(0, .aload_n 0, 1, 0, 0), (1, .iconst 0, 1, 0, 0), (2, .putfield 1, 3, 12, 0), (5, .aload_n 0, 1, 0, 0), (6, .getfield 115, 3, 12, 22), (9, .iconst 3, 1, 0, 0), (10, .iaload, 1, 0, 0), (11, .istore_n 2, 1, 0, 0), (12, .iload_n 1, 1, 0, 0), (13, .iconst 0, 1, 0, 0), (14, .iconst 2, 1, 0, 0), (15, .invokestatic 347, 3, 0, 106)],
  [(18, .ifCond .eq 46, 3, 0, 0), (21, .aload_n 0, 1, 0, 0), (22, .getfield 115, 3, 12, 22), (25, .bipush 8, 2, 0, 0), (27, .iaload, 1, 0, 0), (28, .ifCond .ge 36, 3, 0, 0), (31, .iload_n 1, 1, 0, 0)],
  [(32, .iconst 1, 1, 0, 0), (33, .if_icmp .ne 14, 3, 0, 0), (36, .aload_n 0, 1, 0, 0), (37, .getfield 115, 3, 12, 22), (40, .bipush 11, 2, 0, 0), (42, .iaload, 1, 0, 0), (43, .iconst 1, 1, 0, 0), (44, .if_icmp .eq 20, 3, 0, 0), (47, .iload_n 1, 1, 0, 0)],
  [(48, .iconst 1, 1, 0, 0), (49, .if_icmp .eq 17, 3, 0, 0), (52, .aload_n 0, 1, 0, 0), (53, .getfield 115, 3, 12, 22), (56, .iconst 0, 1, 0, 0), (57, .iload_n 2, 1, 0, 0), (58, .iadd, 1, 0, 0), (59, .iaload, 1, 0, 0), (60, .iconst 2, 1, 0, 0), (61, .if_icmp .ge 5, 3, 0, 0)],
  [(64, .iconst 0, 1, 0, 0), (65, .ireturn, 1, 0, 0), (66, .aload_n 0, 1, 0, 0), (67, .invokevirtual 357, 3, 0, 114), (70, .iload_n 1, 1, 0, 0), (71, .ifCond .ne 17, 3, 0, 0)],
  [(88, .iload_n 1, 1, 0, 0), (89, .iconst 1, 1, 0, 0), (90, .if_icmp .ne 14, 3, 0, 0), (93, .aload_n 0, 1, 0, 0), (94, .getfield 115, 3, 12, 22)],
  [(97, .bipush 11, 2, 0, 0), (99, .iconst 1, 1, 0, 0), (100, .iastore, 1, 0, 0), (101, .goto 80, 3, 0, 0)],
  [],
  [],
  [],
  [],
  [(181, .iconst 1, 1, 0, 0), (182, .ireturn, 1, 0, 0)]]
def zm125 : ZMI := (yX12_slip, cX12_slip, 6, (some .boolean), 0, 0, 0, 1, 12, ze125)
def ze126 : List (List ZEn) := [[(0, .aload_n 0, 1, 0, 0), (1, .iconst 0, 1, 0, 0), (2, .putfield 1, 3, 12, 0), (5, .aload_n 0, 1, 0, 0), (6, .getfield 237, 3, 12, 23), (9, .ifCond .ne 5, 3, 0, 0), (12, .iconst 0, 1, 0, 0), (13, .ireturn, 1, 0, 0)]]
def zm126 : ZMI := (yX12_undo, cX12_undo, 1, (some .boolean), 0, 0, 0, 0, 12, ze126)
def ze127 : List (List ZEn) := [[(0, .aload_n 0, 1, 0, 0), (1, .iconst 0, 1, 0, 0), (2, .putfield 1, 3, 12, 0), (5, .aload_n 0, 1, 0, 0), (6, .getfield 115, 3, 12, 22), (9, .bipush 15, 2, 0, 0), (11, .iaload, 1, 0, 0), (12, .ifCond .ne 5, 3, 0, 0), (15, .iconst 0, 1, 0, 0)],
  [(16, .ireturn, 1, 0, 0)]]
def zm127 : ZMI := (yX12_again, cX12_again, 1, (some .boolean), 0, 0, 0, 0, 12, ze127)
def ze128 : List (List ZEn) := [[(0, .iconst 0, 1, 0, 0), (1, .istore_n 3, 1, 0, 0), (2, .iload_n 3, 1, 0, 0), (3, .sipush 1024, 3, 0, 0), (6, .if_icmp .ge 16, 3, 0, 0), (9, .aload_n 0, 1, 0, 0), (10, .getfield 146, 3, 12, 34), (13, .iload_n 3, 1, 0, 0), (14, .iconst (-1), 1, 0, 0), (15, .iastore, 1, 0, 0)],
  [(16, .iinc 3 1, 3, 0, 0), (19, .goto (-17), 3, 0, 0), (22, .aload_n 0, 1, 0, 0), (23, .iconst 0, 1, 0, 0), (24, .putfield 382, 3, 12, 35), (27, .aload_n 0, 1, 0, 0), (28, .getfield 115, 3, 12, 22), (31, .iload_n 1, 1, 0, 0)],
  [(32, .bipush 7, 2, 0, 0), (34, .iadd, 1, 0, 0), (35, .iaload, 1, 0, 0), (36, .istore_n 3, 1, 0, 0), (37, .aload_n 0, 1, 0, 0), (38, .iconst 0, 1, 0, 0), (39, .putfield 385, 3, 12, 39), (42, .iconst 0, 1, 0, 0), (43, .istore 4, 2, 0, 0), (45, .aload_n 0, 1, 0, 0), (46, .getfield 115, 3, 12, 22)],
  [(49, .iload_n 1, 1, 0, 0), (50, .bipush 7, 2, 0, 0), (52, .iadd, 1, 0, 0), (53, .iaload, 1, 0, 0), (54, .iload_n 3, 1, 0, 0), (55, .isub, 1, 0, 0), (56, .istore 5, 2, 0, 0), (58, .aload_n 0, 1, 0, 0), (59, .iload 4, 2, 0, 0), (61, .putfield 388, 3, 12, 37)],
  [(64, .aload_n 0, 1, 0, 0), (65, .iload 5, 2, 0, 0), (67, .putfield 391, 3, 12, 38), (70, .aload_n 0, 1, 0, 0), (71, .iload_n 1, 1, 0, 0), (72, .invokevirtual 360, 3, 0, 118), (75, .ifCond .eq 17, 3, 0, 0), (78, .aload_n 0, 1, 0, 0), (79, .aload_n 0, 1, 0, 0)],
  [(80, .getfield 115, 3, 12, 22), (83, .iload_n 1, 1, 0, 0), (84, .bipush 8, 2, 0, 0), (86, .iadd, 1, 0, 0), (87, .iaload, 1, 0, 0), (88, .putfield 394, 3, 12, 36), (91, .return_, 1, 0, 0)]]
def zm128 : ZMI := (yX12_runs, cX12_runs, 8, none, 0, 0, 0, 2, 12, ze128)
def ze129 : List (List ZEn) := [[(0, .aload_n 0, 1, 0, 0), (1, .iconst 0, 1, 0, 0), (2, .sipush 9660, 3, 0, 0), (5, .sipush 164, 3, 0, 0), (8, .invokevirtual 308, 3, 0, 113), (11, .aload_n 0, 1, 0, 0), (12, .sipush 9660, 3, 0, 0), (15, .iconst (-1), 1, 0, 0)],
  [(16, .invokevirtual 400, 3, 0, 128), (19, .return_, 1, 0, 0)]]
def zm129 : ZMI := (yX12_runsNow, cX12_runsNow, 1, none, 0, 0, 0, 0, 12, ze129)
def ze130 : List (List ZEn) := [[(0, .aload_n 0, 1, 0, 0), (1, .iconst 0, 1, 0, 0), (2, .putfield 1, 3, 12, 0), (5, .iload_n 1, 1, 0, 0), (6, .iconst 0, 1, 0, 0), (7, .iconst 3, 1, 0, 0), (8, .invokestatic 347, 3, 0, 106), (11, .ifCond .ne 5, 3, 0, 0), (14, .iconst (-1), 1, 0, 0), (15, .ireturn, 1, 0, 0)],
  [(16, .aload_n 0, 1, 0, 0), (17, .invokevirtual 403, 3, 0, 129), (20, .iload_n 1, 1, 0, 0), (21, .ifCond .ne 10, 3, 0, 0), (24, .aload_n 0, 1, 0, 0), (25, .getfield 394, 3, 12, 36), (28, .goto 31, 3, 0, 0), (31, .iload_n 1, 1, 0, 0)],
  [(32, .iconst 1, 1, 0, 0), (33, .if_icmp .ne 10, 3, 0, 0), (36, .aload_n 0, 1, 0, 0), (37, .getfield 388, 3, 12, 37), (40, .goto 19, 3, 0, 0), (43, .iload_n 1, 1, 0, 0), (44, .iconst 2, 1, 0, 0), (45, .if_icmp .ne 10, 3, 0, 0)],
  [(48, .aload_n 0, 1, 0, 0), (49, .getfield 391, 3, 12, 38), (52, .goto 7, 3, 0, 0), (55, .aload_n 0, 1, 0, 0), (56, .getfield 385, 3, 12, 39), (59, .ireturn, 1, 0, 0)]]
def zm130 : ZMI := (yX12_ends, cX12_ends, 2, (some .int), 0, 0, 0, 1, 12, ze130)
def ze131 : List (List ZEn) := [[(0, .aload_n 0, 1, 0, 0), (1, .iconst 0, 1, 0, 0), (2, .putfield 406, 3, 12, 41), (5, .iconst 0, 1, 0, 0), (6, .istore_n 1, 1, 0, 0), (7, .iload_n 1, 1, 0, 0), (8, .aload_n 0, 1, 0, 0), (9, .invokevirtual 312, 3, 0, 116), (12, .if_icmp .ge 53, 3, 0, 0)],
  [],
  [],
  [],
  [(65, .return_, 1, 0, 0)]]
def zm131 : ZMI := (yX12_laysPack, cX12_laysPack, 3, none, 0, 0, 0, 0, 12, ze131)
def ze132 : List (List ZEn) := [[(0, .iload_n 2, 1, 0, 0), (1, .bipush 10, 2, 0, 0), (3, .if_icmp .le 5, 3, 0, 0), (8, .lconst 1, 1, 0, 0), (9, .lstore_n 3, 1, 0, 0), (10, .iconst 0, 1, 0, 0), (11, .istore 5, 2, 0, 0), (13, .iload 5, 2, 0, 0), (15, .iload_n 2, 1, 0, 0)],
  [(16, .if_icmp .ge 61, 3, 0, 0)],
  [],
  [],
  [(77, .lload_n 3, 1, 0, 0), (78, .ldc2_w 409, 3, 20000, 0)],
  [(81, .lcmp, 1, 0, 0), (82, .ifCond .le 7, 3, 0, 0), (89, .lload_n 3, 1, 0, 0), (90, .l2i, 1, 0, 0), (91, .ireturn, 1, 0, 0)]]
def zm132 : ZMI := (yX12_rowsOf, cX12_rowsOf, 8, (some .int), 0, 0, 0, 2, 12, ze132)
def ze133 : List (List ZEn) := [[(0, .iload_n 2, 1, 0, 0), (1, .iconst 2, 1, 0, 0), (2, .isub, 1, 0, 0), (3, .istore_n 3, 1, 0, 0), (4, .iload_n 3, 1, 0, 0), (5, .ifCond .lt 20, 3, 0, 0)],
  [(25, .iload_n 3, 1, 0, 0), (26, .ifCond .ge 5, 3, 0, 0), (29, .iconst 0, 1, 0, 0), (30, .ireturn, 1, 0, 0)]]
def zm133 : ZMI := (yX12_goesNext, cX12_goesNext, 7, (some .boolean), 0, 0, 0, 2, 12, ze133)
def ze134 : List (List ZEn) := [[(0, .aload_n 0, 1, 0, 0), (1, .invokevirtual 415, 3, 0, 131), (4, .aload_n 0, 1, 0, 0), (5, .aload_n 0, 1, 0, 0), (6, .getfield 406, 3, 12, 41), (9, .ifCond .ne 7, 3, 0, 0), (12, .iconst (-1), 1, 0, 0), (13, .goto 15, 3, 0, 0)],
  [(28, .putfield 422, 3, 12, 44), (31, .aload_n 0, 1, 0, 0)],
  [(32, .getfield 422, 3, 12, 44), (35, .ifCond .lt 10, 3, 0, 0), (45, .aload_n 0, 1, 0, 0), (46, .getfield 422, 3, 12, 44)],
  [(49, .ifCond .lt 7, 3, 0, 0), (56, .iconst 0, 1, 0, 0), (57, .ireturn, 1, 0, 0)]]
def zm134 : ZMI := (yX12_counts, cX12_counts, 2, (some .boolean), 0, 0, 0, 0, 12, ze134)
def ze135 : List (List ZEn) := [[(0, .aload_n 0, 1, 0, 0), (1, .iconst 0, 1, 0, 0), (2, .putfield 1, 3, 12, 0), (5, .iload_n 1, 1, 0, 0), (6, .iconst 0, 1, 0, 0), (7, .bipush 6, 2, 0, 0), (9, .invokestatic 347, 3, 0, 106), (12, .ifCond .eq 10, 3, 0, 0), (15, .aload_n 0, 1, 0, 0)],
  [(16, .invokevirtual 432, 3, 0, 134), (19, .ifCond .ne 5, 3, 0, 0), (22, .iconst (-1), 1, 0, 0), (23, .ireturn, 1, 0, 0)]]
def zm135 : ZMI := (yX12_all, cX12_all, 5, (some .int), 0, 0, 0, 1, 12, ze135)
def ze136 : List (List ZEn) := [[(0, .aload_n 0, 1, 0, 0), (1, .iconst 0, 1, 0, 0), (2, .putfield 1, 3, 12, 0), (5, .aload_n 0, 1, 0, 0), (6, .invokevirtual 432, 3, 0, 134), (9, .ifCond .eq 27, 3, 0, 0)],
  [],
  [(36, .iconst (-1), 1, 0, 0), (37, .ireturn, 1, 0, 0)]]
def zm136 : ZMI := (yX12_row, cX12_row, 4, (some .int), 0, 0, 0, 2, 12, ze136)
def ze137 : List (List ZEn) := [[(0, .aload_n 0, 1, 0, 0), (1, .iconst 0, 1, 0, 0), (2, .putfield 1, 3, 12, 0), (5, .iload_n 1, 1, 0, 0), (6, .iconst 0, 1, 0, 0), (7, .iconst 2, 1, 0, 0), (8, .invokestatic 347, 3, 0, 106), (11, .ifCond .eq 10, 3, 0, 0), (14, .aload_n 0, 1, 0, 0), (15, .invokevirtual 432, 3, 0, 134)],
  [(18, .ifCond .ne 5, 3, 0, 0), (21, .iconst (-1), 1, 0, 0), (22, .ireturn, 1, 0, 0)]]
def zm137 : ZMI := (yX12_beginner, cX12_beginner, 7, (some .int), 0, 0, 0, 1, 12, ze137)
def ze138 : List (List ZEn) := [[(0, .aload_n 0, 1, 0, 0), (1, .iconst 0, 1, 0, 0), (2, .putfield 1, 3, 12, 0), (5, .aload_n 0, 1, 0, 0), (6, .iload_n 1, 1, 0, 0), (7, .invokevirtual 344, 3, 0, 117), (10, .ifCond .eq 19, 3, 0, 0)],
  [(29, .iconst (-1), 1, 0, 0), (30, .ireturn, 1, 0, 0)]]
def zm138 : ZMI := (yX12_worth, cX12_worth, 9, (some .int), 0, 0, 0, 2, 12, ze138)
def ze139 : List (List ZEn) := [[(0, .aload_n 0, 1, 0, 0), (1, .iconst 0, 1, 0, 0), (2, .putfield 1, 3, 12, 0), (5, .iload_n 1, 1, 0, 0), (6, .iconst 1, 1, 0, 0), (7, .bipush 20, 2, 0, 0), (9, .invokestatic 347, 3, 0, 106), (12, .ifCond .eq 19, 3, 0, 0), (15, .iload_n 2, 1, 0, 0)],
  [(16, .iconst 0, 1, 0, 0), (17, .iconst 3, 1, 0, 0), (18, .invokestatic 347, 3, 0, 106), (21, .ifCond .eq 10, 3, 0, 0), (24, .aload_n 0, 1, 0, 0), (25, .invokevirtual 432, 3, 0, 134), (28, .ifCond .ne 5, 3, 0, 0), (31, .iconst (-1), 1, 0, 0)],
  [(32, .ireturn, 1, 0, 0)]]
def zm139 : ZMI := (yX12_leads, cX12_leads, 8, (some .int), 0, 0, 0, 2, 12, ze139)
def ze140 : List (List ZEn) := [[(0, .aload_n 0, 1, 0, 0), (1, .iconst 0, 1, 0, 0), (2, .putfield 1, 3, 12, 0), (5, .aload_n 0, 1, 0, 0), (6, .iload_n 1, 1, 0, 0), (7, .invokevirtual 344, 3, 0, 117), (10, .ifCond .eq 29, 3, 0, 0)],
  [],
  [(39, .iconst (-1), 1, 0, 0), (40, .ireturn, 1, 0, 0)]]
def zm140 : ZMI := (yX12_laws, cX12_laws, 10, (some .int), 0, 0, 0, 3, 12, ze140)
def ze141 : List (List ZEn) := [[(0, .aload_n 0, 1, 0, 0), (1, .iconst 0, 1, 0, 0), (2, .putfield 438, 3, 12, 48), (5, .iconst 0, 1, 0, 0), (6, .istore_n 1, 1, 0, 0), (7, .iload_n 1, 1, 0, 0), (8, .iconst 2, 1, 0, 0), (9, .if_icmp .ge 88, 3, 0, 0), (12, .iconst 0, 1, 0, 0), (13, .istore_n 2, 1, 0, 0), (14, .iload_n 2, 1, 0, 0), (15, .aload_n 0, 1, 0, 0)],
  [(16, .getfield 115, 3, 12, 22), (19, .iconst 0, 1, 0, 0), (20, .iload_n 1, 1, 0, 0), (21, .iadd, 1, 0, 0), (22, .iaload, 1, 0, 0), (23, .if_icmp .ge 68, 3, 0, 0)],
  [],
  [],
  [],
  [(91, .iinc 1 1, 3, 0, 0), (94, .goto (-87), 3, 0, 0)],
  [(97, .iconst 0, 1, 0, 0), (98, .istore_n 1, 1, 0, 0), (99, .iload_n 1, 1, 0, 0), (100, .aload_n 0, 1, 0, 0), (101, .getfield 438, 3, 12, 48), (104, .if_icmp .ge 46, 3, 0, 0)],
  [],
  [],
  [(150, .return_, 1, 0, 0)]]
def zm141 : ZMI := (yX12_findHidden, cX12_findHidden, 4, none, 0, 0, 0, 0, 12, ze141)
def ze142 : List (List ZEn) := [[(0, .aload_n 0, 1, 0, 0), (1, .iconst 0, 1, 0, 0), (2, .putfield 1, 3, 12, 0), (5, .iload_n 1, 1, 0, 0), (6, .invokestatic 354, 3, 0, 119), (9, .ifCond .ne 5, 3, 0, 0), (12, .iconst (-1), 1, 0, 0), (13, .ireturn, 1, 0, 0), (14, .iconst 0, 1, 0, 0), (15, .istore_n 2, 1, 0, 0)],
  [(16, .iconst 0, 1, 0, 0), (17, .istore_n 3, 1, 0, 0), (18, .iload_n 3, 1, 0, 0), (19, .aload_n 0, 1, 0, 0), (20, .getfield 115, 3, 12, 22), (23, .iconst 0, 1, 0, 0), (24, .iload_n 1, 1, 0, 0), (25, .iadd, 1, 0, 0), (26, .iaload, 1, 0, 0), (27, .if_icmp .ge 36, 3, 0, 0)],
  [],
  [(63, .iload_n 2, 1, 0, 0)],
  [(64, .ireturn, 1, 0, 0)]]
def zm142 : ZMI := (yX12_unseen, cX12_unseen, 4, (some .int), 0, 0, 0, 1, 12, ze142)
def ze143 : List (List ZEn) := [[(0, .aload_n 0, 1, 0, 0), (1, .invokevirtual 441, 3, 0, 141), (4, .aload_n 0, 1, 0, 0), (5, .aload_n 0, 1, 0, 0), (6, .aload_n 0, 1, 0, 0), (7, .getfield 161, 3, 12, 47), (10, .aload_n 0, 1, 0, 0), (11, .getfield 438, 3, 12, 48), (14, .invokevirtual 418, 3, 0, 132)],
  [(17, .putfield 444, 3, 12, 51), (20, .aload_n 0, 1, 0, 0), (21, .iconst 0, 1, 0, 0), (22, .putfield 447, 3, 12, 49), (25, .aload_n 0, 1, 0, 0), (26, .iconst 0, 1, 0, 0), (27, .putfield 450, 3, 12, 50), (30, .iconst 0, 1, 0, 0), (31, .istore_n 1, 1, 0, 0)],
  [(32, .iload_n 1, 1, 0, 0), (33, .aload_n 0, 1, 0, 0), (34, .getfield 444, 3, 12, 51), (37, .if_icmp .ge 124, 3, 0, 0), (40, .aload_n 0, 1, 0, 0), (41, .iconst 0, 1, 0, 0), (42, .sipush 9660, 3, 0, 0), (45, .sipush 164, 3, 0, 0)],
  [(48, .invokevirtual 308, 3, 0, 113), (51, .iconst 0, 1, 0, 0), (52, .istore_n 2, 1, 0, 0), (53, .iload_n 2, 1, 0, 0), (54, .aload_n 0, 1, 0, 0), (55, .getfield 438, 3, 12, 48), (58, .if_icmp .ge 33, 3, 0, 0)],
  [],
  [(91, .aload_n 0, 1, 0, 0), (92, .sipush 9660, 3, 0, 0), (95, .iconst (-1), 1, 0, 0)],
  [(96, .invokevirtual 400, 3, 0, 128), (99, .aload_n 0, 1, 0, 0), (100, .dup, 1, 0, 0), (101, .getfield 447, 3, 12, 49), (104, .aload_n 0, 1, 0, 0), (105, .getfield 394, 3, 12, 36), (108, .ifCond .ne 7, 3, 0, 0)],
  [(115, .iconst 0, 1, 0, 0), (116, .iadd, 1, 0, 0), (117, .putfield 447, 3, 12, 49), (120, .aload_n 0, 1, 0, 0), (121, .dup, 1, 0, 0), (122, .getfield 450, 3, 12, 50), (125, .aload_n 0, 1, 0, 0), (126, .getfield 394, 3, 12, 36)],
  [(129, .iconst 1, 1, 0, 0), (130, .if_icmp .ne 7, 3, 0, 0), (133, .iconst 1, 1, 0, 0), (134, .goto 4, 3, 0, 0), (138, .iadd, 1, 0, 0), (139, .putfield 450, 3, 12, 50), (142, .aload_n 0, 1, 0, 0), (143, .aload_n 0, 1, 0, 0)],
  [(144, .getfield 161, 3, 12, 47), (147, .aload_n 0, 1, 0, 0), (148, .getfield 438, 3, 12, 48), (151, .invokevirtual 428, 3, 0, 133), (154, .pop, 1, 0, 0), (155, .iinc 1 1, 3, 0, 0), (158, .goto (-126), 3, 0, 0)],
  [(161, .aload_n 0, 1, 0, 0), (162, .getfield 444, 3, 12, 51), (165, .ifCond .lt 7, 3, 0, 0), (168, .iconst 1, 1, 0, 0), (169, .goto 4, 3, 0, 0), (173, .ireturn, 1, 0, 0)]]
def zm143 : ZMI := (yX12_findOdds, cX12_findOdds, 3, (some .boolean), 0, 0, 0, 0, 12, ze143)
def ze144 : List (List ZEn) := [[(0, .aload_n 0, 1, 0, 0), (1, .iconst 0, 1, 0, 0), (2, .putfield 1, 3, 12, 0), (5, .iload_n 1, 1, 0, 0), (6, .iconst 0, 1, 0, 0), (7, .iconst 2, 1, 0, 0), (8, .invokestatic 347, 3, 0, 106), (11, .ifCond .eq 10, 3, 0, 0), (14, .aload_n 0, 1, 0, 0), (15, .invokevirtual 453, 3, 0, 143)],
  [(18, .ifCond .ne 5, 3, 0, 0), (21, .iconst (-1), 1, 0, 0), (22, .ireturn, 1, 0, 0), (23, .iload_n 1, 1, 0, 0), (24, .ifCond .ne 10, 3, 0, 0), (27, .aload_n 0, 1, 0, 0), (28, .getfield 447, 3, 12, 49), (31, .goto 19, 3, 0, 0)],
  [(34, .iload_n 1, 1, 0, 0), (35, .iconst 1, 1, 0, 0), (36, .if_icmp .ne 10, 3, 0, 0), (39, .aload_n 0, 1, 0, 0), (40, .getfield 450, 3, 12, 50), (43, .goto 7, 3, 0, 0), (46, .aload_n 0, 1, 0, 0), (47, .getfield 444, 3, 12, 51)],
  [(50, .ireturn, 1, 0, 0)]]
def zm144 : ZMI := (yX12_odds, cX12_odds, 2, (some .int), 0, 0, 0, 1, 12, ze144)
def ze145 : List (List ZEn) := [[(0, .aload_n 0, 1, 0, 0), (1, .getfield 85, 3, 12, 10), (4, .iconst 4, 1, 0, 0), (5, .iaload, 1, 0, 0), (6, .ifCond .ge 6, 3, 0, 0), (9, .bipush 10, 2, 0, 0), (11, .ireturn, 1, 0, 0)]]
def zm145 : ZMI := (yX12_offerNow, cX12_offerNow, 2, (some .int), 0, 0, 0, 0, 12, ze145)
def ze146 : List (List ZEn) := [[(0, .aload_n 0, 1, 0, 0), (1, .iconst 0, 1, 0, 0), (2, .putfield 1, 3, 12, 0), (5, .aload_n 0, 1, 0, 0), (6, .invokevirtual 459, 3, 0, 145), (9, .ireturn, 1, 0, 0)]]
def zm146 : ZMI := (yX12_offer, cX12_offer, 1, (some .int), 0, 0, 0, 0, 12, ze146)
def ze147 : List (List ZEn) := [[(0, .aload_n 0, 1, 0, 0), (1, .iconst 0, 1, 0, 0), (2, .putfield 1, 3, 12, 0), (5, .iload_n 1, 1, 0, 0), (6, .invokestatic 354, 3, 0, 119), (9, .ifCond .eq 40, 3, 0, 0), (12, .iload_n 2, 1, 0, 0), (13, .iconst 1, 1, 0, 0), (14, .aload_n 0, 1, 0, 0), (15, .getfield 115, 3, 12, 22)],
  [(18, .bipush 9, 2, 0, 0), (20, .iaload, 1, 0, 0), (21, .invokestatic 347, 3, 0, 106), (24, .ifCond .eq 25, 3, 0, 0), (27, .aload_n 0, 1, 0, 0), (28, .getfield 115, 3, 12, 22), (31, .bipush 8, 2, 0, 0)],
  [(33, .iaload, 1, 0, 0), (34, .ifCond .ge 15, 3, 0, 0), (37, .aload_n 0, 1, 0, 0), (38, .getfield 115, 3, 12, 22), (41, .bipush 10, 2, 0, 0), (43, .iaload, 1, 0, 0), (44, .bipush 8, 2, 0, 0), (46, .if_icmp .ne 5, 3, 0, 0)],
  [(49, .iconst (-1), 1, 0, 0), (50, .ireturn, 1, 0, 0), (51, .aload_n 0, 1, 0, 0), (52, .invokevirtual 357, 3, 0, 114), (55, .sipush 420, 3, 0, 0), (58, .iconst 3, 1, 0, 0), (59, .aload_n 0, 1, 0, 0), (60, .getfield 115, 3, 12, 22), (63, .bipush 10, 2, 0, 0)],
  [(65, .iaload, 1, 0, 0), (66, .imul, 1, 0, 0), (67, .iadd, 1, 0, 0), (68, .istore_n 3, 1, 0, 0), (69, .aload_n 0, 1, 0, 0), (70, .getfield 115, 3, 12, 22), (73, .iload_n 3, 1, 0, 0), (74, .iload_n 1, 1, 0, 0), (75, .iastore, 1, 0, 0), (76, .aload_n 0, 1, 0, 0), (77, .getfield 115, 3, 12, 22)],
  [(80, .iload_n 3, 1, 0, 0), (81, .iconst 1, 1, 0, 0), (82, .iadd, 1, 0, 0), (83, .iload_n 2, 1, 0, 0), (84, .iastore, 1, 0, 0), (85, .aload_n 0, 1, 0, 0), (86, .getfield 115, 3, 12, 22), (89, .iload_n 3, 1, 0, 0), (90, .iconst 2, 1, 0, 0), (91, .iadd, 1, 0, 0), (92, .aload_n 0, 1, 0, 0), (93, .invokevirtual 459, 3, 0, 145)],
  [(96, .iastore, 1, 0, 0), (97, .aload_n 0, 1, 0, 0), (98, .getfield 115, 3, 12, 22), (101, .bipush 10, 2, 0, 0), (103, .dup2, 1, 0, 0), (104, .iaload, 1, 0, 0), (105, .iconst 1, 1, 0, 0), (106, .iadd, 1, 0, 0), (107, .iastore, 1, 0, 0), (108, .aload_n 0, 1, 0, 0), (109, .getfield 115, 3, 12, 22)],
  [(112, .bipush 9, 2, 0, 0), (114, .dup2, 1, 0, 0), (115, .iaload, 1, 0, 0), (116, .iload_n 2, 1, 0, 0), (117, .isub, 1, 0, 0), (118, .iastore, 1, 0, 0), (119, .aload_n 0, 1, 0, 0), (120, .getfield 115, 3, 12, 22), (123, .bipush 9, 2, 0, 0), (125, .iaload, 1, 0, 0), (126, .ireturn, 1, 0, 0)]]
def zm147 : ZMI := (yX12_bet, cX12_bet, 4, (some .int), 0, 0, 0, 2, 12, ze147)
def ze148 : List (List ZEn) := [[(0, .aload_n 0, 1, 0, 0), (1, .iconst 0, 1, 0, 0), (2, .putfield 1, 3, 12, 0), (5, .iload_n 1, 1, 0, 0), (6, .invokestatic 354, 3, 0, 119), (9, .ifCond .eq 10, 3, 0, 0), (12, .aload_n 0, 1, 0, 0), (13, .invokevirtual 453, 3, 0, 143)],
  [(16, .ifCond .ne 5, 3, 0, 0), (19, .iconst (-1), 1, 0, 0), (20, .ireturn, 1, 0, 0), (21, .iload_n 1, 1, 0, 0), (22, .ifCond .ne 10, 3, 0, 0), (25, .aload_n 0, 1, 0, 0), (26, .getfield 447, 3, 12, 49), (29, .goto 7, 3, 0, 0)],
  [(32, .aload_n 0, 1, 0, 0), (33, .getfield 450, 3, 12, 50), (36, .istore_n 2, 1, 0, 0), (37, .iload_n 2, 1, 0, 0), (38, .aload_n 0, 1, 0, 0), (39, .invokevirtual 459, 3, 0, 145), (42, .imul, 1, 0, 0), (43, .aload_n 0, 1, 0, 0), (44, .getfield 444, 3, 12, 51), (47, .iload_n 2, 1, 0, 0)],
  [(48, .isub, 1, 0, 0), (49, .bipush 10, 2, 0, 0), (51, .imul, 1, 0, 0), (52, .if_icmp .le 7, 3, 0, 0), (55, .iconst 1, 1, 0, 0), (56, .goto 4, 3, 0, 0), (59, .iconst 0, 1, 0, 0), (60, .ireturn, 1, 0, 0)]]
def zm148 : ZMI := (yX12_take, cX12_take, 3, (some .int), 0, 0, 0, 1, 12, ze148)
def ze149 : List (List ZEn) := [[(0, .iconst 0, 1, 0, 0), (1, .istore_n 2, 1, 0, 0), (2, .iload_n 2, 1, 0, 0), (3, .ifCond .ne 20, 3, 0, 0), (6, .aload_n 0, 1, 0, 0), (7, .iload_n 1, 1, 0, 0), (8, .invokevirtual 360, 3, 0, 118), (11, .ifCond .ne 12, 3, 0, 0)],
  [(23, .iload_n 2, 1, 0, 0), (24, .ireturn, 1, 0, 0)]]
def zm149 : ZMI := (yX12_goesToHeap, cX12_goesToHeap, 3, (some .boolean), 0, 0, 0, 1, 12, ze149)
def ze150 : List (List ZEn) := [[(0, .aload_n 0, 1, 0, 0), (1, .iload_n 1, 1, 0, 0), (2, .invokevirtual 462, 3, 0, 149), (5, .ifCond .ne 67, 3, 0, 0), (8, .iconst 0, 1, 0, 0), (9, .istore 4, 2, 0, 0), (11, .iload 4, 2, 0, 0), (13, .iload_n 3, 1, 0, 0), (14, .if_icmp .ge 35, 3, 0, 0)],
  [],
  [],
  [(49, .aload_n 0, 1, 0, 0), (50, .iload_n 3, 1, 0, 0), (51, .putfield 465, 3, 12, 54), (54, .aload_n 0, 1, 0, 0), (55, .getfield 115, 3, 12, 22), (58, .iload_n 1, 1, 0, 0), (59, .bipush 8, 2, 0, 0), (61, .iadd, 1, 0, 0), (62, .iaload, 1, 0, 0), (63, .ifCond .ne 7, 3, 0, 0)],
  [(70, .iconst 0, 1, 0, 0), (71, .ireturn, 1, 0, 0)]]
def zm150 : ZMI := (yX12_canWin, cX12_canWin, 6, (some .boolean), 0, 0, 0, 3, 12, ze150)
def ze151 : List (List ZEn) := [[(0, .iconst 0, 1, 0, 0), (1, .istore_n 2, 1, 0, 0), (2, .iload_n 2, 1, 0, 0), (3, .iload_n 1, 1, 0, 0), (4, .if_icmp .gt 34, 3, 0, 0), (7, .aload_n 0, 1, 0, 0), (8, .iconst 0, 1, 0, 0), (9, .sipush 9660, 3, 0, 0), (12, .sipush 164, 3, 0, 0), (15, .invokevirtual 308, 3, 0, 113)],
  [(18, .aload_n 0, 1, 0, 0), (19, .sipush 9660, 3, 0, 0), (22, .iload_n 2, 1, 0, 0), (23, .iconst 0, 1, 0, 0), (24, .invokevirtual 468, 3, 0, 150), (27, .ifCond .eq 5, 3, 0, 0)],
  [(32, .iinc 2 1, 3, 0, 0), (35, .goto (-33), 3, 0, 0), (38, .iconst (-1), 1, 0, 0), (39, .ireturn, 1, 0, 0)]]
def zm151 : ZMI := (yX12_findChoice, cX12_findChoice, 3, (some .int), 0, 0, 0, 1, 12, ze151)
def ze152 : List (List ZEn) := [[(0, .aload_n 0, 1, 0, 0), (1, .iconst 0, 1, 0, 0), (2, .putfield 1, 3, 12, 0), (5, .iload_n 1, 1, 0, 0), (6, .iconst 1, 1, 0, 0), (7, .bipush 6, 2, 0, 0), (9, .invokestatic 347, 3, 0, 106), (12, .ifCond .eq 19, 3, 0, 0), (15, .iload_n 2, 1, 0, 0)],
  [(16, .iconst (-1), 1, 0, 0), (17, .if_icmp .lt 14, 3, 0, 0), (20, .aload_n 0, 1, 0, 0), (21, .getfield 115, 3, 12, 22), (24, .bipush 11, 2, 0, 0), (26, .iaload, 1, 0, 0), (27, .iconst 1, 1, 0, 0), (28, .if_icmp .ne 5, 3, 0, 0), (31, .iconst (-1), 1, 0, 0)],
  [(32, .ireturn, 1, 0, 0), (33, .aload_n 0, 1, 0, 0), (34, .iload_n 1, 1, 0, 0), (35, .invokevirtual 471, 3, 0, 151), (38, .istore_n 3, 1, 0, 0), (39, .iload_n 3, 1, 0, 0), (40, .ifCond .lt 8, 3, 0, 0)],
  [(48, .iload_n 3, 1, 0, 0), (49, .goto 21, 3, 0, 0)],
  [(70, .ireturn, 1, 0, 0)]]
def zm152 : ZMI := (yX12_choice, cX12_choice, 4, (some .int), 0, 0, 0, 2, 12, ze152)
def ze153 : List (List ZEn) := [[(0, .aload_n 0, 1, 0, 0), (1, .iload_n 1, 1, 0, 0), (2, .invokevirtual 462, 3, 0, 149), (5, .ifCond .ne 21, 3, 0, 0), (8, .aload_n 0, 1, 0, 0), (9, .getfield 115, 3, 12, 22), (12, .iload_n 1, 1, 0, 0), (13, .bipush 8, 2, 0, 0), (15, .iadd, 1, 0, 0)],
  [(16, .iaload, 1, 0, 0), (17, .ifCond .ne 7, 3, 0, 0), (24, .iconst 0, 1, 0, 0), (25, .ireturn, 1, 0, 0)]]
def zm153 : ZMI := (yX12_mustWin, cX12_mustWin, 6, (some .boolean), 0, 0, 0, 2, 12, ze153)
def ze154 : List (List ZEn) := [[(0, .aload_n 0, 1, 0, 0), (1, .iconst 0, 1, 0, 0), (2, .putfield 1, 3, 12, 0), (5, .iload_n 1, 1, 0, 0), (6, .iconst 1, 1, 0, 0), (7, .iconst 4, 1, 0, 0), (8, .invokestatic 347, 3, 0, 106), (11, .ifCond .eq 14, 3, 0, 0), (14, .aload_n 0, 1, 0, 0), (15, .getfield 115, 3, 12, 22)],
  [(18, .bipush 11, 2, 0, 0), (20, .iaload, 1, 0, 0), (21, .iconst 1, 1, 0, 0), (22, .if_icmp .ne 5, 3, 0, 0), (25, .iconst (-1), 1, 0, 0), (26, .ireturn, 1, 0, 0), (27, .aload_n 0, 1, 0, 0), (28, .iconst 0, 1, 0, 0), (29, .sipush 9660, 3, 0, 0)],
  [(32, .sipush 164, 3, 0, 0), (35, .invokevirtual 308, 3, 0, 113), (38, .aload_n 0, 1, 0, 0), (39, .sipush 9660, 3, 0, 0), (42, .iload_n 1, 1, 0, 0), (43, .invokevirtual 474, 3, 0, 153), (46, .ifCond .eq 7, 3, 0, 0)],
  [(53, .iconst 0, 1, 0, 0), (54, .ireturn, 1, 0, 0)]]
def zm154 : ZMI := (yX12_both_, cX12_both_, 2, (some .int), 0, 0, 0, 1, 12, ze154)
def ze155 : List (List ZEn) := [[(0, .aload_n 0, 1, 0, 0), (1, .iconst 0, 1, 0, 0), (2, .putfield 1, 3, 12, 0), (5, .iload_n 1, 1, 0, 0), (6, .iconst 0, 1, 0, 0), (7, .iconst 3, 1, 0, 0), (8, .invokestatic 347, 3, 0, 106), (11, .ifCond .ne 5, 3, 0, 0), (14, .iconst (-1), 1, 0, 0), (15, .ireturn, 1, 0, 0)],
  [(16, .iconst 0, 1, 0, 0), (17, .istore_n 2, 1, 0, 0), (18, .iconst 0, 1, 0, 0), (19, .istore_n 3, 1, 0, 0), (20, .iload_n 3, 1, 0, 0), (21, .aload_n 0, 1, 0, 0), (22, .getfield 85, 3, 12, 10), (25, .bipush 21, 2, 0, 0), (27, .iaload, 1, 0, 0), (28, .if_icmp .ge 62, 3, 0, 0)],
  [],
  [],
  [],
  [(90, .iload_n 2, 1, 0, 0), (91, .ireturn, 1, 0, 0)]]
def zm155 : ZMI := (yX12_opening, cX12_opening, 5, (some .int), 0, 0, 0, 1, 12, ze155)
def ze156 : List (List ZEn) := [[(0, .aload_n 0, 1, 0, 0), (1, .iconst 0, 1, 0, 0), (2, .putfield 1, 3, 12, 0), (5, .aload_n 0, 1, 0, 0), (6, .iload_n 1, 1, 0, 0), (7, .invokevirtual 344, 3, 0, 117), (10, .ifCond .eq 42, 3, 0, 0)],
  [],
  [],
  [(52, .iconst (-1), 1, 0, 0), (53, .ireturn, 1, 0, 0)]]
def zm156 : ZMI := (yX12_comes, cX12_comes, 2, (some .int), 0, 0, 0, 1, 12, ze156)
def ze157 : List (List ZEn) := [[(0, .aload_n 0, 1, 0, 0), (1, .aload_n 0, 1, 0, 0), (2, .getfield 115, 3, 12, 22), (5, .bipush 14, 2, 0, 0), (7, .iaload, 1, 0, 0), (8, .ifCond .le 7, 3, 0, 0), (15, .iconst 1, 1, 0, 0)],
  [(16, .putfield 1, 3, 12, 0), (19, .iconst 0, 1, 0, 0), (20, .istore_n 1, 1, 0, 0), (21, .iconst 0, 1, 0, 0), (22, .istore_n 2, 1, 0, 0), (23, .iload_n 2, 1, 0, 0), (24, .iconst 5, 1, 0, 0), (25, .if_icmp .ge 99, 3, 0, 0), (28, .aload_n 0, 1, 0, 0), (29, .getfield 1, 3, 12, 0)],
  [(32, .ifCond .ne 92, 3, 0, 0)],
  [],
  [],
  [],
  [],
  [(124, .iload_n 1, 1, 0, 0), (125, .ireturn, 1, 0, 0)]]
def zm157 : ZMI := (yX12_orders, cX12_orders, 5, (some .int), 0, 0, 0, 0, 12, ze157)
def ze158 : List (List ZEn) := [[(0, .aload_n 0, 1, 0, 0), (1, .iconst 0, 1, 0, 0), (2, .putfield 1, 3, 12, 0), (5, .aload_n 0, 1, 0, 0), (6, .getfield 115, 3, 12, 22), (9, .bipush 13, 2, 0, 0), (11, .iconst 0, 1, 0, 0), (12, .iastore, 1, 0, 0), (13, .iconst 1, 1, 0, 0), (14, .ireturn, 1, 0, 0)]]
def zm158 : ZMI := (yX12_clear, cX12_clear, 1, (some .boolean), 0, 0, 0, 0, 12, ze158)
def ze159 : List (List ZEn) := [[(0, .aload_n 0, 1, 0, 0), (1, .iconst 0, 1, 0, 0), (2, .putfield 1, 3, 12, 0), (5, .iload_n 1, 1, 0, 0), (6, .iconst 0, 1, 0, 0), (7, .sipush 9999, 3, 0, 0), (10, .invokestatic 347, 3, 0, 106), (13, .ifCond .eq 11, 3, 0, 0)],
  [(16, .aload_n 0, 1, 0, 0), (17, .iconst 0, 1, 0, 0), (18, .invokevirtual 267, 3, 0, 109), (21, .ifCond .ne 5, 3, 0, 0), (24, .iconst 0, 1, 0, 0), (25, .ireturn, 1, 0, 0)]]
def zm159 : ZMI := (yX12_drawn, cX12_drawn, 4, (some .boolean), 0, 0, 0, 1, 12, ze159)
def ze160 : List (List ZEn) := [[(0, .aload_n 0, 1, 0, 0), (1, .iconst 0, 1, 0, 0), (2, .putfield 1, 3, 12, 0), (5, .iload_n 1, 1, 0, 0), (6, .iconst 0, 1, 0, 0), (7, .sipush 9999, 3, 0, 0), (10, .invokestatic 347, 3, 0, 106), (13, .ifCond .eq 30, 3, 0, 0)],
  [(16, .iload_n 2, 1, 0, 0), (17, .iconst 1, 1, 0, 0), (18, .bipush 50, 2, 0, 0), (20, .invokestatic 347, 3, 0, 106), (23, .ifCond .eq 20, 3, 0, 0), (26, .iload_n 3, 1, 0, 0), (27, .iconst 0, 1, 0, 0), (28, .iconst 3, 1, 0, 0), (29, .invokestatic 347, 3, 0, 106)],
  [(32, .ifCond .eq 11, 3, 0, 0), (35, .aload_n 0, 1, 0, 0), (36, .iconst 0, 1, 0, 0), (37, .invokevirtual 267, 3, 0, 109), (40, .ifCond .ne 5, 3, 0, 0), (43, .iconst (-1), 1, 0, 0), (44, .ireturn, 1, 0, 0)]]
def zm160 : ZMI := (yX12_games, cX12_games, 7, (some .int), 0, 0, 0, 3, 12, ze160)
def ze161 : List (List ZEn) := [[(0, .aload_n 0, 1, 0, 0), (1, .iconst 0, 1, 0, 0), (2, .putfield 1, 3, 12, 0), (5, .iload_n 1, 1, 0, 0), (6, .iconst 0, 1, 0, 0), (7, .sipush 9999, 3, 0, 0), (10, .invokestatic 347, 3, 0, 106), (13, .ifCond .eq 27, 3, 0, 0)],
  [(16, .iload_n 2, 1, 0, 0), (17, .iconst 1, 1, 0, 0), (18, .sipush 200, 3, 0, 0), (21, .invokestatic 347, 3, 0, 106), (24, .ifCond .eq 16, 3, 0, 0), (27, .iload_n 3, 1, 0, 0), (28, .iconst (-1), 1, 0, 0), (29, .if_icmp .lt 11, 3, 0, 0)],
  [(32, .aload_n 0, 1, 0, 0), (33, .iconst 0, 1, 0, 0), (34, .invokevirtual 267, 3, 0, 109), (37, .ifCond .ne 5, 3, 0, 0), (40, .iconst (-1), 1, 0, 0), (41, .ireturn, 1, 0, 0)]]
def zm161 : ZMI := (yX12_looked, cX12_looked, 5, (some .int), 0, 0, 0, 3, 12, ze161)
def ze162 : List (List ZEn) := [[(0, .aload_n 0, 1, 0, 0), (1, .iconst 0, 1, 0, 0), (2, .putfield 1, 3, 12, 0), (5, .iload_n 1, 1, 0, 0), (6, .iconst 0, 1, 0, 0), (7, .iconst 3, 1, 0, 0), (8, .invokestatic 347, 3, 0, 106), (11, .ifCond .eq 16, 3, 0, 0), (14, .iload_n 2, 1, 0, 0), (15, .ifCond .eq 14, 3, 0, 0)],
  [(18, .aload_n 0, 1, 0, 0), (19, .getfield 118, 3, 12, 24), (22, .iload_n 1, 1, 0, 0), (23, .baload, 1, 0, 0), (24, .ifCond .ne 5, 3, 0, 0), (27, .iconst 0, 1, 0, 0), (28, .ireturn, 1, 0, 0), (29, .iload_n 2, 1, 0, 0), (30, .ifCond .eq 26, 3, 0, 0)],
  [],
  [(56, .aload_n 0, 1, 0, 0), (57, .getfield 118, 3, 12, 24), (60, .iload_n 1, 1, 0, 0), (61, .iconst 1, 1, 0, 0), (62, .bastore, 1, 0, 0), (63, .aload_n 0, 1, 0, 0)],
  [(64, .iconst 0, 1, 0, 0), (65, .sipush 460, 3, 0, 0), (68, .iconst 1, 1, 0, 0), (69, .iload_n 1, 1, 0, 0), (70, .iadd, 1, 0, 0), (71, .imul, 1, 0, 0), (72, .sipush 460, 3, 0, 0), (75, .invokevirtual 308, 3, 0, 113), (78, .iconst 1, 1, 0, 0), (79, .ireturn, 1, 0, 0)]]
def zm162 : ZMI := (yX12_mark, cX12_mark, 3, (some .boolean), 0, 0, 0, 2, 12, ze162)
def ze163 : List (List ZEn) := [[(0, .aload_n 0, 1, 0, 0), (1, .iconst 0, 1, 0, 0), (2, .putfield 1, 3, 12, 0), (5, .iload_n 1, 1, 0, 0), (6, .tableswitch 236 0 18 #[90, 95, 101, 108, 115, 122, 129, 136, 156, 164, 172, 180, 188, 196, 204, 212, 217, 224, 231], 90, 0, 0)],
  [],
  [],
  [],
  [],
  [],
  [(96, .aload_n 0, 1, 0, 0), (97, .invokevirtual 312, 3, 0, 116), (100, .ireturn, 1, 0, 0), (101, .aload_n 0, 1, 0, 0), (102, .iconst 0, 1, 0, 0), (103, .invokevirtual 267, 3, 0, 109), (106, .ireturn, 1, 0, 0), (107, .aload_n 0, 1, 0, 0), (108, .getfield 115, 3, 12, 22), (111, .iconst 0, 1, 0, 0)],
  [(112, .iaload, 1, 0, 0), (113, .ireturn, 1, 0, 0), (114, .aload_n 0, 1, 0, 0), (115, .getfield 115, 3, 12, 22), (118, .iconst 1, 1, 0, 0), (119, .iaload, 1, 0, 0), (120, .ireturn, 1, 0, 0), (121, .aload_n 0, 1, 0, 0), (122, .getfield 115, 3, 12, 22), (125, .iconst 2, 1, 0, 0), (126, .iaload, 1, 0, 0), (127, .ireturn, 1, 0, 0)],
  [(128, .aload_n 0, 1, 0, 0), (129, .getfield 115, 3, 12, 22), (132, .iconst 3, 1, 0, 0), (133, .iaload, 1, 0, 0), (134, .ireturn, 1, 0, 0), (135, .aload_n 0, 1, 0, 0), (136, .getfield 115, 3, 12, 22), (139, .iconst 4, 1, 0, 0), (140, .iaload, 1, 0, 0), (141, .ireturn, 1, 0, 0), (142, .aload_n 0, 1, 0, 0), (143, .getfield 115, 3, 12, 22)],
  [(146, .iconst 4, 1, 0, 0), (147, .iaload, 1, 0, 0), (148, .ifCond .le 12, 3, 0, 0)],
  [(160, .iconst (-1), 1, 0, 0), (161, .ireturn, 1, 0, 0), (162, .aload_n 0, 1, 0, 0), (163, .getfield 115, 3, 12, 22), (166, .bipush 6, 2, 0, 0), (168, .iaload, 1, 0, 0), (169, .ireturn, 1, 0, 0), (170, .aload_n 0, 1, 0, 0), (171, .getfield 115, 3, 12, 22), (174, .bipush 7, 2, 0, 0)],
  [(176, .iaload, 1, 0, 0), (177, .ireturn, 1, 0, 0), (178, .aload_n 0, 1, 0, 0), (179, .getfield 115, 3, 12, 22), (182, .bipush 8, 2, 0, 0), (184, .iaload, 1, 0, 0), (185, .ireturn, 1, 0, 0), (186, .aload_n 0, 1, 0, 0), (187, .getfield 115, 3, 12, 22), (190, .bipush 9, 2, 0, 0)],
  [(192, .iaload, 1, 0, 0), (193, .ireturn, 1, 0, 0), (194, .aload_n 0, 1, 0, 0), (195, .getfield 115, 3, 12, 22), (198, .bipush 10, 2, 0, 0), (200, .iaload, 1, 0, 0), (201, .ireturn, 1, 0, 0), (202, .aload_n 0, 1, 0, 0), (203, .getfield 85, 3, 12, 10), (206, .bipush 21, 2, 0, 0)],
  [(208, .iaload, 1, 0, 0), (209, .ireturn, 1, 0, 0), (210, .aload_n 0, 1, 0, 0), (211, .getfield 115, 3, 12, 22), (214, .bipush 13, 2, 0, 0), (216, .iaload, 1, 0, 0), (217, .ireturn, 1, 0, 0), (218, .aload_n 0, 1, 0, 0), (219, .getfield 237, 3, 12, 23), (222, .ireturn, 1, 0, 0), (223, .aload_n 0, 1, 0, 0)],
  [(224, .getfield 85, 3, 12, 10), (227, .iconst 3, 1, 0, 0), (228, .iaload, 1, 0, 0), (229, .ireturn, 1, 0, 0), (230, .aload_n 0, 1, 0, 0), (231, .getfield 85, 3, 12, 10), (234, .iconst 1, 1, 0, 0), (235, .iaload, 1, 0, 0), (236, .ireturn, 1, 0, 0), (237, .aload_n 0, 1, 0, 0), (238, .getfield 11, 3, 12, 2)],
  [(241, .ireturn, 1, 0, 0), (242, .iconst (-1), 1, 0, 0), (243, .ireturn, 1, 0, 0)]]
def zm163 : ZMI := (yX12_count, cX12_count, 2, (some .int), 0, 0, 0, 1, 12, ze163)
def ze164_0 : List ZEn := [(0, .new 8, 3, 11, 0), (3, .dup, 1, 0, 0), (4, .invokespecial 15, 3, 0, 64), (7, .astore_n 1, 1, 0, 0), (8, .new 16, 3, 12, 0), (11, .dup, 1, 0, 0), (12, .invokespecial 18, 3, 0, 104), (15, .astore_n 2, 1, 0, 0)]
def ze164_1 : List ZEn := [(16, .iconst 1, 1, 0, 0), (17, .newarray .long, 2, 0, 0), (19, .astore_n 3, 1, 0, 0), (20, .iconst 0, 1, 0, 0), (21, .istore 4, 2, 0, 0), (23, .iload 4, 2, 0, 0), (25, .aload_n 0, 1, 0, 0), (26, .arraylength, 1, 0, 0), (27, .bipush 7, 2, 0, 0), (29, .isub, 1, 0, 0), (30, .if_icmp .gt 1300, 3, 0, 0)]
def ze164_2 : List ZEn := [(33, .aload_n 0, 1, 0, 0), (34, .iload 4, 2, 0, 0), (36, .iaload, 1, 0, 0), (37, .bipush 63, 2, 0, 0), (39, .iand, 1, 0, 0), (40, .tableswitch 1284 0 34 #[156, 303, 316, 329, 342, 379, 416, 441, 478, 503, 528, 541, 554, 579, 604, 641, 666, 703, 740, 789, 814, 839, 852, 889, 914, 951, 976, 1001, 1026, 1070, 1083, 1108, 1157, 1206, 1259], 156, 0, 0)]
def ze164_3 : List ZEn := []
def ze164_4 : List ZEn := []
def ze164_5 : List ZEn := []
def ze164_6 : List ZEn := []
def ze164_7 : List ZEn := []
def ze164_8 : List ZEn := []
def ze164_9 : List ZEn := []
def ze164_10 : List ZEn := []
def ze164_11 : List ZEn := []
def ze164_12 : List ZEn := [(196, .aload_n 1, 1, 0, 0), (197, .aload_n 0, 1, 0, 0), (198, .iload 4, 2, 0, 0), (200, .iconst 1, 1, 0, 0), (201, .iadd, 1, 0, 0), (202, .iaload, 1, 0, 0), (204, .bipush 32, 2, 0, 0), (207, .aload_n 0, 1, 0, 0)]
def ze164_13 : List ZEn := [(208, .iload 4, 2, 0, 0), (210, .iconst 2, 1, 0, 0), (211, .iadd, 1, 0, 0), (212, .iaload, 1, 0, 0), (219, .aload_n 0, 1, 0, 0), (220, .iload 4, 2, 0, 0), (222, .iconst 3, 1, 0, 0), (223, .iadd, 1, 0, 0)]
def ze164_14 : List ZEn := [(224, .iaload, 1, 0, 0), (226, .bipush 32, 2, 0, 0), (229, .aload_n 0, 1, 0, 0), (230, .iload 4, 2, 0, 0), (232, .iconst 4, 1, 0, 0), (233, .iadd, 1, 0, 0), (234, .iaload, 1, 0, 0)]
def ze164_15 : List ZEn := [(241, .aload_n 0, 1, 0, 0), (242, .iload 4, 2, 0, 0), (244, .iconst 5, 1, 0, 0), (245, .iadd, 1, 0, 0), (246, .iaload, 1, 0, 0), (248, .bipush 32, 2, 0, 0), (251, .aload_n 0, 1, 0, 0), (252, .iload 4, 2, 0, 0), (254, .bipush 6, 2, 0, 0)]
def ze164_16 : List ZEn := [(256, .iadd, 1, 0, 0), (257, .iaload, 1, 0, 0), (264, .invokevirtual 21, 3, 98, 0), (267, .aload_n 2, 1, 0, 0), (268, .aload_n 0, 1, 0, 0), (269, .iload 4, 2, 0, 0), (271, .iconst 1, 1, 0, 0)]
def ze164_17 : List ZEn := [(272, .iadd, 1, 0, 0), (273, .iaload, 1, 0, 0), (275, .bipush 32, 2, 0, 0), (278, .aload_n 0, 1, 0, 0), (279, .iload 4, 2, 0, 0), (281, .iconst 2, 1, 0, 0), (282, .iadd, 1, 0, 0), (283, .iaload, 1, 0, 0)]
def ze164_18 : List ZEn := [(290, .aload_n 0, 1, 0, 0), (291, .iload 4, 2, 0, 0), (293, .iconst 3, 1, 0, 0), (294, .iadd, 1, 0, 0), (295, .iaload, 1, 0, 0), (297, .bipush 32, 2, 0, 0), (300, .aload_n 0, 1, 0, 0), (301, .iload 4, 2, 0, 0), (303, .iconst 4, 1, 0, 0)]
def ze164_19 : List ZEn := [(304, .iadd, 1, 0, 0), (305, .iaload, 1, 0, 0), (312, .aload_n 0, 1, 0, 0), (313, .iload 4, 2, 0, 0), (315, .iconst 5, 1, 0, 0), (316, .iadd, 1, 0, 0), (317, .iaload, 1, 0, 0), (319, .bipush 32, 2, 0, 0)]
def ze164_20 : List ZEn := [(322, .aload_n 0, 1, 0, 0), (323, .iload 4, 2, 0, 0), (325, .bipush 6, 2, 0, 0), (327, .iadd, 1, 0, 0), (328, .iaload, 1, 0, 0), (335, .invokevirtual 25, 3, 98, 0)]
def ze164_21 : List ZEn := [(338, .if_icmp .eq 986, 3, 0, 0), (341, .iconst 0, 1, 0, 0), (342, .ireturn, 1, 0, 0), (343, .aload_n 1, 1, 0, 0), (344, .invokevirtual 26, 3, 0, 65), (347, .aload_n 2, 1, 0, 0), (348, .invokevirtual 29, 3, 0, 108), (351, .if_icmp .eq 973, 3, 0, 0)]
def ze164_22 : List ZEn := [(354, .iconst 0, 1, 0, 0), (355, .ireturn, 1, 0, 0), (356, .aload_n 1, 1, 0, 0), (357, .invokevirtual 30, 3, 0, 66), (360, .aload_n 2, 1, 0, 0), (361, .invokevirtual 33, 3, 0, 110), (364, .if_icmp .eq 960, 3, 0, 0), (367, .iconst 0, 1, 0, 0)]
def ze164_23 : List ZEn := [(368, .ireturn, 1, 0, 0), (369, .aload_n 1, 1, 0, 0), (370, .invokevirtual 34, 3, 0, 67), (373, .aload_n 2, 1, 0, 0), (374, .invokevirtual 37, 3, 0, 112), (377, .if_icmp .eq 947, 3, 0, 0), (380, .iconst 0, 1, 0, 0), (381, .ireturn, 1, 0, 0), (382, .aload_n 1, 1, 0, 0), (383, .aload_n 0, 1, 0, 0)]
def ze164_24 : List ZEn := [(384, .iload 4, 2, 0, 0), (386, .iconst 1, 1, 0, 0), (387, .iadd, 1, 0, 0), (388, .iaload, 1, 0, 0), (389, .aload_n 0, 1, 0, 0), (390, .iload 4, 2, 0, 0), (392, .iconst 2, 1, 0, 0), (393, .iadd, 1, 0, 0), (394, .iaload, 1, 0, 0), (395, .invokevirtual 38, 3, 0, 68), (398, .aload_n 2, 1, 0, 0), (399, .aload_n 0, 1, 0, 0)]
def ze164_25 : List ZEn := [(400, .iload 4, 2, 0, 0), (402, .iconst 1, 1, 0, 0), (403, .iadd, 1, 0, 0), (404, .iaload, 1, 0, 0), (405, .aload_n 0, 1, 0, 0), (406, .iload 4, 2, 0, 0), (408, .iconst 2, 1, 0, 0), (409, .iadd, 1, 0, 0), (410, .iaload, 1, 0, 0), (411, .invokevirtual 42, 3, 0, 120), (414, .if_icmp .eq 910, 3, 0, 0)]
def ze164_26 : List ZEn := [(417, .iconst 0, 1, 0, 0), (418, .ireturn, 1, 0, 0), (419, .aload_n 1, 1, 0, 0), (420, .aload_n 0, 1, 0, 0), (421, .iload 4, 2, 0, 0), (423, .iconst 1, 1, 0, 0), (424, .iadd, 1, 0, 0), (425, .iaload, 1, 0, 0), (426, .aload_n 0, 1, 0, 0), (427, .iload 4, 2, 0, 0), (429, .iconst 2, 1, 0, 0), (430, .iadd, 1, 0, 0), (431, .iaload, 1, 0, 0)]
def ze164_27 : List ZEn := [(432, .invokevirtual 43, 3, 0, 69), (435, .aload_n 2, 1, 0, 0), (436, .aload_n 0, 1, 0, 0), (437, .iload 4, 2, 0, 0), (439, .iconst 1, 1, 0, 0), (440, .iadd, 1, 0, 0), (441, .iaload, 1, 0, 0), (442, .aload_n 0, 1, 0, 0), (443, .iload 4, 2, 0, 0), (445, .iconst 2, 1, 0, 0), (446, .iadd, 1, 0, 0), (447, .iaload, 1, 0, 0)]
def ze164_28 : List ZEn := [(448, .invokevirtual 46, 3, 0, 121), (451, .if_icmp .eq 873, 3, 0, 0), (454, .iconst 0, 1, 0, 0), (455, .ireturn, 1, 0, 0), (456, .aload_n 1, 1, 0, 0), (457, .aload_n 0, 1, 0, 0), (458, .iload 4, 2, 0, 0), (460, .iconst 1, 1, 0, 0), (461, .iadd, 1, 0, 0), (462, .iaload, 1, 0, 0), (463, .invokevirtual 47, 3, 0, 70)]
def ze164_29 : List ZEn := [(466, .aload_n 2, 1, 0, 0), (467, .aload_n 0, 1, 0, 0), (468, .iload 4, 2, 0, 0), (470, .iconst 1, 1, 0, 0), (471, .iadd, 1, 0, 0), (472, .iaload, 1, 0, 0), (473, .invokevirtual 51, 3, 0, 122), (476, .if_icmp .eq 848, 3, 0, 0), (479, .iconst 0, 1, 0, 0)]
def ze164_30 : List ZEn := [(480, .ireturn, 1, 0, 0), (481, .aload_n 1, 1, 0, 0), (482, .aload_n 0, 1, 0, 0), (483, .iload 4, 2, 0, 0), (485, .iconst 1, 1, 0, 0), (486, .iadd, 1, 0, 0), (487, .iaload, 1, 0, 0), (488, .aload_n 0, 1, 0, 0), (489, .iload 4, 2, 0, 0), (491, .iconst 2, 1, 0, 0), (492, .iadd, 1, 0, 0), (493, .iaload, 1, 0, 0), (494, .invokevirtual 52, 3, 0, 71)]
def ze164_31 : List ZEn := [(497, .aload_n 2, 1, 0, 0), (498, .aload_n 0, 1, 0, 0), (499, .iload 4, 2, 0, 0), (501, .iconst 1, 1, 0, 0), (502, .iadd, 1, 0, 0), (503, .iaload, 1, 0, 0), (504, .aload_n 0, 1, 0, 0), (505, .iload 4, 2, 0, 0), (507, .iconst 2, 1, 0, 0), (508, .iadd, 1, 0, 0), (509, .iaload, 1, 0, 0), (510, .invokevirtual 55, 3, 0, 123)]
def ze164_32 : List ZEn := [(513, .if_icmp .eq 811, 3, 0, 0), (516, .iconst 0, 1, 0, 0), (517, .ireturn, 1, 0, 0), (518, .aload_n 1, 1, 0, 0), (519, .aload_n 0, 1, 0, 0), (520, .iload 4, 2, 0, 0), (522, .iconst 1, 1, 0, 0), (523, .iadd, 1, 0, 0), (524, .iaload, 1, 0, 0), (525, .invokevirtual 56, 3, 0, 72)]
def ze164_33 : List ZEn := [(528, .aload_n 2, 1, 0, 0), (529, .aload_n 0, 1, 0, 0), (530, .iload 4, 2, 0, 0), (532, .iconst 1, 1, 0, 0), (533, .iadd, 1, 0, 0), (534, .iaload, 1, 0, 0), (535, .invokevirtual 59, 3, 0, 124), (538, .if_icmp .eq 786, 3, 0, 0), (541, .iconst 0, 1, 0, 0), (542, .ireturn, 1, 0, 0), (543, .aload_n 1, 1, 0, 0)]
def ze164_34 : List ZEn := [(544, .aload_n 0, 1, 0, 0), (545, .iload 4, 2, 0, 0), (547, .iconst 1, 1, 0, 0), (548, .iadd, 1, 0, 0), (549, .iaload, 1, 0, 0), (550, .invokevirtual 60, 3, 0, 73), (553, .aload_n 2, 1, 0, 0), (554, .aload_n 0, 1, 0, 0), (555, .iload 4, 2, 0, 0), (557, .iconst 1, 1, 0, 0), (558, .iadd, 1, 0, 0), (559, .iaload, 1, 0, 0)]
def ze164_35 : List ZEn := [(560, .invokevirtual 64, 3, 0, 125), (563, .if_icmp .eq 761, 3, 0, 0), (566, .iconst 0, 1, 0, 0), (567, .ireturn, 1, 0, 0), (568, .aload_n 1, 1, 0, 0), (569, .invokevirtual 65, 3, 0, 74), (572, .aload_n 2, 1, 0, 0), (573, .invokevirtual 69, 3, 0, 126)]
def ze164_36 : List ZEn := [(576, .if_icmp .eq 748, 3, 0, 0), (579, .iconst 0, 1, 0, 0), (580, .ireturn, 1, 0, 0), (581, .aload_n 1, 1, 0, 0), (582, .invokevirtual 70, 3, 0, 75), (585, .aload_n 2, 1, 0, 0), (586, .invokevirtual 73, 3, 0, 127), (589, .if_icmp .eq 735, 3, 0, 0)]
def ze164_37 : List ZEn := [(592, .iconst 0, 1, 0, 0), (593, .ireturn, 1, 0, 0), (594, .aload_n 1, 1, 0, 0), (595, .aload_n 0, 1, 0, 0), (596, .iload 4, 2, 0, 0), (598, .iconst 1, 1, 0, 0), (599, .iadd, 1, 0, 0), (600, .iaload, 1, 0, 0), (601, .invokevirtual 74, 3, 0, 76), (604, .aload_n 2, 1, 0, 0), (605, .aload_n 0, 1, 0, 0), (606, .iload 4, 2, 0, 0)]
def ze164_38 : List ZEn := [(608, .iconst 1, 1, 0, 0), (609, .iadd, 1, 0, 0), (610, .iaload, 1, 0, 0), (611, .invokevirtual 77, 3, 0, 130), (614, .if_icmp .eq 710, 3, 0, 0), (617, .iconst 0, 1, 0, 0), (618, .ireturn, 1, 0, 0), (619, .aload_n 1, 1, 0, 0), (620, .aload_n 0, 1, 0, 0), (621, .iload 4, 2, 0, 0), (623, .iconst 1, 1, 0, 0)]
def ze164_39 : List ZEn := [(624, .iadd, 1, 0, 0), (625, .iaload, 1, 0, 0), (626, .invokevirtual 78, 3, 0, 77), (629, .aload_n 2, 1, 0, 0), (630, .aload_n 0, 1, 0, 0), (631, .iload 4, 2, 0, 0), (633, .iconst 1, 1, 0, 0), (634, .iadd, 1, 0, 0), (635, .iaload, 1, 0, 0), (636, .invokevirtual 81, 3, 0, 135), (639, .if_icmp .eq 685, 3, 0, 0)]
def ze164_40 : List ZEn := [(642, .iconst 0, 1, 0, 0), (643, .ireturn, 1, 0, 0), (644, .aload_n 1, 1, 0, 0), (645, .aload_n 0, 1, 0, 0), (646, .iload 4, 2, 0, 0), (648, .iconst 1, 1, 0, 0), (649, .iadd, 1, 0, 0), (650, .iaload, 1, 0, 0), (651, .aload_n 0, 1, 0, 0), (652, .iload 4, 2, 0, 0), (654, .iconst 2, 1, 0, 0), (655, .iadd, 1, 0, 0)]
def ze164_41 : List ZEn := [(656, .iaload, 1, 0, 0), (657, .invokevirtual 82, 3, 0, 78), (660, .aload_n 2, 1, 0, 0), (661, .aload_n 0, 1, 0, 0), (662, .iload 4, 2, 0, 0), (664, .iconst 1, 1, 0, 0), (665, .iadd, 1, 0, 0), (666, .iaload, 1, 0, 0), (667, .aload_n 0, 1, 0, 0), (668, .iload 4, 2, 0, 0), (670, .iconst 2, 1, 0, 0), (671, .iadd, 1, 0, 0)]
def ze164_42 : List ZEn := [(672, .iaload, 1, 0, 0), (673, .invokevirtual 85, 3, 0, 136), (676, .if_icmp .eq 648, 3, 0, 0), (679, .iconst 0, 1, 0, 0), (680, .ireturn, 1, 0, 0), (681, .aload_n 1, 1, 0, 0), (682, .aload_n 0, 1, 0, 0), (683, .iload 4, 2, 0, 0), (685, .iconst 1, 1, 0, 0), (686, .iadd, 1, 0, 0), (687, .iaload, 1, 0, 0)]
def ze164_43 : List ZEn := [(688, .invokevirtual 86, 3, 0, 79), (691, .aload_n 2, 1, 0, 0), (692, .aload_n 0, 1, 0, 0), (693, .iload 4, 2, 0, 0), (695, .iconst 1, 1, 0, 0), (696, .iadd, 1, 0, 0), (697, .iaload, 1, 0, 0), (698, .invokevirtual 89, 3, 0, 137), (701, .if_icmp .eq 623, 3, 0, 0)]
def ze164_44 : List ZEn := [(704, .iconst 0, 1, 0, 0), (705, .ireturn, 1, 0, 0), (706, .aload_n 1, 1, 0, 0), (707, .aload_n 0, 1, 0, 0), (708, .iload 4, 2, 0, 0), (710, .iconst 1, 1, 0, 0), (711, .iadd, 1, 0, 0), (712, .iaload, 1, 0, 0), (713, .aload_n 0, 1, 0, 0), (714, .iload 4, 2, 0, 0), (716, .iconst 2, 1, 0, 0), (717, .iadd, 1, 0, 0), (718, .iaload, 1, 0, 0), (719, .invokevirtual 90, 3, 0, 80)]
def ze164_45 : List ZEn := [(722, .aload_n 2, 1, 0, 0), (723, .aload_n 0, 1, 0, 0), (724, .iload 4, 2, 0, 0), (726, .iconst 1, 1, 0, 0), (727, .iadd, 1, 0, 0), (728, .iaload, 1, 0, 0), (729, .aload_n 0, 1, 0, 0), (730, .iload 4, 2, 0, 0), (732, .iconst 2, 1, 0, 0), (733, .iadd, 1, 0, 0), (734, .iaload, 1, 0, 0), (735, .invokevirtual 93, 3, 0, 138)]
def ze164_46 : List ZEn := [(738, .if_icmp .eq 586, 3, 0, 0), (741, .iconst 0, 1, 0, 0), (742, .ireturn, 1, 0, 0), (743, .aload_n 1, 1, 0, 0), (744, .aload_n 0, 1, 0, 0), (745, .iload 4, 2, 0, 0), (747, .iconst 1, 1, 0, 0), (748, .iadd, 1, 0, 0), (749, .iaload, 1, 0, 0), (750, .aload_n 0, 1, 0, 0), (751, .iload 4, 2, 0, 0)]
def ze164_47 : List ZEn := [(753, .iconst 2, 1, 0, 0), (754, .iadd, 1, 0, 0), (755, .iaload, 1, 0, 0), (756, .invokevirtual 94, 3, 0, 81), (759, .aload_n 2, 1, 0, 0), (760, .aload_n 0, 1, 0, 0), (761, .iload 4, 2, 0, 0), (763, .iconst 1, 1, 0, 0), (764, .iadd, 1, 0, 0), (765, .iaload, 1, 0, 0), (766, .aload_n 0, 1, 0, 0), (767, .iload 4, 2, 0, 0)]
def ze164_48 : List ZEn := [(769, .iconst 2, 1, 0, 0), (770, .iadd, 1, 0, 0), (771, .iaload, 1, 0, 0), (772, .invokevirtual 97, 3, 0, 139), (775, .if_icmp .eq 549, 3, 0, 0), (778, .iconst 0, 1, 0, 0), (779, .ireturn, 1, 0, 0), (780, .aload_n 1, 1, 0, 0), (781, .aload_n 0, 1, 0, 0), (782, .iload 4, 2, 0, 0)]
def ze164_49 : List ZEn := [(784, .iconst 1, 1, 0, 0), (785, .iadd, 1, 0, 0), (786, .iaload, 1, 0, 0), (787, .aload_n 0, 1, 0, 0), (788, .iload 4, 2, 0, 0), (790, .iconst 2, 1, 0, 0), (791, .iadd, 1, 0, 0), (792, .iaload, 1, 0, 0), (793, .aload_n 0, 1, 0, 0), (794, .iload 4, 2, 0, 0), (796, .iconst 3, 1, 0, 0), (797, .iadd, 1, 0, 0), (798, .iaload, 1, 0, 0), (799, .invokevirtual 98, 3, 0, 82)]
def ze164_50 : List ZEn := [(802, .aload_n 2, 1, 0, 0), (803, .aload_n 0, 1, 0, 0), (804, .iload 4, 2, 0, 0), (806, .iconst 1, 1, 0, 0), (807, .iadd, 1, 0, 0), (808, .iaload, 1, 0, 0), (809, .aload_n 0, 1, 0, 0), (810, .iload 4, 2, 0, 0), (812, .iconst 2, 1, 0, 0), (813, .iadd, 1, 0, 0), (814, .iaload, 1, 0, 0), (815, .aload_n 0, 1, 0, 0)]
def ze164_51 : List ZEn := [(816, .iload 4, 2, 0, 0), (818, .iconst 3, 1, 0, 0), (819, .iadd, 1, 0, 0), (820, .iaload, 1, 0, 0), (821, .invokevirtual 102, 3, 0, 140), (824, .if_icmp .eq 500, 3, 0, 0), (827, .iconst 0, 1, 0, 0), (828, .ireturn, 1, 0, 0), (829, .aload_n 1, 1, 0, 0), (830, .aload_n 0, 1, 0, 0), (831, .iload 4, 2, 0, 0)]
def ze164_52 : List ZEn := [(833, .iconst 1, 1, 0, 0), (834, .iadd, 1, 0, 0), (835, .iaload, 1, 0, 0), (836, .invokevirtual 103, 3, 0, 83), (839, .aload_n 2, 1, 0, 0), (840, .aload_n 0, 1, 0, 0), (841, .iload 4, 2, 0, 0), (843, .iconst 1, 1, 0, 0), (844, .iadd, 1, 0, 0), (845, .iaload, 1, 0, 0), (846, .invokevirtual 106, 3, 0, 142)]
def ze164_53 : List ZEn := [(849, .if_icmp .eq 475, 3, 0, 0), (852, .iconst 0, 1, 0, 0), (853, .ireturn, 1, 0, 0), (854, .aload_n 1, 1, 0, 0), (855, .aload_n 0, 1, 0, 0), (856, .iload 4, 2, 0, 0), (858, .iconst 1, 1, 0, 0), (859, .iadd, 1, 0, 0), (860, .iaload, 1, 0, 0), (861, .invokevirtual 107, 3, 0, 84)]
def ze164_54 : List ZEn := [(864, .aload_n 2, 1, 0, 0), (865, .aload_n 0, 1, 0, 0), (866, .iload 4, 2, 0, 0), (868, .iconst 1, 1, 0, 0), (869, .iadd, 1, 0, 0), (870, .iaload, 1, 0, 0), (871, .invokevirtual 110, 3, 0, 144), (874, .if_icmp .eq 450, 3, 0, 0), (877, .iconst 0, 1, 0, 0), (878, .ireturn, 1, 0, 0), (879, .aload_n 1, 1, 0, 0)]
def ze164_55 : List ZEn := [(880, .invokevirtual 111, 3, 0, 85), (883, .aload_n 2, 1, 0, 0), (884, .invokevirtual 114, 3, 0, 146), (887, .if_icmp .eq 437, 3, 0, 0), (890, .iconst 0, 1, 0, 0), (891, .ireturn, 1, 0, 0), (892, .aload_n 1, 1, 0, 0), (893, .aload_n 0, 1, 0, 0), (894, .iload 4, 2, 0, 0)]
def ze164_56 : List ZEn := [(896, .iconst 1, 1, 0, 0), (897, .iadd, 1, 0, 0), (898, .iaload, 1, 0, 0), (899, .aload_n 0, 1, 0, 0), (900, .iload 4, 2, 0, 0), (902, .iconst 2, 1, 0, 0), (903, .iadd, 1, 0, 0), (904, .iaload, 1, 0, 0), (905, .invokevirtual 115, 3, 0, 86), (908, .aload_n 2, 1, 0, 0), (909, .aload_n 0, 1, 0, 0), (910, .iload 4, 2, 0, 0)]
def ze164_57 : List ZEn := [(912, .iconst 1, 1, 0, 0), (913, .iadd, 1, 0, 0), (914, .iaload, 1, 0, 0), (915, .aload_n 0, 1, 0, 0), (916, .iload 4, 2, 0, 0), (918, .iconst 2, 1, 0, 0), (919, .iadd, 1, 0, 0), (920, .iaload, 1, 0, 0), (921, .invokevirtual 118, 3, 0, 147), (924, .if_icmp .eq 400, 3, 0, 0), (927, .iconst 0, 1, 0, 0)]
def ze164_58 : List ZEn := [(928, .ireturn, 1, 0, 0), (929, .aload_n 1, 1, 0, 0), (930, .aload_n 0, 1, 0, 0), (931, .iload 4, 2, 0, 0), (933, .iconst 1, 1, 0, 0), (934, .iadd, 1, 0, 0), (935, .iaload, 1, 0, 0), (936, .invokevirtual 119, 3, 0, 87), (939, .aload_n 2, 1, 0, 0), (940, .aload_n 0, 1, 0, 0), (941, .iload 4, 2, 0, 0), (943, .iconst 1, 1, 0, 0)]
def ze164_59 : List ZEn := [(944, .iadd, 1, 0, 0), (945, .iaload, 1, 0, 0), (946, .invokevirtual 122, 3, 0, 148), (949, .if_icmp .eq 375, 3, 0, 0), (952, .iconst 0, 1, 0, 0), (953, .ireturn, 1, 0, 0), (954, .aload_n 1, 1, 0, 0), (955, .aload_n 0, 1, 0, 0), (956, .iload 4, 2, 0, 0), (958, .iconst 1, 1, 0, 0), (959, .iadd, 1, 0, 0)]
def ze164_60 : List ZEn := [(960, .iaload, 1, 0, 0), (961, .aload_n 0, 1, 0, 0), (962, .iload 4, 2, 0, 0), (964, .iconst 2, 1, 0, 0), (965, .iadd, 1, 0, 0), (966, .iaload, 1, 0, 0), (967, .invokevirtual 123, 3, 0, 88), (970, .aload_n 2, 1, 0, 0), (971, .aload_n 0, 1, 0, 0), (972, .iload 4, 2, 0, 0), (974, .iconst 1, 1, 0, 0), (975, .iadd, 1, 0, 0)]
def ze164_61 : List ZEn := [(976, .iaload, 1, 0, 0), (977, .aload_n 0, 1, 0, 0), (978, .iload 4, 2, 0, 0), (980, .iconst 2, 1, 0, 0), (981, .iadd, 1, 0, 0), (982, .iaload, 1, 0, 0), (983, .invokevirtual 126, 3, 0, 152), (986, .if_icmp .eq 338, 3, 0, 0), (989, .iconst 0, 1, 0, 0), (990, .ireturn, 1, 0, 0), (991, .aload_n 1, 1, 0, 0)]
def ze164_62 : List ZEn := [(992, .aload_n 0, 1, 0, 0), (993, .iload 4, 2, 0, 0), (995, .iconst 1, 1, 0, 0), (996, .iadd, 1, 0, 0), (997, .iaload, 1, 0, 0), (998, .invokevirtual 127, 3, 0, 89), (1001, .aload_n 2, 1, 0, 0), (1002, .aload_n 0, 1, 0, 0), (1003, .iload 4, 2, 0, 0), (1005, .iconst 1, 1, 0, 0), (1006, .iadd, 1, 0, 0), (1007, .iaload, 1, 0, 0)]
def ze164_63 : List ZEn := [(1008, .invokevirtual 130, 3, 0, 154), (1011, .if_icmp .eq 313, 3, 0, 0), (1014, .iconst 0, 1, 0, 0), (1015, .ireturn, 1, 0, 0), (1016, .aload_n 1, 1, 0, 0), (1017, .aload_n 0, 1, 0, 0), (1018, .iload 4, 2, 0, 0), (1020, .iconst 1, 1, 0, 0), (1021, .iadd, 1, 0, 0), (1022, .iaload, 1, 0, 0), (1023, .invokevirtual 131, 3, 0, 90)]
def ze164_64 : List ZEn := [(1026, .aload_n 2, 1, 0, 0), (1027, .aload_n 0, 1, 0, 0), (1028, .iload 4, 2, 0, 0), (1030, .iconst 1, 1, 0, 0), (1031, .iadd, 1, 0, 0), (1032, .iaload, 1, 0, 0), (1033, .invokevirtual 134, 3, 0, 155), (1036, .if_icmp .eq 288, 3, 0, 0), (1039, .iconst 0, 1, 0, 0)]
def ze164_65 : List ZEn := [(1040, .ireturn, 1, 0, 0), (1041, .aload_n 1, 1, 0, 0), (1042, .aload_n 0, 1, 0, 0), (1043, .iload 4, 2, 0, 0), (1045, .iconst 1, 1, 0, 0), (1046, .iadd, 1, 0, 0), (1047, .iaload, 1, 0, 0), (1048, .invokevirtual 135, 3, 0, 91), (1051, .aload_n 2, 1, 0, 0), (1052, .aload_n 0, 1, 0, 0), (1053, .iload 4, 2, 0, 0), (1055, .iconst 1, 1, 0, 0)]
def ze164_66 : List ZEn := [(1056, .iadd, 1, 0, 0), (1057, .iaload, 1, 0, 0), (1058, .invokevirtual 138, 3, 0, 156), (1061, .if_icmp .eq 263, 3, 0, 0), (1064, .iconst 0, 1, 0, 0), (1065, .ireturn, 1, 0, 0), (1066, .aload_n 1, 1, 0, 0), (1067, .aload_n 3, 1, 0, 0), (1068, .invokestatic 139, 3, 8, 0), (1071, .istore 5, 2, 0, 0)]
def ze164_67 : List ZEn := [(1073, .aload_n 2, 1, 0, 0), (1074, .invokevirtual 144, 3, 0, 157), (1077, .istore 6, 2, 0, 0), (1079, .aload_n 2, 1, 0, 0), (1080, .invokevirtual 145, 3, 0, 103), (1083, .iload 5, 2, 0, 0), (1085, .if_icmp .eq 5, 3, 0, 0)]
def ze164_68 : List ZEn := [(1088, .iconst 0, 1, 0, 0), (1089, .ireturn, 1, 0, 0), (1090, .iload 5, 2, 0, 0), (1092, .ifCond .ne 15, 3, 0, 0), (1095, .aload_n 3, 1, 0, 0), (1096, .iconst 0, 1, 0, 0), (1097, .laload, 1, 0, 0), (1098, .iload 6, 2, 0, 0), (1101, .lcmp, 1, 0, 0), (1102, .ifCond .eq 5, 3, 0, 0)]
def ze164_69 : List ZEn := [(1105, .iconst 0, 1, 0, 0), (1106, .ireturn, 1, 0, 0), (1107, .goto 217, 3, 0, 0), (1110, .aload_n 1, 1, 0, 0), (1111, .invokevirtual 148, 3, 0, 92), (1114, .aload_n 2, 1, 0, 0), (1115, .invokevirtual 151, 3, 0, 158), (1118, .if_icmp .eq 206, 3, 0, 0)]
def ze164_70 : List ZEn := [(1121, .iconst 0, 1, 0, 0), (1122, .ireturn, 1, 0, 0), (1123, .aload_n 1, 1, 0, 0), (1124, .aload_n 0, 1, 0, 0), (1125, .iload 4, 2, 0, 0), (1127, .iconst 1, 1, 0, 0), (1128, .iadd, 1, 0, 0), (1129, .iaload, 1, 0, 0), (1130, .invokevirtual 152, 3, 0, 93), (1133, .aload_n 2, 1, 0, 0), (1134, .aload_n 0, 1, 0, 0), (1135, .iload 4, 2, 0, 0)]
def ze164_71 : List ZEn := [(1137, .iconst 1, 1, 0, 0), (1138, .iadd, 1, 0, 0), (1139, .iaload, 1, 0, 0), (1140, .invokevirtual 155, 3, 0, 159), (1143, .if_icmp .eq 181, 3, 0, 0), (1146, .iconst 0, 1, 0, 0), (1147, .ireturn, 1, 0, 0), (1148, .aload_n 1, 1, 0, 0), (1149, .aload_n 0, 1, 0, 0), (1150, .iload 4, 2, 0, 0)]
def ze164_72 : List ZEn := [(1152, .iconst 1, 1, 0, 0), (1153, .iadd, 1, 0, 0), (1154, .iaload, 1, 0, 0), (1155, .aload_n 0, 1, 0, 0), (1156, .iload 4, 2, 0, 0), (1158, .iconst 2, 1, 0, 0), (1159, .iadd, 1, 0, 0), (1160, .iaload, 1, 0, 0), (1161, .aload_n 0, 1, 0, 0), (1162, .iload 4, 2, 0, 0), (1164, .iconst 3, 1, 0, 0), (1165, .iadd, 1, 0, 0), (1166, .iaload, 1, 0, 0), (1167, .invokevirtual 156, 3, 0, 94)]
def ze164_73 : List ZEn := [(1170, .aload_n 2, 1, 0, 0), (1171, .aload_n 0, 1, 0, 0), (1172, .iload 4, 2, 0, 0), (1174, .iconst 1, 1, 0, 0), (1175, .iadd, 1, 0, 0), (1176, .iaload, 1, 0, 0), (1177, .aload_n 0, 1, 0, 0), (1178, .iload 4, 2, 0, 0), (1180, .iconst 2, 1, 0, 0), (1181, .iadd, 1, 0, 0), (1182, .iaload, 1, 0, 0), (1183, .aload_n 0, 1, 0, 0)]
def ze164_74 : List ZEn := [(1184, .iload 4, 2, 0, 0), (1186, .iconst 3, 1, 0, 0), (1187, .iadd, 1, 0, 0), (1188, .iaload, 1, 0, 0), (1189, .invokevirtual 159, 3, 0, 160), (1192, .if_icmp .eq 132, 3, 0, 0), (1195, .iconst 0, 1, 0, 0), (1196, .ireturn, 1, 0, 0), (1197, .aload_n 1, 1, 0, 0), (1198, .aload_n 0, 1, 0, 0), (1199, .iload 4, 2, 0, 0)]
def ze164_75 : List ZEn := [(1201, .iconst 1, 1, 0, 0), (1202, .iadd, 1, 0, 0), (1203, .iaload, 1, 0, 0), (1204, .aload_n 0, 1, 0, 0), (1205, .iload 4, 2, 0, 0), (1207, .iconst 2, 1, 0, 0), (1208, .iadd, 1, 0, 0), (1209, .iaload, 1, 0, 0), (1210, .aload_n 0, 1, 0, 0), (1211, .iload 4, 2, 0, 0), (1213, .iconst 3, 1, 0, 0), (1214, .iadd, 1, 0, 0), (1215, .iaload, 1, 0, 0)]
def ze164_76 : List ZEn := [(1216, .invokevirtual 160, 3, 0, 95), (1219, .aload_n 2, 1, 0, 0), (1220, .aload_n 0, 1, 0, 0), (1221, .iload 4, 2, 0, 0), (1223, .iconst 1, 1, 0, 0), (1224, .iadd, 1, 0, 0), (1225, .iaload, 1, 0, 0), (1226, .aload_n 0, 1, 0, 0), (1227, .iload 4, 2, 0, 0), (1229, .iconst 2, 1, 0, 0), (1230, .iadd, 1, 0, 0), (1231, .iaload, 1, 0, 0)]
def ze164_77 : List ZEn := [(1232, .aload_n 0, 1, 0, 0), (1233, .iload 4, 2, 0, 0), (1235, .iconst 3, 1, 0, 0), (1236, .iadd, 1, 0, 0), (1237, .iaload, 1, 0, 0), (1238, .invokevirtual 163, 3, 0, 161), (1241, .if_icmp .eq 83, 3, 0, 0), (1244, .iconst 0, 1, 0, 0), (1245, .ireturn, 1, 0, 0), (1246, .aload_n 1, 1, 0, 0), (1247, .aload_n 0, 1, 0, 0)]
def ze164_78 : List ZEn := [(1248, .iload 4, 2, 0, 0), (1250, .iconst 1, 1, 0, 0), (1251, .iadd, 1, 0, 0), (1252, .iaload, 1, 0, 0), (1253, .aload_n 0, 1, 0, 0), (1254, .iload 4, 2, 0, 0), (1256, .iconst 2, 1, 0, 0), (1257, .iadd, 1, 0, 0), (1258, .iaload, 1, 0, 0), (1259, .ifCond .eq 7, 3, 0, 0), (1262, .iconst 1, 1, 0, 0), (1263, .goto 4, 3, 0, 0)]
def ze164_79 : List ZEn := [(1266, .iconst 0, 1, 0, 0), (1267, .invokevirtual 164, 3, 0, 96), (1270, .aload_n 2, 1, 0, 0), (1271, .aload_n 0, 1, 0, 0), (1272, .iload 4, 2, 0, 0), (1274, .iconst 1, 1, 0, 0), (1275, .iadd, 1, 0, 0), (1276, .iaload, 1, 0, 0), (1277, .aload_n 0, 1, 0, 0), (1278, .iload 4, 2, 0, 0)]
def ze164_80 : List ZEn := [(1280, .iconst 2, 1, 0, 0), (1281, .iadd, 1, 0, 0), (1282, .iaload, 1, 0, 0), (1283, .ifCond .eq 7, 3, 0, 0), (1286, .iconst 1, 1, 0, 0), (1287, .goto 4, 3, 0, 0), (1290, .iconst 0, 1, 0, 0), (1291, .invokevirtual 168, 3, 0, 162), (1294, .if_icmp .eq 30, 3, 0, 0)]
def ze164_81 : List ZEn := [(1297, .iconst 0, 1, 0, 0), (1298, .ireturn, 1, 0, 0), (1299, .aload_n 1, 1, 0, 0), (1300, .aload_n 0, 1, 0, 0), (1301, .iload 4, 2, 0, 0), (1303, .iconst 1, 1, 0, 0), (1304, .iadd, 1, 0, 0), (1305, .iaload, 1, 0, 0), (1306, .invokevirtual 169, 3, 0, 97), (1309, .aload_n 2, 1, 0, 0), (1310, .aload_n 0, 1, 0, 0), (1311, .iload 4, 2, 0, 0)]
def ze164_82 : List ZEn := [(1313, .iconst 1, 1, 0, 0), (1314, .iadd, 1, 0, 0), (1315, .iaload, 1, 0, 0), (1316, .invokevirtual 172, 3, 0, 163), (1319, .if_icmp .eq 5, 3, 0, 0), (1322, .iconst 0, 1, 0, 0), (1323, .ireturn, 1, 0, 0), (1324, .iinc 4 7, 3, 0, 0), (1327, .goto (-1304), 3, 0, 0)]
def ze164_83 : List ZEn := [(1330, .iconst 1, 1, 0, 0), (1331, .ireturn, 1, 0, 0)]
def ze164 : List (List ZEn) := [ze164_0, ze164_1, ze164_2, ze164_3, ze164_4, ze164_5, ze164_6, ze164_7, ze164_8, ze164_9, ze164_10, ze164_11, ze164_12, ze164_13, ze164_14, ze164_15, ze164_16, ze164_17, ze164_18, ze164_19, ze164_20, ze164_21, ze164_22, ze164_23, ze164_24, ze164_25, ze164_26, ze164_27, ze164_28, ze164_29, ze164_30, ze164_31, ze164_32, ze164_33, ze164_34, ze164_35, ze164_36, ze164_37, ze164_38, ze164_39, ze164_40, ze164_41, ze164_42, ze164_43, ze164_44, ze164_45, ze164_46, ze164_47, ze164_48, ze164_49, ze164_50, ze164_51, ze164_52, ze164_53, ze164_54, ze164_55, ze164_56, ze164_57, ze164_58, ze164_59, ze164_60, ze164_61, ze164_62, ze164_63, ze164_64, ze164_65, ze164_66, ze164_67, ze164_68, ze164_69, ze164_70, ze164_71, ze164_72, ze164_73, ze164_74, ze164_75, ze164_76, ze164_77, ze164_78, ze164_79, ze164_80, ze164_81, ze164_82, ze164_83]
def zm164 : ZMI := (⟨"BeggarHeapsLaw", "law", "([I)Z"⟩, code, 7, some .boolean, 9, 600002, 7302232, 1, 13, ze164)
def zmtab : List (List ZMI) := [[zm0, zm1, zm2, zm3, zm4, zm5, zm6, zm7, zm8, zm9, zm10, zm11],
  [zm12, zm13, zm14, zm15, zm16, zm17, zm18, zm19, zm20, zm21, zm22, zm23],
  [zm24, zm25, zm26, zm27, zm28, zm29, zm30, zm31, zm32, zm33, zm34, zm35],
  [zm36, zm37, zm38, zm39, zm40, zm41, zm42, zm43, zm44, zm45, zm46, zm47],
  [zm48, zm49, zm50, zm51, zm52, zm53, zm54, zm55, zm56, zm57, zm58, zm59],
  [zm60, zm61, zm62, zm63, zm64, zm65, zm66, zm67, zm68, zm69, zm70, zm71],
  [zm72, zm73, zm74, zm75, zm76, zm77, zm78, zm79, zm80, zm81, zm82, zm83],
  [zm84, zm85, zm86, zm87, zm88, zm89, zm90, zm91, zm92, zm93, zm94, zm95],
  [zm96, zm97, zm98, zm99, zm100, zm101, zm102, zm103, zm104, zm105, zm106, zm107],
  [zm108, zm109, zm110, zm111, zm112, zm113, zm114, zm115, zm116, zm117, zm118, zm119],
  [zm120, zm121, zm122, zm123, zm124, zm125, zm126, zm127, zm128, zm129, zm130, zm131],
  [zm132, zm133, zm134, zm135, zm136, zm137, zm138, zm139, zm140, zm141, zm142, zm143],
  [zm144, zm145, zm146, zm147, zm148, zm149, zm150, zm151, zm152, zm153, zm154, zm155],
  [zm156, zm157, zm158, zm159, zm160, zm161, zm162, zm163, zm164]]
noncomputable def zmt (j : Nat) : ZMI := match zn zmtab (j / 12) with
  | some r => (match zn r (j % 12) with
    | some q => q
    | none => zm0)
  | none => zm0
end
section
/-! the cells behind the two constructors, and the law up to its loop -/
def zbase : List ZC := [.inl (11, [.ref 1, .ref 4, .ref 11, .ref 18, .ref 22, .ref 26, .ref 29, .ref 45, .int 0, .int 0, .ref 46, .ref 47, .ref 48, .ref 51, .ref 60, .ref 71, .ref 76, .ref 78, .int 0]),
  .inl (10, [.ref 2, .ref 3, .int 0, .int 0, .int 0, .int 0, .int 0, .int 0, .int 0, .long 0]),
  .inr (3, 1000, []),
  .inr (1, 24, [(23, .long 21678547), (22, .long 8554003), (21, .long 441925), (20, .long 1315876), (19, .long 498), (18, .long 1476), (17, .long 14836), (16, .long 24046), (15, .long 16648709575), (14, .long 485571737), (13, .long 19176724), (12, .long 398548), (11, .long 269899955), (10, .long 12791), (9, .long 271592), (8, .long 1130164), (7, .long 22483122), (6, .long 12891444), (5, .long 2228), (4, .long 6605428), (3, .long 12345), (2, .long 525419), (1, .long 526131), (1000000001, .long 370116)]),
  .inl (9, [.int 0, .ref 5, .ref 6, .ref 7, .ref 8, .int 0, .int 0, .int 0, .int 1000, .int 0, .int 0, .int 0, .int 0, .int 0, .ref 9, .ref 10]),
  .inr (1, 8, []),
  .inr (0, 8, []),
  .inr (0, 8, []),
  .inr (2, 8, []),
  .inr (0, 1000, []),
  .inr (0, 64, []),
  .inl (9, [.int 0, .ref 12, .ref 13, .ref 14, .ref 15, .int 0, .int 0, .int 0, .int 1000, .int 0, .int 0, .int 0, .int 0, .int 0, .ref 16, .ref 17]),
  .inr (1, 8, []),
  .inr (0, 8, []),
  .inr (0, 8, []),
  .inr (2, 8, []),
  .inr (0, 1000, []),
  .inr (0, 64, []),
  .inl (0, [.int 0, .ref 19, .ref 20, .ref 21]),
  .inr (0, 12, []),
  .inr (0, 24, []),
  .inr (0, 144, []),
  .inl (0, [.int 0, .ref 23, .ref 24, .ref 25]),
  .inr (0, 12, []),
  .inr (0, 24, []),
  .inr (0, 144, []),
  .inl (6, [.ref 1, .ref 27, .ref 28, .ref 4, .ref 18, .int 0, .int 0, .int 0]),
  .inr (0, 48, []),
  .inr (0, 2, []),
  .inl (2, [.ref 30, .ref 37, .ref 38, .int 0, .ref 39, .int 0, .int 0, .ref 40, .int 0, .ref 41, .int 0, .ref 42, .ref 43, .ref 44, .int 0, .int 100]),
  .inl (5, [.ref 31, .ref 32, .ref 33, .ref 34, .ref 35, .ref 36, .int 0, .int 0, .int 0, .int 0, .int 0, .int 0, .int 0, .int (-1), .int 0]),
  .inr (0, 128, []),
  .inr (0, 2, []),
  .inr (0, 2, []),
  .inr (0, 64, []),
  .inr (0, 64, []),
  .inr (0, 8, []),
  .inr (0, 48, []),
  .inr (0, 2, []),
  .inr (0, 40, []),
  .inr (0, 64, []),
  .inr (0, 12, []),
  .inr (0, 8, []),
  .inr (0, 8, []),
  .inr (0, 8, []),
  .inr (4, 16, []),
  .inr (4, 4, []),
  .inr (2, 4, []),
  .inl (7, [.ref 49, .ref 50, .int 0, .long 0]),
  .inr (0, 24, []),
  .inr (0, 8, []),
  .inl (1, [.ref 52, .int 0, .int 0, .int 0, .int 0, .int 0, .long 0, .ref 59, .null, .null, .null, .null]),
  .inl (5, [.ref 53, .ref 54, .ref 55, .ref 56, .ref 57, .ref 58, .int 0, .int 0, .int 0, .int 0, .int 0, .int 0, .int 0, .int (-1), .int 0]),
  .inr (0, 128, []),
  .inr (0, 2, []),
  .inr (0, 2, []),
  .inr (0, 64, []),
  .inr (0, 64, []),
  .inr (0, 8, []),
  .inr (1, 4, []),
  .inl (8, [.ref 61, .ref 62, .ref 63, .ref 64, .ref 65, .ref 66, .ref 67, .int 0, .ref 48, .ref 51, .ref 68, .ref 69, .ref 70, .int 0, .int 0, .int 0, .int (-1), .int (-1)]),
  .inr (0, 7, []),
  .inr (0, 16, []),
  .inr (0, 3, []),
  .inr (0, 80, []),
  .inr (0, 168, []),
  .inr (0, 4, []),
  .inr (0, 24, []),
  .inr (2, 56, []),
  .inr (0, 8, []),
  .inr (0, 8, []),
  .inl (4, [.ref 72, .int 0, .int 0, .ref 48, .ref 51, .ref 73, .ref 74, .ref 75, .int 0]),
  .inr (0, 3, []),
  .inr (0, 8, []),
  .inr (0, 10, []),
  .inr (0, 10, []),
  .inl (3, [.ref 77, .int 0, .null, .int (-1), .int 0]),
  .inr (0, 6, []),
  .inr (0, 4, []),
  .inl (12, [.int 0, .ref 80, .int 0, .int 0, .ref 81, .ref 82, .ref 83, .int 0, .int 0, .ref 84, .ref 85, .ref 86, .ref 87, .int 0, .ref 88, .ref 89, .int 0, .ref 90, .ref 91, .ref 92, .ref 93, .ref 94, .ref 95, .int 0, .ref 96, .int (-1), .int 0, .ref 97, .ref 98, .ref 99, .ref 100, .ref 101, .ref 102, .ref 103, .ref 104, .int 0, .int 0, .int 0, .int 0, .int 0, .ref 105, .int 0, .ref 106, .ref 107, .int 0, .int 0, .ref 108, .ref 109, .int 0, .int 0, .int 0, .int 0, .ref 110, .ref 111, .int 0, .long 0]),
  .inr (0, 1000, []),
  .inr (0, 1002, []),
  .inr (0, 1002, []),
  .inr (1, 1002, []),
  .inr (1, 24, [(23, .long 38572112), (22, .long 15248533), (21, .long 679695), (20, .long 2286271), (19, .long 573), (18, .long 1891), (17, .long 19741), (16, .long 32056), (15, .long 39605492240), (14, .long 999049827), (13, .long 34200674), (12, .long 614923), (11, .long 557263975), (10, .long 17006), (9, .long 417812), (8, .long 1996799), (7, .long 40072202), (6, .long 22963959), (5, .long 2943), (4, .long 11726208), (3, .long 16490), (2, .long 811939), (1, .long 812761), (1000000001, .long 570026)]),
  .inr (0, 420, [(4, .int (-1)), (3, .int 1000)]),
  .inr (0, 2200, []),
  .inr (0, 2200, []),
  .inr (1, 8, []),
  .inr (1, 8, []),
  .inr (0, 48, []),
  .inr (0, 2, []),
  .inr (0, 190, []),
  .inr (0, 4, []),
  .inr (0, 1100, []),
  .inr (0, 16560, [(9, .int 100), (5, .int (-1)), (8, .int (-1))]),
  .inr (2, 4, []),
  .inr (0, 48, []),
  .inr (1, 3010, []),
  .inr (1, 3010, []),
  .inr (1, 3010, []),
  .inr (0, 3010, []),
  .inr (0, 3010, []),
  .inr (0, 3010, []),
  .inr (0, 1024, []),
  .inr (0, 24, []),
  .inr (0, 20000, []),
  .inr (0, 20000, []),
  .inr (0, 48, []),
  .inr (0, 48, []),
  .inr (0, 8, []),
  .inr (0, 8, []),
  .inr (1, 1, [])]
def zsl : ZL := [(4, .int 0), (3, .ref 112), (2, .ref 79), (1, .ref 0), (0, .ref 1000001)]
def zbd0 (_ : Nat) : Int × Int := (-2147483648, 2147483647)
def zcsB (a b : List ZC) : Bool := decide (a = b)
theorem zph1b : (match zrun zmt zbd0 9000 20 164 true zsl 23 0 [(0, .ref 1000001)] [] [] 0 0 with
  | some (none, cs) => zcsB cs zbase
  | _ => false) = true := by decide +kernel
theorem zph1 : zrun zmt zbd0 9000 20 164 true zsl 23 0 [(0, .ref 1000001)] [] [] 0 0 = some (none, zbase) := by
  have h := zph1b
  split at h
  · rename_i cs hq
    rw [hq, of_decide_eq_true h]
  · cases h
end
section
/-! the law's cases: what is known of the script, and the runs -/
section ZCASE
/-- the script's ints by bounds; 7: the case; 20: the script may be read -/
noncomputable def zbdC (q : Int × Int) (l : List (Int × Int)) (k : Nat) : Int × Int := bif Nat.beq k 7 then q else bif Nat.beq k 20 then (1, 1) else match zn l k with
  | some b => b
  | none => (-2147483648, 2147483647)
/-- a run of a case, from the loop's head to the law's end -/
noncomputable def zcase (q : Int × Int) (l : List (Int × Int)) : Bool := match zrun zmt (zbdC q l) 40000 20 164 true [] 9999 23 zsl [] zbase 1000 200000 with
  | some (some (.int 1), _) => true
  | _ => false
theorem zcase_ok {q : Int × Int} {l : List (Int × Int)} (h : zcase q l = true) : ∃ cs, zrun zmt (zbdC q l) 40000 20 164 true [] 9999 23 zsl [] zbase 1000 200000 = some (some (.int 1), cs) := by
  unfold zcase at h
  split at h
  · rename_i cs hq
    exact ⟨cs, hq⟩
  · cases h
/-- the bounds follow each other from 'f' on to the greatest int -/
def zcov : List (Int × Int) → Int → Bool
  | [], f => decide (2147483647 < f)
  | (a, b) :: r, f => decide (a ≤ f) && zcov r (b + 1)
theorem zcov_ok : ∀ (d : List (Int × Int)) (f x : Int), zcov d f = true → f ≤ x → x ≤ 2147483647 → ∃ q ∈ d, q.1 ≤ x ∧ x ≤ q.2
  | [], f, x, h, h1, h2 => by
    have := of_decide_eq_true h
    omega
  | (a, b) :: r, f, x, h, h1, h2 => by
    simp only [zcov, Bool.and_eq_true, decide_eq_true_eq] at h
    by_cases hx : x ≤ b
    · exact ⟨(a, b), List.mem_cons_self, by show a ≤ x; omega, hx⟩
    · obtain ⟨q, hq, h3⟩ := zcov_ok r (b + 1) x h.2 (by omega) h2
      exact ⟨q, List.mem_cons_of_mem _ hq, h3⟩
def zprod : List (List (Int × Int)) → List (List (Int × Int))
  | [] => [[]]
  | d :: ds => d.flatMap (fun q => (zprod ds).map (fun l => q :: l))
theorem zprod_ok : ∀ (ds : List (List (Int × Int))) (xs : Nat → Int), (∀ k, -2147483648 ≤ xs k ∧ xs k ≤ 2147483647) → ds.all (fun d => zcov d (-2147483648)) = true → ∃ l ∈ zprod ds, ∀ (k : Nat) (q : Int × Int), l[k]? = some q → q.1 ≤ xs k ∧ xs k ≤ q.2
  | [], xs, _, _ => ⟨[], List.mem_cons_self, fun k q h => by simp at h⟩
  | d :: ds, xs, hx, h => by
    simp only [List.all_cons, Bool.and_eq_true] at h
    obtain ⟨q, hq, h1⟩ := zcov_ok d _ (xs 0) h.1 (hx 0).1 (hx 0).2
    obtain ⟨l, hl, h2⟩ := zprod_ok ds (fun k => xs (k + 1)) (fun k => hx (k + 1)) h.2
    refine ⟨q :: l, List.mem_flatMap.mpr ⟨q, hq, List.mem_map.mpr ⟨l, hl, rfl⟩⟩, fun k p hp => ?_⟩
    cases k with
    | zero => cases hp; exact h1
    | succ k => exact h2 k p hp
theorem z_rng (x : Int32) : -2147483648 ≤ x.toInt ∧ x.toInt ≤ 2147483647 := by
  have h1 := Int32.le_toInt x
  have h2 := Int32.toInt_lt x
  constructor <;> omega
/-- some bounds of the case fit the script -/
theorem zfitC {ds : List (List (Int × Int))} {q : Int × Int} (hk : (zprod ds).all (zcase q) = true) (hc : ds.all (fun d => zcov d (-2147483648)) = true) {rh : Nat → Int32} (h7 : q.1 ≤ (rh 7).toInt ∧ (rh 7).toInt ≤ q.2) (h20 : (rh 20).toInt = 1) : ∃ l, zcase q l = true ∧ zEnv (zbdC q l) rh := by
  obtain ⟨l, hl, h⟩ := zprod_ok ds (fun k => (rh k).toInt) (fun k => z_rng _) hc
  refine ⟨l, List.all_eq_true.mp hk l hl, fun k => ?_⟩
  unfold zbdC
  cases h1 : Nat.beq k 7 with
  | true =>
    rw [cond_true, Nat.eq_of_beq_eq_true h1]
    exact h7
  | false =>
    rw [cond_false]
    cases h2 : Nat.beq k 20 with
    | true =>
      rw [cond_true, Nat.eq_of_beq_eq_true h2, h20]
      exact ⟨Int.le_refl _, Int.le_refl _⟩
    | false =>
      rw [cond_false]
      split
      · rename_i b hb
        rw [zn_eq] at hb
        exact h k b hb
      · exact z_rng _
end ZCASE
end
section
def zD24 : List (List (Int × Int)) := [[(-2147483648, 2147483647)], [(-2147483648, 0), (1, 1), (2, 2), (3, 3), (4, 4), (5, 5), (6, 6), (7, 2147483647)], [(-2147483648, -2), (-1, 2147483647)]]
theorem zv24 : zD24.all (fun d => zcov d (-2147483648)) = true := by decide +kernel
theorem zk24_0 : zcase (24, 24) [(-2147483648, 2147483647), (-2147483648, 0), (-2147483648, -2)] = true := by decide +kernel
theorem zk24_1 : zcase (24, 24) [(-2147483648, 2147483647), (-2147483648, 0), (-1, 2147483647)] = true := by decide +kernel
theorem zk24_2 : zcase (24, 24) [(-2147483648, 2147483647), (1, 1), (-2147483648, -2)] = true := by decide +kernel
theorem zk24_3 : zcase (24, 24) [(-2147483648, 2147483647), (1, 1), (-1, 2147483647)] = true := by decide +kernel
theorem zk24_4 : zcase (24, 24) [(-2147483648, 2147483647), (2, 2), (-2147483648, -2)] = true := by decide +kernel
end
section
theorem zk24_5 : zcase (24, 24) [(-2147483648, 2147483647), (2, 2), (-1, 2147483647)] = true := by decide +kernel
theorem zk24_6 : zcase (24, 24) [(-2147483648, 2147483647), (3, 3), (-2147483648, -2)] = true := by decide +kernel
end
section
theorem zk24_7 : zcase (24, 24) [(-2147483648, 2147483647), (3, 3), (-1, 2147483647)] = true := by decide +kernel
theorem zk24_8 : zcase (24, 24) [(-2147483648, 2147483647), (4, 4), (-2147483648, -2)] = true := by decide +kernel
end
section
theorem zk24_9 : zcase (24, 24) [(-2147483648, 2147483647), (4, 4), (-1, 2147483647)] = true := by decide +kernel
end
section
theorem zk24_10 : zcase (24, 24) [(-2147483648, 2147483647), (5, 5), (-2147483648, -2)] = true := by decide +kernel
end
section
theorem zk24_11 : zcase (24, 24) [(-2147483648, 2147483647), (5, 5), (-1, 2147483647)] = true := by decide +kernel
end
section
theorem zk24_12 : zcase (24, 24) [(-2147483648, 2147483647), (6, 6), (-2147483648, -2)] = true := by decide +kernel
end
section
theorem zk24_13 : zcase (24, 24) [(-2147483648, 2147483647), (6, 6), (-1, 2147483647)] = true := by decide +kernel
end
section
theorem zk24_14 : zcase (24, 24) [(-2147483648, 2147483647), (7, 2147483647), (-2147483648, -2)] = true := by decide +kernel
theorem zk24_15 : zcase (24, 24) [(-2147483648, 2147483647), (7, 2147483647), (-1, 2147483647)] = true := by decide +kernel
theorem zk24 : (zprod zD24).all (zcase (24, 24)) = true := by
  rw [show zprod zD24 = [[(-2147483648, 2147483647), (-2147483648, 0), (-2147483648, -2)], [(-2147483648, 2147483647), (-2147483648, 0), (-1, 2147483647)], [(-2147483648, 2147483647), (1, 1), (-2147483648, -2)], [(-2147483648, 2147483647), (1, 1), (-1, 2147483647)], [(-2147483648, 2147483647), (2, 2), (-2147483648, -2)], [(-2147483648, 2147483647), (2, 2), (-1, 2147483647)], [(-2147483648, 2147483647), (3, 3), (-2147483648, -2)], [(-2147483648, 2147483647), (3, 3), (-1, 2147483647)], [(-2147483648, 2147483647), (4, 4), (-2147483648, -2)], [(-2147483648, 2147483647), (4, 4), (-1, 2147483647)], [(-2147483648, 2147483647), (5, 5), (-2147483648, -2)], [(-2147483648, 2147483647), (5, 5), (-1, 2147483647)], [(-2147483648, 2147483647), (6, 6), (-2147483648, -2)], [(-2147483648, 2147483647), (6, 6), (-1, 2147483647)], [(-2147483648, 2147483647), (7, 2147483647), (-2147483648, -2)], [(-2147483648, 2147483647), (7, 2147483647), (-1, 2147483647)]] by decide +kernel]
  simp only [List.all_cons, List.all_nil, zk24_0, zk24_1, zk24_2, zk24_3, zk24_4, zk24_5, zk24_6, zk24_7, zk24_8, zk24_9, zk24_10, zk24_11, zk24_12, zk24_13, zk24_14, zk24_15, Bool.and_self]
def zD1 : List (List (Int × Int)) := [[(-2147483648, 2147483647)]]
theorem zv1 : zD1.all (fun d => zcov d (-2147483648)) = true := by decide +kernel
theorem zk1 : (zprod zD1).all (zcase (1, 1)) = true := by decide +kernel
def zD2 : List (List (Int × Int)) := [[(-2147483648, 2147483647)]]
theorem zv2 : zD2.all (fun d => zcov d (-2147483648)) = true := by decide +kernel
theorem zk2 : (zprod zD2).all (zcase (2, 2)) = true := by decide +kernel
def zD3 : List (List (Int × Int)) := [[(-2147483648, 2147483647)]]
theorem zv3 : zD3.all (fun d => zcov d (-2147483648)) = true := by decide +kernel
theorem zk3 : (zprod zD3).all (zcase (3, 3)) = true := by decide +kernel
def zD4 : List (List (Int × Int)) := [[(-2147483648, 2147483647)], [(-2147483648, -1), (0, 2147483647)], [(-2147483648, 2147483647)]]
theorem zv4 : zD4.all (fun d => zcov d (-2147483648)) = true := by decide +kernel
theorem zk4 : (zprod zD4).all (zcase (4, 4)) = true := by decide +kernel
def zD5 : List (List (Int × Int)) := [[(-2147483648, 2147483647)], [(-2147483648, -1), (0, 0), (1, 1), (2, 2147483647)], [(-2147483648, -1), (0, 2147483647)]]
theorem zv5 : zD5.all (fun d => zcov d (-2147483648)) = true := by decide +kernel
theorem zk5 : (zprod zD5).all (zcase (5, 5)) = true := by decide +kernel
def zD6 : List (List (Int × Int)) := [[(-2147483648, 2147483647)], [(-2147483648, -1), (0, 2147483647)]]
theorem zv6 : zD6.all (fun d => zcov d (-2147483648)) = true := by decide +kernel
theorem zk6 : (zprod zD6).all (zcase (6, 6)) = true := by decide +kernel
def zD7 : List (List (Int × Int)) := [[(-2147483648, 2147483647)], [(-2147483648, -1), (0, 2147483647)], [(-2147483648, 2147483647)]]
theorem zv7 : zD7.all (fun d => zcov d (-2147483648)) = true := by decide +kernel
theorem zk7 : (zprod zD7).all (zcase (7, 7)) = true := by decide +kernel
end
section
def zD8 : List (List (Int × Int)) := [[(-2147483648, 2147483647)], [(-2147483648, 0), (1, 1000), (1001, 2147483647)]]
theorem zv8 : zD8.all (fun d => zcov d (-2147483648)) = true := by decide +kernel
theorem zk8 : (zprod zD8).all (zcase (8, 8)) = true := by decide +kernel
end
section
def zD9 : List (List (Int × Int)) := [[(-2147483648, 2147483647)], [(-2147483648, -1), (0, 0), (1, 1), (2, 2), (3, 2147483647)]]
theorem zv9 : zD9.all (fun d => zcov d (-2147483648)) = true := by decide +kernel
theorem zk9 : (zprod zD9).all (zcase (9, 9)) = true := by decide +kernel
def zD10 : List (List (Int × Int)) := [[(-2147483648, 2147483647)]]
theorem zv10 : zD10.all (fun d => zcov d (-2147483648)) = true := by decide +kernel
theorem zk10 : (zprod zD10).all (zcase (10, 10)) = true := by decide +kernel
def zD11 : List (List (Int × Int)) := [[(-2147483648, 2147483647)]]
theorem zv11 : zD11.all (fun d => zcov d (-2147483648)) = true := by decide +kernel
theorem zk11 : (zprod zD11).all (zcase (11, 11)) = true := by decide +kernel
def zD12 : List (List (Int × Int)) := [[(-2147483648, 2147483647)], [(-2147483648, -1), (0, 0), (1, 1), (2, 2), (3, 3), (4, 2147483647)]]
theorem zv12 : zD12.all (fun d => zcov d (-2147483648)) = true := by decide +kernel
theorem zk12_0 : zcase (12, 12) [(-2147483648, 2147483647), (-2147483648, -1)] = true := by decide +kernel
end
section
theorem zk12_1 : zcase (12, 12) [(-2147483648, 2147483647), (0, 0)] = true := by decide +kernel
end
section
theorem zk12_2 : zcase (12, 12) [(-2147483648, 2147483647), (1, 1)] = true := by decide +kernel
end
section
theorem zk12_3 : zcase (12, 12) [(-2147483648, 2147483647), (2, 2)] = true := by decide +kernel
end
section
theorem zk12_4 : zcase (12, 12) [(-2147483648, 2147483647), (3, 3)] = true := by decide +kernel
theorem zk12_5 : zcase (12, 12) [(-2147483648, 2147483647), (4, 2147483647)] = true := by decide +kernel
theorem zk12 : (zprod zD12).all (zcase (12, 12)) = true := by
  rw [show zprod zD12 = [[(-2147483648, 2147483647), (-2147483648, -1)], [(-2147483648, 2147483647), (0, 0)], [(-2147483648, 2147483647), (1, 1)], [(-2147483648, 2147483647), (2, 2)], [(-2147483648, 2147483647), (3, 3)], [(-2147483648, 2147483647), (4, 2147483647)]] by decide +kernel]
  simp only [List.all_cons, List.all_nil, zk12_0, zk12_1, zk12_2, zk12_3, zk12_4, zk12_5, Bool.and_self]
def zD13 : List (List (Int × Int)) := [[(-2147483648, 2147483647)], [(-2147483648, -1), (0, 6), (7, 2147483647)]]
theorem zv13 : zD13.all (fun d => zcov d (-2147483648)) = true := by decide +kernel
theorem zk13 : (zprod zD13).all (zcase (13, 13)) = true := by decide +kernel
def zD14 : List (List (Int × Int)) := [[(-2147483648, 2147483647)], [(-2147483648, 2147483647)], [(-2147483648, 2147483647)]]
theorem zv14 : zD14.all (fun d => zcov d (-2147483648)) = true := by decide +kernel
theorem zk14 : (zprod zD14).all (zcase (14, 14)) = true := by decide +kernel
def zD15 : List (List (Int × Int)) := [[(-2147483648, 2147483647)], [(-2147483648, -1), (0, 2), (3, 2147483647)]]
theorem zv15 : zD15.all (fun d => zcov d (-2147483648)) = true := by decide +kernel
theorem zk15 : (zprod zD15).all (zcase (15, 15)) = true := by decide +kernel
def zD16 : List (List (Int × Int)) := [[(-2147483648, 2147483647)], [(-2147483648, -1), (0, 2147483647)], [(-2147483648, 2147483647)]]
theorem zv16 : zD16.all (fun d => zcov d (-2147483648)) = true := by decide +kernel
theorem zk16 : (zprod zD16).all (zcase (16, 16)) = true := by decide +kernel
def zD17 : List (List (Int × Int)) := [[(-2147483648, 2147483647)], [(-2147483648, 0), (1, 20), (21, 2147483647)], [(-2147483648, -1), (0, 3), (4, 2147483647)]]
theorem zv17 : zD17.all (fun d => zcov d (-2147483648)) = true := by decide +kernel
theorem zk17 : (zprod zD17).all (zcase (17, 17)) = true := by decide +kernel
def zD18 : List (List (Int × Int)) := [[(-2147483648, 2147483647)], [(-2147483648, -1), (0, 2147483647)], [(-2147483648, 2147483647)], [(-2147483648, 2147483647)]]
theorem zv18 : zD18.all (fun d => zcov d (-2147483648)) = true := by decide +kernel
theorem zk18 : (zprod zD18).all (zcase (18, 18)) = true := by decide +kernel
end
section
def zD19 : List (List (Int × Int)) := [[(-2147483648, 2147483647)], [(-2147483648, -1), (0, 0), (1, 1), (2, 2147483647)]]
theorem zv19 : zD19.all (fun d => zcov d (-2147483648)) = true := by decide +kernel
theorem zk19 : (zprod zD19).all (zcase (19, 19)) = true := by decide +kernel
def zD20 : List (List (Int × Int)) := [[(-2147483648, 2147483647)], [(-2147483648, -1), (0, 0), (1, 1), (2, 2), (3, 2147483647)]]
theorem zv20 : zD20.all (fun d => zcov d (-2147483648)) = true := by decide +kernel
theorem zk20_0 : zcase (20, 20) [(-2147483648, 2147483647), (-2147483648, -1)] = true := by decide +kernel
theorem zk20_1 : zcase (20, 20) [(-2147483648, 2147483647), (0, 0)] = true := by decide +kernel
end
section
theorem zk20_2 : zcase (20, 20) [(-2147483648, 2147483647), (1, 1)] = true := by decide +kernel
end
section
theorem zk20_3 : zcase (20, 20) [(-2147483648, 2147483647), (2, 2)] = true := by decide +kernel
theorem zk20_4 : zcase (20, 20) [(-2147483648, 2147483647), (3, 2147483647)] = true := by decide +kernel
theorem zk20 : (zprod zD20).all (zcase (20, 20)) = true := by
  rw [show zprod zD20 = [[(-2147483648, 2147483647), (-2147483648, -1)], [(-2147483648, 2147483647), (0, 0)], [(-2147483648, 2147483647), (1, 1)], [(-2147483648, 2147483647), (2, 2)], [(-2147483648, 2147483647), (3, 2147483647)]] by decide +kernel]
  simp only [List.all_cons, List.all_nil, zk20_0, zk20_1, zk20_2, zk20_3, zk20_4, Bool.and_self]
def zD21 : List (List (Int × Int)) := [[(-2147483648, 2147483647)]]
theorem zv21 : zD21.all (fun d => zcov d (-2147483648)) = true := by decide +kernel
theorem zk21 : (zprod zD21).all (zcase (21, 21)) = true := by decide +kernel
def zD22 : List (List (Int × Int)) := [[(-2147483648, 2147483647)], [(-2147483648, -1), (0, 0), (1, 1), (2, 2147483647)], [(-2147483648, 0), (1, 100), (101, 2147483647)]]
theorem zv22 : zD22.all (fun d => zcov d (-2147483648)) = true := by decide +kernel
theorem zk22_0 : zcase (22, 22) [(-2147483648, 2147483647), (-2147483648, -1), (-2147483648, 0)] = true := by decide +kernel
theorem zk22_1 : zcase (22, 22) [(-2147483648, 2147483647), (-2147483648, -1), (1, 100)] = true := by decide +kernel
theorem zk22_2 : zcase (22, 22) [(-2147483648, 2147483647), (-2147483648, -1), (101, 2147483647)] = true := by decide +kernel
theorem zk22_3 : zcase (22, 22) [(-2147483648, 2147483647), (0, 0), (-2147483648, 0)] = true := by decide +kernel
end
section
theorem zk22_4 : zcase (22, 22) [(-2147483648, 2147483647), (0, 0), (1, 100)] = true := by decide +kernel
theorem zk22_5 : zcase (22, 22) [(-2147483648, 2147483647), (0, 0), (101, 2147483647)] = true := by decide +kernel
theorem zk22_6 : zcase (22, 22) [(-2147483648, 2147483647), (1, 1), (-2147483648, 0)] = true := by decide +kernel
end
section
theorem zk22_7 : zcase (22, 22) [(-2147483648, 2147483647), (1, 1), (1, 100)] = true := by decide +kernel
theorem zk22_8 : zcase (22, 22) [(-2147483648, 2147483647), (1, 1), (101, 2147483647)] = true := by decide +kernel
theorem zk22_9 : zcase (22, 22) [(-2147483648, 2147483647), (2, 2147483647), (-2147483648, 0)] = true := by decide +kernel
theorem zk22_10 : zcase (22, 22) [(-2147483648, 2147483647), (2, 2147483647), (1, 100)] = true := by decide +kernel
theorem zk22_11 : zcase (22, 22) [(-2147483648, 2147483647), (2, 2147483647), (101, 2147483647)] = true := by decide +kernel
theorem zk22 : (zprod zD22).all (zcase (22, 22)) = true := by
  rw [show zprod zD22 = [[(-2147483648, 2147483647), (-2147483648, -1), (-2147483648, 0)], [(-2147483648, 2147483647), (-2147483648, -1), (1, 100)], [(-2147483648, 2147483647), (-2147483648, -1), (101, 2147483647)], [(-2147483648, 2147483647), (0, 0), (-2147483648, 0)], [(-2147483648, 2147483647), (0, 0), (1, 100)], [(-2147483648, 2147483647), (0, 0), (101, 2147483647)], [(-2147483648, 2147483647), (1, 1), (-2147483648, 0)], [(-2147483648, 2147483647), (1, 1), (1, 100)], [(-2147483648, 2147483647), (1, 1), (101, 2147483647)], [(-2147483648, 2147483647), (2, 2147483647), (-2147483648, 0)], [(-2147483648, 2147483647), (2, 2147483647), (1, 100)], [(-2147483648, 2147483647), (2, 2147483647), (101, 2147483647)]] by decide +kernel]
  simp only [List.all_cons, List.all_nil, zk22_0, zk22_1, zk22_2, zk22_3, zk22_4, zk22_5, zk22_6, zk22_7, zk22_8, zk22_9, zk22_10, zk22_11, Bool.and_self]
def zD23 : List (List (Int × Int)) := [[(-2147483648, 2147483647)], [(-2147483648, -1), (0, 0), (1, 1), (2, 2147483647)]]
theorem zv23 : zD23.all (fun d => zcov d (-2147483648)) = true := by decide +kernel
theorem zk23_0 : zcase (23, 23) [(-2147483648, 2147483647), (-2147483648, -1)] = true := by decide +kernel
end
section
theorem zk23_1 : zcase (23, 23) [(-2147483648, 2147483647), (0, 0)] = true := by decide +kernel
end
section
theorem zk23_2 : zcase (23, 23) [(-2147483648, 2147483647), (1, 1)] = true := by decide +kernel
theorem zk23_3 : zcase (23, 23) [(-2147483648, 2147483647), (2, 2147483647)] = true := by decide +kernel
theorem zk23 : (zprod zD23).all (zcase (23, 23)) = true := by
  rw [show zprod zD23 = [[(-2147483648, 2147483647), (-2147483648, -1)], [(-2147483648, 2147483647), (0, 0)], [(-2147483648, 2147483647), (1, 1)], [(-2147483648, 2147483647), (2, 2147483647)]] by decide +kernel]
  simp only [List.all_cons, List.all_nil, zk23_0, zk23_1, zk23_2, zk23_3, Bool.and_self]
def zD25 : List (List (Int × Int)) := [[(-2147483648, 2147483647)], [(-2147483648, 0), (1, 1), (2, 2), (3, 3), (4, 4), (5, 2147483647)]]
theorem zv25 : zD25.all (fun d => zcov d (-2147483648)) = true := by decide +kernel
theorem zk25_0 : zcase (25, 25) [(-2147483648, 2147483647), (-2147483648, 0)] = true := by decide +kernel
end
section
theorem zk25_1 : zcase (25, 25) [(-2147483648, 2147483647), (1, 1)] = true := by decide +kernel
theorem zk25_2 : zcase (25, 25) [(-2147483648, 2147483647), (2, 2)] = true := by decide +kernel
theorem zk25_3 : zcase (25, 25) [(-2147483648, 2147483647), (3, 3)] = true := by decide +kernel
theorem zk25_4 : zcase (25, 25) [(-2147483648, 2147483647), (4, 4)] = true := by decide +kernel
theorem zk25_5 : zcase (25, 25) [(-2147483648, 2147483647), (5, 2147483647)] = true := by decide +kernel
theorem zk25 : (zprod zD25).all (zcase (25, 25)) = true := by
  rw [show zprod zD25 = [[(-2147483648, 2147483647), (-2147483648, 0)], [(-2147483648, 2147483647), (1, 1)], [(-2147483648, 2147483647), (2, 2)], [(-2147483648, 2147483647), (3, 3)], [(-2147483648, 2147483647), (4, 4)], [(-2147483648, 2147483647), (5, 2147483647)]] by decide +kernel]
  simp only [List.all_cons, List.all_nil, zk25_0, zk25_1, zk25_2, zk25_3, zk25_4, zk25_5, Bool.and_self]
def zD26 : List (List (Int × Int)) := [[(-2147483648, 2147483647)], [(-2147483648, -1), (0, 0), (1, 1), (2, 2), (3, 3), (4, 2147483647)]]
theorem zv26 : zD26.all (fun d => zcov d (-2147483648)) = true := by decide +kernel
theorem zk26 : (zprod zD26).all (zcase (26, 26)) = true := by decide +kernel
def zD27 : List (List (Int × Int)) := [[(-2147483648, 2147483647)], [(-2147483648, -1), (0, 2147483647)]]
theorem zv27 : zD27.all (fun d => zcov d (-2147483648)) = true := by decide +kernel
theorem zk27 : (zprod zD27).all (zcase (27, 27)) = true := by decide +kernel
def zD28 : List (List (Int × Int)) := [[(-2147483648, 2147483647)]]
theorem zv28 : zD28.all (fun d => zcov d (-2147483648)) = true := by decide +kernel
theorem zk28 : (zprod zD28).all (zcase (28, 28)) = true := by decide +kernel
def zD29 : List (List (Int × Int)) := [[(-2147483648, 2147483647)]]
theorem zv29 : zD29.all (fun d => zcov d (-2147483648)) = true := by decide +kernel
theorem zk29 : (zprod zD29).all (zcase (29, 29)) = true := by decide +kernel
def zD30 : List (List (Int × Int)) := [[(-2147483648, 2147483647)], [(-2147483648, -1), (0, 9999), (10000, 2147483647)]]
theorem zv30 : zD30.all (fun d => zcov d (-2147483648)) = true := by decide +kernel
theorem zk30 : (zprod zD30).all (zcase (30, 30)) = true := by decide +kernel
end
section
def zD31 : List (List (Int × Int)) := [[(-2147483648, 2147483647)], [(-2147483648, -1), (0, 9999), (10000, 2147483647)], [(-2147483648, 0), (1, 50), (51, 2147483647)], [(-2147483648, -1), (0, 3), (4, 2147483647)]]
theorem zv31 : zD31.all (fun d => zcov d (-2147483648)) = true := by decide +kernel
theorem zk31 : (zprod zD31).all (zcase (31, 31)) = true := by decide +kernel
def zD32 : List (List (Int × Int)) := [[(-2147483648, 2147483647)], [(-2147483648, -1), (0, 9999), (10000, 2147483647)], [(-2147483648, 0), (1, 200), (201, 2147483647)], [(-2147483648, -2), (-1, 2147483647)]]
theorem zv32 : zD32.all (fun d => zcov d (-2147483648)) = true := by decide +kernel
theorem zk32 : (zprod zD32).all (zcase (32, 32)) = true := by decide +kernel
def zD33 : List (List (Int × Int)) := [[(-2147483648, 2147483647)], [(-2147483648, -1), (0, 0), (1, 1), (2, 2), (3, 3), (4, 2147483647)], [(-2147483648, -1), (0, 0), (1, 2147483647)]]
theorem zv33 : zD33.all (fun d => zcov d (-2147483648)) = true := by decide +kernel
theorem zk33_0 : zcase (33, 33) [(-2147483648, 2147483647), (-2147483648, -1), (-2147483648, -1)] = true := by decide +kernel
theorem zk33_1 : zcase (33, 33) [(-2147483648, 2147483647), (-2147483648, -1), (0, 0)] = true := by decide +kernel
theorem zk33_2 : zcase (33, 33) [(-2147483648, 2147483647), (-2147483648, -1), (1, 2147483647)] = true := by decide +kernel
theorem zk33_3 : zcase (33, 33) [(-2147483648, 2147483647), (0, 0), (-2147483648, -1)] = true := by decide +kernel
theorem zk33_4 : zcase (33, 33) [(-2147483648, 2147483647), (0, 0), (0, 0)] = true := by decide +kernel
theorem zk33_5 : zcase (33, 33) [(-2147483648, 2147483647), (0, 0), (1, 2147483647)] = true := by decide +kernel
theorem zk33_6 : zcase (33, 33) [(-2147483648, 2147483647), (1, 1), (-2147483648, -1)] = true := by decide +kernel
end
section
theorem zk33_7 : zcase (33, 33) [(-2147483648, 2147483647), (1, 1), (0, 0)] = true := by decide +kernel
theorem zk33_8 : zcase (33, 33) [(-2147483648, 2147483647), (1, 1), (1, 2147483647)] = true := by decide +kernel
theorem zk33_9 : zcase (33, 33) [(-2147483648, 2147483647), (2, 2), (-2147483648, -1)] = true := by decide +kernel
end
section
theorem zk33_10 : zcase (33, 33) [(-2147483648, 2147483647), (2, 2), (0, 0)] = true := by decide +kernel
theorem zk33_11 : zcase (33, 33) [(-2147483648, 2147483647), (2, 2), (1, 2147483647)] = true := by decide +kernel
theorem zk33_12 : zcase (33, 33) [(-2147483648, 2147483647), (3, 3), (-2147483648, -1)] = true := by decide +kernel
end
section
theorem zk33_13 : zcase (33, 33) [(-2147483648, 2147483647), (3, 3), (0, 0)] = true := by decide +kernel
theorem zk33_14 : zcase (33, 33) [(-2147483648, 2147483647), (3, 3), (1, 2147483647)] = true := by decide +kernel
theorem zk33_15 : zcase (33, 33) [(-2147483648, 2147483647), (4, 2147483647), (-2147483648, -1)] = true := by decide +kernel
theorem zk33_16 : zcase (33, 33) [(-2147483648, 2147483647), (4, 2147483647), (0, 0)] = true := by decide +kernel
theorem zk33_17 : zcase (33, 33) [(-2147483648, 2147483647), (4, 2147483647), (1, 2147483647)] = true := by decide +kernel
theorem zk33 : (zprod zD33).all (zcase (33, 33)) = true := by
  rw [show zprod zD33 = [[(-2147483648, 2147483647), (-2147483648, -1), (-2147483648, -1)], [(-2147483648, 2147483647), (-2147483648, -1), (0, 0)], [(-2147483648, 2147483647), (-2147483648, -1), (1, 2147483647)], [(-2147483648, 2147483647), (0, 0), (-2147483648, -1)], [(-2147483648, 2147483647), (0, 0), (0, 0)], [(-2147483648, 2147483647), (0, 0), (1, 2147483647)], [(-2147483648, 2147483647), (1, 1), (-2147483648, -1)], [(-2147483648, 2147483647), (1, 1), (0, 0)], [(-2147483648, 2147483647), (1, 1), (1, 2147483647)], [(-2147483648, 2147483647), (2, 2), (-2147483648, -1)], [(-2147483648, 2147483647), (2, 2), (0, 0)], [(-2147483648, 2147483647), (2, 2), (1, 2147483647)], [(-2147483648, 2147483647), (3, 3), (-2147483648, -1)], [(-2147483648, 2147483647), (3, 3), (0, 0)], [(-2147483648, 2147483647), (3, 3), (1, 2147483647)], [(-2147483648, 2147483647), (4, 2147483647), (-2147483648, -1)], [(-2147483648, 2147483647), (4, 2147483647), (0, 0)], [(-2147483648, 2147483647), (4, 2147483647), (1, 2147483647)]] by decide +kernel]
  simp only [List.all_cons, List.all_nil, zk33_0, zk33_1, zk33_2, zk33_3, zk33_4, zk33_5, zk33_6, zk33_7, zk33_8, zk33_9, zk33_10, zk33_11, zk33_12, zk33_13, zk33_14, zk33_15, zk33_16, zk33_17, Bool.and_self]
def zD34 : List (List (Int × Int)) := [[(-2147483648, 2147483647)], [(-2147483648, -1), (0, 0), (1, 1), (2, 2), (3, 3), (4, 4), (5, 5), (6, 6), (7, 7), (8, 8), (9, 9), (10, 10), (11, 11), (12, 12), (13, 13), (14, 14), (15, 15), (16, 16), (17, 17), (18, 18), (19, 2147483647)]]
theorem zv34 : zD34.all (fun d => zcov d (-2147483648)) = true := by decide +kernel
theorem zk34 : (zprod zD34).all (zcase (34, 34)) = true := by decide +kernel
def zD35 : List (List (Int × Int)) := []
theorem zk35 : (zprod zD35).all (zcase (35, 63)) = true := by decide +kernel
theorem zv35 : zD35.all (fun d => zcov d (-2147483648)) = true := by decide +kernel
end
section
/-! each method: its words by their places, its instructions by its bytes -/
def zokM (M : ZMI) : Prop := zEok zAl zmt M ∧ (M.2.2.2.2.1 ≤ 2 → zMok zAl M)
end
section
theorem zq0 : zwM zmt zm0 = [133, 339, 341, 334, 345, 334, 346, 334, 347].filterMap (fun p => lw_tbl[p]?) := by decide +kernel
theorem zg0 : ((zwM zmt zm0).all goodWord && zbM zmt zm0) = true := by decide +kernel
theorem zd0 : ∀ r ∈ ze0, ∀ e ∈ r, decode cX0_init e.1 = .ok (e.2.1, zlen e.2.1 e.2.2.1) := by decide +kernel
theorem zc0 : lw_tbl[340]? = some (Cond.code zm0.1 zm0.2.1 zm0.2.2.1 zm0.2.2.2.1) := by decide +kernel
theorem zo0 : zokM zm0 := by
  have h := Bool.and_eq_true .. ▸ zg0
  exact zM_ok (zin_of _ zq0 h.1) h.2 zd0 (fun _ => List.mem_filter.mpr ⟨List.mem_of_getElem? zc0, rfl⟩)
theorem zq1 : zwM zmt zm1 = [133, 966, 967, 342].filterMap (fun p => lw_tbl[p]?) := by decide +kernel
theorem zg1 : ((zwM zmt zm1).all goodWord && zbM zmt zm1) = true := by decide +kernel
theorem zd1 : ∀ r ∈ ze1, ∀ e ∈ r, decode cX0_reset e.1 = .ok (e.2.1, zlen e.2.1 e.2.2.1) := by decide +kernel
theorem zc1 : lw_tbl[968]? = some (Cond.code zm1.1 zm1.2.1 zm1.2.2.1 zm1.2.2.2.1) := by decide +kernel
theorem zo1 : zokM zm1 := by
  have h := Bool.and_eq_true .. ▸ zg1
  exact zM_ok (zin_of _ zq1 h.1) h.2 zd1 (fun _ => List.mem_filter.mpr ⟨List.mem_of_getElem? zc1, rfl⟩)
theorem zq2 : zwM zmt zm2 = [133, 1443, 1444, 342].filterMap (fun p => lw_tbl[p]?) := by decide +kernel
theorem zg2 : ((zwM zmt zm2).all goodWord && zbM zmt zm2) = true := by decide +kernel
theorem zd2 : ∀ r ∈ ze2, ∀ e ∈ r, decode cX0_fitting e.1 = .ok (e.2.1, zlen e.2.1 e.2.2.1) := by decide +kernel
theorem zc2 : lw_tbl[1445]? = some (Cond.code zm2.1 zm2.2.1 zm2.2.2.1 zm2.2.2.2.1) := by decide +kernel
theorem zo2 : zokM zm2 := by
  have h := Bool.and_eq_true .. ▸ zg2
  exact zM_ok (zin_of _ zq2 h.1) h.2 zd2 (fun _ => List.mem_filter.mpr ⟨List.mem_of_getElem? zc2, rfl⟩)
theorem zq3 : zwM zmt zm3 = [138, 567, 569, 570, 397, 136, 572, 251, 589].filterMap (fun p => lw_tbl[p]?) := by decide +kernel
theorem zg3 : ((zwM zmt zm3).all goodWord && zbM zmt zm3) = true := by decide +kernel
theorem zd3 : ∀ r ∈ ze3, ∀ e ∈ r, decode cX1_init e.1 = .ok (e.2.1, zlen e.2.1 e.2.2.1) := by decide +kernel
theorem zc3 : lw_tbl[568]? = some (Cond.code zm3.1 zm3.2.1 zm3.2.2.1 zm3.2.2.2.1) := by decide +kernel
theorem zo3 : zokM zm3 := by
  have h := Bool.and_eq_true .. ▸ zg3
  exact zM_ok (zin_of _ zq3 h.1) h.2 zd3 (fun _ => List.mem_filter.mpr ⟨List.mem_of_getElem? zc3, rfl⟩)
theorem zq4 : zwM zmt zm4 = [138, 1176, 1177, 1179, 572, 436, 572, 419, 572, 448, 1183, 572, 1211, 572, 444, 572, 436, 1212].filterMap (fun p => lw_tbl[p]?) := by decide +kernel
theorem zg4 : ((zwM zmt zm4).all goodWord && zbM zmt zm4) = true := by decide +kernel
theorem zd4 : ∀ r ∈ ze4, ∀ e ∈ r, decode cX1_go e.1 = .ok (e.2.1, zlen e.2.1 e.2.2.1) := by decide +kernel
theorem zc4 : lw_tbl[1178]? = some (Cond.code zm4.1 zm4.2.1 zm4.2.2.1 zm4.2.2.2.1) := by decide +kernel
theorem zo4 : zokM zm4 := by
  have h := Bool.and_eq_true .. ▸ zg4
  exact zM_ok (zin_of _ zq4 h.1) h.2 zd4 (fun _ => List.mem_filter.mpr ⟨List.mem_of_getElem? zc4, rfl⟩)
theorem zq5 : zwM zmt zm5 = [138, 1214, 39, 576, 580, 583, 585].filterMap (fun p => lw_tbl[p]?) := by decide +kernel
theorem zg5 : ((zwM zmt zm5).all goodWord && zbM zmt zm5) = true := by decide +kernel
theorem zd5 : ∀ r ∈ ze5, ∀ e ∈ r, decode cX1_answer e.1 = .ok (e.2.1, zlen e.2.1 e.2.2.1) := by decide +kernel
theorem zc5 : lw_tbl[1215]? = some (Cond.code zm5.1 zm5.2.1 zm5.2.2.1 zm5.2.2.2.1) := by decide +kernel
theorem zo5 : zokM zm5 := by
  have h := Bool.and_eq_true .. ▸ zg5
  exact zM_ok (zin_of _ zq5 h.1) h.2 zd5 (fun _ => List.mem_filter.mpr ⟨List.mem_of_getElem? zc5, rfl⟩)
theorem zq6 : zwM zmt zm6 = [138, 1181, 32, 593, 251, 590, 334, 591, 334, 592, 251, 593, 587, 588, 588].filterMap (fun p => lw_tbl[p]?) := by decide +kernel
theorem zg6 : ((zwM zmt zm6).all goodWord && zbM zmt zm6) = true := by decide +kernel
theorem zd6 : ∀ r ∈ ze6, ∀ e ∈ r, decode cX1_forgetStates e.1 = .ok (e.2.1, zlen e.2.1 e.2.2.1) := by decide +kernel
theorem zc6 : lw_tbl[1182]? = some (Cond.code zm6.1 zm6.2.1 zm6.2.2.1 zm6.2.2.2.1) := by decide +kernel
theorem zo6 : zokM zm6 := by
  have h := Bool.and_eq_true .. ▸ zg6
  exact zM_ok (zin_of _ zq6 h.1) h.2 zd6 (fun _ => List.mem_filter.mpr ⟨List.mem_of_getElem? zc6, rfl⟩)
theorem zq7 : zwM zmt zm7 = [138, 1185, 33, 1187, 1196, 593, 588, 1203].filterMap (fun p => lw_tbl[p]?) := by decide +kernel
theorem zg7 : ((zwM zmt zm7).all goodWord && zbM zmt zm7) = true := by decide +kernel
theorem zd7 : ∀ r ∈ ze7, ∀ e ∈ r, decode cX1_noteState e.1 = .ok (e.2.1, zlen e.2.1 e.2.2.1) := by decide +kernel
theorem zc7 : lw_tbl[1186]? = some (Cond.code zm7.1 zm7.2.1 zm7.2.2.1 zm7.2.2.2.1) := by decide +kernel
theorem zo7 : zokM zm7 := by
  have h := Bool.and_eq_true .. ▸ zg7
  exact zM_ok (zin_of _ zq7 h.1) h.2 zd7 (fun _ => List.mem_filter.mpr ⟨List.mem_of_getElem? zc7, rfl⟩)
theorem zq8 : zwM zmt zm8 = [138, 1205, 37, 587, 590, 587, 589, 591, 587, 592, 587, 593, 588, 587, 587, 587].filterMap (fun p => lw_tbl[p]?) := by decide +kernel
theorem zg8 : ((zwM zmt zm8).all goodWord && zbM zmt zm8) = true := by decide +kernel
theorem zd8 : ∀ r ∈ ze8, ∀ e ∈ r, decode cX1_addState e.1 = .ok (e.2.1, zlen e.2.1 e.2.2.1) := by decide +kernel
theorem zc8 : lw_tbl[1206]? = some (Cond.code zm8.1 zm8.2.1 zm8.2.2.1 zm8.2.2.2.1) := by decide +kernel
theorem zo8 : zokM zm8 := by
  have h := Bool.and_eq_true .. ▸ zg8
  exact zM_ok (zin_of _ zq8 h.1) h.2 zd8 (fun _ => List.mem_filter.mpr ⟨List.mem_of_getElem? zc8, rfl⟩)
theorem zq9 : zwM zmt zm9 = [138, 1189, 34, 572, 408, 572, 408, 589, 572, 424, 589, 589].filterMap (fun p => lw_tbl[p]?) := by decide +kernel
theorem zg9 : ((zwM zmt zm9).all goodWord && zbM zmt zm9) = true := by decide +kernel
theorem zd9 : ∀ r ∈ ze9, ∀ e ∈ r, decode cX1_makeKey e.1 = .ok (e.2.1, zlen e.2.1 e.2.2.1) := by decide +kernel
theorem zc9 : lw_tbl[1190]? = some (Cond.code zm9.1 zm9.2.1 zm9.2.2.1 zm9.2.2.2.1) := by decide +kernel
theorem zo9 : zokM zm9 := by
  have h := Bool.and_eq_true .. ▸ zg9
  exact zM_ok (zin_of _ zq9 h.1) h.2 zd9 (fun _ => List.mem_filter.mpr ⟨List.mem_of_getElem? zc9, rfl⟩)
theorem zq10 : zwM zmt zm10 = [138, 1198, 36, 589, 1200, 589, 1201, 589, 1202].filterMap (fun p => lw_tbl[p]?) := by decide +kernel
theorem zg10 : ((zwM zmt zm10).all goodWord && zbM zmt zm10) = true := by decide +kernel
theorem zd10 : ∀ r ∈ ze10, ∀ e ∈ r, decode cX1_hashOfKey e.1 = .ok (e.2.1, zlen e.2.1 e.2.2.1) := by decide +kernel
theorem zc10 : lw_tbl[1199]? = some (Cond.code zm10.1 zm10.2.1 zm10.2.2.1 zm10.2.2.2.1) := by decide +kernel
theorem zo10 : zokM zm10 := by
  have h := Bool.and_eq_true .. ▸ zg10
  exact zM_ok (zin_of _ zq10 h.1) h.2 zd10 (fun _ => List.mem_filter.mpr ⟨List.mem_of_getElem? zc10, rfl⟩)
theorem zq11 : zwM zmt zm11 = [135, 393, 395, 396, 397, 136, 483, 334, 485, 334, 487, 334, 491, 334, 494, 334, 496, 334, 499, 334, 500, 334, 501].filterMap (fun p => lw_tbl[p]?) := by decide +kernel
theorem zg11 : ((zwM zmt zm11).all goodWord && zbM zmt zm11) = true := by decide +kernel
theorem zd11 : ∀ r ∈ ze11, ∀ e ∈ r, decode cX2_init e.1 = .ok (e.2.1, zlen e.2.1 e.2.2.1) := by decide +kernel
theorem zc11 : lw_tbl[394]? = some (Cond.code zm11.1 zm11.2.1 zm11.2.2.1 zm11.2.2.2.1) := by decide +kernel
theorem zo11 : zokM zm11 := by
  have h := Bool.and_eq_true .. ▸ zg11
  exact zM_ok (zin_of _ zq11 h.1) h.2 zd11 (fun _ => List.mem_filter.mpr ⟨List.mem_of_getElem? zc11, rfl⟩)
theorem zq12 : zwM zmt zm12 = [135, 749, 750, 489, 487, 487, 752].filterMap (fun p => lw_tbl[p]?) := by decide +kernel
theorem zg12 : ((zwM zmt zm12).all goodWord && zbM zmt zm12) = true := by decide +kernel
theorem zd12 : ∀ r ∈ ze12, ∀ e ∈ r, decode cX2_startEmpty e.1 = .ok (e.2.1, zlen e.2.1 e.2.2.1) := by decide +kernel
theorem zc12 : lw_tbl[751]? = some (Cond.code zm12.1 zm12.2.1 zm12.2.2.1 zm12.2.2.2.1) := by decide +kernel
theorem zo12 : zokM zm12 := by
  have h := Bool.and_eq_true .. ▸ zg12
  exact zM_ok (zin_of _ zq12 h.1) h.2 zd12 (fun _ => List.mem_filter.mpr ⟨List.mem_of_getElem? zc12, rfl⟩)
theorem zq13 : zwM zmt zm13 = [135, 1010, 1011, 1013, 487, 487, 489].filterMap (fun p => lw_tbl[p]?) := by decide +kernel
theorem zg13 : ((zwM zmt zm13).all goodWord && zbM zmt zm13) = true := by decide +kernel
theorem zd13 : ∀ r ∈ ze13, ∀ e ∈ r, decode cX2_dealRows e.1 = .ok (e.2.1, zlen e.2.1 e.2.2.1) := by decide +kernel
theorem zc13 : lw_tbl[1012]? = some (Cond.code zm13.1 zm13.2.1 zm13.2.2.1 zm13.2.2.2.1) := by decide +kernel
theorem zo13 : zokM zm13 := by
  have h := Bool.and_eq_true .. ▸ zg13
  exact zM_ok (zin_of _ zq13 h.1) h.2 zd13 (fun _ => List.mem_filter.mpr ⟨List.mem_of_getElem? zc13, rfl⟩)
theorem zq14 : zwM zmt zm14 = [135, 753, 754, 483, 282, 263, 756, 483, 485, 487, 760, 483, 485, 487, 760, 492, 493, 495, 497, 502, 504].filterMap (fun p => lw_tbl[p]?) := by decide +kernel
theorem zg14 : ((zwM zmt zm14).all goodWord && zbM zmt zm14) = true := by decide +kernel
theorem zd14 : ∀ r ∈ ze14, ∀ e ∈ r, decode cX2_startDealt e.1 = .ok (e.2.1, zlen e.2.1 e.2.2.1) := by decide +kernel
theorem zc14 : lw_tbl[755]? = some (Cond.code zm14.1 zm14.2.1 zm14.2.2.1 zm14.2.2.2.1) := by decide +kernel
theorem zo14 : zokM zm14 := by
  have h := Bool.and_eq_true .. ▸ zg14
  exact zM_ok (zin_of _ zq14 h.1) h.2 zd14 (fun _ => List.mem_filter.mpr ⟨List.mem_of_getElem? zc14, rfl⟩)
end
section
theorem zq15 : zwM zmt zm15 = [135, 1081, 1082, 483, 483, 1084, 485, 485, 1095, 487, 487, 487, 487, 489, 489, 491, 491, 1095, 492, 492, 493, 493, 494, 494, 1095, 495, 495, 496, 496, 1095, 497, 497, 499, 499, 1095, 500, 500, 1095, 501, 501, 1095, 502, 502, 504, 504].filterMap (fun p => lw_tbl[p]?) := by decide +kernel
theorem zg15 : ((zwM zmt zm15).all goodWord && zbM zmt zm15) = true := by decide +kernel
theorem zd15 : ∀ r ∈ ze15, ∀ e ∈ r, decode cX2_copyFrom e.1 = .ok (e.2.1, zlen e.2.1 e.2.2.1) := by decide +kernel
theorem zc15 : lw_tbl[1083]? = some (Cond.code zm15.1 zm15.2.1 zm15.2.2.1 zm15.2.2.2.1) := by decide +kernel
theorem zo15 : zokM zm15 := by
  have h := Bool.and_eq_true .. ▸ zg15
  exact zM_ok (zin_of _ zq15 h.1) h.2 zd15 (fun _ => List.mem_filter.mpr ⟨List.mem_of_getElem? zc15, rfl⟩)
theorem zq16 : zwM zmt zm16 = [135, 1069, 1070, 493].filterMap (fun p => lw_tbl[p]?) := by decide +kernel
theorem zg16 : ((zwM zmt zm16).all goodWord && zbM zmt zm16) = true := by decide +kernel
theorem zd16 : ∀ r ∈ ze16, ∀ e ∈ r, decode cX2_keptHeap e.1 = .ok (e.2.1, zlen e.2.1 e.2.2.1) := by decide +kernel
theorem zc16 : lw_tbl[1071]? = some (Cond.code zm16.1 zm16.2.1 zm16.2.2.1 zm16.2.2.2.1) := by decide +kernel
theorem zo16 : zokM zm16 := by
  have h := Bool.and_eq_true .. ▸ zg16
  exact zM_ok (zin_of _ zq16 h.1) h.2 zd16 (fun _ => List.mem_filter.mpr ⟨List.mem_of_getElem? zc16, rfl⟩)
theorem zq17 : zwM zmt zm17 = [135, 1097, 1098, 483, 446, 483, 1100, 1116].filterMap (fun p => lw_tbl[p]?) := by decide +kernel
theorem zg17 : ((zwM zmt zm17).all goodWord && zbM zmt zm17) = true := by decide +kernel
theorem zd17 : ∀ r ∈ ze17, ∀ e ∈ r, decode cX2_turnByHand e.1 = .ok (e.2.1, zlen e.2.1 e.2.2.1) := by decide +kernel
theorem zc17 : lw_tbl[1099]? = some (Cond.code zm17.1 zm17.2.1 zm17.2.2.1 zm17.2.2.2.1) := by decide +kernel
theorem zo17 : zokM zm17 := by
  have h := Bool.and_eq_true .. ▸ zg17
  exact zM_ok (zin_of _ zq17 h.1) h.2 zd17 (fun _ => List.mem_filter.mpr ⟨List.mem_of_getElem? zc17, rfl⟩)
theorem zq18 : zwM zmt zm18 = [135, 1149, 1150, 483, 446, 483, 411, 483, 425, 483, 450].filterMap (fun p => lw_tbl[p]?) := by decide +kernel
theorem zg18 : ((zwM zmt zm18).all goodWord && zbM zmt zm18) = true := by decide +kernel
theorem zd18 : ∀ r ∈ ze18, ∀ e ∈ r, decode cX2_canSlip e.1 = .ok (e.2.1, zlen e.2.1 e.2.2.1) := by decide +kernel
theorem zc18 : lw_tbl[1151]? = some (Cond.code zm18.1 zm18.2.1 zm18.2.2.1 zm18.2.2.2.1) := by decide +kernel
theorem zo18 : zokM zm18 := by
  have h := Bool.and_eq_true .. ▸ zg18
  exact zM_ok (zin_of _ zq18 h.1) h.2 zd18 (fun _ => List.mem_filter.mpr ⟨List.mem_of_getElem? zc18, rfl⟩)
theorem zq19 : zwM zmt zm19 = [135, 1153, 1154, 483, 450].filterMap (fun p => lw_tbl[p]?) := by decide +kernel
theorem zg19 : ((zwM zmt zm19).all goodWord && zbM zmt zm19) = true := by decide +kernel
theorem zd19 : ∀ r ∈ ze19, ∀ e ∈ r, decode cX2_doSlip e.1 = .ok (e.2.1, zlen e.2.1 e.2.2.1) := by decide +kernel
theorem zc19 : lw_tbl[1155]? = some (Cond.code zm19.1 zm19.2.1 zm19.2.2.1 zm19.2.2.2.1) := by decide +kernel
theorem zo19 : zokM zm19 := by
  have h := Bool.and_eq_true .. ▸ zg19
  exact zM_ok (zin_of _ zq19 h.1) h.2 zd19 (fun _ => List.mem_filter.mpr ⟨List.mem_of_getElem? zc19, rfl⟩)
theorem zq20 : zwM zmt zm20 = [135, 1387, 1388, 502, 499, 502, 500, 502, 501, 502, 502, 502, 504, 504].filterMap (fun p => lw_tbl[p]?) := by decide +kernel
theorem zg20 : ((zwM zmt zm20).all goodWord && zbM zmt zm20) = true := by decide +kernel
theorem zd20 : ∀ r ∈ ze20, ∀ e ∈ r, decode cX2_layBet e.1 = .ok (e.2.1, zlen e.2.1 e.2.2.1) := by decide +kernel
theorem zc20 : lw_tbl[1389]? = some (Cond.code zm20.1 zm20.2.1 zm20.2.2.1 zm20.2.2.2.1) := by decide +kernel
theorem zo20 : zokM zm20 := by
  have h := Bool.and_eq_true .. ▸ zg20
  exact zM_ok (zin_of _ zq20 h.1) h.2 zd20 (fun _ => List.mem_filter.mpr ⟨List.mem_of_getElem? zc20, rfl⟩)
theorem zq21 : zwM zmt zm21 = [135, 1118, 29, 502].filterMap (fun p => lw_tbl[p]?) := by decide +kernel
theorem zg21 : ((zwM zmt zm21).all goodWord && zbM zmt zm21) = true := by decide +kernel
theorem zd21 : ∀ r ∈ ze21, ∀ e ∈ r, decode cX2_payBets e.1 = .ok (e.2.1, zlen e.2.1 e.2.2.1) := by decide +kernel
theorem zc21 : lw_tbl[1119]? = some (Cond.code zm21.1 zm21.2.1 zm21.2.2.1 zm21.2.2.2.1) := by decide +kernel
theorem zo21 : zokM zm21 := by
  have h := Bool.and_eq_true .. ▸ zg21
  exact zM_ok (zin_of _ zq21 h.1) h.2 zd21 (fun _ => List.mem_filter.mpr ⟨List.mem_of_getElem? zc21, rfl⟩)
theorem zq22 : zwM zmt zm22 = [141, 727, 729, 334, 730, 735].filterMap (fun p => lw_tbl[p]?) := by decide +kernel
theorem zg22 : ((zwM zmt zm22).all goodWord && zbM zmt zm22) = true := by decide +kernel
theorem zd22 : ∀ r ∈ ze22, ∀ e ∈ r, decode cX3_init e.1 = .ok (e.2.1, zlen e.2.1 e.2.2.1) := by decide +kernel
theorem zc22 : lw_tbl[728]? = some (Cond.code zm22.1 zm22.2.1 zm22.2.2.1 zm22.2.2.2.1) := by decide +kernel
theorem zo22 : zokM zm22 := by
  have h := Bool.and_eq_true .. ▸ zg22
  exact zM_ok (zin_of _ zq22 h.1) h.2 zd22 (fun _ => List.mem_filter.mpr ⟨List.mem_of_getElem? zc22, rfl⟩)
theorem zq23 : zwM zmt zm23 = [141, 982, 983, 735, 736].filterMap (fun p => lw_tbl[p]?) := by decide +kernel
theorem zg23 : ((zwM zmt zm23).all goodWord && zbM zmt zm23) = true := by decide +kernel
theorem zd23 : ∀ r ∈ ze23, ∀ e ∈ r, decode cX3_forget e.1 = .ok (e.2.1, zlen e.2.1 e.2.2.1) := by decide +kernel
theorem zc23 : lw_tbl[984]? = some (Cond.code zm23.1 zm23.2.1 zm23.2.2.1 zm23.2.2.2.1) := by decide +kernel
theorem zo23 : zokM zm23 := by
  have h := Bool.and_eq_true .. ▸ zg23
  exact zM_ok (zin_of _ zq23 h.1) h.2 zd23 (fun _ => List.mem_filter.mpr ⟨List.mem_of_getElem? zc23, rfl⟩)
theorem zq24 : zwM zmt zm24 = [141, 1400, 1401, 736, 736, 735, 1403, 736, 1411, 736, 736, 735, 735].filterMap (fun p => lw_tbl[p]?) := by decide +kernel
theorem zg24 : ((zwM zmt zm24).all goodWord && zbM zmt zm24) = true := by decide +kernel
theorem zd24 : ∀ r ∈ ze24, ∀ e ∈ r, decode cX3_fewestHeaps e.1 = .ok (e.2.1, zlen e.2.1 e.2.2.1) := by decide +kernel
theorem zc24 : lw_tbl[1402]? = some (Cond.code zm24.1 zm24.2.1 zm24.2.2.1 zm24.2.2.2.1) := by decide +kernel
theorem zo24 : zokM zm24 := by
  have h := Bool.and_eq_true .. ▸ zg24
  exact zM_ok (zin_of _ zq24 h.1) h.2 zd24 (fun _ => List.mem_filter.mpr ⟨List.mem_of_getElem? zc24, rfl⟩)
theorem zq25 : zwM zmt zm25 = [141, 1430, 1431, 1403, 1433, 1434].filterMap (fun p => lw_tbl[p]?) := by decide +kernel
theorem zg25 : ((zwM zmt zm25).all goodWord && zbM zmt zm25) = true := by decide +kernel
theorem zd25 : ∀ r ∈ ze25, ∀ e ∈ r, decode cX3_winsAgainstAny e.1 = .ok (e.2.1, zlen e.2.1 e.2.2.1) := by decide +kernel
theorem zc25 : lw_tbl[1432]? = some (Cond.code zm25.1 zm25.2.1 zm25.2.2.1 zm25.2.2.2.1) := by decide +kernel
theorem zo25 : zokM zm25 := by
  have h := Bool.and_eq_true .. ▸ zg25
  exact zM_ok (zin_of _ zq25 h.1) h.2 zd25 (fun _ => List.mem_filter.mpr ⟨List.mem_of_getElem? zc25, rfl⟩)
theorem zq26 : zwM zmt zm26 = [141, 1405, 50, 734, 1407, 734, 734, 1407, 397, 136, 734, 1410].filterMap (fun p => lw_tbl[p]?) := by decide +kernel
theorem zg26 : ((zwM zmt zm26).all goodWord && zbM zmt zm26) = true := by decide +kernel
theorem zd26 : ∀ r ∈ ze26, ∀ e ∈ r, decode cX3_begin e.1 = .ok (e.2.1, zlen e.2.1 e.2.2.1) := by decide +kernel
theorem zc26 : lw_tbl[1406]? = some (Cond.code zm26.1 zm26.2.1 zm26.2.2.1 zm26.2.2.2.1) := by decide +kernel
theorem zo26 : zokM zm26 := by
  have h := Bool.and_eq_true .. ▸ zg26
  exact zM_ok (zin_of _ zq26 h.1) h.2 zd26 (fun _ => List.mem_filter.mpr ⟨List.mem_of_getElem? zc26, rfl⟩)
theorem zq27 : zwM zmt zm27 = [141, 1413, 51, 734, 1415, 732, 445].filterMap (fun p => lw_tbl[p]?) := by decide +kernel
theorem zg27 : ((zwM zmt zm27).all goodWord && zbM zmt zm27) = true := by decide +kernel
theorem zd27 : ∀ r ∈ ze27, ∀ e ∈ r, decode cX3_canWin e.1 = .ok (e.2.1, zlen e.2.1 e.2.2.1) := by decide +kernel
theorem zc27 : lw_tbl[1414]? = some (Cond.code zm27.1 zm27.2.1 zm27.2.2.1 zm27.2.2.2.1) := by decide +kernel
theorem zo27 : zokM zm27 := by
  have h := Bool.and_eq_true .. ▸ zg27
  exact zM_ok (zin_of _ zq27 h.1) h.2 zd27 (fun _ => List.mem_filter.mpr ⟨List.mem_of_getElem? zc27, rfl⟩)
theorem zq28 : zwM zmt zm28 = [141, 1436, 53, 734, 1415, 445].filterMap (fun p => lw_tbl[p]?) := by decide +kernel
theorem zg28 : ((zwM zmt zm28).all goodWord && zbM zmt zm28) = true := by decide +kernel
theorem zd28 : ∀ r ∈ ze28, ∀ e ∈ r, decode cX3_winsHowever e.1 = .ok (e.2.1, zlen e.2.1 e.2.2.1) := by decide +kernel
theorem zc28 : lw_tbl[1437]? = some (Cond.code zm28.1 zm28.2.1 zm28.2.2.1 zm28.2.2.2.1) := by decide +kernel
theorem zo28 : zokM zm28 := by
  have h := Bool.and_eq_true .. ▸ zg28
  exact zM_ok (zin_of _ zq28 h.1) h.2 zd28 (fun _ => List.mem_filter.mpr ⟨List.mem_of_getElem? zc28, rfl⟩)
theorem zq29 : zwM zmt zm29 = [140, 691, 693, 334, 694, 334, 701, 334, 702, 334, 703, 699, 700].filterMap (fun p => lw_tbl[p]?) := by decide +kernel
theorem zg29 : ((zwM zmt zm29).all goodWord && zbM zmt zm29) = true := by decide +kernel
theorem zd29 : ∀ r ∈ ze29, ∀ e ∈ r, decode cX4_init e.1 = .ok (e.2.1, zlen e.2.1 e.2.2.1) := by decide +kernel
theorem zc29 : lw_tbl[692]? = some (Cond.code zm29.1 zm29.2.1 zm29.2.2.1 zm29.2.2.2.1) := by decide +kernel
theorem zo29 : zokM zm29 := by
  have h := Bool.and_eq_true .. ▸ zg29
  exact zM_ok (zin_of _ zq29 h.1) h.2 zd29 (fun _ => List.mem_filter.mpr ⟨List.mem_of_getElem? zc29, rfl⟩)
end
section
theorem zq30 : zwM zmt zm30 = [140, 1343, 1344, 696, 696, 1346, 699, 701, 1352, 698, 698, 1353, 698].filterMap (fun p => lw_tbl[p]?) := by decide +kernel
theorem zg30 : ((zwM zmt zm30).all goodWord && zbM zmt zm30) = true := by decide +kernel
theorem zd30 : ∀ r ∈ ze30, ∀ e ∈ r, decode cX4_find e.1 = .ok (e.2.1, zlen e.2.1 e.2.2.1) := by decide +kernel
theorem zc30 : lw_tbl[1345]? = some (Cond.code zm30.1 zm30.2.1 zm30.2.2.1 zm30.2.2.2.1) := by decide +kernel
theorem zo30 : zokM zm30 := by
  have h := Bool.and_eq_true .. ▸ zg30
  exact zM_ok (zin_of _ zq30 h.1) h.2 zd30 (fun _ => List.mem_filter.mpr ⟨List.mem_of_getElem? zc30, rfl⟩)
theorem zq31 : zwM zmt zm31 = [140, 1348, 47, 704, 701, 407].filterMap (fun p => lw_tbl[p]?) := by decide +kernel
theorem zg31 : ((zwM zmt zm31).all goodWord && zbM zmt zm31) = true := by decide +kernel
theorem zd31 : ∀ r ∈ ze31, ∀ e ∈ r, decode cX4_collect e.1 = .ok (e.2.1, zlen e.2.1 e.2.2.1) := by decide +kernel
theorem zc31 : lw_tbl[1349]? = some (Cond.code zm31.1 zm31.2.1 zm31.2.2.1 zm31.2.2.2.1) := by decide +kernel
theorem zo31 : zokM zm31 := by
  have h := Bool.and_eq_true .. ▸ zg31
  exact zM_ok (zin_of _ zq31 h.1) h.2 zd31 (fun _ => List.mem_filter.mpr ⟨List.mem_of_getElem? zc31, rfl⟩)
theorem zq32 : zwM zmt zm32 = [140, 1355, 48, 694, 694, 694, 699, 701, 1357, 700, 573, 1358, 704, 700, 277, 286, 1360, 700, 577, 694, 700, 577, 694, 699, 1361].filterMap (fun p => lw_tbl[p]?) := by decide +kernel
theorem zg32 : ((zwM zmt zm32).all goodWord && zbM zmt zm32) = true := by decide +kernel
theorem zd32 : ∀ r ∈ ze32, ∀ e ∈ r, decode cX4_playAll e.1 = .ok (e.2.1, zlen e.2.1 e.2.2.1) := by decide +kernel
theorem zc32 : lw_tbl[1356]? = some (Cond.code zm32.1 zm32.2.1 zm32.2.2.1 zm32.2.2.2.1) := by decide +kernel
theorem zo32 : zokM zm32 := by
  have h := Bool.and_eq_true .. ▸ zg32
  exact zM_ok (zin_of _ zq32 h.1) h.2 zd32 (fun _ => List.mem_filter.mpr ⟨List.mem_of_getElem? zc32, rfl⟩)
theorem zq33 : zwM zmt zm33 = [136, 399, 401, 334, 402, 334, 405, 334, 406, 334, 413, 334, 416, 334, 418, 443].filterMap (fun p => lw_tbl[p]?) := by decide +kernel
theorem zg33 : ((zwM zmt zm33).all goodWord && zbM zmt zm33) = true := by decide +kernel
theorem zd33 : ∀ r ∈ ze33, ∀ e ∈ r, decode cX5_init e.1 = .ok (e.2.1, zlen e.2.1 e.2.2.1) := by decide +kernel
theorem zc33 : lw_tbl[400]? = some (Cond.code zm33.1 zm33.2.1 zm33.2.2.1 zm33.2.2.2.1) := by decide +kernel
theorem zo33 : zokM zm33 := by
  have h := Bool.and_eq_true .. ▸ zg33
  exact zM_ok (zin_of _ zq33 h.1) h.2 zd33 (fun _ => List.mem_filter.mpr ⟨List.mem_of_getElem? zc33, rfl⟩)
theorem zq34 : zwM zmt zm34 = [136, 757, 758, 418, 405, 405, 406, 406, 420, 423, 427, 429, 433, 437, 441, 443, 449].filterMap (fun p => lw_tbl[p]?) := by decide +kernel
theorem zg34 : ((zwM zmt zm34).all goodWord && zbM zmt zm34) = true := by decide +kernel
theorem zd34 : ∀ r ∈ ze34, ∀ e ∈ r, decode cX5_start e.1 = .ok (e.2.1, zlen e.2.1 e.2.2.1) := by decide +kernel
theorem zc34 : lw_tbl[759]? = some (Cond.code zm34.1 zm34.2.1 zm34.2.2.1 zm34.2.2.2.1) := by decide +kernel
theorem zo34 : zokM zm34 := by
  have h := Bool.and_eq_true .. ▸ zg34
  exact zM_ok (zin_of _ zq34 h.1) h.2 zd34 (fun _ => List.mem_filter.mpr ⟨List.mem_of_getElem? zc34, rfl⟩)
theorem zq35 : zwM zmt zm35 = [136, 761, 762, 406].filterMap (fun p => lw_tbl[p]?) := by decide +kernel
theorem zg35 : ((zwM zmt zm35).all goodWord && zbM zmt zm35) = true := by decide +kernel
theorem zd35 : ∀ r ∈ ze35, ∀ e ∈ r, decode cX5_give e.1 = .ok (e.2.1, zlen e.2.1 e.2.2.1) := by decide +kernel
theorem zc35 : lw_tbl[763]? = some (Cond.code zm35.1 zm35.2.1 zm35.2.2.1 zm35.2.2.2.1) := by decide +kernel
theorem zo35 : zokM zm35 := by
  have h := Bool.and_eq_true .. ▸ zg35
  exact zM_ok (zin_of _ zq35 h.1) h.2 zd35 (fun _ => List.mem_filter.mpr ⟨List.mem_of_getElem? zc35, rfl⟩)
theorem zq36 : zwM zmt zm36 = [136, 1085, 1086, 1088, 1088, 413, 413, 1092, 418, 418, 1092, 420, 420, 423, 423, 427, 427, 429, 429, 433, 433, 437, 437, 441, 441, 443, 443, 449, 449].filterMap (fun p => lw_tbl[p]?) := by decide +kernel
theorem zg36 : ((zwM zmt zm36).all goodWord && zbM zmt zm36) = true := by decide +kernel
theorem zd36 : ∀ r ∈ ze36, ∀ e ∈ r, decode cX5_copyFrom e.1 = .ok (e.2.1, zlen e.2.1 e.2.2.1) := by decide +kernel
theorem zc36 : lw_tbl[1087]? = some (Cond.code zm36.1 zm36.2.1 zm36.2.2.1 zm36.2.2.2.1) := by decide +kernel
theorem zo36 : zokM zm36 := by
  have h := Bool.and_eq_true .. ▸ zg36
  exact zM_ok (zin_of _ zq36 h.1) h.2 zd36 (fun _ => List.mem_filter.mpr ⟨List.mem_of_getElem? zc36, rfl⟩)
theorem zq37 : zwM zmt zm37 = [136, 1090, 28, 405, 406, 406, 406].filterMap (fun p => lw_tbl[p]?) := by decide +kernel
theorem zg37 : ((zwM zmt zm37).all goodWord && zbM zmt zm37) = true := by decide +kernel
theorem zd37 : ∀ r ∈ ze37, ∀ e ∈ r, decode cX5_copyRow e.1 = .ok (e.2.1, zlen e.2.1 e.2.2.1) := by decide +kernel
theorem zc37 : lw_tbl[1091]? = some (Cond.code zm37.1 zm37.2.1 zm37.2.2.1 zm37.2.2.2.1) := by decide +kernel
theorem zo37 : zokM zm37 := by
  have h := Bool.and_eq_true .. ▸ zg37
  exact zM_ok (zin_of _ zq37 h.1) h.2 zd37 (fun _ => List.mem_filter.mpr ⟨List.mem_of_getElem? zc37, rfl⟩)
theorem zq38 : zwM zmt zm38 = [136, 1331, 1332, 406].filterMap (fun p => lw_tbl[p]?) := by decide +kernel
theorem zg38 : ((zwM zmt zm38).all goodWord && zbM zmt zm38) = true := by decide +kernel
theorem zd38 : ∀ r ∈ ze38, ∀ e ∈ r, decode cX5_countUnseen e.1 = .ok (e.2.1, zlen e.2.1 e.2.2.1) := by decide +kernel
theorem zc38 : lw_tbl[1333]? = some (Cond.code zm38.1 zm38.2.1 zm38.2.2.1 zm38.2.2.2.1) := by decide +kernel
theorem zo38 : zokM zm38 := by
  have h := Bool.and_eq_true .. ▸ zg38
  exact zM_ok (zin_of _ zq38 h.1) h.2 zd38 (fun _ => List.mem_filter.mpr ⟨List.mem_of_getElem? zc38, rfl⟩)
theorem zq39 : zwM zmt zm39 = [136, 1105, 1106, 406, 423, 423, 443].filterMap (fun p => lw_tbl[p]?) := by decide +kernel
theorem zg39 : ((zwM zmt zm39).all goodWord && zbM zmt zm39) = true := by decide +kernel
theorem zd39 : ∀ r ∈ ze39, ∀ e ∈ r, decode cX5_nextHasLost e.1 = .ok (e.2.1, zlen e.2.1 e.2.2.1) := by decide +kernel
theorem zc39 : lw_tbl[1107]? = some (Cond.code zm39.1 zm39.2.1 zm39.2.2.1 zm39.2.2.2.1) := by decide +kernel
theorem zo39 : zokM zm39 := by
  have h := Bool.and_eq_true .. ▸ zg39
  exact zM_ok (zin_of _ zq39 h.1) h.2 zd39 (fun _ => List.mem_filter.mpr ⟨List.mem_of_getElem? zc39, rfl⟩)
theorem zq40 : zwM zmt zm40 = [136, 1101, 1102, 1104].filterMap (fun p => lw_tbl[p]?) := by decide +kernel
theorem zg40 : ((zwM zmt zm40).all goodWord && zbM zmt zm40) = true := by decide +kernel
theorem zd40 : ∀ r ∈ ze40, ∀ e ∈ r, decode cX5_turnUp e.1 = .ok (e.2.1, zlen e.2.1 e.2.2.1) := by decide +kernel
theorem zc40 : lw_tbl[1103]? = some (Cond.code zm40.1 zm40.2.1 zm40.2.2.1 zm40.2.2.2.1) := by decide +kernel
theorem zo40 : zokM zm40 := by
  have h := Bool.and_eq_true .. ▸ zg40
  exact zM_ok (zin_of _ zq40 h.1) h.2 zd40 (fun _ => List.mem_filter.mpr ⟨List.mem_of_getElem? zc40, rfl⟩)
theorem zq41 : zwM zmt zm41 = [136, 1416, 1417, 1419].filterMap (fun p => lw_tbl[p]?) := by decide +kernel
theorem zg41 : ((zwM zmt zm41).all goodWord && zbM zmt zm41) = true := by decide +kernel
theorem zd41 : ∀ r ∈ ze41, ∀ e ∈ r, decode cX5_turnToHeap e.1 = .ok (e.2.1, zlen e.2.1 e.2.2.1) := by decide +kernel
theorem zc41 : lw_tbl[1418]? = some (Cond.code zm41.1 zm41.2.1 zm41.2.2.1 zm41.2.2.2.1) := by decide +kernel
theorem zo41 : zokM zm41 := by
  have h := Bool.and_eq_true .. ▸ zg41
  exact zM_ok (zin_of _ zq41 h.1) h.2 zd41 (fun _ => List.mem_filter.mpr ⟨List.mem_of_getElem? zc41, rfl⟩)
theorem zq42 : zwM zmt zm42 = [134, 360, 362, 334, 364, 334, 366, 363, 368, 369].filterMap (fun p => lw_tbl[p]?) := by decide +kernel
theorem zg42 : ((zwM zmt zm42).all goodWord && zbM zmt zm42) = true := by decide +kernel
theorem zd42 : ∀ r ∈ ze42, ∀ e ∈ r, decode cX6_init e.1 = .ok (e.2.1, zlen e.2.1 e.2.2.1) := by decide +kernel
theorem zc42 : lw_tbl[361]? = some (Cond.code zm42.1 zm42.2.1 zm42.2.2.1 zm42.2.2.2.1) := by decide +kernel
theorem zo42 : zokM zm42 := by
  have h := Bool.and_eq_true .. ▸ zg42
  exact zM_ok (zin_of _ zq42 h.1) h.2 zd42 (fun _ => List.mem_filter.mpr ⟨List.mem_of_getElem? zc42, rfl⟩)
theorem zq43 : zwM zmt zm43 = [134, 839, 840, 368, 842, 846, 363, 220, 957].filterMap (fun p => lw_tbl[p]?) := by decide +kernel
theorem zg43 : ((zwM zmt zm43).all goodWord && zbM zmt zm43) = true := by decide +kernel
theorem zd43 : ∀ r ∈ ze43, ∀ e ∈ r, decode cX6_readTable e.1 = .ok (e.2.1, zlen e.2.1 e.2.2.1) := by decide +kernel
theorem zc43 : lw_tbl[841]? = some (Cond.code zm43.1 zm43.2.1 zm43.2.2.1 zm43.2.2.2.1) := by decide +kernel
theorem zo43 : zokM zm43 := by
  have h := Bool.and_eq_true .. ▸ zg43
  exact zM_ok (zin_of _ zq43 h.1) h.2 zd43 (fun _ => List.mem_filter.mpr ⟨List.mem_of_getElem? zc43, rfl⟩)
theorem zq44 : zwM zmt zm44 = [134, 990, 991, 368, 366, 366, 371, 372, 846, 363, 220, 1005, 957].filterMap (fun p => lw_tbl[p]?) := by decide +kernel
theorem zg44 : ((zwM zmt zm44).all goodWord && zbM zmt zm44) = true := by decide +kernel
theorem zd44 : ∀ r ∈ ze44, ∀ e ∈ r, decode cX6_readDeal e.1 = .ok (e.2.1, zlen e.2.1 e.2.2.1) := by decide +kernel
theorem zc44 : lw_tbl[992]? = some (Cond.code zm44.1 zm44.2.1 zm44.2.2.1 zm44.2.2.2.1) := by decide +kernel
theorem zo44 : zokM zm44 := by
  have h := Bool.and_eq_true .. ▸ zg44
  exact zM_ok (zin_of _ zq44 h.1) h.2 zd44 (fun _ => List.mem_filter.mpr ⟨List.mem_of_getElem? zc44, rfl⟩)
end
section
theorem zq45 : zwM zmt zm45 = [134, 1020, 1021, 368, 369, 1023, 846, 363, 220, 957].filterMap (fun p => lw_tbl[p]?) := by decide +kernel
theorem zg45 : ((zwM zmt zm45).all goodWord && zbM zmt zm45) = true := by decide +kernel
theorem zd45 : ∀ r ∈ ze45, ∀ e ∈ r, decode cX6_readBook e.1 = .ok (e.2.1, zlen e.2.1 e.2.2.1) := by decide +kernel
theorem zc45 : lw_tbl[1022]? = some (Cond.code zm45.1 zm45.2.1 zm45.2.2.1 zm45.2.2.2.1) := by decide +kernel
theorem zo45 : zokM zm45 := by
  have h := Bool.and_eq_true .. ▸ zg45
  exact zM_ok (zin_of _ zq45 h.1) h.2 zd45 (fun _ => List.mem_filter.mpr ⟨List.mem_of_getElem? zc45, rfl⟩)
theorem zq46 : zwM zmt zm46 = [134, 848, 0, 370, 363, 850].filterMap (fun p => lw_tbl[p]?) := by decide +kernel
theorem zg46 : ((zwM zmt zm46).all goodWord && zbM zmt zm46) = true := by decide +kernel
theorem zd46 : ∀ r ∈ ze46, ∀ e ∈ r, decode cX6_begin e.1 = .ok (e.2.1, zlen e.2.1 e.2.2.1) := by decide +kernel
theorem zc46 : lw_tbl[849]? = some (Cond.code zm46.1 zm46.2.1 zm46.2.2.1 zm46.2.2.2.1) := by decide +kernel
theorem zo46 : zokM zm46 := by
  have h := Bool.and_eq_true .. ▸ zg46
  exact zM_ok (zin_of _ zq46 h.1) h.2 zd46 (fun _ => List.mem_filter.mpr ⟨List.mem_of_getElem? zc46, rfl⟩)
theorem zq47 : zwM zmt zm47 = [134, 959, 19, 363, 961, 370].filterMap (fun p => lw_tbl[p]?) := by decide +kernel
theorem zg47 : ((zwM zmt zm47).all goodWord && zbM zmt zm47) = true := by decide +kernel
theorem zd47 : ∀ r ∈ ze47, ∀ e ∈ r, decode cX6_finish e.1 = .ok (e.2.1, zlen e.2.1 e.2.2.1) := by decide +kernel
theorem zc47 : lw_tbl[960]? = some (Cond.code zm47.1 zm47.2.1 zm47.2.2.1 zm47.2.2.2.1) := by decide +kernel
theorem zo47 : zokM zm47 := by
  have h := Bool.and_eq_true .. ▸ zg47
  exact zM_ok (zin_of _ zq47 h.1) h.2 zd47 (fun _ => List.mem_filter.mpr ⟨List.mem_of_getElem? zc47, rfl⟩)
theorem zq48 : zwM zmt zm48 = [134, 1007, 25, 366].filterMap (fun p => lw_tbl[p]?) := by decide +kernel
theorem zg48 : ((zwM zmt zm48).all goodWord && zbM zmt zm48) = true := by decide +kernel
theorem zd48 : ∀ r ∈ ze48, ∀ e ∈ r, decode cX6_closeUp e.1 = .ok (e.2.1, zlen e.2.1 e.2.2.1) := by decide +kernel
theorem zc48 : lw_tbl[1008]? = some (Cond.code zm48.1 zm48.2.1 zm48.2.2.1 zm48.2.2.2.1) := by decide +kernel
theorem zo48 : zokM zm48 := by
  have h := Bool.and_eq_true .. ▸ zg48
  exact zM_ok (zin_of _ zq48 h.1) h.2 zd48 (fun _ => List.mem_filter.mpr ⟨List.mem_of_getElem? zc48, rfl⟩)
theorem zq49 : zwM zmt zm49 = [137, 543, 545, 334, 546, 334, 550].filterMap (fun p => lw_tbl[p]?) := by decide +kernel
theorem zg49 : ((zwM zmt zm49).all goodWord && zbM zmt zm49) = true := by decide +kernel
theorem zd49 : ∀ r ∈ ze49, ∀ e ∈ r, decode cX7_init e.1 = .ok (e.2.1, zlen e.2.1 e.2.2.1) := by decide +kernel
theorem zc49 : lw_tbl[544]? = some (Cond.code zm49.1 zm49.2.1 zm49.2.2.1 zm49.2.2.2.1) := by decide +kernel
theorem zo49 : zokM zm49 := by
  have h := Bool.and_eq_true .. ▸ zg49
  exact zM_ok (zin_of _ zq49 h.1) h.2 zd49 (fun _ => List.mem_filter.mpr ⟨List.mem_of_getElem? zc49, rfl⟩)
theorem zq50 : zwM zmt zm50 = [137, 1227, 1228].filterMap (fun p => lw_tbl[p]?) := by decide +kernel
theorem zg50 : ((zwM zmt zm50).all goodWord && zbM zmt zm50) = true := by decide +kernel
theorem zd50 : ∀ r ∈ ze50, ∀ e ∈ r, decode cX7_howMany e.1 = .ok (e.2.1, zlen e.2.1 e.2.2.1) := by decide +kernel
theorem zc50 : lw_tbl[1229]? = some (Cond.code zm50.1 zm50.2.1 zm50.2.2.1 zm50.2.2.2.1) := by decide +kernel
theorem zo50 : zokM zm50 := by
  have h := Bool.and_eq_true .. ▸ zg50
  exact zM_ok (zin_of _ zq50 h.1) h.2 zd50 (fun _ => List.mem_filter.mpr ⟨List.mem_of_getElem? zc50, rfl⟩)
theorem zq51 : zwM zmt zm51 = [137, 1238, 1239, 551].filterMap (fun p => lw_tbl[p]?) := by decide +kernel
theorem zg51 : ((zwM zmt zm51).all goodWord && zbM zmt zm51) = true := by decide +kernel
theorem zd51 : ∀ r ∈ ze51, ∀ e ∈ r, decode cX7_toFirst e.1 = .ok (e.2.1, zlen e.2.1 e.2.2.1) := by decide +kernel
theorem zc51 : lw_tbl[1240]? = some (Cond.code zm51.1 zm51.2.1 zm51.2.2.1 zm51.2.2.2.1) := by decide +kernel
theorem zo51 : zokM zm51 := by
  have h := Bool.and_eq_true .. ▸ zg51
  exact zM_ok (zin_of _ zq51 h.1) h.2 zd51 (fun _ => List.mem_filter.mpr ⟨List.mem_of_getElem? zc51, rfl⟩)
theorem zq52 : zwM zmt zm52 = [137, 1264, 1265, 551].filterMap (fun p => lw_tbl[p]?) := by decide +kernel
theorem zg52 : ((zwM zmt zm52).all goodWord && zbM zmt zm52) = true := by decide +kernel
theorem zd52 : ∀ r ∈ ze52, ∀ e ∈ r, decode cX7_toNext e.1 = .ok (e.2.1, zlen e.2.1 e.2.2.1) := by decide +kernel
theorem zc52 : lw_tbl[1266]? = some (Cond.code zm52.1 zm52.2.1 zm52.2.2.1 zm52.2.2.2.1) := by decide +kernel
theorem zo52 : zokM zm52 := by
  have h := Bool.and_eq_true .. ▸ zg52
  exact zM_ok (zin_of _ zq52 h.1) h.2 zd52 (fun _ => List.mem_filter.mpr ⟨List.mem_of_getElem? zc52, rfl⟩)
theorem zq53 : zwM zmt zm53 = [139, 622, 624, 334, 625, 334, 627, 334, 629, 334, 631, 334, 633, 334, 635, 334, 637, 335, 643, 334, 644, 334, 645, 649, 650, 641, 642].filterMap (fun p => lw_tbl[p]?) := by decide +kernel
theorem zg53 : ((zwM zmt zm53).all goodWord && zbM zmt zm53) = true := by decide +kernel
theorem zd53 : ∀ r ∈ ze53, ∀ e ∈ r, decode cX8_init e.1 = .ok (e.2.1, zlen e.2.1 e.2.2.1) := by decide +kernel
theorem zc53 : lw_tbl[623]? = some (Cond.code zm53.1 zm53.2.1 zm53.2.2.1 zm53.2.2.2.1) := by decide +kernel
theorem zo53 : zokM zm53 := by
  have h := Bool.and_eq_true .. ▸ zg53
  exact zM_ok (zin_of _ zq53 h.1) h.2 zd53 (fun _ => List.mem_filter.mpr ⟨List.mem_of_getElem? zc53, rfl⟩)
theorem zq54 : zwM zmt zm54 = [139, 1467].filterMap (fun p => lw_tbl[p]?) := by decide +kernel
theorem zg54 : ((zwM zmt zm54).all goodWord && zbM zmt zm54) = true := by decide +kernel
theorem zd54 : ∀ r ∈ ze54, ∀ e ∈ r, decode cX8_isSeed e.1 = .ok (e.2.1, zlen e.2.1 e.2.2.1) := by decide +kernel
theorem zc54 : lw_tbl[1468]? = some (Cond.code zm54.1 zm54.2.1 zm54.2.2.1 zm54.2.2.2.1) := by decide +kernel
theorem zo54 : zokM zm54 := by
  have h := Bool.and_eq_true .. ▸ zg54
  exact zM_ok (zin_of _ zq54 h.1) h.2 zd54 (fun _ => List.mem_filter.mpr ⟨List.mem_of_getElem? zc54, rfl⟩)
theorem zq55 : zwM zmt zm55 = [139, 970, 971, 646, 647, 648, 649, 650, 643, 643].filterMap (fun p => lw_tbl[p]?) := by decide +kernel
theorem zg55 : ((zwM zmt zm55).all goodWord && zbM zmt zm55) = true := by decide +kernel
theorem zd55 : ∀ r ∈ ze55, ∀ e ∈ r, decode cX8_forget e.1 = .ok (e.2.1, zlen e.2.1 e.2.2.1) := by decide +kernel
theorem zc55 : lw_tbl[972]? = some (Cond.code zm55.1 zm55.2.1 zm55.2.2.1 zm55.2.2.2.1) := by decide +kernel
theorem zo55 : zokM zm55 := by
  have h := Bool.and_eq_true .. ▸ zg55
  exact zM_ok (zin_of _ zq55 h.1) h.2 zd55 (fun _ => List.mem_filter.mpr ⟨List.mem_of_getElem? zc55, rfl⟩)
theorem zq56 : zwM zmt zm56 = [139, 1223, 1224, 273].filterMap (fun p => lw_tbl[p]?) := by decide +kernel
theorem zg56 : ((zwM zmt zm56).all goodWord && zbM zmt zm56) = true := by decide +kernel
theorem zd56 : ∀ r ∈ ze56, ∀ e ∈ r, decode cX8_canAsk e.1 = .ok (e.2.1, zlen e.2.1 e.2.2.1) := by decide +kernel
theorem zc56 : lw_tbl[1225]? = some (Cond.code zm56.1 zm56.2.1 zm56.2.2.1 zm56.2.2.2.1) := by decide +kernel
theorem zo56 : zokM zm56 := by
  have h := Bool.and_eq_true .. ▸ zg56
  exact zM_ok (zin_of _ zq56 h.1) h.2 zd56 (fun _ => List.mem_filter.mpr ⟨List.mem_of_getElem? zc56, rfl⟩)
theorem zq57 : zwM zmt zm57 = [132, 255, 257, 251, 261, 334, 262, 334, 266, 335, 270, 334, 299, 334, 300, 285].filterMap (fun p => lw_tbl[p]?) := by decide +kernel
theorem zg57 : ((zwM zmt zm57).all goodWord && zbM zmt zm57) = true := by decide +kernel
theorem zd57 : ∀ r ∈ ze57, ∀ e ∈ r, decode cX9_init e.1 = .ok (e.2.1, zlen e.2.1 e.2.2.1) := by decide +kernel
theorem zc57 : lw_tbl[256]? = some (Cond.code zm57.1 zm57.2.1 zm57.2.2.1 zm57.2.2.2.1) := by decide +kernel
theorem zo57 : zokM zm57 := by
  have h := Bool.and_eq_true .. ▸ zg57
  exact zM_ok (zin_of _ zq57 h.1) h.2 zd57 (fun _ => List.mem_filter.mpr ⟨List.mem_of_getElem? zc57, rfl⟩)
theorem zq58 : zwM zmt zm58 = [132, 843, 844, 258, 272, 261, 262, 266, 270, 276, 281, 285, 290, 292, 294, 296, 298].filterMap (fun p => lw_tbl[p]?) := by decide +kernel
theorem zg58 : ((zwM zmt zm58).all goodWord && zbM zmt zm58) = true := by decide +kernel
theorem zd58 : ∀ r ∈ ze58, ∀ e ∈ r, decode cX9_reset e.1 = .ok (e.2.1, zlen e.2.1 e.2.2.1) := by decide +kernel
theorem zc58 : lw_tbl[845]? = some (Cond.code zm58.1 zm58.2.1 zm58.2.2.1 zm58.2.2.2.1) := by decide +kernel
theorem zo58 : zokM zm58 := by
  have h := Bool.and_eq_true .. ▸ zg58
  exact zM_ok (zin_of _ zq58 h.1) h.2 zd58 (fun _ => List.mem_filter.mpr ⟨List.mem_of_getElem? zc58, rfl⟩)
theorem zq59 : zwM zmt zm59 = [132, 1367, 1368, 296].filterMap (fun p => lw_tbl[p]?) := by decide +kernel
theorem zg59 : ((zwM zmt zm59).all goodWord && zbM zmt zm59) = true := by decide +kernel
theorem zd59 : ∀ r ∈ ze59, ∀ e ∈ r, decode cX9_offerFor e.1 = .ok (e.2.1, zlen e.2.1 e.2.2.1) := by decide +kernel
theorem zc59 : lw_tbl[1369]? = some (Cond.code zm59.1 zm59.2.1 zm59.2.2.1 zm59.2.2.2.1) := by decide +kernel
theorem zo59 : zokM zm59 := by
  have h := Bool.and_eq_true .. ▸ zg59
  exact zM_ok (zin_of _ zq59 h.1) h.2 zd59 (fun _ => List.mem_filter.mpr ⟨List.mem_of_getElem? zc59, rfl⟩)
theorem zq60 : zwM zmt zm60 = [127, 160, 162, 250, 213, 251, 214, 164, 174, 214, 212].filterMap (fun p => lw_tbl[p]?) := by decide +kernel
theorem zg60 : ((zwM zmt zm60).all goodWord && zbM zmt zm60) = true := by decide +kernel
theorem zd60 : ∀ r ∈ ze60, ∀ e ∈ r, decode cX10_init e.1 = .ok (e.2.1, zlen e.2.1 e.2.2.1) := by decide +kernel
theorem zc60 : lw_tbl[161]? = some (Cond.code zm60.1 zm60.2.1 zm60.2.2.1 zm60.2.2.2.1) := by decide +kernel
theorem zo60 : zokM zm60 := by
  have h := Bool.and_eq_true .. ▸ zg60
  exact zM_ok (zin_of _ zq60 h.1) h.2 zd60 (fun _ => List.mem_filter.mpr ⟨List.mem_of_getElem? zc60, rfl⟩)
end
section
theorem zq61 : zwM zmt zm61 = [127, 851, 852, 217, 854].filterMap (fun p => lw_tbl[p]?) := by decide +kernel
theorem zg61 : ((zwM zmt zm61).all goodWord && zbM zmt zm61) = true := by decide +kernel
theorem zd61 : ∀ r ∈ ze61, ∀ e ∈ r, decode cX10_begin e.1 = .ok (e.2.1, zlen e.2.1 e.2.2.1) := by decide +kernel
theorem zc61 : lw_tbl[853]? = some (Cond.code zm61.1 zm61.2.1 zm61.2.2.1 zm61.2.2.2.1) := by decide +kernel
theorem zo61 : zokM zm61 := by
  have h := Bool.and_eq_true .. ▸ zg61
  exact zM_ok (zin_of _ zq61 h.1) h.2 zd61 (fun _ => List.mem_filter.mpr ⟨List.mem_of_getElem? zc61, rfl⟩)
theorem zq62 : zwM zmt zm62 = [127, 962, 963, 216, 217].filterMap (fun p => lw_tbl[p]?) := by decide +kernel
theorem zg62 : ((zwM zmt zm62).all goodWord && zbM zmt zm62) = true := by decide +kernel
theorem zd62 : ∀ r ∈ ze62, ∀ e ∈ r, decode cX10_empty e.1 = .ok (e.2.1, zlen e.2.1 e.2.2.1) := by decide +kernel
theorem zc62 : lw_tbl[964]? = some (Cond.code zm62.1 zm62.2.1 zm62.2.2.1 zm62.2.2.2.1) := by decide +kernel
theorem zo62 : zokM zm62 := by
  have h := Bool.and_eq_true .. ▸ zg62
  exact zM_ok (zin_of _ zq62 h.1) h.2 zd62 (fun _ => List.mem_filter.mpr ⟨List.mem_of_getElem? zc62, rfl⟩)
theorem zq63 : zwM zmt zm63 = [127, 855, 856, 217, 216, 217, 218, 222, 218, 216, 218, 216, 221].filterMap (fun p => lw_tbl[p]?) := by decide +kernel
theorem zg63 : ((zwM zmt zm63).all goodWord && zbM zmt zm63) = true := by decide +kernel
theorem zd63 : ∀ r ∈ ze63, ∀ e ∈ r, decode cX10_advance e.1 = .ok (e.2.1, zlen e.2.1 e.2.2.1) := by decide +kernel
theorem zc63 : lw_tbl[857]? = some (Cond.code zm63.1 zm63.2.1 zm63.2.2.1 zm63.2.2.2.1) := by decide +kernel
theorem zo63 : zokM zm63 := by
  have h := Bool.and_eq_true .. ▸ zg63
  exact zM_ok (zin_of _ zq63 h.1) h.2 zd63 (fun _ => List.mem_filter.mpr ⟨List.mem_of_getElem? zc63, rfl⟩)
theorem zq64 : zwM zmt zm64 = [126, 152, 154, 157, 158, 127, 159, 768, 252, 253, 132, 254, 769, 252, 253, 132, 254, 770, 336, 337, 133, 771, 336, 337, 133, 772, 357, 358, 134, 768, 769, 771, 359, 773, 390, 391, 135, 774, 390, 775, 390, 778, 335, 779, 540, 541, 137, 780, 564, 565, 138, 781, 619, 620, 139, 780, 781, 621, 782, 688, 689, 140, 780, 781, 690, 783, 724, 725, 141, 784, 334, 785, 774, 769, 748].filterMap (fun p => lw_tbl[p]?) := by decide +kernel
theorem zg64 : ((zwM zmt zm64).all goodWord && zbM zmt zm64) = true := by decide +kernel
theorem zd64 : ∀ r ∈ ze64, ∀ e ∈ r, decode cX11_init e.1 = .ok (e.2.1, zlen e.2.1 e.2.2.1) := by decide +kernel
theorem zc64 : lw_tbl[153]? = some (Cond.code zm64.1 zm64.2.1 zm64.2.2.1 zm64.2.2.2.1) := by decide +kernel
theorem zo64 : zokM zm64 := by
  have h := Bool.and_eq_true .. ▸ zg64
  exact zM_ok (zin_of _ zq64 h.1) h.2 zd64 (fun _ => List.mem_filter.mpr ⟨List.mem_of_getElem? zc64, rfl⟩)
theorem zq65 : zwM zmt zm65 = [126, 835, 836, 773, 770, 838, 769, 770, 769, 770, 771, 965, 779, 782, 969, 774, 769, 748, 973].filterMap (fun p => lw_tbl[p]?) := by decide +kernel
theorem zg65 : ((zwM zmt zm65).all goodWord && zbM zmt zm65) = true := by decide +kernel
theorem zd65 : ∀ r ∈ ze65, ∀ e ∈ r, decode cX11_table e.1 = .ok (e.2.1, zlen e.2.1 e.2.2.1) := by decide +kernel
theorem zc65 : lw_tbl[837]? = some (Cond.code zm65.1 zm65.2.1 zm65.2.2.1 zm65.2.2.2.1) := by decide +kernel
theorem zo65 : zokM zm65 := by
  have h := Bool.and_eq_true .. ▸ zg65
  exact zM_ok (zin_of _ zq65 h.1) h.2 zd65 (fun _ => List.mem_filter.mpr ⟨List.mem_of_getElem? zc65, rfl⟩)
theorem zq66 : zwM zmt zm66 = [126, 986, 987, 773, 769, 989, 774, 773, 365, 773, 367, 773, 367, 1009, 774, 769, 1014, 973].filterMap (fun p => lw_tbl[p]?) := by decide +kernel
theorem zg66 : ((zwM zmt zm66).all goodWord && zbM zmt zm66) = true := by decide +kernel
theorem zd66 : ∀ r ∈ ze66, ∀ e ∈ r, decode cX11_deal e.1 = .ok (e.2.1, zlen e.2.1 e.2.2.1) := by decide +kernel
theorem zc66 : lw_tbl[988]? = some (Cond.code zm66.1 zm66.2.1 zm66.2.2.1 zm66.2.2.2.1) := by decide +kernel
theorem zo66 : zokM zm66 := by
  have h := Bool.and_eq_true .. ▸ zg66
  exact zM_ok (zin_of _ zq66 h.1) h.2 zd66 (fun _ => List.mem_filter.mpr ⟨List.mem_of_getElem? zc66, rfl⟩)
theorem zq67 : zwM zmt zm67 = [126, 1016, 1017, 773, 769, 772, 1019, 771, 772, 771, 772].filterMap (fun p => lw_tbl[p]?) := by decide +kernel
theorem zg67 : ((zwM zmt zm67).all goodWord && zbM zmt zm67) = true := by decide +kernel
theorem zd67 : ∀ r ∈ ze67, ∀ e ∈ r, decode cX11_book e.1 = .ok (e.2.1, zlen e.2.1 e.2.2.1) := by decide +kernel
theorem zc67 : lw_tbl[1018]? = some (Cond.code zm67.1 zm67.2.1 zm67.2.2.1 zm67.2.2.2.1) := by decide +kernel
theorem zo67 : zokM zm67 := by
  have h := Bool.and_eq_true .. ▸ zg67
  exact zM_ok (zin_of _ zq67 h.1) h.2 zd67 (fun _ => List.mem_filter.mpr ⟨List.mem_of_getElem? zc67, rfl⟩)
theorem zq68 : zwM zmt zm68 = [126, 1037, 1038, 769, 259].filterMap (fun p => lw_tbl[p]?) := by decide +kernel
theorem zg68 : ((zwM zmt zm68).all goodWord && zbM zmt zm68) = true := by decide +kernel
theorem zd68 : ∀ r ∈ ze68, ∀ e ∈ r, decode cX11_kind e.1 = .ok (e.2.1, zlen e.2.1 e.2.2.1) := by decide +kernel
theorem zc68 : lw_tbl[1039]? = some (Cond.code zm68.1 zm68.2.1 zm68.2.2.1 zm68.2.2.2.1) := by decide +kernel
theorem zo68 : zokM zm68 := by
  have h := Bool.and_eq_true .. ▸ zg68
  exact zM_ok (zin_of _ zq68 h.1) h.2 zd68 (fun _ => List.mem_filter.mpr ⟨List.mem_of_getElem? zc68, rfl⟩)
theorem zq69 : zwM zmt zm69 = [126, 1053, 1054, 1056, 774, 484, 409].filterMap (fun p => lw_tbl[p]?) := by decide +kernel
theorem zg69 : ((zwM zmt zm69).all goodWord && zbM zmt zm69) = true := by decide +kernel
theorem zd69 : ∀ r ∈ ze69, ∀ e ∈ r, decode cX11_card e.1 = .ok (e.2.1, zlen e.2.1 e.2.2.1) := by decide +kernel
theorem zc69 : lw_tbl[1055]? = some (Cond.code zm69.1 zm69.2.1 zm69.2.2.1 zm69.2.2.2.1) := by decide +kernel
theorem zo69 : zokM zm69 := by
  have h := Bool.and_eq_true .. ▸ zg69
  exact zM_ok (zin_of _ zq69 h.1) h.2 zd69 (fun _ => List.mem_filter.mpr ⟨List.mem_of_getElem? zc69, rfl⟩)
theorem zq70 : zwM zmt zm70 = [126, 1061, 1062, 774, 484, 421].filterMap (fun p => lw_tbl[p]?) := by decide +kernel
theorem zg70 : ((zwM zmt zm70).all goodWord && zbM zmt zm70) = true := by decide +kernel
theorem zd70 : ∀ r ∈ ze70, ∀ e ∈ r, decode cX11_heap e.1 = .ok (e.2.1, zlen e.2.1 e.2.2.1) := by decide +kernel
theorem zc70 : lw_tbl[1063]? = some (Cond.code zm70.1 zm70.2.1 zm70.2.2.1 zm70.2.2.2.1) := by decide +kernel
theorem zo70 : zokM zm70 := by
  have h := Bool.and_eq_true .. ▸ zg70
  exact zM_ok (zin_of _ zq70 h.1) h.2 zd70 (fun _ => List.mem_filter.mpr ⟨List.mem_of_getElem? zc70, rfl⟩)
theorem zq71 : zwM zmt zm71 = [126, 1065, 1066, 774, 1068].filterMap (fun p => lw_tbl[p]?) := by decide +kernel
theorem zg71 : ((zwM zmt zm71).all goodWord && zbM zmt zm71) = true := by decide +kernel
theorem zd71 : ∀ r ∈ ze71, ∀ e ∈ r, decode cX11_taken e.1 = .ok (e.2.1, zlen e.2.1 e.2.2.1) := by decide +kernel
theorem zc71 : lw_tbl[1067]? = some (Cond.code zm71.1 zm71.2.1 zm71.2.2.1 zm71.2.2.2.1) := by decide +kernel
theorem zo71 : zokM zm71 := by
  have h := Bool.and_eq_true .. ▸ zg71
  exact zM_ok (zin_of _ zq71 h.1) h.2 zd71 (fun _ => List.mem_filter.mpr ⟨List.mem_of_getElem? zc71, rfl⟩)
theorem zq72 : zwM zmt zm72 = [126, 1073, 1074, 774, 484, 447, 1076, 774, 769, 278, 1096, 977].filterMap (fun p => lw_tbl[p]?) := by decide +kernel
theorem zg72 : ((zwM zmt zm72).all goodWord && zbM zmt zm72) = true := by decide +kernel
theorem zd72 : ∀ r ∈ ze72, ∀ e ∈ r, decode cX11_turn e.1 = .ok (e.2.1, zlen e.2.1 e.2.2.1) := by decide +kernel
theorem zc72 : lw_tbl[1075]? = some (Cond.code zm72.1 zm72.2.1 zm72.2.2.1 zm72.2.2.2.1) := by decide +kernel
theorem zo72 : zokM zm72 := by
  have h := Bool.and_eq_true .. ▸ zg72
  exact zM_ok (zin_of _ zq72 h.1) h.2 zd72 (fun _ => List.mem_filter.mpr ⟨List.mem_of_getElem? zc72, rfl⟩)
theorem zq73 : zwM zmt zm73 = [126, 1145, 1146, 774, 1148, 1076, 774, 769, 278, 1152, 977].filterMap (fun p => lw_tbl[p]?) := by decide +kernel
theorem zg73 : ((zwM zmt zm73).all goodWord && zbM zmt zm73) = true := by decide +kernel
theorem zd73 : ∀ r ∈ ze73, ∀ e ∈ r, decode cX11_slip e.1 = .ok (e.2.1, zlen e.2.1 e.2.2.1) := by decide +kernel
theorem zc73 : lw_tbl[1147]? = some (Cond.code zm73.1 zm73.2.1 zm73.2.2.1 zm73.2.2.2.1) := by decide +kernel
theorem zo73 : zokM zm73 := by
  have h := Bool.and_eq_true .. ▸ zg73
  exact zM_ok (zin_of _ zq73 h.1) h.2 zd73 (fun _ => List.mem_filter.mpr ⟨List.mem_of_getElem? zc73, rfl⟩)
end
section
theorem zq74 : zwM zmt zm74 = [126, 1163, 1164, 777].filterMap (fun p => lw_tbl[p]?) := by decide +kernel
theorem zg74 : ((zwM zmt zm74).all goodWord && zbM zmt zm74) = true := by decide +kernel
theorem zd74 : ∀ r ∈ ze74, ∀ e ∈ r, decode cX11_undo e.1 = .ok (e.2.1, zlen e.2.1 e.2.2.1) := by decide +kernel
theorem zc74 : lw_tbl[1165]? = some (Cond.code zm74.1 zm74.2.1 zm74.2.2.1 zm74.2.2.2.1) := by decide +kernel
theorem zo74 : zokM zm74 := by
  have h := Bool.and_eq_true .. ▸ zg74
  exact zM_ok (zin_of _ zq74 h.1) h.2 zd74 (fun _ => List.mem_filter.mpr ⟨List.mem_of_getElem? zc74, rfl⟩)
theorem zq75 : zwM zmt zm75 = [126, 1167, 1168, 774, 490].filterMap (fun p => lw_tbl[p]?) := by decide +kernel
theorem zg75 : ((zwM zmt zm75).all goodWord && zbM zmt zm75) = true := by decide +kernel
theorem zd75 : ∀ r ∈ ze75, ∀ e ∈ r, decode cX11_again e.1 = .ok (e.2.1, zlen e.2.1 e.2.2.1) := by decide +kernel
theorem zc75 : lw_tbl[1169]? = some (Cond.code zm75.1 zm75.2.1 zm75.2.2.1 zm75.2.2.2.1) := by decide +kernel
theorem zo75 : zokM zm75 := by
  have h := Bool.and_eq_true .. ▸ zg75
  exact zM_ok (zin_of _ zq75 h.1) h.2 zd75 (fun _ => List.mem_filter.mpr ⟨List.mem_of_getElem? zc75, rfl⟩)
theorem zq76 : zwM zmt zm76 = [126, 1171, 1172, 786, 786, 781, 575, 774, 484, 1174, 781, 769, 278, 769, 288, 1175, 785, 781, 579, 785, 781, 582, 785, 781, 584, 785, 781, 586, 785].filterMap (fun p => lw_tbl[p]?) := by decide +kernel
theorem zg76 : ((zwM zmt zm76).all goodWord && zbM zmt zm76) = true := by decide +kernel
theorem zd76 : ∀ r ∈ ze76, ∀ e ∈ r, decode cX11_ends e.1 = .ok (e.2.1, zlen e.2.1 e.2.2.1) := by decide +kernel
theorem zc76 : lw_tbl[1173]? = some (Cond.code zm76.1 zm76.2.1 zm76.2.2.1 zm76.2.2.2.1) := by decide +kernel
theorem zo76 : zokM zm76 := by
  have h := Bool.and_eq_true .. ▸ zg76
  exact zM_ok (zin_of _ zq76 h.1) h.2 zd76 (fun _ => List.mem_filter.mpr ⟨List.mem_of_getElem? zc76, rfl⟩)
theorem zq77 : zwM zmt zm77 = [126, 1219, 1220, 782, 769, 1222].filterMap (fun p => lw_tbl[p]?) := by decide +kernel
theorem zg77 : ((zwM zmt zm77).all goodWord && zbM zmt zm77) = true := by decide +kernel
theorem zd77 : ∀ r ∈ ze77, ∀ e ∈ r, decode cX11_all e.1 = .ok (e.2.1, zlen e.2.1 e.2.2.1) := by decide +kernel
theorem zc77 : lw_tbl[1221]? = some (Cond.code zm77.1 zm77.2.1 zm77.2.2.1 zm77.2.2.2.1) := by decide +kernel
theorem zo77 : zokM zm77 := by
  have h := Bool.and_eq_true .. ▸ zg77
  exact zM_ok (zin_of _ zq77 h.1) h.2 zd77 (fun _ => List.mem_filter.mpr ⟨List.mem_of_getElem? zc77, rfl⟩)
theorem zq78 : zwM zmt zm78 = [126, 1272, 1273, 782, 769, 1222].filterMap (fun p => lw_tbl[p]?) := by decide +kernel
theorem zg78 : ((zwM zmt zm78).all goodWord && zbM zmt zm78) = true := by decide +kernel
theorem zd78 : ∀ r ∈ ze78, ∀ e ∈ r, decode cX11_row e.1 = .ok (e.2.1, zlen e.2.1 e.2.2.1) := by decide +kernel
theorem zc78 : lw_tbl[1274]? = some (Cond.code zm78.1 zm78.2.1 zm78.2.2.1 zm78.2.2.2.1) := by decide +kernel
theorem zo78 : zokM zm78 := by
  have h := Bool.and_eq_true .. ▸ zg78
  exact zM_ok (zin_of _ zq78 h.1) h.2 zd78 (fun _ => List.mem_filter.mpr ⟨List.mem_of_getElem? zc78, rfl⟩)
theorem zq79 : zwM zmt zm79 = [126, 1282, 1283, 782, 769, 1222].filterMap (fun p => lw_tbl[p]?) := by decide +kernel
theorem zg79 : ((zwM zmt zm79).all goodWord && zbM zmt zm79) = true := by decide +kernel
theorem zd79 : ∀ r ∈ ze79, ∀ e ∈ r, decode cX11_beginner e.1 = .ok (e.2.1, zlen e.2.1 e.2.2.1) := by decide +kernel
theorem zc79 : lw_tbl[1284]? = some (Cond.code zm79.1 zm79.2.1 zm79.2.2.1 zm79.2.2.2.1) := by decide +kernel
theorem zo79 : zokM zm79 := by
  have h := Bool.and_eq_true .. ▸ zg79
  exact zM_ok (zin_of _ zq79 h.1) h.2 zd79 (fun _ => List.mem_filter.mpr ⟨List.mem_of_getElem? zc79, rfl⟩)
theorem zq80 : zwM zmt zm80 = [126, 1290, 1291, 769, 259].filterMap (fun p => lw_tbl[p]?) := by decide +kernel
theorem zg80 : ((zwM zmt zm80).all goodWord && zbM zmt zm80) = true := by decide +kernel
theorem zd80 : ∀ r ∈ ze80, ∀ e ∈ r, decode cX11_worth e.1 = .ok (e.2.1, zlen e.2.1 e.2.2.1) := by decide +kernel
theorem zc80 : lw_tbl[1292]? = some (Cond.code zm80.1 zm80.2.1 zm80.2.2.1 zm80.2.2.2.1) := by decide +kernel
theorem zo80 : zokM zm80 := by
  have h := Bool.and_eq_true .. ▸ zg80
  exact zM_ok (zin_of _ zq80 h.1) h.2 zd80 (fun _ => List.mem_filter.mpr ⟨List.mem_of_getElem? zc80, rfl⟩)
theorem zq81 : zwM zmt zm81 = [126, 1294, 1295, 782, 769, 1222].filterMap (fun p => lw_tbl[p]?) := by decide +kernel
theorem zg81 : ((zwM zmt zm81).all goodWord && zbM zmt zm81) = true := by decide +kernel
theorem zd81 : ∀ r ∈ ze81, ∀ e ∈ r, decode cX11_leads e.1 = .ok (e.2.1, zlen e.2.1 e.2.2.1) := by decide +kernel
theorem zc81 : lw_tbl[1296]? = some (Cond.code zm81.1 zm81.2.1 zm81.2.2.1 zm81.2.2.2.1) := by decide +kernel
theorem zo81 : zokM zm81 := by
  have h := Bool.and_eq_true .. ▸ zg81
  exact zM_ok (zin_of _ zq81 h.1) h.2 zd81 (fun _ => List.mem_filter.mpr ⟨List.mem_of_getElem? zc81, rfl⟩)
theorem zq82 : zwM zmt zm82 = [126, 1316, 1317, 769, 259].filterMap (fun p => lw_tbl[p]?) := by decide +kernel
theorem zg82 : ((zwM zmt zm82).all goodWord && zbM zmt zm82) = true := by decide +kernel
theorem zd82 : ∀ r ∈ ze82, ∀ e ∈ r, decode cX11_laws e.1 = .ok (e.2.1, zlen e.2.1 e.2.2.1) := by decide +kernel
theorem zc82 : lw_tbl[1318]? = some (Cond.code zm82.1 zm82.2.1 zm82.2.2.1 zm82.2.2.2.1) := by decide +kernel
theorem zo82 : zokM zm82 := by
  have h := Bool.and_eq_true .. ▸ zg82
  exact zM_ok (zin_of _ zq82 h.1) h.2 zd82 (fun _ => List.mem_filter.mpr ⟨List.mem_of_getElem? zc82, rfl⟩)
theorem zq83 : zwM zmt zm83 = [126, 1327, 1328, 1056, 774, 484, 1330].filterMap (fun p => lw_tbl[p]?) := by decide +kernel
theorem zg83 : ((zwM zmt zm83).all goodWord && zbM zmt zm83) = true := by decide +kernel
theorem zd83 : ∀ r ∈ ze83, ∀ e ∈ r, decode cX11_unseen e.1 = .ok (e.2.1, zlen e.2.1 e.2.2.1) := by decide +kernel
theorem zc83 : lw_tbl[1329]? = some (Cond.code zm83.1 zm83.2.1 zm83.2.2.1 zm83.2.2.2.1) := by decide +kernel
theorem zo83 : zokM zm83 := by
  have h := Bool.and_eq_true .. ▸ zg83
  exact zM_ok (zin_of _ zq83 h.1) h.2 zd83 (fun _ => List.mem_filter.mpr ⟨List.mem_of_getElem? zc83, rfl⟩)
theorem zq84 : zwM zmt zm84 = [126, 1339, 1340, 783, 774, 484, 769, 1342, 783, 695].filterMap (fun p => lw_tbl[p]?) := by decide +kernel
theorem zg84 : ((zwM zmt zm84).all goodWord && zbM zmt zm84) = true := by decide +kernel
theorem zd84 : ∀ r ∈ ze84, ∀ e ∈ r, decode cX11_odds e.1 = .ok (e.2.1, zlen e.2.1 e.2.2.1) := by decide +kernel
theorem zc84 : lw_tbl[1341]? = some (Cond.code zm84.1 zm84.2.1 zm84.2.2.1 zm84.2.2.2.1) := by decide +kernel
theorem zo84 : zokM zm84 := by
  have h := Bool.and_eq_true .. ▸ zg84
  exact zM_ok (zin_of _ zq84 h.1) h.2 zd84 (fun _ => List.mem_filter.mpr ⟨List.mem_of_getElem? zc84, rfl⟩)
theorem zq85 : zwM zmt zm85 = [126, 1363, 1364, 769, 774, 484, 1366].filterMap (fun p => lw_tbl[p]?) := by decide +kernel
theorem zg85 : ((zwM zmt zm85).all goodWord && zbM zmt zm85) = true := by decide +kernel
theorem zd85 : ∀ r ∈ ze85, ∀ e ∈ r, decode cX11_offer e.1 = .ok (e.2.1, zlen e.2.1 e.2.2.1) := by decide +kernel
theorem zc85 : lw_tbl[1365]? = some (Cond.code zm85.1 zm85.2.1 zm85.2.2.1 zm85.2.2.2.1) := by decide +kernel
theorem zo85 : zokM zm85 := by
  have h := Bool.and_eq_true .. ▸ zg85
  exact zM_ok (zin_of _ zq85 h.1) h.2 zd85 (fun _ => List.mem_filter.mpr ⟨List.mem_of_getElem? zc85, rfl⟩)
theorem zq86 : zwM zmt zm86 = [126, 1383, 1384, 1056, 774, 505, 774, 484, 447, 774, 503, 1076, 774, 769, 774, 484, 1366, 1386, 774, 505].filterMap (fun p => lw_tbl[p]?) := by decide +kernel
theorem zg86 : ((zwM zmt zm86).all goodWord && zbM zmt zm86) = true := by decide +kernel
theorem zd86 : ∀ r ∈ ze86, ∀ e ∈ r, decode cX11_bet e.1 = .ok (e.2.1, zlen e.2.1 e.2.2.1) := by decide +kernel
theorem zc86 : lw_tbl[1385]? = some (Cond.code zm86.1 zm86.2.1 zm86.2.2.1 zm86.2.2.2.1) := by decide +kernel
theorem zo86 : zokM zm86 := by
  have h := Bool.and_eq_true .. ▸ zg86
  exact zM_ok (zin_of _ zq86 h.1) h.2 zd86 (fun _ => List.mem_filter.mpr ⟨List.mem_of_getElem? zc86, rfl⟩)
theorem zq87 : zwM zmt zm87 = [126, 1391, 1392, 1056, 783, 774, 484, 769, 1342, 783, 695, 783, 695, 769, 774, 484, 1366, 1394].filterMap (fun p => lw_tbl[p]?) := by decide +kernel
theorem zg87 : ((zwM zmt zm87).all goodWord && zbM zmt zm87) = true := by decide +kernel
theorem zd87 : ∀ r ∈ ze87, ∀ e ∈ r, decode cX11_take e.1 = .ok (e.2.1, zlen e.2.1 e.2.2.1) := by decide +kernel
theorem zc87 : lw_tbl[1393]? = some (Cond.code zm87.1 zm87.2.1 zm87.2.2.1 zm87.2.2.2.1) := by decide +kernel
theorem zo87 : zokM zm87 := by
  have h := Bool.and_eq_true .. ▸ zg87
  exact zM_ok (zin_of _ zq87 h.1) h.2 zd87 (fun _ => List.mem_filter.mpr ⟨List.mem_of_getElem? zc87, rfl⟩)
theorem zq88 : zwM zmt zm88 = [126, 1396, 1397, 774, 484, 451, 784, 774, 484, 769, 278, 1399].filterMap (fun p => lw_tbl[p]?) := by decide +kernel
theorem zg88 : ((zwM zmt zm88).all goodWord && zbM zmt zm88) = true := by decide +kernel
theorem zd88 : ∀ r ∈ ze88, ∀ e ∈ r, decode cX11_choice e.1 = .ok (e.2.1, zlen e.2.1 e.2.2.1) := by decide +kernel
theorem zc88 : lw_tbl[1398]? = some (Cond.code zm88.1 zm88.2.1 zm88.2.2.1 zm88.2.2.2.1) := by decide +kernel
theorem zo88 : zokM zm88 := by
  have h := Bool.and_eq_true .. ▸ zg88
  exact zM_ok (zin_of _ zq88 h.1) h.2 zd88 (fun _ => List.mem_filter.mpr ⟨List.mem_of_getElem? zc88, rfl⟩)
theorem zq89 : zwM zmt zm89 = [126, 1426, 1427, 774, 484, 451, 784, 774, 484, 1429].filterMap (fun p => lw_tbl[p]?) := by decide +kernel
theorem zg89 : ((zwM zmt zm89).all goodWord && zbM zmt zm89) = true := by decide +kernel
theorem zd89 : ∀ r ∈ ze89, ∀ e ∈ r, decode cX11_both e.1 = .ok (e.2.1, zlen e.2.1 e.2.2.1) := by decide +kernel
theorem zc89 : lw_tbl[1428]? = some (Cond.code zm89.1 zm89.2.1 zm89.2.2.1 zm89.2.2.2.1) := by decide +kernel
theorem zo89 : zokM zm89 := by
  have h := Bool.and_eq_true .. ▸ zg89
  exact zM_ok (zin_of _ zq89 h.1) h.2 zd89 (fun _ => List.mem_filter.mpr ⟨List.mem_of_getElem? zc89, rfl⟩)
end
section
theorem zq90 : zwM zmt zm90 = [126, 1439, 1440, 771, 774, 1442].filterMap (fun p => lw_tbl[p]?) := by decide +kernel
theorem zg90 : ((zwM zmt zm90).all goodWord && zbM zmt zm90) = true := by decide +kernel
theorem zd90 : ∀ r ∈ ze90, ∀ e ∈ r, decode cX11_opening e.1 = .ok (e.2.1, zlen e.2.1 e.2.2.1) := by decide +kernel
theorem zc90 : lw_tbl[1441]? = some (Cond.code zm90.1 zm90.2.1 zm90.2.2.1 zm90.2.2.2.1) := by decide +kernel
theorem zo90 : zokM zm90 := by
  have h := Bool.and_eq_true .. ▸ zg90
  exact zM_ok (zin_of _ zq90 h.1) h.2 zd90 (fun _ => List.mem_filter.mpr ⟨List.mem_of_getElem? zc90, rfl⟩)
theorem zq91 : zwM zmt zm91 = [126, 1451, 1452, 769, 259].filterMap (fun p => lw_tbl[p]?) := by decide +kernel
theorem zg91 : ((zwM zmt zm91).all goodWord && zbM zmt zm91) = true := by decide +kernel
theorem zd91 : ∀ r ∈ ze91, ∀ e ∈ r, decode cX11_comes e.1 = .ok (e.2.1, zlen e.2.1 e.2.2.1) := by decide +kernel
theorem zc91 : lw_tbl[1453]? = some (Cond.code zm91.1 zm91.2.1 zm91.2.2.1 zm91.2.2.2.1) := by decide +kernel
theorem zo91 : zokM zm91 := by
  have h := Bool.and_eq_true .. ▸ zg91
  exact zM_ok (zin_of _ zq91 h.1) h.2 zd91 (fun _ => List.mem_filter.mpr ⟨List.mem_of_getElem? zc91, rfl⟩)
theorem zq92 : zwM zmt zm92 = [126, 1459, 1460, 774, 498].filterMap (fun p => lw_tbl[p]?) := by decide +kernel
theorem zg92 : ((zwM zmt zm92).all goodWord && zbM zmt zm92) = true := by decide +kernel
theorem zd92 : ∀ r ∈ ze92, ∀ e ∈ r, decode cX11_clear e.1 = .ok (e.2.1, zlen e.2.1 e.2.2.1) := by decide +kernel
theorem zc92 : lw_tbl[1461]? = some (Cond.code zm92.1 zm92.2.1 zm92.2.2.1 zm92.2.2.2.1) := by decide +kernel
theorem zo92 : zokM zm92 := by
  have h := Bool.and_eq_true .. ▸ zg92
  exact zM_ok (zin_of _ zq92 h.1) h.2 zd92 (fun _ => List.mem_filter.mpr ⟨List.mem_of_getElem? zc92, rfl⟩)
theorem zq93 : zwM zmt zm93 = [126, 1463, 1464, 1466, 769, 275].filterMap (fun p => lw_tbl[p]?) := by decide +kernel
theorem zg93 : ((zwM zmt zm93).all goodWord && zbM zmt zm93) = true := by decide +kernel
theorem zd93 : ∀ r ∈ ze93, ∀ e ∈ r, decode cX11_drawn e.1 = .ok (e.2.1, zlen e.2.1 e.2.2.1) := by decide +kernel
theorem zc93 : lw_tbl[1465]? = some (Cond.code zm93.1 zm93.2.1 zm93.2.2.1 zm93.2.2.2.1) := by decide +kernel
theorem zo93 : zokM zm93 := by
  have h := Bool.and_eq_true .. ▸ zg93
  exact zM_ok (zin_of _ zq93 h.1) h.2 zd93 (fun _ => List.mem_filter.mpr ⟨List.mem_of_getElem? zc93, rfl⟩)
theorem zq94 : zwM zmt zm94 = [126, 1488, 1489, 1466, 769, 275].filterMap (fun p => lw_tbl[p]?) := by decide +kernel
theorem zg94 : ((zwM zmt zm94).all goodWord && zbM zmt zm94) = true := by decide +kernel
theorem zd94 : ∀ r ∈ ze94, ∀ e ∈ r, decode cX11_games e.1 = .ok (e.2.1, zlen e.2.1 e.2.2.1) := by decide +kernel
theorem zc94 : lw_tbl[1490]? = some (Cond.code zm94.1 zm94.2.1 zm94.2.2.1 zm94.2.2.2.1) := by decide +kernel
theorem zo94 : zokM zm94 := by
  have h := Bool.and_eq_true .. ▸ zg94
  exact zM_ok (zin_of _ zq94 h.1) h.2 zd94 (fun _ => List.mem_filter.mpr ⟨List.mem_of_getElem? zc94, rfl⟩)
theorem zq95 : zwM zmt zm95 = [126, 1499, 1500, 1466, 769, 275].filterMap (fun p => lw_tbl[p]?) := by decide +kernel
theorem zg95 : ((zwM zmt zm95).all goodWord && zbM zmt zm95) = true := by decide +kernel
theorem zd95 : ∀ r ∈ ze95, ∀ e ∈ r, decode cX11_looked e.1 = .ok (e.2.1, zlen e.2.1 e.2.2.1) := by decide +kernel
theorem zc95 : lw_tbl[1501]? = some (Cond.code zm95.1 zm95.2.1 zm95.2.2.1 zm95.2.2.2.1) := by decide +kernel
theorem zo95 : zokM zm95 := by
  have h := Bool.and_eq_true .. ▸ zg95
  exact zM_ok (zin_of _ zq95 h.1) h.2 zd95 (fun _ => List.mem_filter.mpr ⟨List.mem_of_getElem? zc95, rfl⟩)
theorem zq96 : zwM zmt zm96 = [126, 1508, 1509, 1511, 778, 778, 390, 391, 135, 778, 774, 1080, 779].filterMap (fun p => lw_tbl[p]?) := by decide +kernel
theorem zg96 : ((zwM zmt zm96).all goodWord && zbM zmt zm96) = true := by decide +kernel
theorem zd96 : ∀ r ∈ ze96, ∀ e ∈ r, decode cX11_mark e.1 = .ok (e.2.1, zlen e.2.1 e.2.2.1) := by decide +kernel
theorem zc96 : lw_tbl[1510]? = some (Cond.code zm96.1 zm96.2.1 zm96.2.2.1 zm96.2.2.2.1) := by decide +kernel
theorem zo96 : zokM zm96 := by
  have h := Bool.and_eq_true .. ▸ zg96
  exact zM_ok (zin_of _ zq96 h.1) h.2 zd96 (fun _ => List.mem_filter.mpr ⟨List.mem_of_getElem? zc96, rfl⟩)
theorem zq97 : zwM zmt zm97 = [126, 1516, 1517, 774, 484, 769, 259, 769, 275, 409, 409, 421, 426, 428, 428, 435, 440, 447, 774, 505, 774, 503, 771, 344, 774, 498, 777, 769, 288, 769, 278, 768, 215].filterMap (fun p => lw_tbl[p]?) := by decide +kernel
theorem zg97 : ((zwM zmt zm97).all goodWord && zbM zmt zm97) = true := by decide +kernel
theorem zd97 : ∀ r ∈ ze97, ∀ e ∈ r, decode cX11_count e.1 = .ok (e.2.1, zlen e.2.1 e.2.2.1) := by decide +kernel
theorem zc97 : lw_tbl[1518]? = some (Cond.code zm97.1 zm97.2.1 zm97.2.2.1 zm97.2.2.2.1) := by decide +kernel
theorem zo97 : zokM zm97 := by
  have h := Bool.and_eq_true .. ▸ zg97
  exact zM_ok (zin_of _ zq97 h.1) h.2 zd97 (fun _ => List.mem_filter.mpr ⟨List.mem_of_getElem? zc97, rfl⟩)
theorem zq98 : zwM zmt zm98 = [126, 1057].filterMap (fun p => lw_tbl[p]?) := by decide +kernel
theorem zg98 : ((zwM zmt zm98).all goodWord && zbM zmt zm98) = true := by decide +kernel
theorem zd98 : ∀ r ∈ ze98, ∀ e ∈ r, decode cX11_isSide e.1 = .ok (e.2.1, zlen e.2.1 e.2.2.1) := by decide +kernel
theorem zc98 : lw_tbl[1058]? = some (Cond.code zm98.1 zm98.2.1 zm98.2.2.1 zm98.2.2.2.1) := by decide +kernel
theorem zo98 : zokM zm98 := by
  have h := Bool.and_eq_true .. ▸ zg98
  exact zM_ok (zin_of _ zq98 h.1) h.2 zd98 (fun _ => List.mem_filter.mpr ⟨List.mem_of_getElem? zc98, rfl⟩)
theorem zq99 : zwM zmt zm99 = [126, 1513, 56, 778, 779].filterMap (fun p => lw_tbl[p]?) := by decide +kernel
theorem zg99 : ((zwM zmt zm99).all goodWord && zbM zmt zm99) = true := by decide +kernel
theorem zd99 : ∀ r ∈ ze99, ∀ e ∈ r, decode cX11_goBack e.1 = .ok (e.2.1, zlen e.2.1 e.2.2.1) := by decide +kernel
theorem zc99 : lw_tbl[1514]? = some (Cond.code zm99.1 zm99.2.1 zm99.2.2.1 zm99.2.2.2.1) := by decide +kernel
theorem zo99 : zokM zm99 := by
  have h := Bool.and_eq_true .. ▸ zg99
  exact zM_ok (zin_of _ zq99 h.1) h.2 zd99 (fun _ => List.mem_filter.mpr ⟨List.mem_of_getElem? zc99, rfl⟩)
theorem zq100 : zwM zmt zm100 = [126, 1078, 27, 775, 776, 775, 776, 390, 391, 135, 775, 776, 774, 1080, 776, 776, 777, 777, 777].filterMap (fun p => lw_tbl[p]?) := by decide +kernel
theorem zg100 : ((zwM zmt zm100).all goodWord && zbM zmt zm100) = true := by decide +kernel
theorem zd100 : ∀ r ∈ ze100, ∀ e ∈ r, decode cX11_remember e.1 = .ok (e.2.1, zlen e.2.1 e.2.2.1) := by decide +kernel
theorem zc100 : lw_tbl[1079]? = some (Cond.code zm100.1 zm100.2.1 zm100.2.2.1 zm100.2.2.2.1) := by decide +kernel
theorem zo100 : zokM zm100 := by
  have h := Bool.and_eq_true .. ▸ zg100
  exact zM_ok (zin_of _ zq100 h.1) h.2 zd100 (fun _ => List.mem_filter.mpr ⟨List.mem_of_getElem? zc100, rfl⟩)
theorem zq101 : zwM zmt zm101 = [126, 975, 20, 777, 977].filterMap (fun p => lw_tbl[p]?) := by decide +kernel
theorem zg101 : ((zwM zmt zm101).all goodWord && zbM zmt zm101) = true := by decide +kernel
theorem zd101 : ∀ r ∈ ze101, ∀ e ∈ r, decode cX11_gameBegan e.1 = .ok (e.2.1, zlen e.2.1 e.2.2.1) := by decide +kernel
theorem zc101 : lw_tbl[976]? = some (Cond.code zm101.1 zm101.2.1 zm101.2.2.1 zm101.2.2.2.1) := by decide +kernel
theorem zo101 : zokM zm101 := by
  have h := Bool.and_eq_true .. ▸ zg101
  exact zM_ok (zin_of _ zq101 h.1) h.2 zd101 (fun _ => List.mem_filter.mpr ⟨List.mem_of_getElem? zc101, rfl⟩)
theorem zq102 : zwM zmt zm102 = [126, 979, 21, 786, 783, 697, 784, 981].filterMap (fun p => lw_tbl[p]?) := by decide +kernel
theorem zg102 : ((zwM zmt zm102).all goodWord && zbM zmt zm102) = true := by decide +kernel
theorem zd102 : ∀ r ∈ ze102, ∀ e ∈ r, decode cX11_gameChanged e.1 = .ok (e.2.1, zlen e.2.1 e.2.2.1) := by decide +kernel
theorem zc102 : lw_tbl[980]? = some (Cond.code zm102.1 zm102.2.1 zm102.2.2.1 zm102.2.2.2.1) := by decide +kernel
theorem zo102 : zokM zm102 := by
  have h := Bool.and_eq_true .. ▸ zg102
  exact zM_ok (zin_of _ zq102 h.1) h.2 zd102 (fun _ => List.mem_filter.mpr ⟨List.mem_of_getElem? zc102, rfl⟩)
theorem zq103 : zwM zmt zm103 = [142, 1598, 1599, 1647].filterMap (fun p => lw_tbl[p]?) := by decide +kernel
theorem zg103 : ((zwM zmt zm103).all goodWord && zbM zmt zm103) = true := by decide +kernel
theorem zd103 : ∀ r ∈ ze103, ∀ e ∈ r, decode cX12_thrown e.1 = .ok (e.2.1, zlen e.2.1 e.2.2.1) := by decide +kernel
theorem zc103 : lw_tbl[1600]? = some (Cond.code zm103.1 zm103.2.1 zm103.2.2.1 zm103.2.2.2.1) := by decide +kernel
theorem zo103 : zokM zm103 := by
  have h := Bool.and_eq_true .. ▸ zg103
  exact zM_ok (zin_of _ zq103 h.1) h.2 zd103 (fun _ => List.mem_filter.mpr ⟨List.mem_of_getElem? zc103, rfl⟩)
theorem zq104 : zwM zmt zm104 = [142, 1612, 1614, 334, 1648, 334, 1651, 334, 1652, 251, 1653, 251, 1615, 1616, 1617, 1618, 1619, 1620, 1621, 1622, 1623, 1624, 1625, 1626, 1627, 1628, 1629, 1630, 1631, 1632, 1633, 1634, 1635, 1636, 1637, 1638, 1656, 334, 1657, 334, 1658, 334, 1659, 251, 1661, 251, 1662, 334, 1664, 334, 1665, 334, 1666, 334, 1667, 334, 1668, 334, 1669, 335, 1671, 1672, 334, 1674, 251, 1675, 251, 1676, 251, 1677, 334, 1678, 334, 1679, 334, 1680, 334, 1681, 334, 1687, 334, 1689, 334, 1690, 334, 1693, 334, 1694, 334, 1699, 334, 1700, 1639, 1643].filterMap (fun p => lw_tbl[p]?) := by decide +kernel
theorem zg104 : ((zwM zmt zm104).all goodWord && zbM zmt zm104) = true := by decide +kernel
theorem zd104 : ∀ r ∈ ze104, ∀ e ∈ r, decode cX12_init e.1 = .ok (e.2.1, zlen e.2.1 e.2.2.1) := by decide +kernel
theorem zc104 : lw_tbl[1613]? = some (Cond.code zm104.1 zm104.2.1 zm104.2.2.1 zm104.2.2.2.1) := by decide +kernel
theorem zo104 : zokM zm104 := by
  have h := Bool.and_eq_true .. ▸ zg104
  exact zM_ok (zin_of _ zq104 h.1) h.2 zd104 (fun _ => List.mem_filter.mpr ⟨List.mem_of_getElem? zc104, rfl⟩)
end
section
theorem zq105 : zwM zmt zm105 = [142, 1822, 61, 1649, 1650, 1649, 1650, 1651, 1652, 1650, 1654, 1655].filterMap (fun p => lw_tbl[p]?) := by decide +kernel
theorem zg105 : ((zwM zmt zm105).all goodWord && zbM zmt zm105) = true := by decide +kernel
theorem zd105 : ∀ r ∈ ze105, ∀ e ∈ r, decode cX12_cutAll e.1 = .ok (e.2.1, zlen e.2.1 e.2.2.1) := by decide +kernel
theorem zc105 : lw_tbl[1823]? = some (Cond.code zm105.1 zm105.2.1 zm105.2.2.1 zm105.2.2.2.1) := by decide +kernel
theorem zo105 : zokM zm105 := by
  have h := Bool.and_eq_true .. ▸ zg105
  exact zM_ok (zin_of _ zq105 h.1) h.2 zd105 (fun _ => List.mem_filter.mpr ⟨List.mem_of_getElem? zc105, rfl⟩)
theorem zq106 : zwM zmt zm106 = [142, 1964].filterMap (fun p => lw_tbl[p]?) := by decide +kernel
theorem zg106 : ((zwM zmt zm106).all goodWord && zbM zmt zm106) = true := by decide +kernel
theorem zd106 : ∀ r ∈ ze106, ∀ e ∈ r, decode cX12_within e.1 = .ok (e.2.1, zlen e.2.1 e.2.2.1) := by decide +kernel
theorem zc106 : lw_tbl[1965]? = some (Cond.code zm106.1 zm106.2.1 zm106.2.2.1 zm106.2.2.2.1) := by decide +kernel
theorem zo106 : zokM zm106 := by
  have h := Bool.and_eq_true .. ▸ zg106
  exact zM_ok (zin_of _ zq106 h.1) h.2 zd106 (fun _ => List.mem_filter.mpr ⟨List.mem_of_getElem? zc106, rfl⟩)
theorem zq107 : zwM zmt zm107 = [142, 1641, 59, 1657, 1657, 1657].filterMap (fun p => lw_tbl[p]?) := by decide +kernel
theorem zg107 : ((zwM zmt zm107).all goodWord && zbM zmt zm107) = true := by decide +kernel
theorem zd107 : ∀ r ∈ ze107, ∀ e ∈ r, decode cX12_standsAsAlways e.1 = .ok (e.2.1, zlen e.2.1 e.2.2.1) := by decide +kernel
theorem zc107 : lw_tbl[1642]? = some (Cond.code zm107.1 zm107.2.1 zm107.2.2.1 zm107.2.2.2.1) := by decide +kernel
theorem zo107 : zokM zm107 := by
  have h := Bool.and_eq_true .. ▸ zg107
  exact zM_ok (zin_of _ zq107 h.1) h.2 zd107 (fun _ => List.mem_filter.mpr ⟨List.mem_of_getElem? zc107, rfl⟩)
theorem zq108 : zwM zmt zm108 = [142, 1817, 1818, 1647, 1820, 1660, 1663, 1639, 1655, 1651, 1654, 1655, 1657, 1657, 1661, 1662, 1660, 1671, 1669, 1669, 1669, 1643, 1670, 1692].filterMap (fun p => lw_tbl[p]?) := by decide +kernel
theorem zg108 : ((zwM zmt zm108).all goodWord && zbM zmt zm108) = true := by decide +kernel
theorem zd108 : ∀ r ∈ ze108, ∀ e ∈ r, decode cX12_table e.1 = .ok (e.2.1, zlen e.2.1 e.2.2.1) := by decide +kernel
theorem zc108 : lw_tbl[1819]? = some (Cond.code zm108.1 zm108.2.1 zm108.2.2.1 zm108.2.2.2.1) := by decide +kernel
theorem zo108 : zokM zm108 := by
  have h := Bool.and_eq_true .. ▸ zg108
  exact zM_ok (zin_of _ zq108 h.1) h.2 zd108 (fun _ => List.mem_filter.mpr ⟨List.mem_of_getElem? zc108, rfl⟩)
theorem zq109 : zwM zmt zm109 = [142, 1881, 72, 1657].filterMap (fun p => lw_tbl[p]?) := by decide +kernel
theorem zg109 : ((zwM zmt zm109).all goodWord && zbM zmt zm109) = true := by decide +kernel
theorem zd109 : ∀ r ∈ ze109, ∀ e ∈ r, decode cX12_cards e.1 = .ok (e.2.1, zlen e.2.1 e.2.2.1) := by decide +kernel
theorem zc109 : lw_tbl[1882]? = some (Cond.code zm109.1 zm109.2.1 zm109.2.2.1 zm109.2.2.2.1) := by decide +kernel
theorem zo109 : zokM zm109 := by
  have h := Bool.and_eq_true .. ▸ zg109
  exact zM_ok (zin_of _ zq109 h.1) h.2 zd109 (fun _ => List.mem_filter.mpr ⟨List.mem_of_getElem? zc109, rfl⟩)
theorem zq110 : zwM zmt zm110 = [142, 1932, 1933, 1647, 1820, 1663, 1665, 1665, 1655, 1651, 1654, 1655, 1939].filterMap (fun p => lw_tbl[p]?) := by decide +kernel
theorem zg110 : ((zwM zmt zm110).all goodWord && zbM zmt zm110) = true := by decide +kernel
theorem zd110 : ∀ r ∈ ze110, ∀ e ∈ r, decode cX12_deal e.1 = .ok (e.2.1, zlen e.2.1 e.2.2.1) := by decide +kernel
theorem zc110 : lw_tbl[1934]? = some (Cond.code zm110.1 zm110.2.1 zm110.2.2.1 zm110.2.2.2.1) := by decide +kernel
theorem zo110 : zokM zm110 := by
  have h := Bool.and_eq_true .. ▸ zg110
  exact zM_ok (zin_of _ zq110 h.1) h.2 zd110 (fun _ => List.mem_filter.mpr ⟨List.mem_of_getElem? zc110, rfl⟩)
theorem zq111 : zwM zmt zm111 = [142, 1941, 86, 1669, 1669, 1665, 1665, 1643, 1670].filterMap (fun p => lw_tbl[p]?) := by decide +kernel
theorem zg111 : ((zwM zmt zm111).all goodWord && zbM zmt zm111) = true := by decide +kernel
theorem zd111 : ∀ r ∈ ze111, ∀ e ∈ r, decode cX12_dealsRead e.1 = .ok (e.2.1, zlen e.2.1 e.2.2.1) := by decide +kernel
theorem zc111 : lw_tbl[1942]? = some (Cond.code zm111.1 zm111.2.1 zm111.2.2.1 zm111.2.2.2.1) := by decide +kernel
theorem zo111 : zokM zm111 := by
  have h := Bool.and_eq_true .. ▸ zg111
  exact zM_ok (zin_of _ zq111 h.1) h.2 zd111 (fun _ => List.mem_filter.mpr ⟨List.mem_of_getElem? zc111, rfl⟩)
theorem zq112 : zwM zmt zm112 = [142, 1944, 1945, 1647, 1820, 1655, 1651, 1654, 1655, 1657].filterMap (fun p => lw_tbl[p]?) := by decide +kernel
theorem zg112 : ((zwM zmt zm112).all goodWord && zbM zmt zm112) = true := by decide +kernel
theorem zd112 : ∀ r ∈ ze112, ∀ e ∈ r, decode cX12_book e.1 = .ok (e.2.1, zlen e.2.1 e.2.2.1) := by decide +kernel
theorem zc112 : lw_tbl[1946]? = some (Cond.code zm112.1 zm112.2.1 zm112.2.2.1 zm112.2.2.2.1) := by decide +kernel
theorem zo112 : zokM zm112 := by
  have h := Bool.and_eq_true .. ▸ zg112
  exact zM_ok (zin_of _ zq112 h.1) h.2 zd112 (fun _ => List.mem_filter.mpr ⟨List.mem_of_getElem? zc112, rfl⟩)
theorem zq113 : zwM zmt zm113 = [142, 1995, 92, 1669, 1669].filterMap (fun p => lw_tbl[p]?) := by decide +kernel
theorem zg113 : ((zwM zmt zm113).all goodWord && zbM zmt zm113) = true := by decide +kernel
theorem zd113 : ∀ r ∈ ze113, ∀ e ∈ r, decode cX12_copies e.1 = .ok (e.2.1, zlen e.2.1 e.2.2.1) := by decide +kernel
theorem zc113 : lw_tbl[1996]? = some (Cond.code zm113.1 zm113.2.1 zm113.2.2.1 zm113.2.2.2.1) := by decide +kernel
theorem zo113 : zokM zm113 := by
  have h := Bool.and_eq_true .. ▸ zg113
  exact zM_ok (zin_of _ zq113 h.1) h.2 zd113 (fun _ => List.mem_filter.mpr ⟨List.mem_of_getElem? zc113, rfl⟩)
theorem zq114 : zwM zmt zm114 = [142, 1991, 91, 1670, 1670, 1993, 1670, 1670].filterMap (fun p => lw_tbl[p]?) := by decide +kernel
theorem zg114 : ((zwM zmt zm114).all goodWord && zbM zmt zm114) = true := by decide +kernel
theorem zd114 : ∀ r ∈ ze114, ∀ e ∈ r, decode cX12_keeps e.1 = .ok (e.2.1, zlen e.2.1 e.2.2.1) := by decide +kernel
theorem zc114 : lw_tbl[1992]? = some (Cond.code zm114.1 zm114.2.1 zm114.2.2.1 zm114.2.2.2.1) := by decide +kernel
theorem zo114 : zokM zm114 := by
  have h := Bool.and_eq_true .. ▸ zg114
  exact zM_ok (zin_of _ zq114 h.1) h.2 zd114 (fun _ => List.mem_filter.mpr ⟨List.mem_of_getElem? zc114, rfl⟩)
theorem zq115 : zwM zmt zm115 = [142, 1645, 60, 1669, 1669, 1669, 1657, 1669, 1669, 1669, 1669, 1669, 1669].filterMap (fun p => lw_tbl[p]?) := by decide +kernel
theorem zg115 : ((zwM zmt zm115).all goodWord && zbM zmt zm115) = true := by decide +kernel
theorem zd115 : ∀ r ∈ ze115, ∀ e ∈ r, decode cX12_begins e.1 = .ok (e.2.1, zlen e.2.1 e.2.2.1) := by decide +kernel
theorem zc115 : lw_tbl[1646]? = some (Cond.code zm115.1 zm115.2.1 zm115.2.2.1 zm115.2.2.2.1) := by decide +kernel
theorem zo115 : zokM zm115 := by
  have h := Bool.and_eq_true .. ▸ zg115
  exact zM_ok (zin_of _ zq115 h.1) h.2 zd115 (fun _ => List.mem_filter.mpr ⟨List.mem_of_getElem? zc115, rfl⟩)
theorem zq116 : zwM zmt zm116 = [142, 1961, 89, 1657].filterMap (fun p => lw_tbl[p]?) := by decide +kernel
theorem zg116 : ((zwM zmt zm116).all goodWord && zbM zmt zm116) = true := by decide +kernel
theorem zd116 : ∀ r ∈ ze116, ∀ e ∈ r, decode cX12_kinds e.1 = .ok (e.2.1, zlen e.2.1 e.2.2.1) := by decide +kernel
theorem zc116 : lw_tbl[1962]? = some (Cond.code zm116.1 zm116.2.1 zm116.2.2.1 zm116.2.2.2.1) := by decide +kernel
theorem zo116 : zokM zm116 := by
  have h := Bool.and_eq_true .. ▸ zg116
  exact zM_ok (zin_of _ zq116 h.1) h.2 zd116 (fun _ => List.mem_filter.mpr ⟨List.mem_of_getElem? zc116, rfl⟩)
theorem zq117 : zwM zmt zm117 = [142, 1957, 88, 1959].filterMap (fun p => lw_tbl[p]?) := by decide +kernel
theorem zg117 : ((zwM zmt zm117).all goodWord && zbM zmt zm117) = true := by decide +kernel
theorem zd117 : ∀ r ∈ ze117, ∀ e ∈ r, decode cX12_isKind e.1 = .ok (e.2.1, zlen e.2.1 e.2.2.1) := by decide +kernel
theorem zc117 : lw_tbl[1958]? = some (Cond.code zm117.1 zm117.2.1 zm117.2.2.1 zm117.2.2.2.1) := by decide +kernel
theorem zo117 : zokM zm117 := by
  have h := Bool.and_eq_true .. ▸ zg117
  exact zM_ok (zin_of _ zq117 h.1) h.2 zd117 (fun _ => List.mem_filter.mpr ⟨List.mem_of_getElem? zc117, rfl⟩)
theorem zq118 : zwM zmt zm118 = [142, 1999, 93, 1669, 1669, 1669, 1669, 1669, 1669].filterMap (fun p => lw_tbl[p]?) := by decide +kernel
theorem zg118 : ((zwM zmt zm118).all goodWord && zbM zmt zm118) = true := by decide +kernel
theorem zd118 : ∀ r ∈ ze118, ∀ e ∈ r, decode cX12_isWon e.1 = .ok (e.2.1, zlen e.2.1 e.2.2.1) := by decide +kernel
theorem zc118 : lw_tbl[2000]? = some (Cond.code zm118.1 zm118.2.1 zm118.2.2.1 zm118.2.2.2.1) := by decide +kernel
theorem zo118 : zokM zm118 := by
  have h := Bool.and_eq_true .. ▸ zg118
  exact zM_ok (zin_of _ zq118 h.1) h.2 zd118 (fun _ => List.mem_filter.mpr ⟨List.mem_of_getElem? zc118, rfl⟩)
theorem zq119 : zwM zmt zm119 = [142, 1975].filterMap (fun p => lw_tbl[p]?) := by decide +kernel
theorem zg119 : ((zwM zmt zm119).all goodWord && zbM zmt zm119) = true := by decide +kernel
theorem zd119 : ∀ r ∈ ze119, ∀ e ∈ r, decode cX12_isSide e.1 = .ok (e.2.1, zlen e.2.1 e.2.2.1) := by decide +kernel
theorem zc119 : lw_tbl[1976]? = some (Cond.code zm119.1 zm119.2.1 zm119.2.2.1 zm119.2.2.2.1) := by decide +kernel
theorem zo119 : zokM zm119 := by
  have h := Bool.and_eq_true .. ▸ zg119
  exact zM_ok (zin_of _ zq119 h.1) h.2 zd119 (fun _ => List.mem_filter.mpr ⟨List.mem_of_getElem? zc119, rfl⟩)
theorem zq120 : zwM zmt zm120 = [142, 1952, 1953, 1647, 1955].filterMap (fun p => lw_tbl[p]?) := by decide +kernel
theorem zg120 : ((zwM zmt zm120).all goodWord && zbM zmt zm120) = true := by decide +kernel
theorem zd120 : ∀ r ∈ ze120, ∀ e ∈ r, decode cX12_kind e.1 = .ok (e.2.1, zlen e.2.1 e.2.2.1) := by decide +kernel
theorem zc120 : lw_tbl[1954]? = some (Cond.code zm120.1 zm120.2.1 zm120.2.2.1 zm120.2.2.2.1) := by decide +kernel
theorem zo120 : zokM zm120 := by
  have h := Bool.and_eq_true .. ▸ zg120
  exact zM_ok (zin_of _ zq120 h.1) h.2 zd120 (fun _ => List.mem_filter.mpr ⟨List.mem_of_getElem? zc120, rfl⟩)
theorem zq121 : zwM zmt zm121 = [142, 1971, 1972, 1647, 1974, 1669].filterMap (fun p => lw_tbl[p]?) := by decide +kernel
theorem zg121 : ((zwM zmt zm121).all goodWord && zbM zmt zm121) = true := by decide +kernel
theorem zd121 : ∀ r ∈ ze121, ∀ e ∈ r, decode cX12_card e.1 = .ok (e.2.1, zlen e.2.1 e.2.2.1) := by decide +kernel
theorem zc121 : lw_tbl[1973]? = some (Cond.code zm121.1 zm121.2.1 zm121.2.2.1 zm121.2.2.2.1) := by decide +kernel
theorem zo121 : zokM zm121 := by
  have h := Bool.and_eq_true .. ▸ zg121
  exact zM_ok (zin_of _ zq121 h.1) h.2 zd121 (fun _ => List.mem_filter.mpr ⟨List.mem_of_getElem? zc121, rfl⟩)
end
section
theorem zq122 : zwM zmt zm122 = [142, 1978, 1979, 1647, 1669].filterMap (fun p => lw_tbl[p]?) := by decide +kernel
theorem zg122 : ((zwM zmt zm122).all goodWord && zbM zmt zm122) = true := by decide +kernel
theorem zd122 : ∀ r ∈ ze122, ∀ e ∈ r, decode cX12_heap e.1 = .ok (e.2.1, zlen e.2.1 e.2.2.1) := by decide +kernel
theorem zc122 : lw_tbl[1980]? = some (Cond.code zm122.1 zm122.2.1 zm122.2.2.1 zm122.2.2.2.1) := by decide +kernel
theorem zo122 : zokM zm122 := by
  have h := Bool.and_eq_true .. ▸ zg122
  exact zM_ok (zin_of _ zq122 h.1) h.2 zd122 (fun _ => List.mem_filter.mpr ⟨List.mem_of_getElem? zc122, rfl⟩)
theorem zq123 : zwM zmt zm123 = [142, 1982, 1983, 1647, 1669].filterMap (fun p => lw_tbl[p]?) := by decide +kernel
theorem zg123 : ((zwM zmt zm123).all goodWord && zbM zmt zm123) = true := by decide +kernel
theorem zd123 : ∀ r ∈ ze123, ∀ e ∈ r, decode cX12_taken e.1 = .ok (e.2.1, zlen e.2.1 e.2.2.1) := by decide +kernel
theorem zc123 : lw_tbl[1984]? = some (Cond.code zm123.1 zm123.2.1 zm123.2.2.1 zm123.2.2.2.1) := by decide +kernel
theorem zo123 : zokM zm123 := by
  have h := Bool.and_eq_true .. ▸ zg123
  exact zM_ok (zin_of _ zq123 h.1) h.2 zd123 (fun _ => List.mem_filter.mpr ⟨List.mem_of_getElem? zc123, rfl⟩)
theorem zq124 : zwM zmt zm124 = [142, 1986, 1987, 1647, 1963, 1669, 1989, 1997].filterMap (fun p => lw_tbl[p]?) := by decide +kernel
theorem zg124 : ((zwM zmt zm124).all goodWord && zbM zmt zm124) = true := by decide +kernel
theorem zd124 : ∀ r ∈ ze124, ∀ e ∈ r, decode cX12_turn e.1 = .ok (e.2.1, zlen e.2.1 e.2.2.1) := by decide +kernel
theorem zc124 : lw_tbl[1988]? = some (Cond.code zm124.1 zm124.2.1 zm124.2.2.1 zm124.2.2.2.1) := by decide +kernel
theorem zo124 : zokM zm124 := by
  have h := Bool.and_eq_true .. ▸ zg124
  exact zM_ok (zin_of _ zq124 h.1) h.2 zd124 (fun _ => List.mem_filter.mpr ⟨List.mem_of_getElem? zc124, rfl⟩)
theorem zq125 : zwM zmt zm125 = [142, 2038, 2039, 1647, 1669, 1963, 1669, 1669, 1669, 1989, 1669].filterMap (fun p => lw_tbl[p]?) := by decide +kernel
theorem zg125 : ((zwM zmt zm125).all goodWord && zbM zmt zm125) = true := by decide +kernel
theorem zd125 : ∀ r ∈ ze125, ∀ e ∈ r, decode cX12_slip e.1 = .ok (e.2.1, zlen e.2.1 e.2.2.1) := by decide +kernel
theorem zc125 : lw_tbl[2040]? = some (Cond.code zm125.1 zm125.2.1 zm125.2.2.1 zm125.2.2.2.1) := by decide +kernel
theorem zo125 : zokM zm125 := by
  have h := Bool.and_eq_true .. ▸ zg125
  exact zM_ok (zin_of _ zq125 h.1) h.2 zd125 (fun _ => List.mem_filter.mpr ⟨List.mem_of_getElem? zc125, rfl⟩)
theorem zq126 : zwM zmt zm126 = [142, 2042, 2043, 1647, 1670].filterMap (fun p => lw_tbl[p]?) := by decide +kernel
theorem zg126 : ((zwM zmt zm126).all goodWord && zbM zmt zm126) = true := by decide +kernel
theorem zd126 : ∀ r ∈ ze126, ∀ e ∈ r, decode cX12_undo e.1 = .ok (e.2.1, zlen e.2.1 e.2.2.1) := by decide +kernel
theorem zc126 : lw_tbl[2044]? = some (Cond.code zm126.1 zm126.2.1 zm126.2.2.1 zm126.2.2.2.1) := by decide +kernel
theorem zo126 : zokM zm126 := by
  have h := Bool.and_eq_true .. ▸ zg126
  exact zM_ok (zin_of _ zq126 h.1) h.2 zd126 (fun _ => List.mem_filter.mpr ⟨List.mem_of_getElem? zc126, rfl⟩)
theorem zq127 : zwM zmt zm127 = [142, 2046, 2047, 1647, 1669].filterMap (fun p => lw_tbl[p]?) := by decide +kernel
theorem zg127 : ((zwM zmt zm127).all goodWord && zbM zmt zm127) = true := by decide +kernel
theorem zd127 : ∀ r ∈ ze127, ∀ e ∈ r, decode cX12_again e.1 = .ok (e.2.1, zlen e.2.1 e.2.2.1) := by decide +kernel
theorem zc127 : lw_tbl[2048]? = some (Cond.code zm127.1 zm127.2.1 zm127.2.2.1 zm127.2.2.2.1) := by decide +kernel
theorem zo127 : zokM zm127 := by
  have h := Bool.and_eq_true .. ▸ zg127
  exact zM_ok (zin_of _ zq127 h.1) h.2 zd127 (fun _ => List.mem_filter.mpr ⟨List.mem_of_getElem? zc127, rfl⟩)
theorem zq128 : zwM zmt zm128 = [142, 2059, 104, 1681, 1682, 1669, 1686, 1669, 1684, 1685, 1997, 1669, 1683].filterMap (fun p => lw_tbl[p]?) := by decide +kernel
theorem zg128 : ((zwM zmt zm128).all goodWord && zbM zmt zm128) = true := by decide +kernel
theorem zd128 : ∀ r ∈ ze128, ∀ e ∈ r, decode cX12_runs e.1 = .ok (e.2.1, zlen e.2.1 e.2.2.1) := by decide +kernel
theorem zc128 : lw_tbl[2060]? = some (Cond.code zm128.1 zm128.2.1 zm128.2.2.1 zm128.2.2.2.1) := by decide +kernel
theorem zo128 : zokM zm128 := by
  have h := Bool.and_eq_true .. ▸ zg128
  exact zM_ok (zin_of _ zq128 h.1) h.2 zd128 (fun _ => List.mem_filter.mpr ⟨List.mem_of_getElem? zc128, rfl⟩)
theorem zq129 : zwM zmt zm129 = [142, 2055, 103, 1993, 2057].filterMap (fun p => lw_tbl[p]?) := by decide +kernel
theorem zg129 : ((zwM zmt zm129).all goodWord && zbM zmt zm129) = true := by decide +kernel
theorem zd129 : ∀ r ∈ ze129, ∀ e ∈ r, decode cX12_runsNow e.1 = .ok (e.2.1, zlen e.2.1 e.2.2.1) := by decide +kernel
theorem zc129 : lw_tbl[2056]? = some (Cond.code zm129.1 zm129.2.1 zm129.2.2.1 zm129.2.2.2.1) := by decide +kernel
theorem zo129 : zokM zm129 := by
  have h := Bool.and_eq_true .. ▸ zg129
  exact zM_ok (zin_of _ zq129 h.1) h.2 zd129 (fun _ => List.mem_filter.mpr ⟨List.mem_of_getElem? zc129, rfl⟩)
theorem zq130 : zwM zmt zm130 = [142, 2050, 2051, 1647, 1963, 2053, 1683, 1684, 1685, 1686].filterMap (fun p => lw_tbl[p]?) := by decide +kernel
theorem zg130 : ((zwM zmt zm130).all goodWord && zbM zmt zm130) = true := by decide +kernel
theorem zd130 : ∀ r ∈ ze130, ∀ e ∈ r, decode cX12_ends e.1 = .ok (e.2.1, zlen e.2.1 e.2.2.1) := by decide +kernel
theorem zc130 : lw_tbl[2052]? = some (Cond.code zm130.1 zm130.2.1 zm130.2.2.1 zm130.2.2.2.1) := by decide +kernel
theorem zo130 : zokM zm130 := by
  have h := Bool.and_eq_true .. ▸ zg130
  exact zM_ok (zin_of _ zq130 h.1) h.2 zd130 (fun _ => List.mem_filter.mpr ⟨List.mem_of_getElem? zc130, rfl⟩)
theorem zq131 : zwM zmt zm131 = [142, 2085, 108, 1688, 1959].filterMap (fun p => lw_tbl[p]?) := by decide +kernel
theorem zg131 : ((zwM zmt zm131).all goodWord && zbM zmt zm131) = true := by decide +kernel
theorem zd131 : ∀ r ∈ ze131, ∀ e ∈ r, decode cX12_laysPack e.1 = .ok (e.2.1, zlen e.2.1 e.2.2.1) := by decide +kernel
theorem zc131 : lw_tbl[2086]? = some (Cond.code zm131.1 zm131.2.1 zm131.2.2.1 zm131.2.2.2.1) := by decide +kernel
theorem zo131 : zokM zm131 := by
  have h := Bool.and_eq_true .. ▸ zg131
  exact zM_ok (zin_of _ zq131 h.1) h.2 zd131 (fun _ => List.mem_filter.mpr ⟨List.mem_of_getElem? zc131, rfl⟩)
theorem zq132 : zwM zmt zm132 = [142, 2089, 109, 2091].filterMap (fun p => lw_tbl[p]?) := by decide +kernel
theorem zg132 : ((zwM zmt zm132).all goodWord && zbM zmt zm132) = true := by decide +kernel
theorem zd132 : ∀ r ∈ ze132, ∀ e ∈ r, decode cX12_rowsOf e.1 = .ok (e.2.1, zlen e.2.1 e.2.2.1) := by decide +kernel
theorem zc132 : lw_tbl[2090]? = some (Cond.code zm132.1 zm132.2.1 zm132.2.2.1 zm132.2.2.2.1) := by decide +kernel
theorem zo132 : zokM zm132 := by
  have h := Bool.and_eq_true .. ▸ zg132
  exact zM_ok (zin_of _ zq132 h.1) h.2 zd132 (fun _ => List.mem_filter.mpr ⟨List.mem_of_getElem? zc132, rfl⟩)
theorem zq133 : zwM zmt zm133 = [142, 2098, 111].filterMap (fun p => lw_tbl[p]?) := by decide +kernel
theorem zg133 : ((zwM zmt zm133).all goodWord && zbM zmt zm133) = true := by decide +kernel
theorem zd133 : ∀ r ∈ ze133, ∀ e ∈ r, decode cX12_goesNext e.1 = .ok (e.2.1, zlen e.2.1 e.2.2.1) := by decide +kernel
theorem zc133 : lw_tbl[2099]? = some (Cond.code zm133.1 zm133.2.1 zm133.2.2.1 zm133.2.2.2.1) := by decide +kernel
theorem zo133 : zokM zm133 := by
  have h := Bool.and_eq_true .. ▸ zg133
  exact zM_ok (zin_of _ zq133 h.1) h.2 zd133 (fun _ => List.mem_filter.mpr ⟨List.mem_of_getElem? zc133, rfl⟩)
theorem zq134 : zwM zmt zm134 = [142, 2081, 107, 2083, 1688, 1691, 1691, 1691].filterMap (fun p => lw_tbl[p]?) := by decide +kernel
theorem zg134 : ((zwM zmt zm134).all goodWord && zbM zmt zm134) = true := by decide +kernel
theorem zd134 : ∀ r ∈ ze134, ∀ e ∈ r, decode cX12_counts e.1 = .ok (e.2.1, zlen e.2.1 e.2.2.1) := by decide +kernel
theorem zc134 : lw_tbl[2082]? = some (Cond.code zm134.1 zm134.2.1 zm134.2.2.1 zm134.2.2.2.1) := by decide +kernel
theorem zo134 : zokM zm134 := by
  have h := Bool.and_eq_true .. ▸ zg134
  exact zM_ok (zin_of _ zq134 h.1) h.2 zd134 (fun _ => List.mem_filter.mpr ⟨List.mem_of_getElem? zc134, rfl⟩)
theorem zq135 : zwM zmt zm135 = [142, 2076, 2077, 1647, 1963, 2079].filterMap (fun p => lw_tbl[p]?) := by decide +kernel
theorem zg135 : ((zwM zmt zm135).all goodWord && zbM zmt zm135) = true := by decide +kernel
theorem zd135 : ∀ r ∈ ze135, ∀ e ∈ r, decode cX12_all e.1 = .ok (e.2.1, zlen e.2.1 e.2.2.1) := by decide +kernel
theorem zc135 : lw_tbl[2078]? = some (Cond.code zm135.1 zm135.2.1 zm135.2.2.1 zm135.2.2.2.1) := by decide +kernel
theorem zo135 : zokM zm135 := by
  have h := Bool.and_eq_true .. ▸ zg135
  exact zM_ok (zin_of _ zq135 h.1) h.2 zd135 (fun _ => List.mem_filter.mpr ⟨List.mem_of_getElem? zc135, rfl⟩)
theorem zq136 : zwM zmt zm136 = [142, 2104, 2105, 1647, 2079].filterMap (fun p => lw_tbl[p]?) := by decide +kernel
theorem zg136 : ((zwM zmt zm136).all goodWord && zbM zmt zm136) = true := by decide +kernel
theorem zd136 : ∀ r ∈ ze136, ∀ e ∈ r, decode cX12_row e.1 = .ok (e.2.1, zlen e.2.1 e.2.2.1) := by decide +kernel
theorem zc136 : lw_tbl[2106]? = some (Cond.code zm136.1 zm136.2.1 zm136.2.2.1 zm136.2.2.2.1) := by decide +kernel
theorem zo136 : zokM zm136 := by
  have h := Bool.and_eq_true .. ▸ zg136
  exact zM_ok (zin_of _ zq136 h.1) h.2 zd136 (fun _ => List.mem_filter.mpr ⟨List.mem_of_getElem? zc136, rfl⟩)
theorem zq137 : zwM zmt zm137 = [142, 2108, 2109, 1647, 1963, 2079].filterMap (fun p => lw_tbl[p]?) := by decide +kernel
theorem zg137 : ((zwM zmt zm137).all goodWord && zbM zmt zm137) = true := by decide +kernel
theorem zd137 : ∀ r ∈ ze137, ∀ e ∈ r, decode cX12_beginner e.1 = .ok (e.2.1, zlen e.2.1 e.2.2.1) := by decide +kernel
theorem zc137 : lw_tbl[2110]? = some (Cond.code zm137.1 zm137.2.1 zm137.2.2.1 zm137.2.2.2.1) := by decide +kernel
theorem zo137 : zokM zm137 := by
  have h := Bool.and_eq_true .. ▸ zg137
  exact zM_ok (zin_of _ zq137 h.1) h.2 zd137 (fun _ => List.mem_filter.mpr ⟨List.mem_of_getElem? zc137, rfl⟩)
theorem zq138 : zwM zmt zm138 = [142, 2112, 2113, 1647, 1955].filterMap (fun p => lw_tbl[p]?) := by decide +kernel
theorem zg138 : ((zwM zmt zm138).all goodWord && zbM zmt zm138) = true := by decide +kernel
theorem zd138 : ∀ r ∈ ze138, ∀ e ∈ r, decode cX12_worth e.1 = .ok (e.2.1, zlen e.2.1 e.2.2.1) := by decide +kernel
theorem zc138 : lw_tbl[2114]? = some (Cond.code zm138.1 zm138.2.1 zm138.2.2.1 zm138.2.2.2.1) := by decide +kernel
theorem zo138 : zokM zm138 := by
  have h := Bool.and_eq_true .. ▸ zg138
  exact zM_ok (zin_of _ zq138 h.1) h.2 zd138 (fun _ => List.mem_filter.mpr ⟨List.mem_of_getElem? zc138, rfl⟩)
theorem zq139 : zwM zmt zm139 = [142, 2116, 2117, 1647, 1963, 1963, 2079].filterMap (fun p => lw_tbl[p]?) := by decide +kernel
theorem zg139 : ((zwM zmt zm139).all goodWord && zbM zmt zm139) = true := by decide +kernel
theorem zd139 : ∀ r ∈ ze139, ∀ e ∈ r, decode cX12_leads e.1 = .ok (e.2.1, zlen e.2.1 e.2.2.1) := by decide +kernel
theorem zc139 : lw_tbl[2118]? = some (Cond.code zm139.1 zm139.2.1 zm139.2.2.1 zm139.2.2.2.1) := by decide +kernel
theorem zo139 : zokM zm139 := by
  have h := Bool.and_eq_true .. ▸ zg139
  exact zM_ok (zin_of _ zq139 h.1) h.2 zd139 (fun _ => List.mem_filter.mpr ⟨List.mem_of_getElem? zc139, rfl⟩)
end
section
theorem zq140 : zwM zmt zm140 = [142, 2124, 2125, 1647, 1955].filterMap (fun p => lw_tbl[p]?) := by decide +kernel
theorem zg140 : ((zwM zmt zm140).all goodWord && zbM zmt zm140) = true := by decide +kernel
theorem zd140 : ∀ r ∈ ze140, ∀ e ∈ r, decode cX12_laws e.1 = .ok (e.2.1, zlen e.2.1 e.2.2.1) := by decide +kernel
theorem zc140 : lw_tbl[2126]? = some (Cond.code zm140.1 zm140.2.1 zm140.2.2.1 zm140.2.2.2.1) := by decide +kernel
theorem zo140 : zokM zm140 := by
  have h := Bool.and_eq_true .. ▸ zg140
  exact zM_ok (zin_of _ zq140 h.1) h.2 zd140 (fun _ => List.mem_filter.mpr ⟨List.mem_of_getElem? zc140, rfl⟩)
theorem zq141 : zwM zmt zm141 = [142, 2141, 114, 1695, 1669, 1695].filterMap (fun p => lw_tbl[p]?) := by decide +kernel
theorem zg141 : ((zwM zmt zm141).all goodWord && zbM zmt zm141) = true := by decide +kernel
theorem zd141 : ∀ r ∈ ze141, ∀ e ∈ r, decode cX12_findHidden e.1 = .ok (e.2.1, zlen e.2.1 e.2.2.1) := by decide +kernel
theorem zc141 : lw_tbl[2142]? = some (Cond.code zm141.1 zm141.2.1 zm141.2.2.1 zm141.2.2.2.1) := by decide +kernel
theorem zo141 : zokM zm141 := by
  have h := Bool.and_eq_true .. ▸ zg141
  exact zM_ok (zin_of _ zq141 h.1) h.2 zd141 (fun _ => List.mem_filter.mpr ⟨List.mem_of_getElem? zc141, rfl⟩)
theorem zq142 : zwM zmt zm142 = [142, 2128, 2129, 1647, 1974, 1669].filterMap (fun p => lw_tbl[p]?) := by decide +kernel
theorem zg142 : ((zwM zmt zm142).all goodWord && zbM zmt zm142) = true := by decide +kernel
theorem zd142 : ∀ r ∈ ze142, ∀ e ∈ r, decode cX12_unseen e.1 = .ok (e.2.1, zlen e.2.1 e.2.2.1) := by decide +kernel
theorem zc142 : lw_tbl[2130]? = some (Cond.code zm142.1 zm142.2.1 zm142.2.2.1 zm142.2.2.2.1) := by decide +kernel
theorem zo142 : zokM zm142 := by
  have h := Bool.and_eq_true .. ▸ zg142
  exact zM_ok (zin_of _ zq142 h.1) h.2 zd142 (fun _ => List.mem_filter.mpr ⟨List.mem_of_getElem? zc142, rfl⟩)
theorem zq143 : zwM zmt zm143 = [142, 2137, 113, 2139, 1694, 1695, 2087, 1698, 1696, 1697, 1698, 1993, 1695, 2057, 1696, 1683, 1696, 1697, 1683, 1697, 1694, 1695, 2096, 1698].filterMap (fun p => lw_tbl[p]?) := by decide +kernel
theorem zg143 : ((zwM zmt zm143).all goodWord && zbM zmt zm143) = true := by decide +kernel
theorem zd143 : ∀ r ∈ ze143, ∀ e ∈ r, decode cX12_findOdds e.1 = .ok (e.2.1, zlen e.2.1 e.2.2.1) := by decide +kernel
theorem zc143 : lw_tbl[2138]? = some (Cond.code zm143.1 zm143.2.1 zm143.2.2.1 zm143.2.2.2.1) := by decide +kernel
theorem zo143 : zokM zm143 := by
  have h := Bool.and_eq_true .. ▸ zg143
  exact zM_ok (zin_of _ zq143 h.1) h.2 zd143 (fun _ => List.mem_filter.mpr ⟨List.mem_of_getElem? zc143, rfl⟩)
theorem zq144 : zwM zmt zm144 = [142, 2132, 2133, 1647, 1963, 2135, 1696, 1697, 1698].filterMap (fun p => lw_tbl[p]?) := by decide +kernel
theorem zg144 : ((zwM zmt zm144).all goodWord && zbM zmt zm144) = true := by decide +kernel
theorem zd144 : ∀ r ∈ ze144, ∀ e ∈ r, decode cX12_odds e.1 = .ok (e.2.1, zlen e.2.1 e.2.2.1) := by decide +kernel
theorem zc144 : lw_tbl[2134]? = some (Cond.code zm144.1 zm144.2.1 zm144.2.2.1 zm144.2.2.2.1) := by decide +kernel
theorem zo144 : zokM zm144 := by
  have h := Bool.and_eq_true .. ▸ zg144
  exact zM_ok (zin_of _ zq144 h.1) h.2 zd144 (fun _ => List.mem_filter.mpr ⟨List.mem_of_getElem? zc144, rfl⟩)
theorem zq145 : zwM zmt zm145 = [142, 2149, 115, 1657].filterMap (fun p => lw_tbl[p]?) := by decide +kernel
theorem zg145 : ((zwM zmt zm145).all goodWord && zbM zmt zm145) = true := by decide +kernel
theorem zd145 : ∀ r ∈ ze145, ∀ e ∈ r, decode cX12_offerNow e.1 = .ok (e.2.1, zlen e.2.1 e.2.2.1) := by decide +kernel
theorem zc145 : lw_tbl[2150]? = some (Cond.code zm145.1 zm145.2.1 zm145.2.2.1 zm145.2.2.2.1) := by decide +kernel
theorem zo145 : zokM zm145 := by
  have h := Bool.and_eq_true .. ▸ zg145
  exact zM_ok (zin_of _ zq145 h.1) h.2 zd145 (fun _ => List.mem_filter.mpr ⟨List.mem_of_getElem? zc145, rfl⟩)
theorem zq146 : zwM zmt zm146 = [142, 2144, 2145, 1647, 2147].filterMap (fun p => lw_tbl[p]?) := by decide +kernel
theorem zg146 : ((zwM zmt zm146).all goodWord && zbM zmt zm146) = true := by decide +kernel
theorem zd146 : ∀ r ∈ ze146, ∀ e ∈ r, decode cX12_offer e.1 = .ok (e.2.1, zlen e.2.1 e.2.2.1) := by decide +kernel
theorem zc146 : lw_tbl[2146]? = some (Cond.code zm146.1 zm146.2.1 zm146.2.2.1 zm146.2.2.2.1) := by decide +kernel
theorem zo146 : zokM zm146 := by
  have h := Bool.and_eq_true .. ▸ zg146
  exact zM_ok (zin_of _ zq146 h.1) h.2 zd146 (fun _ => List.mem_filter.mpr ⟨List.mem_of_getElem? zc146, rfl⟩)
theorem zq147 : zwM zmt zm147 = [142, 2159, 2160, 1647, 1974, 1669, 1963, 1669, 1669, 1989, 1669, 1669, 1669, 1669, 2147, 1669, 1669, 1669].filterMap (fun p => lw_tbl[p]?) := by decide +kernel
theorem zg147 : ((zwM zmt zm147).all goodWord && zbM zmt zm147) = true := by decide +kernel
theorem zd147 : ∀ r ∈ ze147, ∀ e ∈ r, decode cX12_bet e.1 = .ok (e.2.1, zlen e.2.1 e.2.2.1) := by decide +kernel
theorem zc147 : lw_tbl[2161]? = some (Cond.code zm147.1 zm147.2.1 zm147.2.2.1 zm147.2.2.2.1) := by decide +kernel
theorem zo147 : zokM zm147 := by
  have h := Bool.and_eq_true .. ▸ zg147
  exact zM_ok (zin_of _ zq147 h.1) h.2 zd147 (fun _ => List.mem_filter.mpr ⟨List.mem_of_getElem? zc147, rfl⟩)
theorem zq148 : zwM zmt zm148 = [142, 2163, 2164, 1647, 1974, 2135, 1696, 1697, 2147, 1698].filterMap (fun p => lw_tbl[p]?) := by decide +kernel
theorem zg148 : ((zwM zmt zm148).all goodWord && zbM zmt zm148) = true := by decide +kernel
theorem zd148 : ∀ r ∈ ze148, ∀ e ∈ r, decode cX12_take e.1 = .ok (e.2.1, zlen e.2.1 e.2.2.1) := by decide +kernel
theorem zc148 : lw_tbl[2165]? = some (Cond.code zm148.1 zm148.2.1 zm148.2.2.1 zm148.2.2.2.1) := by decide +kernel
theorem zo148 : zokM zm148 := by
  have h := Bool.and_eq_true .. ▸ zg148
  exact zM_ok (zin_of _ zq148 h.1) h.2 zd148 (fun _ => List.mem_filter.mpr ⟨List.mem_of_getElem? zc148, rfl⟩)
theorem zq149 : zwM zmt zm149 = [142, 2180, 119, 1997].filterMap (fun p => lw_tbl[p]?) := by decide +kernel
theorem zg149 : ((zwM zmt zm149).all goodWord && zbM zmt zm149) = true := by decide +kernel
theorem zd149 : ∀ r ∈ ze149, ∀ e ∈ r, decode cX12_goesToHeap e.1 = .ok (e.2.1, zlen e.2.1 e.2.2.1) := by decide +kernel
theorem zc149 : lw_tbl[2181]? = some (Cond.code zm149.1 zm149.2.1 zm149.2.2.1 zm149.2.2.2.1) := by decide +kernel
theorem zo149 : zokM zm149 := by
  have h := Bool.and_eq_true .. ▸ zg149
  exact zM_ok (zin_of _ zq149 h.1) h.2 zd149 (fun _ => List.mem_filter.mpr ⟨List.mem_of_getElem? zc149, rfl⟩)
theorem zq150 : zwM zmt zm150 = [142, 2176, 118, 2178, 1701, 1669].filterMap (fun p => lw_tbl[p]?) := by decide +kernel
theorem zg150 : ((zwM zmt zm150).all goodWord && zbM zmt zm150) = true := by decide +kernel
theorem zd150 : ∀ r ∈ ze150, ∀ e ∈ r, decode cX12_canWin e.1 = .ok (e.2.1, zlen e.2.1 e.2.2.1) := by decide +kernel
theorem zc150 : lw_tbl[2177]? = some (Cond.code zm150.1 zm150.2.1 zm150.2.2.1 zm150.2.2.2.1) := by decide +kernel
theorem zo150 : zokM zm150 := by
  have h := Bool.and_eq_true .. ▸ zg150
  exact zM_ok (zin_of _ zq150 h.1) h.2 zd150 (fun _ => List.mem_filter.mpr ⟨List.mem_of_getElem? zc150, rfl⟩)
theorem zq151 : zwM zmt zm151 = [142, 2172, 117, 1993, 2174].filterMap (fun p => lw_tbl[p]?) := by decide +kernel
theorem zg151 : ((zwM zmt zm151).all goodWord && zbM zmt zm151) = true := by decide +kernel
theorem zd151 : ∀ r ∈ ze151, ∀ e ∈ r, decode cX12_findChoice e.1 = .ok (e.2.1, zlen e.2.1 e.2.2.1) := by decide +kernel
theorem zc151 : lw_tbl[2173]? = some (Cond.code zm151.1 zm151.2.1 zm151.2.2.1 zm151.2.2.2.1) := by decide +kernel
theorem zo151 : zokM zm151 := by
  have h := Bool.and_eq_true .. ▸ zg151
  exact zM_ok (zin_of _ zq151 h.1) h.2 zd151 (fun _ => List.mem_filter.mpr ⟨List.mem_of_getElem? zc151, rfl⟩)
theorem zq152 : zwM zmt zm152 = [142, 2167, 2168, 1647, 1963, 1669, 2170].filterMap (fun p => lw_tbl[p]?) := by decide +kernel
theorem zg152 : ((zwM zmt zm152).all goodWord && zbM zmt zm152) = true := by decide +kernel
theorem zd152 : ∀ r ∈ ze152, ∀ e ∈ r, decode cX12_choice e.1 = .ok (e.2.1, zlen e.2.1 e.2.2.1) := by decide +kernel
theorem zc152 : lw_tbl[2169]? = some (Cond.code zm152.1 zm152.2.1 zm152.2.2.1 zm152.2.2.2.1) := by decide +kernel
theorem zo152 : zokM zm152 := by
  have h := Bool.and_eq_true .. ▸ zg152
  exact zM_ok (zin_of _ zq152 h.1) h.2 zd152 (fun _ => List.mem_filter.mpr ⟨List.mem_of_getElem? zc152, rfl⟩)
theorem zq153 : zwM zmt zm153 = [142, 2188, 120, 2178, 1669].filterMap (fun p => lw_tbl[p]?) := by decide +kernel
theorem zg153 : ((zwM zmt zm153).all goodWord && zbM zmt zm153) = true := by decide +kernel
theorem zd153 : ∀ r ∈ ze153, ∀ e ∈ r, decode cX12_mustWin e.1 = .ok (e.2.1, zlen e.2.1 e.2.2.1) := by decide +kernel
theorem zc153 : lw_tbl[2189]? = some (Cond.code zm153.1 zm153.2.1 zm153.2.2.1 zm153.2.2.2.1) := by decide +kernel
theorem zo153 : zokM zm153 := by
  have h := Bool.and_eq_true .. ▸ zg153
  exact zM_ok (zin_of _ zq153 h.1) h.2 zd153 (fun _ => List.mem_filter.mpr ⟨List.mem_of_getElem? zc153, rfl⟩)
theorem zq154 : zwM zmt zm154 = [142, 2183, 2184, 1647, 1963, 1669, 1993, 2186].filterMap (fun p => lw_tbl[p]?) := by decide +kernel
theorem zg154 : ((zwM zmt zm154).all goodWord && zbM zmt zm154) = true := by decide +kernel
theorem zd154 : ∀ r ∈ ze154, ∀ e ∈ r, decode cX12_both_ e.1 = .ok (e.2.1, zlen e.2.1 e.2.2.1) := by decide +kernel
theorem zc154 : lw_tbl[2185]? = some (Cond.code zm154.1 zm154.2.1 zm154.2.2.1 zm154.2.2.2.1) := by decide +kernel
theorem zo154 : zokM zm154 := by
  have h := Bool.and_eq_true .. ▸ zg154
  exact zM_ok (zin_of _ zq154 h.1) h.2 zd154 (fun _ => List.mem_filter.mpr ⟨List.mem_of_getElem? zc154, rfl⟩)
theorem zq155 : zwM zmt zm155 = [142, 2191, 2192, 1647, 1963, 1657].filterMap (fun p => lw_tbl[p]?) := by decide +kernel
theorem zg155 : ((zwM zmt zm155).all goodWord && zbM zmt zm155) = true := by decide +kernel
theorem zd155 : ∀ r ∈ ze155, ∀ e ∈ r, decode cX12_opening e.1 = .ok (e.2.1, zlen e.2.1 e.2.2.1) := by decide +kernel
theorem zc155 : lw_tbl[2193]? = some (Cond.code zm155.1 zm155.2.1 zm155.2.2.1 zm155.2.2.2.1) := by decide +kernel
theorem zo155 : zokM zm155 := by
  have h := Bool.and_eq_true .. ▸ zg155
  exact zM_ok (zin_of _ zq155 h.1) h.2 zd155 (fun _ => List.mem_filter.mpr ⟨List.mem_of_getElem? zc155, rfl⟩)
theorem zq156 : zwM zmt zm156 = [142, 2199, 2200, 1647, 1955].filterMap (fun p => lw_tbl[p]?) := by decide +kernel
theorem zg156 : ((zwM zmt zm156).all goodWord && zbM zmt zm156) = true := by decide +kernel
theorem zd156 : ∀ r ∈ ze156, ∀ e ∈ r, decode cX12_comes e.1 = .ok (e.2.1, zlen e.2.1 e.2.2.1) := by decide +kernel
theorem zc156 : lw_tbl[2201]? = some (Cond.code zm156.1 zm156.2.1 zm156.2.2.1 zm156.2.2.2.1) := by decide +kernel
theorem zo156 : zokM zm156 := by
  have h := Bool.and_eq_true .. ▸ zg156
  exact zM_ok (zin_of _ zq156 h.1) h.2 zd156 (fun _ => List.mem_filter.mpr ⟨List.mem_of_getElem? zc156, rfl⟩)
end
section
theorem zq157 : zwM zmt zm157 = [142, 2203, 2204, 1669, 1647, 1647].filterMap (fun p => lw_tbl[p]?) := by decide +kernel
theorem zg157 : ((zwM zmt zm157).all goodWord && zbM zmt zm157) = true := by decide +kernel
theorem zd157 : ∀ r ∈ ze157, ∀ e ∈ r, decode cX12_orders e.1 = .ok (e.2.1, zlen e.2.1 e.2.2.1) := by decide +kernel
theorem zc157 : lw_tbl[2205]? = some (Cond.code zm157.1 zm157.2.1 zm157.2.2.1 zm157.2.2.2.1) := by decide +kernel
theorem zo157 : zokM zm157 := by
  have h := Bool.and_eq_true .. ▸ zg157
  exact zM_ok (zin_of _ zq157 h.1) h.2 zd157 (fun _ => List.mem_filter.mpr ⟨List.mem_of_getElem? zc157, rfl⟩)
theorem zq158 : zwM zmt zm158 = [142, 2207, 2208, 1647, 1669].filterMap (fun p => lw_tbl[p]?) := by decide +kernel
theorem zg158 : ((zwM zmt zm158).all goodWord && zbM zmt zm158) = true := by decide +kernel
theorem zd158 : ∀ r ∈ ze158, ∀ e ∈ r, decode cX12_clear e.1 = .ok (e.2.1, zlen e.2.1 e.2.2.1) := by decide +kernel
theorem zc158 : lw_tbl[2209]? = some (Cond.code zm158.1 zm158.2.1 zm158.2.2.1 zm158.2.2.2.1) := by decide +kernel
theorem zo158 : zokM zm158 := by
  have h := Bool.and_eq_true .. ▸ zg158
  exact zM_ok (zin_of _ zq158 h.1) h.2 zd158 (fun _ => List.mem_filter.mpr ⟨List.mem_of_getElem? zc158, rfl⟩)
theorem zq159 : zwM zmt zm159 = [142, 2211, 2212, 1647, 1963, 1879].filterMap (fun p => lw_tbl[p]?) := by decide +kernel
theorem zg159 : ((zwM zmt zm159).all goodWord && zbM zmt zm159) = true := by decide +kernel
theorem zd159 : ∀ r ∈ ze159, ∀ e ∈ r, decode cX12_drawn e.1 = .ok (e.2.1, zlen e.2.1 e.2.2.1) := by decide +kernel
theorem zc159 : lw_tbl[2213]? = some (Cond.code zm159.1 zm159.2.1 zm159.2.2.1 zm159.2.2.2.1) := by decide +kernel
theorem zo159 : zokM zm159 := by
  have h := Bool.and_eq_true .. ▸ zg159
  exact zM_ok (zin_of _ zq159 h.1) h.2 zd159 (fun _ => List.mem_filter.mpr ⟨List.mem_of_getElem? zc159, rfl⟩)
theorem zq160 : zwM zmt zm160 = [142, 2227, 2228, 1647, 1963, 1963, 1963, 1879].filterMap (fun p => lw_tbl[p]?) := by decide +kernel
theorem zg160 : ((zwM zmt zm160).all goodWord && zbM zmt zm160) = true := by decide +kernel
theorem zd160 : ∀ r ∈ ze160, ∀ e ∈ r, decode cX12_games e.1 = .ok (e.2.1, zlen e.2.1 e.2.2.1) := by decide +kernel
theorem zc160 : lw_tbl[2229]? = some (Cond.code zm160.1 zm160.2.1 zm160.2.2.1 zm160.2.2.2.1) := by decide +kernel
theorem zo160 : zokM zm160 := by
  have h := Bool.and_eq_true .. ▸ zg160
  exact zM_ok (zin_of _ zq160 h.1) h.2 zd160 (fun _ => List.mem_filter.mpr ⟨List.mem_of_getElem? zc160, rfl⟩)
theorem zq161 : zwM zmt zm161 = [142, 2235, 2236, 1647, 1963, 1963, 1879].filterMap (fun p => lw_tbl[p]?) := by decide +kernel
theorem zg161 : ((zwM zmt zm161).all goodWord && zbM zmt zm161) = true := by decide +kernel
theorem zd161 : ∀ r ∈ ze161, ∀ e ∈ r, decode cX12_looked e.1 = .ok (e.2.1, zlen e.2.1 e.2.2.1) := by decide +kernel
theorem zc161 : lw_tbl[2237]? = some (Cond.code zm161.1 zm161.2.1 zm161.2.2.1 zm161.2.2.2.1) := by decide +kernel
theorem zo161 : zokM zm161 := by
  have h := Bool.and_eq_true .. ▸ zg161
  exact zM_ok (zin_of _ zq161 h.1) h.2 zd161 (fun _ => List.mem_filter.mpr ⟨List.mem_of_getElem? zc161, rfl⟩)
theorem zq162 : zwM zmt zm162 = [142, 2239, 2240, 1647, 1963, 1671, 1671, 1993].filterMap (fun p => lw_tbl[p]?) := by decide +kernel
theorem zg162 : ((zwM zmt zm162).all goodWord && zbM zmt zm162) = true := by decide +kernel
theorem zd162 : ∀ r ∈ ze162, ∀ e ∈ r, decode cX12_mark e.1 = .ok (e.2.1, zlen e.2.1 e.2.2.1) := by decide +kernel
theorem zc162 : lw_tbl[2241]? = some (Cond.code zm162.1 zm162.2.1 zm162.2.2.1 zm162.2.2.2.1) := by decide +kernel
theorem zo162 : zokM zm162 := by
  have h := Bool.and_eq_true .. ▸ zg162
  exact zM_ok (zin_of _ zq162 h.1) h.2 zd162 (fun _ => List.mem_filter.mpr ⟨List.mem_of_getElem? zc162, rfl⟩)
theorem zq163 : zwM zmt zm163 = [142, 2243, 2244, 1647, 1959, 1879, 1669, 1669, 1669, 1669, 1669, 1669, 1669, 1669, 1669, 1669, 1669, 1657, 1669, 1670, 1657, 1657, 1649].filterMap (fun p => lw_tbl[p]?) := by decide +kernel
theorem zg163 : ((zwM zmt zm163).all goodWord && zbM zmt zm163) = true := by decide +kernel
theorem zd163 : ∀ r ∈ ze163, ∀ e ∈ r, decode cX12_count e.1 = .ok (e.2.1, zlen e.2.1 e.2.2.1) := by decide +kernel
theorem zc163 : lw_tbl[2245]? = some (Cond.code zm163.1 zm163.2.1 zm163.2.2.1 zm163.2.2.2.1) := by decide +kernel
theorem zo163 : zokM zm163 := by
  have h := Bool.and_eq_true .. ▸ zg163
  exact zM_ok (zin_of _ zq163 h.1) h.2 zd163 (fun _ => List.mem_filter.mpr ⟨List.mem_of_getElem? zc163, rfl⟩)
end
section
theorem zd164_0 : ∀ e ∈ ze164_0, decode code e.1 = .ok (e.2.1, zlen e.2.1 e.2.2.1) := by decide +kernel
theorem zd164_1 : ∀ e ∈ ze164_1, decode code e.1 = .ok (e.2.1, zlen e.2.1 e.2.2.1) := by decide +kernel
theorem zd164_2 : ∀ e ∈ ze164_2, decode code e.1 = .ok (e.2.1, zlen e.2.1 e.2.2.1) := by decide +kernel
theorem zd164_3 : ∀ e ∈ ze164_3, decode code e.1 = .ok (e.2.1, zlen e.2.1 e.2.2.1) := by decide +kernel
theorem zd164_4 : ∀ e ∈ ze164_4, decode code e.1 = .ok (e.2.1, zlen e.2.1 e.2.2.1) := by decide +kernel
theorem zd164_5 : ∀ e ∈ ze164_5, decode code e.1 = .ok (e.2.1, zlen e.2.1 e.2.2.1) := by decide +kernel
end
section
theorem zd164_6 : ∀ e ∈ ze164_6, decode code e.1 = .ok (e.2.1, zlen e.2.1 e.2.2.1) := by decide +kernel
theorem zd164_7 : ∀ e ∈ ze164_7, decode code e.1 = .ok (e.2.1, zlen e.2.1 e.2.2.1) := by decide +kernel
theorem zd164_8 : ∀ e ∈ ze164_8, decode code e.1 = .ok (e.2.1, zlen e.2.1 e.2.2.1) := by decide +kernel
theorem zd164_9 : ∀ e ∈ ze164_9, decode code e.1 = .ok (e.2.1, zlen e.2.1 e.2.2.1) := by decide +kernel
theorem zd164_10 : ∀ e ∈ ze164_10, decode code e.1 = .ok (e.2.1, zlen e.2.1 e.2.2.1) := by decide +kernel
theorem zd164_11 : ∀ e ∈ ze164_11, decode code e.1 = .ok (e.2.1, zlen e.2.1 e.2.2.1) := by decide +kernel
end
section
theorem zd164_12 : ∀ e ∈ ze164_12, decode code e.1 = .ok (e.2.1, zlen e.2.1 e.2.2.1) := by decide +kernel
theorem zd164_13 : ∀ e ∈ ze164_13, decode code e.1 = .ok (e.2.1, zlen e.2.1 e.2.2.1) := by decide +kernel
theorem zd164_14 : ∀ e ∈ ze164_14, decode code e.1 = .ok (e.2.1, zlen e.2.1 e.2.2.1) := by decide +kernel
theorem zd164_15 : ∀ e ∈ ze164_15, decode code e.1 = .ok (e.2.1, zlen e.2.1 e.2.2.1) := by decide +kernel
theorem zd164_16 : ∀ e ∈ ze164_16, decode code e.1 = .ok (e.2.1, zlen e.2.1 e.2.2.1) := by decide +kernel
theorem zd164_17 : ∀ e ∈ ze164_17, decode code e.1 = .ok (e.2.1, zlen e.2.1 e.2.2.1) := by decide +kernel
end
section
theorem zd164_18 : ∀ e ∈ ze164_18, decode code e.1 = .ok (e.2.1, zlen e.2.1 e.2.2.1) := by decide +kernel
theorem zd164_19 : ∀ e ∈ ze164_19, decode code e.1 = .ok (e.2.1, zlen e.2.1 e.2.2.1) := by decide +kernel
theorem zd164_20 : ∀ e ∈ ze164_20, decode code e.1 = .ok (e.2.1, zlen e.2.1 e.2.2.1) := by decide +kernel
theorem zd164_21 : ∀ e ∈ ze164_21, decode code e.1 = .ok (e.2.1, zlen e.2.1 e.2.2.1) := by decide +kernel
theorem zd164_22 : ∀ e ∈ ze164_22, decode code e.1 = .ok (e.2.1, zlen e.2.1 e.2.2.1) := by decide +kernel
theorem zd164_23 : ∀ e ∈ ze164_23, decode code e.1 = .ok (e.2.1, zlen e.2.1 e.2.2.1) := by decide +kernel
end
section
theorem zd164_24 : ∀ e ∈ ze164_24, decode code e.1 = .ok (e.2.1, zlen e.2.1 e.2.2.1) := by decide +kernel
theorem zd164_25 : ∀ e ∈ ze164_25, decode code e.1 = .ok (e.2.1, zlen e.2.1 e.2.2.1) := by decide +kernel
theorem zd164_26 : ∀ e ∈ ze164_26, decode code e.1 = .ok (e.2.1, zlen e.2.1 e.2.2.1) := by decide +kernel
theorem zd164_27 : ∀ e ∈ ze164_27, decode code e.1 = .ok (e.2.1, zlen e.2.1 e.2.2.1) := by decide +kernel
theorem zd164_28 : ∀ e ∈ ze164_28, decode code e.1 = .ok (e.2.1, zlen e.2.1 e.2.2.1) := by decide +kernel
theorem zd164_29 : ∀ e ∈ ze164_29, decode code e.1 = .ok (e.2.1, zlen e.2.1 e.2.2.1) := by decide +kernel
end
section
theorem zd164_30 : ∀ e ∈ ze164_30, decode code e.1 = .ok (e.2.1, zlen e.2.1 e.2.2.1) := by decide +kernel
theorem zd164_31 : ∀ e ∈ ze164_31, decode code e.1 = .ok (e.2.1, zlen e.2.1 e.2.2.1) := by decide +kernel
theorem zd164_32 : ∀ e ∈ ze164_32, decode code e.1 = .ok (e.2.1, zlen e.2.1 e.2.2.1) := by decide +kernel
theorem zd164_33 : ∀ e ∈ ze164_33, decode code e.1 = .ok (e.2.1, zlen e.2.1 e.2.2.1) := by decide +kernel
theorem zd164_34 : ∀ e ∈ ze164_34, decode code e.1 = .ok (e.2.1, zlen e.2.1 e.2.2.1) := by decide +kernel
theorem zd164_35 : ∀ e ∈ ze164_35, decode code e.1 = .ok (e.2.1, zlen e.2.1 e.2.2.1) := by decide +kernel
end
section
theorem zd164_36 : ∀ e ∈ ze164_36, decode code e.1 = .ok (e.2.1, zlen e.2.1 e.2.2.1) := by decide +kernel
theorem zd164_37 : ∀ e ∈ ze164_37, decode code e.1 = .ok (e.2.1, zlen e.2.1 e.2.2.1) := by decide +kernel
theorem zd164_38 : ∀ e ∈ ze164_38, decode code e.1 = .ok (e.2.1, zlen e.2.1 e.2.2.1) := by decide +kernel
theorem zd164_39 : ∀ e ∈ ze164_39, decode code e.1 = .ok (e.2.1, zlen e.2.1 e.2.2.1) := by decide +kernel
theorem zd164_40 : ∀ e ∈ ze164_40, decode code e.1 = .ok (e.2.1, zlen e.2.1 e.2.2.1) := by decide +kernel
theorem zd164_41 : ∀ e ∈ ze164_41, decode code e.1 = .ok (e.2.1, zlen e.2.1 e.2.2.1) := by decide +kernel
end
section
theorem zd164_42 : ∀ e ∈ ze164_42, decode code e.1 = .ok (e.2.1, zlen e.2.1 e.2.2.1) := by decide +kernel
theorem zd164_43 : ∀ e ∈ ze164_43, decode code e.1 = .ok (e.2.1, zlen e.2.1 e.2.2.1) := by decide +kernel
theorem zd164_44 : ∀ e ∈ ze164_44, decode code e.1 = .ok (e.2.1, zlen e.2.1 e.2.2.1) := by decide +kernel
theorem zd164_45 : ∀ e ∈ ze164_45, decode code e.1 = .ok (e.2.1, zlen e.2.1 e.2.2.1) := by decide +kernel
theorem zd164_46 : ∀ e ∈ ze164_46, decode code e.1 = .ok (e.2.1, zlen e.2.1 e.2.2.1) := by decide +kernel
theorem zd164_47 : ∀ e ∈ ze164_47, decode code e.1 = .ok (e.2.1, zlen e.2.1 e.2.2.1) := by decide +kernel
end
section
theorem zd164_48 : ∀ e ∈ ze164_48, decode code e.1 = .ok (e.2.1, zlen e.2.1 e.2.2.1) := by decide +kernel
theorem zd164_49 : ∀ e ∈ ze164_49, decode code e.1 = .ok (e.2.1, zlen e.2.1 e.2.2.1) := by decide +kernel
theorem zd164_50 : ∀ e ∈ ze164_50, decode code e.1 = .ok (e.2.1, zlen e.2.1 e.2.2.1) := by decide +kernel
theorem zd164_51 : ∀ e ∈ ze164_51, decode code e.1 = .ok (e.2.1, zlen e.2.1 e.2.2.1) := by decide +kernel
theorem zd164_52 : ∀ e ∈ ze164_52, decode code e.1 = .ok (e.2.1, zlen e.2.1 e.2.2.1) := by decide +kernel
theorem zd164_53 : ∀ e ∈ ze164_53, decode code e.1 = .ok (e.2.1, zlen e.2.1 e.2.2.1) := by decide +kernel
end
section
theorem zd164_54 : ∀ e ∈ ze164_54, decode code e.1 = .ok (e.2.1, zlen e.2.1 e.2.2.1) := by decide +kernel
theorem zd164_55 : ∀ e ∈ ze164_55, decode code e.1 = .ok (e.2.1, zlen e.2.1 e.2.2.1) := by decide +kernel
theorem zd164_56 : ∀ e ∈ ze164_56, decode code e.1 = .ok (e.2.1, zlen e.2.1 e.2.2.1) := by decide +kernel
theorem zd164_57 : ∀ e ∈ ze164_57, decode code e.1 = .ok (e.2.1, zlen e.2.1 e.2.2.1) := by decide +kernel
theorem zd164_58 : ∀ e ∈ ze164_58, decode code e.1 = .ok (e.2.1, zlen e.2.1 e.2.2.1) := by decide +kernel
theorem zd164_59 : ∀ e ∈ ze164_59, decode code e.1 = .ok (e.2.1, zlen e.2.1 e.2.2.1) := by decide +kernel
end
section
theorem zd164_60 : ∀ e ∈ ze164_60, decode code e.1 = .ok (e.2.1, zlen e.2.1 e.2.2.1) := by decide +kernel
theorem zd164_61 : ∀ e ∈ ze164_61, decode code e.1 = .ok (e.2.1, zlen e.2.1 e.2.2.1) := by decide +kernel
theorem zd164_62 : ∀ e ∈ ze164_62, decode code e.1 = .ok (e.2.1, zlen e.2.1 e.2.2.1) := by decide +kernel
theorem zd164_63 : ∀ e ∈ ze164_63, decode code e.1 = .ok (e.2.1, zlen e.2.1 e.2.2.1) := by decide +kernel
theorem zd164_64 : ∀ e ∈ ze164_64, decode code e.1 = .ok (e.2.1, zlen e.2.1 e.2.2.1) := by decide +kernel
theorem zd164_65 : ∀ e ∈ ze164_65, decode code e.1 = .ok (e.2.1, zlen e.2.1 e.2.2.1) := by decide +kernel
end
section
theorem zd164_66 : ∀ e ∈ ze164_66, decode code e.1 = .ok (e.2.1, zlen e.2.1 e.2.2.1) := by decide +kernel
theorem zd164_67 : ∀ e ∈ ze164_67, decode code e.1 = .ok (e.2.1, zlen e.2.1 e.2.2.1) := by decide +kernel
theorem zd164_68 : ∀ e ∈ ze164_68, decode code e.1 = .ok (e.2.1, zlen e.2.1 e.2.2.1) := by decide +kernel
theorem zd164_69 : ∀ e ∈ ze164_69, decode code e.1 = .ok (e.2.1, zlen e.2.1 e.2.2.1) := by decide +kernel
theorem zd164_70 : ∀ e ∈ ze164_70, decode code e.1 = .ok (e.2.1, zlen e.2.1 e.2.2.1) := by decide +kernel
theorem zd164_71 : ∀ e ∈ ze164_71, decode code e.1 = .ok (e.2.1, zlen e.2.1 e.2.2.1) := by decide +kernel
end
section
theorem zd164_72 : ∀ e ∈ ze164_72, decode code e.1 = .ok (e.2.1, zlen e.2.1 e.2.2.1) := by decide +kernel
theorem zd164_73 : ∀ e ∈ ze164_73, decode code e.1 = .ok (e.2.1, zlen e.2.1 e.2.2.1) := by decide +kernel
theorem zd164_74 : ∀ e ∈ ze164_74, decode code e.1 = .ok (e.2.1, zlen e.2.1 e.2.2.1) := by decide +kernel
theorem zd164_75 : ∀ e ∈ ze164_75, decode code e.1 = .ok (e.2.1, zlen e.2.1 e.2.2.1) := by decide +kernel
theorem zd164_76 : ∀ e ∈ ze164_76, decode code e.1 = .ok (e.2.1, zlen e.2.1 e.2.2.1) := by decide +kernel
theorem zd164_77 : ∀ e ∈ ze164_77, decode code e.1 = .ok (e.2.1, zlen e.2.1 e.2.2.1) := by decide +kernel
end
section
theorem zd164_78 : ∀ e ∈ ze164_78, decode code e.1 = .ok (e.2.1, zlen e.2.1 e.2.2.1) := by decide +kernel
theorem zd164_79 : ∀ e ∈ ze164_79, decode code e.1 = .ok (e.2.1, zlen e.2.1 e.2.2.1) := by decide +kernel
theorem zd164_80 : ∀ e ∈ ze164_80, decode code e.1 = .ok (e.2.1, zlen e.2.1 e.2.2.1) := by decide +kernel
theorem zd164_81 : ∀ e ∈ ze164_81, decode code e.1 = .ok (e.2.1, zlen e.2.1 e.2.2.1) := by decide +kernel
theorem zd164_82 : ∀ e ∈ ze164_82, decode code e.1 = .ok (e.2.1, zlen e.2.1 e.2.2.1) := by decide +kernel
theorem zd164_83 : ∀ e ∈ ze164_83, decode code e.1 = .ok (e.2.1, zlen e.2.1 e.2.2.1) := by decide +kernel
end
section
theorem zq164 : zwM zmt zm164 = [149, 150, 126, 151, 1610, 1608, 142, 1611, 251, 834, 1816, 985, 1931, 1015, 1943, 1036, 1951, 1052, 1970, 1060, 1977, 1064, 1981, 1072, 1985, 1144, 2037, 1162, 2041, 1166, 2045, 1170, 2049, 1218, 2075, 1271, 2103, 1281, 2107, 1289, 2111, 1293, 2115, 1315, 2123, 1326, 2127, 1338, 2131, 1362, 2143, 1382, 2158, 1390, 2162, 1395, 2166, 1425, 2182, 1438, 2190, 1450, 2198, 2202, 1597, 1458, 2206, 1462, 2210, 1487, 2226, 1498, 2234, 1507, 2238, 1515, 2242].filterMap (fun p => lw_tbl[p]?) := by decide +kernel
theorem zg164 : ((zwM zmt zm164).all goodWord && zbM zmt zm164) = true := by decide +kernel
theorem zd164 : ∀ r ∈ ze164, ∀ e ∈ r, decode code e.1 = .ok (e.2.1, zlen e.2.1 e.2.2.1) := by
  unfold ze164
  exact List.forall_mem_cons.mpr ⟨zd164_0, List.forall_mem_cons.mpr ⟨zd164_1, List.forall_mem_cons.mpr ⟨zd164_2, List.forall_mem_cons.mpr ⟨zd164_3, List.forall_mem_cons.mpr ⟨zd164_4, List.forall_mem_cons.mpr ⟨zd164_5, List.forall_mem_cons.mpr ⟨zd164_6, List.forall_mem_cons.mpr ⟨zd164_7, List.forall_mem_cons.mpr ⟨zd164_8, List.forall_mem_cons.mpr ⟨zd164_9, List.forall_mem_cons.mpr ⟨zd164_10, List.forall_mem_cons.mpr ⟨zd164_11, List.forall_mem_cons.mpr ⟨zd164_12, List.forall_mem_cons.mpr ⟨zd164_13, List.forall_mem_cons.mpr ⟨zd164_14, List.forall_mem_cons.mpr ⟨zd164_15, List.forall_mem_cons.mpr ⟨zd164_16, List.forall_mem_cons.mpr ⟨zd164_17, List.forall_mem_cons.mpr ⟨zd164_18, List.forall_mem_cons.mpr ⟨zd164_19, List.forall_mem_cons.mpr ⟨zd164_20, List.forall_mem_cons.mpr ⟨zd164_21, List.forall_mem_cons.mpr ⟨zd164_22, List.forall_mem_cons.mpr ⟨zd164_23, List.forall_mem_cons.mpr ⟨zd164_24, List.forall_mem_cons.mpr ⟨zd164_25, List.forall_mem_cons.mpr ⟨zd164_26, List.forall_mem_cons.mpr ⟨zd164_27, List.forall_mem_cons.mpr ⟨zd164_28, List.forall_mem_cons.mpr ⟨zd164_29, List.forall_mem_cons.mpr ⟨zd164_30, List.forall_mem_cons.mpr ⟨zd164_31, List.forall_mem_cons.mpr ⟨zd164_32, List.forall_mem_cons.mpr ⟨zd164_33, List.forall_mem_cons.mpr ⟨zd164_34, List.forall_mem_cons.mpr ⟨zd164_35, List.forall_mem_cons.mpr ⟨zd164_36, List.forall_mem_cons.mpr ⟨zd164_37, List.forall_mem_cons.mpr ⟨zd164_38, List.forall_mem_cons.mpr ⟨zd164_39, List.forall_mem_cons.mpr ⟨zd164_40, List.forall_mem_cons.mpr ⟨zd164_41, List.forall_mem_cons.mpr ⟨zd164_42, List.forall_mem_cons.mpr ⟨zd164_43, List.forall_mem_cons.mpr ⟨zd164_44, List.forall_mem_cons.mpr ⟨zd164_45, List.forall_mem_cons.mpr ⟨zd164_46, List.forall_mem_cons.mpr ⟨zd164_47, List.forall_mem_cons.mpr ⟨zd164_48, List.forall_mem_cons.mpr ⟨zd164_49, List.forall_mem_cons.mpr ⟨zd164_50, List.forall_mem_cons.mpr ⟨zd164_51, List.forall_mem_cons.mpr ⟨zd164_52, List.forall_mem_cons.mpr ⟨zd164_53, List.forall_mem_cons.mpr ⟨zd164_54, List.forall_mem_cons.mpr ⟨zd164_55, List.forall_mem_cons.mpr ⟨zd164_56, List.forall_mem_cons.mpr ⟨zd164_57, List.forall_mem_cons.mpr ⟨zd164_58, List.forall_mem_cons.mpr ⟨zd164_59, List.forall_mem_cons.mpr ⟨zd164_60, List.forall_mem_cons.mpr ⟨zd164_61, List.forall_mem_cons.mpr ⟨zd164_62, List.forall_mem_cons.mpr ⟨zd164_63, List.forall_mem_cons.mpr ⟨zd164_64, List.forall_mem_cons.mpr ⟨zd164_65, List.forall_mem_cons.mpr ⟨zd164_66, List.forall_mem_cons.mpr ⟨zd164_67, List.forall_mem_cons.mpr ⟨zd164_68, List.forall_mem_cons.mpr ⟨zd164_69, List.forall_mem_cons.mpr ⟨zd164_70, List.forall_mem_cons.mpr ⟨zd164_71, List.forall_mem_cons.mpr ⟨zd164_72, List.forall_mem_cons.mpr ⟨zd164_73, List.forall_mem_cons.mpr ⟨zd164_74, List.forall_mem_cons.mpr ⟨zd164_75, List.forall_mem_cons.mpr ⟨zd164_76, List.forall_mem_cons.mpr ⟨zd164_77, List.forall_mem_cons.mpr ⟨zd164_78, List.forall_mem_cons.mpr ⟨zd164_79, List.forall_mem_cons.mpr ⟨zd164_80, List.forall_mem_cons.mpr ⟨zd164_81, List.forall_mem_cons.mpr ⟨zd164_82, List.forall_mem_cons.mpr ⟨zd164_83, fun _ h => absurd h List.not_mem_nil⟩⟩⟩⟩⟩⟩⟩⟩⟩⟩⟩⟩⟩⟩⟩⟩⟩⟩⟩⟩⟩⟩⟩⟩⟩⟩⟩⟩⟩⟩⟩⟩⟩⟩⟩⟩⟩⟩⟩⟩⟩⟩⟩⟩⟩⟩⟩⟩⟩⟩⟩⟩⟩⟩⟩⟩⟩⟩⟩⟩⟩⟩⟩⟩⟩⟩⟩⟩⟩⟩⟩⟩⟩⟩⟩⟩⟩⟩⟩⟩⟩⟩⟩⟩
theorem zo164 : zokM zm164 := by
  have h := Bool.and_eq_true .. ▸ zg164
  exact zM_ok (zin_of _ zq164 h.1) h.2 zd164 (fun h => absurd h (by decide))
end
section
/-! all methods -/
theorem zok_all : ∀ r ∈ zmtab, ∀ M ∈ r, zokM M := by
  unfold zmtab
  refine List.forall_mem_cons.mpr ⟨List.forall_mem_cons.mpr ⟨zo0, List.forall_mem_cons.mpr ⟨zo1, List.forall_mem_cons.mpr ⟨zo2, List.forall_mem_cons.mpr ⟨zo3, List.forall_mem_cons.mpr ⟨zo4, List.forall_mem_cons.mpr ⟨zo5, List.forall_mem_cons.mpr ⟨zo6, List.forall_mem_cons.mpr ⟨zo7, List.forall_mem_cons.mpr ⟨zo8, List.forall_mem_cons.mpr ⟨zo9, List.forall_mem_cons.mpr ⟨zo10, List.forall_mem_cons.mpr ⟨zo11, fun _ h => absurd h List.not_mem_nil⟩⟩⟩⟩⟩⟩⟩⟩⟩⟩⟩⟩, ?_⟩
  refine List.forall_mem_cons.mpr ⟨List.forall_mem_cons.mpr ⟨zo12, List.forall_mem_cons.mpr ⟨zo13, List.forall_mem_cons.mpr ⟨zo14, List.forall_mem_cons.mpr ⟨zo15, List.forall_mem_cons.mpr ⟨zo16, List.forall_mem_cons.mpr ⟨zo17, List.forall_mem_cons.mpr ⟨zo18, List.forall_mem_cons.mpr ⟨zo19, List.forall_mem_cons.mpr ⟨zo20, List.forall_mem_cons.mpr ⟨zo21, List.forall_mem_cons.mpr ⟨zo22, List.forall_mem_cons.mpr ⟨zo23, fun _ h => absurd h List.not_mem_nil⟩⟩⟩⟩⟩⟩⟩⟩⟩⟩⟩⟩, ?_⟩
  refine List.forall_mem_cons.mpr ⟨List.forall_mem_cons.mpr ⟨zo24, List.forall_mem_cons.mpr ⟨zo25, List.forall_mem_cons.mpr ⟨zo26, List.forall_mem_cons.mpr ⟨zo27, List.forall_mem_cons.mpr ⟨zo28, List.forall_mem_cons.mpr ⟨zo29, List.forall_mem_cons.mpr ⟨zo30, List.forall_mem_cons.mpr ⟨zo31, List.forall_mem_cons.mpr ⟨zo32, List.forall_mem_cons.mpr ⟨zo33, List.forall_mem_cons.mpr ⟨zo34, List.forall_mem_cons.mpr ⟨zo35, fun _ h => absurd h List.not_mem_nil⟩⟩⟩⟩⟩⟩⟩⟩⟩⟩⟩⟩, ?_⟩
  refine List.forall_mem_cons.mpr ⟨List.forall_mem_cons.mpr ⟨zo36, List.forall_mem_cons.mpr ⟨zo37, List.forall_mem_cons.mpr ⟨zo38, List.forall_mem_cons.mpr ⟨zo39, List.forall_mem_cons.mpr ⟨zo40, List.forall_mem_cons.mpr ⟨zo41, List.forall_mem_cons.mpr ⟨zo42, List.forall_mem_cons.mpr ⟨zo43, List.forall_mem_cons.mpr ⟨zo44, List.forall_mem_cons.mpr ⟨zo45, List.forall_mem_cons.mpr ⟨zo46, List.forall_mem_cons.mpr ⟨zo47, fun _ h => absurd h List.not_mem_nil⟩⟩⟩⟩⟩⟩⟩⟩⟩⟩⟩⟩, ?_⟩
  refine List.forall_mem_cons.mpr ⟨List.forall_mem_cons.mpr ⟨zo48, List.forall_mem_cons.mpr ⟨zo49, List.forall_mem_cons.mpr ⟨zo50, List.forall_mem_cons.mpr ⟨zo51, List.forall_mem_cons.mpr ⟨zo52, List.forall_mem_cons.mpr ⟨zo53, List.forall_mem_cons.mpr ⟨zo54, List.forall_mem_cons.mpr ⟨zo55, List.forall_mem_cons.mpr ⟨zo56, List.forall_mem_cons.mpr ⟨zo57, List.forall_mem_cons.mpr ⟨zo58, List.forall_mem_cons.mpr ⟨zo59, fun _ h => absurd h List.not_mem_nil⟩⟩⟩⟩⟩⟩⟩⟩⟩⟩⟩⟩, ?_⟩
  refine List.forall_mem_cons.mpr ⟨List.forall_mem_cons.mpr ⟨zo60, List.forall_mem_cons.mpr ⟨zo61, List.forall_mem_cons.mpr ⟨zo62, List.forall_mem_cons.mpr ⟨zo63, List.forall_mem_cons.mpr ⟨zo64, List.forall_mem_cons.mpr ⟨zo65, List.forall_mem_cons.mpr ⟨zo66, List.forall_mem_cons.mpr ⟨zo67, List.forall_mem_cons.mpr ⟨zo68, List.forall_mem_cons.mpr ⟨zo69, List.forall_mem_cons.mpr ⟨zo70, List.forall_mem_cons.mpr ⟨zo71, fun _ h => absurd h List.not_mem_nil⟩⟩⟩⟩⟩⟩⟩⟩⟩⟩⟩⟩, ?_⟩
  refine List.forall_mem_cons.mpr ⟨List.forall_mem_cons.mpr ⟨zo72, List.forall_mem_cons.mpr ⟨zo73, List.forall_mem_cons.mpr ⟨zo74, List.forall_mem_cons.mpr ⟨zo75, List.forall_mem_cons.mpr ⟨zo76, List.forall_mem_cons.mpr ⟨zo77, List.forall_mem_cons.mpr ⟨zo78, List.forall_mem_cons.mpr ⟨zo79, List.forall_mem_cons.mpr ⟨zo80, List.forall_mem_cons.mpr ⟨zo81, List.forall_mem_cons.mpr ⟨zo82, List.forall_mem_cons.mpr ⟨zo83, fun _ h => absurd h List.not_mem_nil⟩⟩⟩⟩⟩⟩⟩⟩⟩⟩⟩⟩, ?_⟩
  refine List.forall_mem_cons.mpr ⟨List.forall_mem_cons.mpr ⟨zo84, List.forall_mem_cons.mpr ⟨zo85, List.forall_mem_cons.mpr ⟨zo86, List.forall_mem_cons.mpr ⟨zo87, List.forall_mem_cons.mpr ⟨zo88, List.forall_mem_cons.mpr ⟨zo89, List.forall_mem_cons.mpr ⟨zo90, List.forall_mem_cons.mpr ⟨zo91, List.forall_mem_cons.mpr ⟨zo92, List.forall_mem_cons.mpr ⟨zo93, List.forall_mem_cons.mpr ⟨zo94, List.forall_mem_cons.mpr ⟨zo95, fun _ h => absurd h List.not_mem_nil⟩⟩⟩⟩⟩⟩⟩⟩⟩⟩⟩⟩, ?_⟩
  refine List.forall_mem_cons.mpr ⟨List.forall_mem_cons.mpr ⟨zo96, List.forall_mem_cons.mpr ⟨zo97, List.forall_mem_cons.mpr ⟨zo98, List.forall_mem_cons.mpr ⟨zo99, List.forall_mem_cons.mpr ⟨zo100, List.forall_mem_cons.mpr ⟨zo101, List.forall_mem_cons.mpr ⟨zo102, List.forall_mem_cons.mpr ⟨zo103, List.forall_mem_cons.mpr ⟨zo104, List.forall_mem_cons.mpr ⟨zo105, List.forall_mem_cons.mpr ⟨zo106, List.forall_mem_cons.mpr ⟨zo107, fun _ h => absurd h List.not_mem_nil⟩⟩⟩⟩⟩⟩⟩⟩⟩⟩⟩⟩, ?_⟩
  refine List.forall_mem_cons.mpr ⟨List.forall_mem_cons.mpr ⟨zo108, List.forall_mem_cons.mpr ⟨zo109, List.forall_mem_cons.mpr ⟨zo110, List.forall_mem_cons.mpr ⟨zo111, List.forall_mem_cons.mpr ⟨zo112, List.forall_mem_cons.mpr ⟨zo113, List.forall_mem_cons.mpr ⟨zo114, List.forall_mem_cons.mpr ⟨zo115, List.forall_mem_cons.mpr ⟨zo116, List.forall_mem_cons.mpr ⟨zo117, List.forall_mem_cons.mpr ⟨zo118, List.forall_mem_cons.mpr ⟨zo119, fun _ h => absurd h List.not_mem_nil⟩⟩⟩⟩⟩⟩⟩⟩⟩⟩⟩⟩, ?_⟩
  refine List.forall_mem_cons.mpr ⟨List.forall_mem_cons.mpr ⟨zo120, List.forall_mem_cons.mpr ⟨zo121, List.forall_mem_cons.mpr ⟨zo122, List.forall_mem_cons.mpr ⟨zo123, List.forall_mem_cons.mpr ⟨zo124, List.forall_mem_cons.mpr ⟨zo125, List.forall_mem_cons.mpr ⟨zo126, List.forall_mem_cons.mpr ⟨zo127, List.forall_mem_cons.mpr ⟨zo128, List.forall_mem_cons.mpr ⟨zo129, List.forall_mem_cons.mpr ⟨zo130, List.forall_mem_cons.mpr ⟨zo131, fun _ h => absurd h List.not_mem_nil⟩⟩⟩⟩⟩⟩⟩⟩⟩⟩⟩⟩, ?_⟩
  refine List.forall_mem_cons.mpr ⟨List.forall_mem_cons.mpr ⟨zo132, List.forall_mem_cons.mpr ⟨zo133, List.forall_mem_cons.mpr ⟨zo134, List.forall_mem_cons.mpr ⟨zo135, List.forall_mem_cons.mpr ⟨zo136, List.forall_mem_cons.mpr ⟨zo137, List.forall_mem_cons.mpr ⟨zo138, List.forall_mem_cons.mpr ⟨zo139, List.forall_mem_cons.mpr ⟨zo140, List.forall_mem_cons.mpr ⟨zo141, List.forall_mem_cons.mpr ⟨zo142, List.forall_mem_cons.mpr ⟨zo143, fun _ h => absurd h List.not_mem_nil⟩⟩⟩⟩⟩⟩⟩⟩⟩⟩⟩⟩, ?_⟩
  refine List.forall_mem_cons.mpr ⟨List.forall_mem_cons.mpr ⟨zo144, List.forall_mem_cons.mpr ⟨zo145, List.forall_mem_cons.mpr ⟨zo146, List.forall_mem_cons.mpr ⟨zo147, List.forall_mem_cons.mpr ⟨zo148, List.forall_mem_cons.mpr ⟨zo149, List.forall_mem_cons.mpr ⟨zo150, List.forall_mem_cons.mpr ⟨zo151, List.forall_mem_cons.mpr ⟨zo152, List.forall_mem_cons.mpr ⟨zo153, List.forall_mem_cons.mpr ⟨zo154, List.forall_mem_cons.mpr ⟨zo155, fun _ h => absurd h List.not_mem_nil⟩⟩⟩⟩⟩⟩⟩⟩⟩⟩⟩⟩, ?_⟩
  refine List.forall_mem_cons.mpr ⟨List.forall_mem_cons.mpr ⟨zo156, List.forall_mem_cons.mpr ⟨zo157, List.forall_mem_cons.mpr ⟨zo158, List.forall_mem_cons.mpr ⟨zo159, List.forall_mem_cons.mpr ⟨zo160, List.forall_mem_cons.mpr ⟨zo161, List.forall_mem_cons.mpr ⟨zo162, List.forall_mem_cons.mpr ⟨zo163, List.forall_mem_cons.mpr ⟨zo164, fun _ h => absurd h List.not_mem_nil⟩⟩⟩⟩⟩⟩⟩⟩⟩, ?_⟩
  exact fun _ h => absurd h List.not_mem_nil
theorem zok (j : Nat) : zokM (zmt j) := by
  unfold zmt
  split
  · rename_i r hr
    rw [zn_eq] at hr
    split
    · rename_i q hq
      rw [zn_eq] at hq
      exact zok_all r (List.mem_of_getElem? hr) q (List.mem_of_getElem? hq)
    · exact zo0
  · exact zo0
end
section
/-! what holds at the law's entry -/
section ZSTART
theorem zu0 : u_ws RX0 TX0 4 = [348, 350, 352, 354].filterMap (fun p => lw_tbl[p]?) := by decide +kernel
theorem zug0 : (u_ws RX0 TX0 4).all goodWord = true := by decide +kernel
theorem zui0 : Cond.instantiable RX0 4 ∈ lw_tbl := List.mem_of_getElem? (i := 337) (by decide +kernel)
theorem zu1 : u_ws RX1 TX1 12 = [594, 596, 598, 600, 602, 604, 606, 608, 610, 612, 614, 616].filterMap (fun p => lw_tbl[p]?) := by decide +kernel
theorem zug1 : (u_ws RX1 TX1 12).all goodWord = true := by decide +kernel
theorem zui1 : Cond.instantiable RX1 12 ∈ lw_tbl := List.mem_of_getElem? (i := 565) (by decide +kernel)
theorem zu2 : u_ws RX2 TX2 16 = [506, 508, 510, 512, 514, 516, 518, 520, 522, 524, 526, 528, 530, 532, 534, 536].filterMap (fun p => lw_tbl[p]?) := by decide +kernel
theorem zug2 : (u_ws RX2 TX2 16).all goodWord = true := by decide +kernel
theorem zui2 : Cond.instantiable RX2 16 ∈ lw_tbl := List.mem_of_getElem? (i := 391) (by decide +kernel)
theorem zu3 : u_ws RX3 TX3 5 = [737, 739, 741, 743, 745].filterMap (fun p => lw_tbl[p]?) := by decide +kernel
theorem zug3 : (u_ws RX3 TX3 5).all goodWord = true := by decide +kernel
theorem zui3 : Cond.instantiable RX3 5 ∈ lw_tbl := List.mem_of_getElem? (i := 725) (by decide +kernel)
theorem zu4 : u_ws RX4 TX4 9 = [705, 707, 709, 711, 713, 715, 717, 719, 721].filterMap (fun p => lw_tbl[p]?) := by decide +kernel
theorem zug4 : (u_ws RX4 TX4 9).all goodWord = true := by decide +kernel
theorem zui4 : Cond.instantiable RX4 9 ∈ lw_tbl := List.mem_of_getElem? (i := 689) (by decide +kernel)
theorem zu5 : u_ws RX5 TX5 15 = [452, 454, 456, 458, 460, 462, 464, 466, 468, 470, 472, 474, 476, 478, 480].filterMap (fun p => lw_tbl[p]?) := by decide +kernel
theorem zug5 : (u_ws RX5 TX5 15).all goodWord = true := by decide +kernel
theorem zui5 : Cond.instantiable RX5 15 ∈ lw_tbl := List.mem_of_getElem? (i := 397) (by decide +kernel)
theorem zu6 : u_ws RX6 TX6 8 = [373, 375, 377, 379, 381, 383, 385, 387].filterMap (fun p => lw_tbl[p]?) := by decide +kernel
theorem zug6 : (u_ws RX6 TX6 8).all goodWord = true := by decide +kernel
theorem zui6 : Cond.instantiable RX6 8 ∈ lw_tbl := List.mem_of_getElem? (i := 358) (by decide +kernel)
theorem zu7 : u_ws RX7 TX7 4 = [555, 557, 559, 561].filterMap (fun p => lw_tbl[p]?) := by decide +kernel
theorem zug7 : (u_ws RX7 TX7 4).all goodWord = true := by decide +kernel
theorem zui7 : Cond.instantiable RX7 4 ∈ lw_tbl := List.mem_of_getElem? (i := 541) (by decide +kernel)
theorem zu8 : u_ws RX8 TX8 18 = [651, 653, 655, 657, 659, 661, 663, 665, 667, 669, 671, 673, 675, 677, 679, 681, 683, 685].filterMap (fun p => lw_tbl[p]?) := by decide +kernel
theorem zug8 : (u_ws RX8 TX8 18).all goodWord = true := by decide +kernel
theorem zui8 : Cond.instantiable RX8 18 ∈ lw_tbl := List.mem_of_getElem? (i := 620) (by decide +kernel)
theorem zu9 : u_ws RX9 TX9 16 = [301, 303, 305, 307, 309, 311, 313, 315, 317, 319, 321, 323, 325, 327, 329, 331].filterMap (fun p => lw_tbl[p]?) := by decide +kernel
theorem zug9 : (u_ws RX9 TX9 16).all goodWord = true := by decide +kernel
theorem zui9 : Cond.instantiable RX9 16 ∈ lw_tbl := List.mem_of_getElem? (i := 253) (by decide +kernel)
theorem zu10 : u_ws RX10 TX10 10 = [229, 231, 233, 235, 237, 239, 241, 243, 245, 247].filterMap (fun p => lw_tbl[p]?) := by decide +kernel
theorem zug10 : (u_ws RX10 TX10 10).all goodWord = true := by decide +kernel
theorem zui10 : Cond.instantiable RX10 10 ∈ lw_tbl := List.mem_of_getElem? (i := 158) (by decide +kernel)
theorem zu11 : u_ws RX11 TX11 19 = [787, 789, 791, 793, 795, 797, 799, 801, 803, 805, 807, 809, 811, 813, 815, 817, 819, 821, 823].filterMap (fun p => lw_tbl[p]?) := by decide +kernel
theorem zug11 : (u_ws RX11 TX11 19).all goodWord = true := by decide +kernel
theorem zui11 : Cond.instantiable RX11 19 ∈ lw_tbl := List.mem_of_getElem? (i := 150) (by decide +kernel)
theorem zu12 : u_ws RX12 TX12 56 = [1703, 1705, 1707, 1709, 1711, 1713, 1715, 1717, 1719, 1721, 1723, 1725, 1727, 1729, 1731, 1733, 1735, 1737, 1739, 1741, 1743, 1745, 1747, 1749, 1751, 1753, 1755, 1757, 1759, 1761, 1763, 1765, 1767, 1769, 1771, 1773, 1775, 1777, 1779, 1781, 1783, 1785, 1787, 1789, 1791, 1793, 1795, 1797, 1799, 1801, 1803, 1805, 1807, 1809, 1811, 1813].filterMap (fun p => lw_tbl[p]?) := by decide +kernel
theorem zug12 : (u_ws RX12 TX12 56).all goodWord = true := by decide +kernel
theorem zui12 : Cond.instantiable RX12 56 ∈ lw_tbl := List.mem_of_getElem? (i := 1608) (by decide +kernel)
theorem zcw_ok : zcw zAl := by
  intro ci q h
  match ci, h with
  | 0, h => cases h; exact zin_of _ zu0 zug0
  | 1, h => cases h; exact zin_of _ zu1 zug1
  | 2, h => cases h; exact zin_of _ zu2 zug2
  | 3, h => cases h; exact zin_of _ zu3 zug3
  | 4, h => cases h; exact zin_of _ zu4 zug4
  | 5, h => cases h; exact zin_of _ zu5 zug5
  | 6, h => cases h; exact zin_of _ zu6 zug6
  | 7, h => cases h; exact zin_of _ zu7 zug7
  | 8, h => cases h; exact zin_of _ zu8 zug8
  | 9, h => cases h; exact zin_of _ zu9 zug9
  | 10, h => cases h; exact zin_of _ zu10 zug10
  | 11, h => cases h; exact zin_of _ zu11 zug11
  | 12, h => cases h; exact zin_of _ zu12 zug12
  | n + 13, h => cases h
theorem zmem_of {w : Cond} (p : Nat) (h : lw_tbl[p]? = some w) (hg : goodWord w = true) : w ∈ zAl := List.mem_filter.mpr ⟨List.mem_of_getElem? h, hg⟩
theorem zAl0_ok : zAl0 zAl := ⟨zmem_of 155 (by decide +kernel) rfl, zmem_of 156 (by decide +kernel) rfl, zmem_of 1094 (by decide +kernel) rfl, zmem_of 1093 (by decide +kernel) rfl, zmem_of 144 (by decide +kernel) rfl, zmem_of 915 (by decide +kernel) rfl, zmem_of 143 (by decide +kernel) rfl, zmem_of 916 (by decide +kernel) rfl⟩
theorem znl_in : znl.map (fun q => Cond.methodLinkNest q.1 q.2.1 q.2.2 "BeggarHeaps") = [338, 392, 542, 566, 726, 571, 398, 1409].filterMap (fun p => lw_tbl[p]?) := by decide +kernel
theorem zKi {args : Array Value} {s : State} {ty : FieldType} (h : (Cond.arrayClass ty).before args s = true) : ∃ cA, ArrOfT s cA ty ∧ s.vm.findClass ("[" ++ ty.toString) = some cA := by
  obtain ⟨c, k, comp, h1, h2, h3⟩ := Cond.arrayClass_spec (args := args) (first := s) (o := none) (s := s) (idx := []) h
  exact ⟨c, fun n z => ⟨fun k h => (by cases h), k, h2, comp, h3⟩, h1⟩
theorem zKo {s : State} {C : String} (h : va_AO C s) : ∃ cA, ArrOfT s cA (.object C) ∧ va_RA s cA (.object C) := by
  obtain ⟨comp, c, k, h1, h2, h3, h4, h5⟩ := Cond.arrayOver_spec h
  exact ⟨c, fun n z => ⟨fun k h => (by cases h), k, h3, comp, h4⟩, k, comp, h3, h4, h1, h5⟩
set_option maxHeartbeats 2000000 in
theorem zX_ex {args : Array Value} {s : State} (hts : ∀ w ∈ lw_tbl, w.before args s = true) : ∃ (D : va_G) (cA : Nat → ClassId), ZX D cA s := by
  obtain ⟨c0, iS0, hKn0⟩ := u_known (C := RX0) (T := TX0) (N := 4) (n := 4) hts (fun w hw => (List.mem_filter.mp (zin_of _ zu0 zug0 w hw)).1) (hts _ zui0)
  obtain ⟨c1, iS1, hKn1⟩ := u_known (C := RX1) (T := TX1) (N := 12) (n := 12) hts (fun w hw => (List.mem_filter.mp (zin_of _ zu1 zug1 w hw)).1) (hts _ zui1)
  obtain ⟨c2, iS2, hKn2⟩ := u_known (C := RX2) (T := TX2) (N := 16) (n := 16) hts (fun w hw => (List.mem_filter.mp (zin_of _ zu2 zug2 w hw)).1) (hts _ zui2)
  obtain ⟨c3, iS3, hKn3⟩ := u_known (C := RX3) (T := TX3) (N := 5) (n := 5) hts (fun w hw => (List.mem_filter.mp (zin_of _ zu3 zug3 w hw)).1) (hts _ zui3)
  obtain ⟨c4, iS4, hKn4⟩ := u_known (C := RX4) (T := TX4) (N := 9) (n := 9) hts (fun w hw => (List.mem_filter.mp (zin_of _ zu4 zug4 w hw)).1) (hts _ zui4)
  obtain ⟨c5, iS5, hKn5⟩ := u_known (C := RX5) (T := TX5) (N := 15) (n := 15) hts (fun w hw => (List.mem_filter.mp (zin_of _ zu5 zug5 w hw)).1) (hts _ zui5)
  obtain ⟨c6, iS6, hKn6⟩ := u_known (C := RX6) (T := TX6) (N := 8) (n := 8) hts (fun w hw => (List.mem_filter.mp (zin_of _ zu6 zug6 w hw)).1) (hts _ zui6)
  obtain ⟨c7, iS7, hKn7⟩ := u_known (C := RX7) (T := TX7) (N := 4) (n := 4) hts (fun w hw => (List.mem_filter.mp (zin_of _ zu7 zug7 w hw)).1) (hts _ zui7)
  obtain ⟨c8, iS8, hKn8⟩ := u_known (C := RX8) (T := TX8) (N := 18) (n := 18) hts (fun w hw => (List.mem_filter.mp (zin_of _ zu8 zug8 w hw)).1) (hts _ zui8)
  obtain ⟨c9, iS9, hKn9⟩ := u_known (C := RX9) (T := TX9) (N := 16) (n := 16) hts (fun w hw => (List.mem_filter.mp (zin_of _ zu9 zug9 w hw)).1) (hts _ zui9)
  obtain ⟨c10, iS10, hKn10⟩ := u_known (C := RX10) (T := TX10) (N := 10) (n := 10) hts (fun w hw => (List.mem_filter.mp (zin_of _ zu10 zug10 w hw)).1) (hts _ zui10)
  obtain ⟨c11, iS11, hKn11⟩ := u_known (C := RX11) (T := TX11) (N := 19) (n := 19) hts (fun w hw => (List.mem_filter.mp (zin_of _ zu11 zug11 w hw)).1) (hts _ zui11)
  obtain ⟨c12, iS12, hKn12⟩ := u_known (C := RX12) (T := TX12) (N := 56) (n := 56) hts (fun w hw => (List.mem_filter.mp (zin_of _ zu12 zug12 w hw)).1) (hts _ zui12)
  have hKc : ∀ (k : Nat) (q : vw_C), zcl[k]? = some q → u_Kn s q.1 q.2.1 q.2.2 ([c0, c1, c2, c3, c4, c5, c6, c7, c8, c9, c10, c11, c12].getD k c0) ([iS0, iS1, iS2, iS3, iS4, iS5, iS6, iS7, iS8, iS9, iS10, iS11, iS12].getD k iS0) := by
    intro k q hq
    match k, hq with
    | 0, hq => cases hq; exact hKn0
    | 1, hq => cases hq; exact hKn1
    | 2, hq => cases hq; exact hKn2
    | 3, hq => cases hq; exact hKn3
    | 4, hq => cases hq; exact hKn4
    | 5, hq => cases hq; exact hKn5
    | 6, hq => cases hq; exact hKn6
    | 7, hq => cases hq; exact hKn7
    | 8, hq => cases hq; exact hKn8
    | 9, hq => cases hq; exact hKn9
    | 10, hq => cases hq; exact hKn10
    | 11, hq => cases hq; exact hKn11
    | 12, hq => cases hq; exact hKn12
    | n + 13, hq => cases hq
  have o4 : va_AO RX2 s := va_AO.of (A := args) (hts _ (List.mem_of_getElem? (i := 539) (by decide +kernel)))
  have o5 : va_AO RX5 s := va_AO.of (A := args) (hts _ (List.mem_of_getElem? (i := 1408) (by decide +kernel)))
  obtain ⟨a0, p0, q0⟩ := zKi (ty := .int) (hts _ (List.mem_of_getElem? (i := 334) (by decide +kernel)))
  obtain ⟨a1, p1, q1⟩ := zKi (ty := .long) (hts _ (List.mem_of_getElem? (i := 251) (by decide +kernel)))
  obtain ⟨a2, p2, q2⟩ := zKi (ty := .boolean) (hts _ (List.mem_of_getElem? (i := 335) (by decide +kernel)))
  obtain ⟨a3, p3, q3⟩ := zKi (ty := .byte) (hts _ (List.mem_of_getElem? (i := 250) (by decide +kernel)))
  obtain ⟨a4, p4, q4⟩ := zKo o4
  obtain ⟨a5, p5, q5⟩ := zKo o5
  refine ⟨(fun k => [c0, c1, c2, c3, c4, c5, c6, c7, c8, c9, c10, c11, c12].getD k c0, fun k => [iS0, iS1, iS2, iS3, iS4, iS5, iS6, iS7, iS8, iS9, iS10, iS11, iS12].getD k iS0), fun k => [a0, a1, a2, a3, a4, a5].getD k a0, ⟨hKc, fun k q hq => ?_⟩, o4, o5, fun q hq => ?_⟩
  · match k, hq with
    | 0, hq => cases hq; exact ⟨p0, q0⟩
    | 1, hq => cases hq; exact ⟨p1, q1⟩
    | 2, hq => cases hq; exact ⟨p2, q2⟩
    | 3, hq => cases hq; exact ⟨p3, q3⟩
    | 4, hq => cases hq; exact ⟨p4, q4⟩
    | 5, hq => cases hq; exact ⟨p5, q5⟩
    | n + 6, hq => cases hq
  · have hm : Cond.methodLinkNest q.1 q.2.1 q.2.2 "BeggarHeaps" ∈ lw_tbl := by
      have h1 : Cond.methodLinkNest q.1 q.2.1 q.2.2 "BeggarHeaps" ∈ znl.map (fun q => Cond.methodLinkNest q.1 q.2.1 q.2.2 "BeggarHeaps") := List.mem_map.mpr ⟨q, hq, rfl⟩
      rw [znl_in] at h1
      obtain ⟨i, -, hi⟩ := List.mem_filterMap.mp h1
      exact List.mem_of_getElem? hi
    exact va_Nw.of rfl (hts _ hm)
abbrev zT19 : Term := .string RX10 19
theorem zel_ok : ∀ j, j < 127 → (flatC (Jvm.Cond.and given_1 narrow_1))[58 + j]? = some (Cond.eq (.elem (.field zT19 "java/lang/String" "value" "[B") (.int (Int32.ofNat j))) (.int (zbytes.getD j 0))) := by decide +kernel
set_option maxHeartbeats 2000000 in
theorem zStr_ex {args : Array Value} {s : State} (hts : ∀ w ∈ lw_tbl, w.before args s = true) (hgv : (Jvm.Cond.and given_1 narrow_1).before args s = true) : ∃ b, zStr (fun q => s.heap.size ≤ q) s b := by
  have hs := flat_of_before _ hgv
  have hat : ∀ (p : Nat) (w : Cond), (flatC (Jvm.Cond.and given_1 narrow_1))[p]? = some w → w.before args s = true := fun p w h => hs w (List.mem_of_getElem? h)
  have hA : ∀ a : Nat, a < s.heap.size → ¬ (fun q : Nat => s.heap.size ≤ q) a := fun a h => Nat.not_le.mpr h
  obtain ⟨adK, adV, hV, hE⟩ := vk_Sof (args := args) (s := s) (N := 1) (tm := fun _ => zT19) (len := [127]) (byt := [zbytes]) (A := fun q : Nat => s.heap.size ≤ q)
    (fun i hi => by rw [show i = 0 by omega]; decide)
    (fun i hi => hat 54 _ (by decide +kernel))
    (fun i hi => hat 55 _ (by decide +kernel))
    (fun i hi => hat 56 _ (by decide +kernel))
    (fun i hi => by rw [show i = 0 by omega]; exact hat 57 _ (by decide +kernel))
    (fun i hi j hj => by rw [show i = 0 by omega] at hj ⊢; exact hat _ _ (zel_ok j hj))
    (fun i j hi hj h => absurd (show i = j by omega) h) hA
  have hcs := hat 4 (Cond.eq (.static "java/lang/String" "COMPACT_STRINGS" "Z") (.int 1)) (by decide +kernel)
  have hsi := hat 5 (Cond.isRef (.static "jdk/internal/util/Preconditions" "SIOOBE_FORMATTER" "Ljava/util/function/BiFunction;")) (by decide +kernel)
  exact ⟨adK 0, adK, adV, hV, va_Zof (hts _ (List.mem_of_getElem? (i := 173) (by decide +kernel))) (hts _ (List.mem_of_getElem? (i := 128) (by decide +kernel))) (va_eqi hcs) hA, va_Zqof (hts _ (List.mem_of_getElem? (i := 189) (by decide +kernel))) (hts _ (List.mem_of_getElem? (i := 130) (by decide +kernel))) hsi hA, vk_R.of (hts _ (List.mem_of_getElem? (i := 163) (by decide +kernel))) (hE 0 (by decide)), rfl⟩
end ZSTART
end
section
/-! feeding: eight bytes a time -/
section ZFEED
theorem zf_X10_addEight_0 : decode cX10_addEight 0 = .ok (.bipush 56, 2) := by decide +kernel
theorem zf_X10_addEight_2 : decode cX10_addEight 2 = .ok (.istore_n 3, 1) := by decide +kernel
theorem zf_X10_addEight_3 : decode cX10_addEight 3 = .ok (.iload_n 3, 1) := by decide +kernel
theorem zf_X10_addEight_4 : decode cX10_addEight 4 = .ok (.ifCond .lt 72, 3) := by decide +kernel
theorem zf_X10_addEight_7 : decode cX10_addEight 7 = .ok (.lload_n 1, 1) := by decide +kernel
theorem zf_X10_addEight_8 : decode cX10_addEight 8 = .ok (.iload_n 3, 1) := by decide +kernel
theorem zf_X10_addEight_9 : decode cX10_addEight 9 = .ok (.lushr, 1) := by decide +kernel
theorem zf_X10_addEight_10 : decode cX10_addEight 10 = .ok (.l2i, 1) := by decide +kernel
theorem zf_X10_addEight_11 : decode cX10_addEight 11 = .ok (.sipush 255, 3) := by decide +kernel
theorem zf_X10_addEight_14 : decode cX10_addEight 14 = .ok (.iand, 1) := by decide +kernel
theorem zf_X10_addEight_15 : decode cX10_addEight 15 = .ok (.istore 4, 2) := by decide +kernel
theorem zf_X10_addEight_17 : decode cX10_addEight 17 = .ok (.iload 4, 2) := by decide +kernel
theorem zf_X10_addEight_19 : decode cX10_addEight 19 = .ok (.bipush 10, 2) := by decide +kernel
theorem zf_X10_addEight_21 : decode cX10_addEight 21 = .ok (.if_icmp .eq 17, 3) := by decide +kernel
theorem zf_X10_addEight_24 : decode cX10_addEight 24 = .ok (.iload 4, 2) := by decide +kernel
theorem zf_X10_addEight_26 : decode cX10_addEight 26 = .ok (.bipush 32, 2) := by decide +kernel
theorem zf_X10_addEight_28 : decode cX10_addEight 28 = .ok (.if_icmp .lt 42, 3) := by decide +kernel
theorem zf_X10_addEight_31 : decode cX10_addEight 31 = .ok (.iload 4, 2) := by decide +kernel
theorem zf_X10_addEight_33 : decode cX10_addEight 33 = .ok (.bipush 126, 2) := by decide +kernel
theorem zf_X10_addEight_35 : decode cX10_addEight 35 = .ok (.if_icmp .gt 35, 3) := by decide +kernel
theorem zf_X10_addEight_38 : decode cX10_addEight 38 = .ok (.aload_n 0, 1) := by decide +kernel
theorem zf_X10_addEight_39 : decode cX10_addEight 39 = .ok (.getfield 33, 3) := by decide +kernel
theorem zf_X10_addEight_42 : decode cX10_addEight 42 = .ok (.sipush 1000, 3) := by decide +kernel
theorem zf_X10_addEight_45 : decode cX10_addEight 45 = .ok (.if_icmp .ge 25, 3) := by decide +kernel
theorem zf_X10_addEight_48 : decode cX10_addEight 48 = .ok (.aload_n 0, 1) := by decide +kernel
theorem zf_X10_addEight_49 : decode cX10_addEight 49 = .ok (.getfield 11, 3) := by decide +kernel
theorem zf_X10_addEight_52 : decode cX10_addEight 52 = .ok (.aload_n 0, 1) := by decide +kernel
theorem zf_X10_addEight_53 : decode cX10_addEight 53 = .ok (.getfield 33, 3) := by decide +kernel
theorem zf_X10_addEight_56 : decode cX10_addEight 56 = .ok (.iload 4, 2) := by decide +kernel
theorem zf_X10_addEight_58 : decode cX10_addEight 58 = .ok (.i2b, 1) := by decide +kernel
theorem zf_X10_addEight_59 : decode cX10_addEight 59 = .ok (.bastore, 1) := by decide +kernel
theorem zf_X10_addEight_60 : decode cX10_addEight 60 = .ok (.aload_n 0, 1) := by decide +kernel
theorem zf_X10_addEight_61 : decode cX10_addEight 61 = .ok (.dup, 1) := by decide +kernel
theorem zf_X10_addEight_62 : decode cX10_addEight 62 = .ok (.getfield 33, 3) := by decide +kernel
theorem zf_X10_addEight_65 : decode cX10_addEight 65 = .ok (.iconst 1, 1) := by decide +kernel
theorem zf_X10_addEight_66 : decode cX10_addEight 66 = .ok (.iadd, 1) := by decide +kernel
theorem zf_X10_addEight_67 : decode cX10_addEight 67 = .ok (.putfield 33, 3) := by decide +kernel
theorem zf_X10_addEight_70 : decode cX10_addEight 70 = .ok (.iinc 3 (-8), 3) := by decide +kernel
theorem zf_X10_addEight_73 : decode cX10_addEight 73 = .ok (.goto (-70), 3) := by decide +kernel
theorem zf_X10_addEight_76 : decode cX10_addEight 76 = .ok (.return_, 1) := by decide +kernel
theorem zf_X12_lay_0 : decode cX12_lay 0 = .ok (.bipush 56, 2) := by decide +kernel
theorem zf_X12_lay_2 : decode cX12_lay 2 = .ok (.istore_n 3, 1) := by decide +kernel
theorem zf_X12_lay_3 : decode cX12_lay 3 = .ok (.iload_n 3, 1) := by decide +kernel
theorem zf_X12_lay_4 : decode cX12_lay 4 = .ok (.ifCond .lt 71, 3) := by decide +kernel
theorem zf_X12_lay_7 : decode cX12_lay 7 = .ok (.lload_n 1, 1) := by decide +kernel
theorem zf_X12_lay_8 : decode cX12_lay 8 = .ok (.iload_n 3, 1) := by decide +kernel
theorem zf_X12_lay_9 : decode cX12_lay 9 = .ok (.lshr, 1) := by decide +kernel
theorem zf_X12_lay_10 : decode cX12_lay 10 = .ok (.l2i, 1) := by decide +kernel
theorem zf_X12_lay_11 : decode cX12_lay 11 = .ok (.sipush 255, 3) := by decide +kernel
theorem zf_X12_lay_14 : decode cX12_lay 14 = .ok (.iand, 1) := by decide +kernel
theorem zf_X12_lay_15 : decode cX12_lay 15 = .ok (.istore 4, 2) := by decide +kernel
theorem zf_X12_lay_17 : decode cX12_lay 17 = .ok (.iload 4, 2) := by decide +kernel
theorem zf_X12_lay_19 : decode cX12_lay 19 = .ok (.bipush 10, 2) := by decide +kernel
theorem zf_X12_lay_21 : decode cX12_lay 21 = .ok (.if_icmp .eq 17, 3) := by decide +kernel
theorem zf_X12_lay_24 : decode cX12_lay 24 = .ok (.iload 4, 2) := by decide +kernel
theorem zf_X12_lay_26 : decode cX12_lay 26 = .ok (.bipush 32, 2) := by decide +kernel
theorem zf_X12_lay_28 : decode cX12_lay 28 = .ok (.if_icmp .lt 41, 3) := by decide +kernel
theorem zf_X12_lay_31 : decode cX12_lay 31 = .ok (.iload 4, 2) := by decide +kernel
theorem zf_X12_lay_33 : decode cX12_lay 33 = .ok (.bipush 126, 2) := by decide +kernel
theorem zf_X12_lay_35 : decode cX12_lay 35 = .ok (.if_icmp .gt 34, 3) := by decide +kernel
theorem zf_X12_lay_38 : decode cX12_lay 38 = .ok (.aload_n 0, 1) := by decide +kernel
theorem zf_X12_lay_39 : decode cX12_lay 39 = .ok (.getfield 11, 3) := by decide +kernel
theorem zf_X12_lay_42 : decode cX12_lay 42 = .ok (.sipush 1000, 3) := by decide +kernel
theorem zf_X12_lay_45 : decode cX12_lay 45 = .ok (.if_icmp .ge 24, 3) := by decide +kernel
theorem zf_X12_lay_48 : decode cX12_lay 48 = .ok (.aload_n 0, 1) := by decide +kernel
theorem zf_X12_lay_49 : decode cX12_lay 49 = .ok (.getfield 14, 3) := by decide +kernel
theorem zf_X12_lay_52 : decode cX12_lay 52 = .ok (.aload_n 0, 1) := by decide +kernel
theorem zf_X12_lay_53 : decode cX12_lay 53 = .ok (.getfield 11, 3) := by decide +kernel
theorem zf_X12_lay_56 : decode cX12_lay 56 = .ok (.iload 4, 2) := by decide +kernel
theorem zf_X12_lay_58 : decode cX12_lay 58 = .ok (.iastore, 1) := by decide +kernel
theorem zf_X12_lay_59 : decode cX12_lay 59 = .ok (.aload_n 0, 1) := by decide +kernel
theorem zf_X12_lay_60 : decode cX12_lay 60 = .ok (.dup, 1) := by decide +kernel
theorem zf_X12_lay_61 : decode cX12_lay 61 = .ok (.getfield 11, 3) := by decide +kernel
theorem zf_X12_lay_64 : decode cX12_lay 64 = .ok (.iconst 1, 1) := by decide +kernel
theorem zf_X12_lay_65 : decode cX12_lay 65 = .ok (.iadd, 1) := by decide +kernel
theorem zf_X12_lay_66 : decode cX12_lay 66 = .ok (.putfield 11, 3) := by decide +kernel
theorem zf_X12_lay_69 : decode cX12_lay 69 = .ok (.iinc 3 (-8), 3) := by decide +kernel
theorem zf_X12_lay_72 : decode cX12_lay 72 = .ok (.goto (-69), 3) := by decide +kernel
theorem zf_X12_lay_75 : decode cX12_lay 75 = .ok (.return_, 1) := by decide +kernel
theorem zf_X11_feed_0 : decode cX11_feed 0 = .ok (.aload_n 0, 1) := by decide +kernel
theorem zf_X11_feed_1 : decode cX11_feed 1 = .ok (.getfield 10, 3) := by decide +kernel
theorem zf_X11_feed_4 : decode cX11_feed 4 = .ok (.lload_n 1, 1) := by decide +kernel
theorem zf_X11_feed_5 : decode cX11_feed 5 = .ok (.invokevirtual 108, 3) := by decide +kernel
theorem zf_X11_feed_8 : decode cX11_feed 8 = .ok (.aload_n 0, 1) := by decide +kernel
theorem zf_X11_feed_9 : decode cX11_feed 9 = .ok (.getfield 10, 3) := by decide +kernel
theorem zf_X11_feed_12 : decode cX11_feed 12 = .ok (.lload_n 3, 1) := by decide +kernel
theorem zf_X11_feed_13 : decode cX11_feed 13 = .ok (.invokevirtual 108, 3) := by decide +kernel
theorem zf_X11_feed_16 : decode cX11_feed 16 = .ok (.aload_n 0, 1) := by decide +kernel
theorem zf_X11_feed_17 : decode cX11_feed 17 = .ok (.getfield 10, 3) := by decide +kernel
theorem zf_X11_feed_20 : decode cX11_feed 20 = .ok (.lload 5, 2) := by decide +kernel
theorem zf_X11_feed_22 : decode cX11_feed 22 = .ok (.invokevirtual 108, 3) := by decide +kernel
theorem zf_X11_feed_25 : decode cX11_feed 25 = .ok (.aload_n 0, 1) := by decide +kernel
theorem zf_X11_feed_26 : decode cX11_feed 26 = .ok (.getfield 10, 3) := by decide +kernel
theorem zf_X11_feed_29 : decode cX11_feed 29 = .ok (.getfield 112, 3) := by decide +kernel
theorem zf_X11_feed_32 : decode cX11_feed 32 = .ok (.ireturn, 1) := by decide +kernel
theorem zf_X12_feed_0 : decode cX12_feed 0 = .ok (.aload_n 0, 1) := by decide +kernel
theorem zf_X12_feed_1 : decode cX12_feed 1 = .ok (.iconst 0, 1) := by decide +kernel
theorem zf_X12_feed_2 : decode cX12_feed 2 = .ok (.putfield 1, 3) := by decide +kernel
theorem zf_X12_feed_5 : decode cX12_feed 5 = .ok (.aload_n 0, 1) := by decide +kernel
theorem zf_X12_feed_6 : decode cX12_feed 6 = .ok (.lload_n 1, 1) := by decide +kernel
theorem zf_X12_feed_7 : decode cX12_feed 7 = .ok (.invokevirtual 7, 3) := by decide +kernel
theorem zf_X12_feed_10 : decode cX12_feed 10 = .ok (.aload_n 0, 1) := by decide +kernel
theorem zf_X12_feed_11 : decode cX12_feed 11 = .ok (.lload_n 3, 1) := by decide +kernel
theorem zf_X12_feed_12 : decode cX12_feed 12 = .ok (.invokevirtual 7, 3) := by decide +kernel
theorem zf_X12_feed_15 : decode cX12_feed 15 = .ok (.aload_n 0, 1) := by decide +kernel
theorem zf_X12_feed_16 : decode cX12_feed 16 = .ok (.lload 5, 2) := by decide +kernel
theorem zf_X12_feed_18 : decode cX12_feed 18 = .ok (.invokevirtual 7, 3) := by decide +kernel
theorem zf_X12_feed_21 : decode cX12_feed 21 = .ok (.aload_n 0, 1) := by decide +kernel
theorem zf_X12_feed_22 : decode cX12_feed 22 = .ok (.getfield 11, 3) := by decide +kernel
theorem zf_X12_feed_25 : decode cX12_feed 25 = .ok (.ireturn, 1) := by decide +kernel
theorem zfw1 : Cond.fieldLink RX10 33 "BeggarHeaps$Tape" "length" "I" ∈ zAl := zmem_of 216 (by decide +kernel) rfl
theorem zfw2 : Cond.fieldLink RX10 11 "BeggarHeaps$Tape" "signs" "[B" ∈ zAl := zmem_of 213 (by decide +kernel) rfl
theorem zfw3 : Cond.fieldLink RX12 11 "BeggarHeapsModel" "taped" "I" ∈ zAl := zmem_of 1649 (by decide +kernel) rfl
theorem zfw4 : Cond.fieldLink RX12 14 "BeggarHeapsModel" "tape" "[I" ∈ zAl := zmem_of 1648 (by decide +kernel) rfl
theorem zfw5 : Cond.fieldLink RX11 10 "BeggarHeaps" "tape" "LBeggarHeaps$Tape;" ∈ zAl := zmem_of 768 (by decide +kernel) rfl
theorem zfw6 : Cond.fieldLink RX11 112 "BeggarHeaps$Tape" "length" "I" ∈ zAl := zmem_of 215 (by decide +kernel) rfl
theorem zfw7 : Cond.fieldLink RX12 1 "BeggarHeapsModel" "thrown" "I" ∈ zAl := zmem_of 1647 (by decide +kernel) rfl
theorem zfk_a : Cond.methodLink RX11 108 yX10_addEight ∈ zAl := zmem_of 830 (by decide +kernel) rfl
theorem zfn_a : Cond.instanceMethod yX10_addEight ∈ zAl := zmem_of 831 (by decide +kernel) rfl
theorem zfs_a : Cond.selects RX10 yX10_addEight yX10_addEight ∈ zAl := zmem_of 832 (by decide +kernel) rfl
theorem zfc_a : Cond.code yX10_addEight cX10_addEight 5 none ∈ zAl := zmem_of 833 (by decide +kernel) rfl
theorem zfi_a : Cond.initialized RX10 ∈ zAl := zmem_of 127 (by decide +kernel) rfl
theorem zfk_l : Cond.methodLink RX12 7 yX12_lay ∈ zAl := zmem_of 1605 (by decide +kernel) rfl
theorem zfn_l : Cond.instanceMethod yX12_lay ∈ zAl := zmem_of 1607 (by decide +kernel) rfl
theorem zfs_l : Cond.selects RX12 yX12_lay yX12_lay ∈ zAl := zmem_of 58 (by decide +kernel) rfl
theorem zfc_l : Cond.code yX12_lay cX12_lay 5 none ∈ zAl := zmem_of 1609 (by decide +kernel) rfl
theorem zfi_l : Cond.initialized RX12 ∈ zAl := zmem_of 142 (by decide +kernel) rfl
theorem zfk_f : Cond.methodLink "BeggarHeapsLaw" 21 yX11_feed ∈ zAl := zmem_of 826 (by decide +kernel) rfl
theorem zfn_f : Cond.instanceMethod yX11_feed ∈ zAl := zmem_of 827 (by decide +kernel) rfl
theorem zfs_f : Cond.selects RX11 yX11_feed yX11_feed ∈ zAl := zmem_of 828 (by decide +kernel) rfl
theorem zfc_f : Cond.code yX11_feed cX11_feed 7 (some .int) ∈ zAl := zmem_of 829 (by decide +kernel) rfl
theorem zfk_m : Cond.methodLink "BeggarHeapsLaw" 25 yX12_feed ∈ zAl := zmem_of 1601 (by decide +kernel) rfl
theorem zfn_m : Cond.instanceMethod yX12_feed ∈ zAl := zmem_of 1602 (by decide +kernel) rfl
theorem zfs_m : Cond.selects RX12 yX12_feed yX12_feed ∈ zAl := zmem_of 1603 (by decide +kernel) rfl
theorem zfc_m : Cond.code yX12_feed cX12_feed 7 (some .int) ∈ zAl := zmem_of 1604 (by decide +kernel) rfl
theorem zfi_m : Cond.initialized RX12 ∈ zAl := zmem_of 142 (by decide +kernel) rfl
theorem zfi_f : Cond.initialized RX11 ∈ zAl := zmem_of 126 (by decide +kernel) rfl
def zaccb (c : Int32) : Bool := decide (c = 10) || (decide (¬ c < 32) && decide (¬ 126 < c))
def zgC (v : Int64) (k : Nat) : Int32 := ((v.toUInt64 >>> ((nI (8 * k)).toInt64.toUInt64 &&& Int64.toUInt64 63)).toInt64).toInt32 &&& 255
def zgM (v : Int64) (k : Nat) : Int32 := (v >>> ((nI (8 * k)).toInt64 &&& 63)).toInt32 &&& 255
def zcnt (b : Nat → Int32) : Nat → Nat
  | 0 => 0
  | k + 1 => (bif zaccb (b k) then 1 else 0) + zcnt b k
theorem zcnt_le (b : Nat → Int32) : ∀ k, zcnt b k ≤ k
  | 0 => Nat.le_refl 0
  | k + 1 => by
    have ih := zcnt_le b k
    show (bif zaccb (b k) then 1 else 0) + zcnt b k ≤ k + 1
    cases zaccb (b k)
    · show 0 + _ ≤ _; omega
    · show 1 + _ ≤ _; omega
set_option maxHeartbeats 4000000 in
theorem zaddC_loop {p : Program} {l : Launch} {e : Env} {R : Room} {s : State} {m : MethodId} {args : Array Value} {below : List Frame} {meth : Method} {c : Code} {Q : State → Prop} {mc ms : Nat} {D : va_G} {cA : Nat → ClassId} {A : Nat → Prop} {h0 h1 : Nat} (hx : p.tables.exec = Jvm.exec) (hb : c.code = cX10_addEight) (hown : s.vm.findClass RX10 = some m.cls) (hts : ∀ w ∈ zAl, w.before args s = true) (hK : va_K D zcl (ztys cA) s) (v : Int64) :
    ∀ (k n : Nat) (fs : List Value) (f : Nat → Int32) (H : Heap) (locs : List Loc) (ls : Array Slot), n + k ≤ 1000 → fs.length = 10 → fs[0]? = some (.ref h1) → fs[2]? = some (.int (nI n)) → va_P D zcl [(h0, .inr (10, fs)), (h1, .inl (cA 3, 1000, .inl f))] H → va_D A [(h0, .inr (10, fs)), (h1, .inl (cA 3, 1000, .inl f))] → va_S A s.heap H locs → lv_has ls 5 [(3, .int (nI (8 * k) - 8)), (0, .ref h0), (1, .long v)] →
      (∀ (fs' : List Value) (f' : Nat → Int32) (H' : Heap) (locs' : List Loc) (ls' : Array Slot), fs'.length = 10 → fs'[0]? = some (.ref h1) → fs'[2]? = some (.int (nI (n + zcnt (zgC v) k))) → va_P D zcl [(h0, .inr (10, fs')), (h1, .inl (cA 3, 1000, .inl f'))] H' → va_D A [(h0, .inr (10, fs')), (h1, .inl (cA 3, 1000, .inl f'))] → va_S A s.heap H' locs' → W p l e R s m args below meth c H' locs' mc ms Q (F0 m 76 ls' [])) →
      W p l e R s m args below meth c H locs mc ms Q (F0 m 3 ls []) := by
  intro k
  induction k with
  | zero =>
    intro n fs f H locs ls hn hlen ha hc hP hD hS hl kk
    refine lv_iload_n hx hb zf_X10_addEight_3 rfl (lv_at hl 0 rfl) ?_
    refine lv_if_lt (tgt := 76) hx hb zf_X10_addEight_4 (by decide) (fun _ => kk fs f H locs ls hlen ha hc hP hD hS) (fun h => absurd (by decide) h)
  | succ k ih =>
    intro n fs f H locs ls hn hlen ha hc hP hD hS hl kk
    have e8 : nI (8 * (k + 1)) - 8 = nI (8 * k) := by
      rw [show (8 : Int32) = nI 8 from rfl, pk_sub (by omega)]
      congr 1
    rw [e8] at hl
    refine lv_iload_n hx hb zf_X10_addEight_3 rfl (lv_at hl 0 rfl) ?_
    refine lv_if_lt (tgt := 76) hx hb zf_X10_addEight_4 (by decide) (fun h => absurd h (nI_pos (by omega))) (fun _ => ?_)
    refine lv_lload_n hx hb zf_X10_addEight_7 rfl (lv_at hl 2 rfl) ?_
    refine lv_iload_n hx hb zf_X10_addEight_8 rfl (lv_at hl 0 rfl) ?_
    refine lv_lushr hx hb zf_X10_addEight_9 rfl ?_
    refine lv_l2i hx hb zf_X10_addEight_10 rfl ?_
    refine lv_sipush (v := 255) hx hb zf_X10_addEight_11 (by decide) ?_
    refine lv_iand hx hb zf_X10_addEight_14 ?_
    obtain ⟨b, eb⟩ : ∃ b, b = zgC v k := ⟨_, rfl⟩
    show W p l e R s m args below meth c H locs mc ms Q (F0 m 15 ls [.int (zgC v k)])
    rw [← eb]
    refine lv_istore (lv' := [(4, .int b), (3, .int (nI (8 * k))), (0, .ref h0), (1, .long v)]) hx hb zf_X10_addEight_15 hl (by decide) rfl (fun ls hl => ?_)
    have next : ∀ (n' : Nat) (fs' : List Value) (f' : Nat → Int32) (H' : Heap) (locs' : List Loc), n' + k ≤ 1000 → n' + zcnt (zgC v) k = n + zcnt (zgC v) (k + 1) → fs'.length = 10 → fs'[0]? = some (.ref h1) → fs'[2]? = some (.int (nI n')) → va_P D zcl [(h0, .inr (10, fs')), (h1, .inl (cA 3, 1000, .inl f'))] H' → va_D A [(h0, .inr (10, fs')), (h1, .inl (cA 3, 1000, .inl f'))] → va_S A s.heap H' locs' → W p l e R s m args below meth c H' locs' mc ms Q (F0 m 70 ls []) := by
      intro n' fs' f' H' locs' g1 g2 g3 g4 g5 g6 g7 g8
      refine lv_iinc (v := nI (8 * k) - 8) (lv' := [(3, .int (nI (8 * k) - 8)), (4, .int b), (0, .ref h0), (1, .long v)]) hx hb zf_X10_addEight_70 hl (k := 1) rfl (by rw [show Int32.ofInt (-8) = -8 from rfl, Int32.sub_eq_add_neg]) (by decide) rfl (fun ls hl => ?_)
      refine lv_goto (tgt := 3) hx hb zf_X10_addEight_73 (by decide) ?_
      refine ih n' fs' f' H' locs' ls g1 g3 g4 g5 g6 g7 g8 (lv_sub hl [0, 2, 3] rfl) (fun fs2 f2 H2 l2 ls2 k1 k2 k3 k4 k5 k6 => kk fs2 f2 H2 l2 ls2 k1 k2 (by rw [← g2]; exact k3) k4 k5 k6)
    have hcnt : zcnt (zgC v) (k + 1) = (bif zaccb b then 1 else 0) + zcnt (zgC v) k := by rw [eb]; rfl
    have rej : zaccb b = false → W p l e R s m args below meth c H locs mc ms Q (F0 m 70 ls []) := fun hr => next n fs f H locs (by omega) (by rw [hcnt, hr]; show _ = n + (0 + _); omega) hlen ha hc hP hD hS
    have acc : zaccb b = true → W p l e R s m args below meth c H locs mc ms Q (F0 m 38 ls []) := by
      intro hr
      refine lv_aload_n hx hb zf_X10_addEight_38 rfl (lv_at hl 2 rfl) ?_
      refine va_get (ref := "BeggarHeaps$Tape") hx hb hts (zcw_ok 10 (RX10, TX10, 10) rfl) hown hK hP 0 rfl rfl 2 (by decide) (hts _ zfw1) (fun _ h9 => h9) hc zf_X10_addEight_39 ?_
      refine lv_sipush (v := 1000) hx hb zf_X10_addEight_42 (by decide) ?_
      refine lv_icmp_ge (tgt := 70) hx hb zf_X10_addEight_45 (by decide) (fun h => absurd (show nI 1000 ≤ nI n from h) (nI_ge (by omega) (by decide))) (fun _ => ?_)
      refine lv_aload_n hx hb zf_X10_addEight_48 rfl (lv_at hl 2 rfl) ?_
      refine va_get (ref := "BeggarHeaps$Tape") hx hb hts (zcw_ok 10 (RX10, TX10, 10) rfl) hown hK hP 0 rfl rfl 0 (by decide) (hts _ zfw2) (fun _ h9 => h9) ha zf_X10_addEight_49 ?_
      refine lv_aload_n hx hb zf_X10_addEight_52 rfl (lv_at hl 2 rfl) ?_
      refine va_get (ref := "BeggarHeaps$Tape") hx hb hts (zcw_ok 10 (RX10, TX10, 10) rfl) hown hK hP 0 rfl rfl 2 (by decide) (hts _ zfw1) (fun _ h9 => h9) hc zf_X10_addEight_53 ?_
      refine lv_iload hx hb zf_X10_addEight_56 (lv_at hl 0 rfl) ?_
      refine lv_i2b (v := b.toInt8.toInt32) hx hb zf_X10_addEight_58 rfl ?_
      refine va_bast hx hb hK hP hD hS 1 3 rfl rfl (vp_in_nI (by omega) (by decide)) zf_X10_addEight_59 (fun H locs hP hD hS => ?_)
      have hP : va_P D zcl [(h0, .inr (10, fs)), (h1, .inl (cA 3, 1000, .inl (upd f (nI n).toNatClampNeg (vp_nar .byte b.toInt8.toInt32))))] H := hP
      have hD : va_D A [(h0, .inr (10, fs)), (h1, .inl (cA 3, 1000, .inl (upd f (nI n).toNatClampNeg (vp_nar .byte b.toInt8.toInt32))))] := hD
      refine lv_aload_n hx hb zf_X10_addEight_60 rfl (lv_at hl 2 rfl) ?_
      refine lv_dup hx hb zf_X10_addEight_61 rfl ?_
      refine va_get (ref := "BeggarHeaps$Tape") hx hb hts (zcw_ok 10 (RX10, TX10, 10) rfl) hown hK hP 0 rfl rfl 2 (by decide) (hts _ zfw1) (fun _ h9 => h9) hc zf_X10_addEight_62 ?_
      refine lv_iconst (v := 1) hx hb zf_X10_addEight_65 (by decide) ?_
      refine lv_iadd hx hb zf_X10_addEight_66 ?_
      refine va_put (ref := "BeggarHeaps$Tape") (ty := .int) (v := .int (nI n + 1)) hx hb hts (zcw_ok 10 (RX10, TX10, 10) rfl) (ztf 10) (zcl_ty 10 _ rfl).1 (zcl_ty 10 _ rfl).2 hown hK hP hD hS 0 rfl rfl 2 (by decide) (hts _ zfw1) (fun _ h9 => h9) rfl rfl rfl rfl (by rw [hlen]; decide) zf_X10_addEight_67 (fun H locs hP hD hS => ?_)
      rw [nI_1] at hP hD
      have hP : va_P D zcl [(h0, .inr (10, fs.set 2 (.int (nI (n + 1))))), (h1, .inl (cA 3, 1000, .inl (upd f (nI n).toNatClampNeg (vp_nar .byte b.toInt8.toInt32))))] H := hP
      have hD : va_D A [(h0, .inr (10, fs.set 2 (.int (nI (n + 1))))), (h1, .inl (cA 3, 1000, .inl (upd f (nI n).toNatClampNeg (vp_nar .byte b.toInt8.toInt32))))] := hD
      exact next (n + 1) (fs.set 2 (.int (nI (n + 1)))) _ H locs (by omega) (by rw [hcnt, hr]; show n + 1 + _ = n + (1 + _); omega) (by rw [List.length_set]; exact hlen) (by rw [List.getElem?_set_ne (by decide)]; exact ha) (List.getElem?_set_self (by rw [hlen]; decide)) hP hD hS
    refine lv_iload hx hb zf_X10_addEight_17 (lv_at hl 0 rfl) ?_
    refine lv_bipush (v := 10) hx hb zf_X10_addEight_19 (by decide) ?_
    refine lv_icmp_eq (tgt := 38) hx hb zf_X10_addEight_21 (by decide) (fun h => acc (by unfold zaccb; rw [decide_eq_true h]; rfl)) (fun h1 => ?_)
    refine lv_iload hx hb zf_X10_addEight_24 (lv_at hl 0 rfl) ?_
    refine lv_bipush (v := 32) hx hb zf_X10_addEight_26 (by decide) ?_
    refine lv_icmp_lt (tgt := 70) hx hb zf_X10_addEight_28 (by decide) (fun h => rej (by unfold zaccb; rw [decide_eq_false h1, decide_eq_false (not_not_intro h)]; rfl)) (fun h2 => ?_)
    refine lv_iload hx hb zf_X10_addEight_31 (lv_at hl 0 rfl) ?_
    refine lv_bipush (v := 126) hx hb zf_X10_addEight_33 (by decide) ?_
    exact lv_icmp_gt (tgt := 70) hx hb zf_X10_addEight_35 (by decide) (fun h => rej (by unfold zaccb; rw [decide_eq_false h1, decide_eq_false (not_not_intro h), Bool.and_false]; rfl)) (fun h3 => acc (by unfold zaccb; rw [decide_eq_false h1, decide_eq_true h2, decide_eq_true h3]; rfl))
set_option maxHeartbeats 4000000 in
theorem zlayM_loop {p : Program} {l : Launch} {e : Env} {R : Room} {s : State} {m : MethodId} {args : Array Value} {below : List Frame} {meth : Method} {c : Code} {Q : State → Prop} {mc ms : Nat} {D : va_G} {cA : Nat → ClassId} {A : Nat → Prop} {h0 h1 : Nat} (hx : p.tables.exec = Jvm.exec) (hb : c.code = cX12_lay) (hown : s.vm.findClass RX12 = some m.cls) (hts : ∀ w ∈ zAl, w.before args s = true) (hK : va_K D zcl (ztys cA) s) (v : Int64) :
    ∀ (k n : Nat) (fs : List Value) (f : Nat → Int32) (H : Heap) (locs : List Loc) (ls : Array Slot), n + k ≤ 1000 → fs.length = 56 → fs[1]? = some (.ref h1) → fs[2]? = some (.int (nI n)) → va_P D zcl [(h0, .inr (12, fs)), (h1, .inl (cA 0, 1000, .inl f))] H → va_D A [(h0, .inr (12, fs)), (h1, .inl (cA 0, 1000, .inl f))] → va_S A s.heap H locs → lv_has ls 5 [(3, .int (nI (8 * k) - 8)), (0, .ref h0), (1, .long v)] →
      (∀ (fs' : List Value) (f' : Nat → Int32) (H' : Heap) (locs' : List Loc) (ls' : Array Slot), fs'.length = 56 → fs'[1]? = some (.ref h1) → fs'[2]? = some (.int (nI (n + zcnt (zgM v) k))) → va_P D zcl [(h0, .inr (12, fs')), (h1, .inl (cA 0, 1000, .inl f'))] H' → va_D A [(h0, .inr (12, fs')), (h1, .inl (cA 0, 1000, .inl f'))] → va_S A s.heap H' locs' → W p l e R s m args below meth c H' locs' mc ms Q (F0 m 75 ls' [])) →
      W p l e R s m args below meth c H locs mc ms Q (F0 m 3 ls []) := by
  intro k
  induction k with
  | zero =>
    intro n fs f H locs ls hn hlen ha hc hP hD hS hl kk
    refine lv_iload_n hx hb zf_X12_lay_3 rfl (lv_at hl 0 rfl) ?_
    refine lv_if_lt (tgt := 75) hx hb zf_X12_lay_4 (by decide) (fun _ => kk fs f H locs ls hlen ha hc hP hD hS) (fun h => absurd (by decide) h)
  | succ k ih =>
    intro n fs f H locs ls hn hlen ha hc hP hD hS hl kk
    have e8 : nI (8 * (k + 1)) - 8 = nI (8 * k) := by
      rw [show (8 : Int32) = nI 8 from rfl, pk_sub (by omega)]
      congr 1
    rw [e8] at hl
    refine lv_iload_n hx hb zf_X12_lay_3 rfl (lv_at hl 0 rfl) ?_
    refine lv_if_lt (tgt := 75) hx hb zf_X12_lay_4 (by decide) (fun h => absurd h (nI_pos (by omega))) (fun _ => ?_)
    refine lv_lload_n hx hb zf_X12_lay_7 rfl (lv_at hl 2 rfl) ?_
    refine lv_iload_n hx hb zf_X12_lay_8 rfl (lv_at hl 0 rfl) ?_
    refine lv_lshr hx hb zf_X12_lay_9 rfl ?_
    refine lv_l2i hx hb zf_X12_lay_10 rfl ?_
    refine lv_sipush (v := 255) hx hb zf_X12_lay_11 (by decide) ?_
    refine lv_iand hx hb zf_X12_lay_14 ?_
    obtain ⟨b, eb⟩ : ∃ b, b = zgM v k := ⟨_, rfl⟩
    show W p l e R s m args below meth c H locs mc ms Q (F0 m 15 ls [.int (zgM v k)])
    rw [← eb]
    refine lv_istore (lv' := [(4, .int b), (3, .int (nI (8 * k))), (0, .ref h0), (1, .long v)]) hx hb zf_X12_lay_15 hl (by decide) rfl (fun ls hl => ?_)
    have next : ∀ (n' : Nat) (fs' : List Value) (f' : Nat → Int32) (H' : Heap) (locs' : List Loc), n' + k ≤ 1000 → n' + zcnt (zgM v) k = n + zcnt (zgM v) (k + 1) → fs'.length = 56 → fs'[1]? = some (.ref h1) → fs'[2]? = some (.int (nI n')) → va_P D zcl [(h0, .inr (12, fs')), (h1, .inl (cA 0, 1000, .inl f'))] H' → va_D A [(h0, .inr (12, fs')), (h1, .inl (cA 0, 1000, .inl f'))] → va_S A s.heap H' locs' → W p l e R s m args below meth c H' locs' mc ms Q (F0 m 69 ls []) := by
      intro n' fs' f' H' locs' g1 g2 g3 g4 g5 g6 g7 g8
      refine lv_iinc (v := nI (8 * k) - 8) (lv' := [(3, .int (nI (8 * k) - 8)), (4, .int b), (0, .ref h0), (1, .long v)]) hx hb zf_X12_lay_69 hl (k := 1) rfl (by rw [show Int32.ofInt (-8) = -8 from rfl, Int32.sub_eq_add_neg]) (by decide) rfl (fun ls hl => ?_)
      refine lv_goto (tgt := 3) hx hb zf_X12_lay_72 (by decide) ?_
      refine ih n' fs' f' H' locs' ls g1 g3 g4 g5 g6 g7 g8 (lv_sub hl [0, 2, 3] rfl) (fun fs2 f2 H2 l2 ls2 k1 k2 k3 k4 k5 k6 => kk fs2 f2 H2 l2 ls2 k1 k2 (by rw [← g2]; exact k3) k4 k5 k6)
    have hcnt : zcnt (zgM v) (k + 1) = (bif zaccb b then 1 else 0) + zcnt (zgM v) k := by rw [eb]; rfl
    have rej : zaccb b = false → W p l e R s m args below meth c H locs mc ms Q (F0 m 69 ls []) := fun hr => next n fs f H locs (by omega) (by rw [hcnt, hr]; show _ = n + (0 + _); omega) hlen ha hc hP hD hS
    have acc : zaccb b = true → W p l e R s m args below meth c H locs mc ms Q (F0 m 38 ls []) := by
      intro hr
      refine lv_aload_n hx hb zf_X12_lay_38 rfl (lv_at hl 2 rfl) ?_
      refine va_get (ref := "BeggarHeapsModel") hx hb hts (zcw_ok 12 (RX12, TX12, 56) rfl) hown hK hP 0 rfl rfl 2 (by decide) (hts _ zfw3) (fun _ h9 => h9) hc zf_X12_lay_39 ?_
      refine lv_sipush (v := 1000) hx hb zf_X12_lay_42 (by decide) ?_
      refine lv_icmp_ge (tgt := 69) hx hb zf_X12_lay_45 (by decide) (fun h => absurd (show nI 1000 ≤ nI n from h) (nI_ge (by omega) (by decide))) (fun _ => ?_)
      refine lv_aload_n hx hb zf_X12_lay_48 rfl (lv_at hl 2 rfl) ?_
      refine va_get (ref := "BeggarHeapsModel") hx hb hts (zcw_ok 12 (RX12, TX12, 56) rfl) hown hK hP 0 rfl rfl 1 (by decide) (hts _ zfw4) (fun _ h9 => h9) ha zf_X12_lay_49 ?_
      refine lv_aload_n hx hb zf_X12_lay_52 rfl (lv_at hl 2 rfl) ?_
      refine va_get (ref := "BeggarHeapsModel") hx hb hts (zcw_ok 12 (RX12, TX12, 56) rfl) hown hK hP 0 rfl rfl 2 (by decide) (hts _ zfw3) (fun _ h9 => h9) hc zf_X12_lay_53 ?_
      refine lv_iload hx hb zf_X12_lay_56 (lv_at hl 0 rfl) ?_
      refine va_iast hx hb hK hP hD hS 1 0 rfl rfl (vp_in_nI (by omega) (by decide)) zf_X12_lay_58 (fun H locs hP hD hS => ?_)
      have hP : va_P D zcl [(h0, .inr (12, fs)), (h1, .inl (cA 0, 1000, .inl (upd f (nI n).toNatClampNeg b)))] H := hP
      have hD : va_D A [(h0, .inr (12, fs)), (h1, .inl (cA 0, 1000, .inl (upd f (nI n).toNatClampNeg b)))] := hD
      refine lv_aload_n hx hb zf_X12_lay_59 rfl (lv_at hl 2 rfl) ?_
      refine lv_dup hx hb zf_X12_lay_60 rfl ?_
      refine va_get (ref := "BeggarHeapsModel") hx hb hts (zcw_ok 12 (RX12, TX12, 56) rfl) hown hK hP 0 rfl rfl 2 (by decide) (hts _ zfw3) (fun _ h9 => h9) hc zf_X12_lay_61 ?_
      refine lv_iconst (v := 1) hx hb zf_X12_lay_64 (by decide) ?_
      refine lv_iadd hx hb zf_X12_lay_65 ?_
      refine va_put (ref := "BeggarHeapsModel") (ty := .int) (v := .int (nI n + 1)) hx hb hts (zcw_ok 12 (RX12, TX12, 56) rfl) (ztf 12) (zcl_ty 12 _ rfl).1 (zcl_ty 12 _ rfl).2 hown hK hP hD hS 0 rfl rfl 2 (by decide) (hts _ zfw3) (fun _ h9 => h9) rfl rfl rfl rfl (by rw [hlen]; decide) zf_X12_lay_66 (fun H locs hP hD hS => ?_)
      rw [nI_1] at hP hD
      have hP : va_P D zcl [(h0, .inr (12, fs.set 2 (.int (nI (n + 1))))), (h1, .inl (cA 0, 1000, .inl (upd f (nI n).toNatClampNeg b)))] H := hP
      have hD : va_D A [(h0, .inr (12, fs.set 2 (.int (nI (n + 1))))), (h1, .inl (cA 0, 1000, .inl (upd f (nI n).toNatClampNeg b)))] := hD
      exact next (n + 1) (fs.set 2 (.int (nI (n + 1)))) _ H locs (by omega) (by rw [hcnt, hr]; show n + 1 + _ = n + (1 + _); omega) (by rw [List.length_set]; exact hlen) (by rw [List.getElem?_set_ne (by decide)]; exact ha) (List.getElem?_set_self (by rw [hlen]; decide)) hP hD hS
    refine lv_iload hx hb zf_X12_lay_17 (lv_at hl 0 rfl) ?_
    refine lv_bipush (v := 10) hx hb zf_X12_lay_19 (by decide) ?_
    refine lv_icmp_eq (tgt := 38) hx hb zf_X12_lay_21 (by decide) (fun h => acc (by unfold zaccb; rw [decide_eq_true h]; rfl)) (fun h1 => ?_)
    refine lv_iload hx hb zf_X12_lay_24 (lv_at hl 0 rfl) ?_
    refine lv_bipush (v := 32) hx hb zf_X12_lay_26 (by decide) ?_
    refine lv_icmp_lt (tgt := 69) hx hb zf_X12_lay_28 (by decide) (fun h => rej (by unfold zaccb; rw [decide_eq_false h1, decide_eq_false (not_not_intro h)]; rfl)) (fun h2 => ?_)
    refine lv_iload hx hb zf_X12_lay_31 (lv_at hl 0 rfl) ?_
    refine lv_bipush (v := 126) hx hb zf_X12_lay_33 (by decide) ?_
    exact lv_icmp_gt (tgt := 69) hx hb zf_X12_lay_35 (by decide) (fun h => rej (by unfold zaccb; rw [decide_eq_false h1, decide_eq_false (not_not_intro h), Bool.and_false]; rfl)) (fun h3 => acc (by unfold zaccb; rw [decide_eq_false h1, decide_eq_true h2, decide_eq_true h3]; rfl))
theorem zbits (x : BitVec 64) (s : Nat) (hs : s ≤ 56) : (x >>> s).toNat % 256 = (x.sshiftRight s).toNat % 256 := by
  have h : (x >>> s).setWidth 8 = (x.sshiftRight s).setWidth 8 := by
    apply BitVec.eq_of_getLsbD_eq
    intro i hi
    rw [BitVec.getLsbD_setWidth, BitVec.getLsbD_setWidth, BitVec.getLsbD_ushiftRight, BitVec.getLsbD_sshiftRight]
    simp [hi, show ¬ 64 ≤ i by omega, show s + i < 64 by omega]
  have h2 := congrArg BitVec.toNat h
  rw [BitVec.toNat_setWidth, BitVec.toNat_setWidth] at h2
  exact h2
theorem zlow (y : Int64) : y.toInt32.toBitVec.toNat % 256 = y.toBitVec.toNat % 256 := by
  rw [Int64.toBitVec_toInt32, BitVec.signExtend_eq_setWidth_of_le _ (by decide), BitVec.toNat_setWidth]
  exact Nat.mod_mod_of_dvd _ (by decide)
theorem zb_eq (v : Int64) (k : Nat) (hk : k < 8) : zgC v k = zgM v k := by
  unfold zgC zgM
  rw [pk_and _ (m := 255) 8 rfl, pk_and _ (m := 255) 8 rfl]
  congr 1
  show _ % 256 = _ % 256
  rw [zlow, zlow]
  have h1 : ((v.toUInt64 >>> ((nI (8 * k)).toInt64.toUInt64 &&& Int64.toUInt64 63)).toInt64).toBitVec = v.toBitVec >>> (8 * k) := by
    match k, hk with
    | 0, _ => rfl
    | 1, _ => rfl
    | 2, _ => rfl
    | 3, _ => rfl
    | 4, _ => rfl
    | 5, _ => rfl
    | 6, _ => rfl
    | 7, _ => rfl
    | n + 8, h => omega
  have h2 : (v >>> ((nI (8 * k)).toInt64 &&& 63)).toBitVec = v.toBitVec.sshiftRight (8 * k) := by
    match k, hk with
    | 0, _ => rfl
    | 1, _ => rfl
    | 2, _ => rfl
    | 3, _ => rfl
    | 4, _ => rfl
    | 5, _ => rfl
    | 6, _ => rfl
    | 7, _ => rfl
    | n + 8, h => omega
  rw [h1, h2]
  exact zbits _ _ (by omega)
theorem zcnt_congr {b b' : Nat → Int32} : ∀ k, (∀ j, j < k → b j = b' j) → zcnt b k = zcnt b' k := by
  intro k
  induction k with
  | zero => intro _; rfl
  | succ k ih =>
    intro h
    have e1 : zcnt b (k + 1) = (bif zaccb (b k) then 1 else 0) + zcnt b k := rfl
    have e2 : zcnt b' (k + 1) = (bif zaccb (b' k) then 1 else 0) + zcnt b' k := rfl
    rw [e1, e2, h k (Nat.lt_succ_self k), ih (fun j hj => h j (Nat.lt_succ_of_lt hj))]
theorem zcnt_eq (v : Int64) (k : Nat) (h : k ≤ 8) : zcnt (zgC v) k = zcnt (zgM v) k := zcnt_congr k (fun j hj => zb_eq v j (Nat.lt_of_lt_of_le hj h))
abbrev zrm0 (k : Nat) : Room := { frames := k, cells := 0, slots := 0, locals := 40 * k }
-- Tape.addEight
abbrev ataddC (D : va_G) (cA : Nat → ClassId) (A : Nat → Prop) (h0 h1 n : Nat) (u : List Value × (Nat → Int32)) (t : State) : Prop := u.1.length = 10 ∧ u.1[0]? = some (.ref h1) ∧ u.1[2]? = some (.int (nI n)) ∧ va_P D zcl [(h0, .inr (10, u.1)), (h1, .inl (cA 3, 1000, .inl u.2))] t.heap ∧ va_D A [(h0, .inr (10, u.1)), (h1, .inl (cA 3, 1000, .inl u.2))]
set_option maxHeartbeats 2000000 in
theorem zc_addC (l : Launch) (D : va_G) (cA : Nat → ClassId) (h0 h1 sz n : Nat) (fs : List Value) (f : Nat → Int32) (v : Int64) (hn : n + 8 ≤ 1000) (hlen : fs.length = 10) (ha : fs[0]? = some (.ref h1)) (hc : fs[2]? = some (.int (nI n))) :
    Met l yX10_addEight (Cond.code yX10_addEight cX10_addEight 5 none :: zAl) (zrm0 0) (va_Pc [.ref h0, .long v] (fun U => U.heap.size = sz ∧ va_P D zcl [(h0, .inr (10, fs)), (h1, .inl (cA 3, 1000, .inl f))] U.heap ∧ va_K D zcl (ztys cA) U ∧ va_D (fun _ => True) [(h0, .inr (10, fs)), (h1, .inl (cA 3, 1000, .inl f))])) (va_Qv (fun _ => True) (ataddC D cA (va_A [(h0, .inr (10, fs)), (h1, .inl (cA 3, 1000, .inl f))] sz) h0 h1 (n + zcnt (zgC v) 8)) (va_A [(h0, .inr (10, fs)), (h1, .inl (cA 3, 1000, .inl f))] sz)) 0 0 (va_A [(h0, .inr (10, fs)), (h1, .inl (cA 3, 1000, .inl f))] sz) := by
  refine Met.ofW (cc := cX10_addEight) (maxL := 5) (ret := none) (by decide) rfl ?_
  intro p e s m args below meth c s₁ B hml hv
  obtain ⟨rfl, hsz, hP, hK, hD0⟩ := hv
  have hx := B.exec
  have hb := B.bytes
  have hr := B.returns
  have hts0 := atoms_spec (ws := Cond.code yX10_addEight cX10_addEight 5 none :: zAl) B.pre
  have hts : ∀ w ∈ zAl, w.before _ s = true := fun w hw => hts0 w (List.mem_cons_of_mem _ hw)
  have hown : s.vm.findClass RX10 = some m.cls := findClass_of_methodNamed B.named
  have hlocks := B.notSynchronized
  subst hsz
  have hD := hD0.self (sz := s.heap.size)
  have hS : va_S (va_A [(h0, .inr (10, fs)), (h1, .inl (cA 3, 1000, .inl f))] s.heap.size) s.heap s.heap [] := va_S.rf
  have hl := lv_entry ([.ref h0, .long v]) (n := 5) (Nat.le_of_ble_eq_true rfl)
  rw [lg_entry_eq]
  generalize (lg_sl ([.ref h0, .long v]) ++ List.replicate (5 - (lg_sl ([.ref h0, .long v])).length) Slot.unset).toArray = ls at hl ⊢
  have hl : lv_has ls 5 [(0, .ref h0), (1, .long v)] := hl
  refine lv_bipush (v := 56) hx hb zf_X10_addEight_0 (by decide) ?_
  refine lv_istore_n (lv' := [(3, .int 56), (0, .ref h0), (1, .long v)]) hx hb zf_X10_addEight_2 rfl hl (by decide) rfl (fun ls hl => ?_)
  refine zaddC_loop hx hb hown hts hK v 8 n fs f s.heap [] ls hn hlen ha hc hP hD hS hl (fun fs' f' H' locs' ls' k1 k2 k3 k4 k5 k6 => ?_)
  exact W.vret hx hb hr (fun t ht hW => ⟨⟨(fs', f'), rfl, trivial, k1, k2, k3, by rw [ht]; exact k4, k5⟩, k6.F ht⟩) k6.2.2 zf_X10_addEight_76
-- Model.lay
abbrev atlayM (D : va_G) (cA : Nat → ClassId) (A : Nat → Prop) (h0 h1 n : Nat) (u : List Value × (Nat → Int32)) (t : State) : Prop := u.1.length = 56 ∧ u.1[1]? = some (.ref h1) ∧ u.1[2]? = some (.int (nI n)) ∧ va_P D zcl [(h0, .inr (12, u.1)), (h1, .inl (cA 0, 1000, .inl u.2))] t.heap ∧ va_D A [(h0, .inr (12, u.1)), (h1, .inl (cA 0, 1000, .inl u.2))]
set_option maxHeartbeats 2000000 in
theorem zc_layM (l : Launch) (D : va_G) (cA : Nat → ClassId) (h0 h1 sz n : Nat) (fs : List Value) (f : Nat → Int32) (v : Int64) (hn : n + 8 ≤ 1000) (hlen : fs.length = 56) (ha : fs[1]? = some (.ref h1)) (hc : fs[2]? = some (.int (nI n))) :
    Met l yX12_lay (Cond.code yX12_lay cX12_lay 5 none :: zAl) (zrm0 0) (va_Pc [.ref h0, .long v] (fun U => U.heap.size = sz ∧ va_P D zcl [(h0, .inr (12, fs)), (h1, .inl (cA 0, 1000, .inl f))] U.heap ∧ va_K D zcl (ztys cA) U ∧ va_D (fun _ => True) [(h0, .inr (12, fs)), (h1, .inl (cA 0, 1000, .inl f))])) (va_Qv (fun _ => True) (atlayM D cA (va_A [(h0, .inr (12, fs)), (h1, .inl (cA 0, 1000, .inl f))] sz) h0 h1 (n + zcnt (zgM v) 8)) (va_A [(h0, .inr (12, fs)), (h1, .inl (cA 0, 1000, .inl f))] sz)) 0 0 (va_A [(h0, .inr (12, fs)), (h1, .inl (cA 0, 1000, .inl f))] sz) := by
  refine Met.ofW (cc := cX12_lay) (maxL := 5) (ret := none) (by decide) rfl ?_
  intro p e s m args below meth c s₁ B hml hv
  obtain ⟨rfl, hsz, hP, hK, hD0⟩ := hv
  have hx := B.exec
  have hb := B.bytes
  have hr := B.returns
  have hts0 := atoms_spec (ws := Cond.code yX12_lay cX12_lay 5 none :: zAl) B.pre
  have hts : ∀ w ∈ zAl, w.before _ s = true := fun w hw => hts0 w (List.mem_cons_of_mem _ hw)
  have hown : s.vm.findClass RX12 = some m.cls := findClass_of_methodNamed B.named
  have hlocks := B.notSynchronized
  subst hsz
  have hD := hD0.self (sz := s.heap.size)
  have hS : va_S (va_A [(h0, .inr (12, fs)), (h1, .inl (cA 0, 1000, .inl f))] s.heap.size) s.heap s.heap [] := va_S.rf
  have hl := lv_entry ([.ref h0, .long v]) (n := 5) (Nat.le_of_ble_eq_true rfl)
  rw [lg_entry_eq]
  generalize (lg_sl ([.ref h0, .long v]) ++ List.replicate (5 - (lg_sl ([.ref h0, .long v])).length) Slot.unset).toArray = ls at hl ⊢
  have hl : lv_has ls 5 [(0, .ref h0), (1, .long v)] := hl
  refine lv_bipush (v := 56) hx hb zf_X12_lay_0 (by decide) ?_
  refine lv_istore_n (lv' := [(3, .int 56), (0, .ref h0), (1, .long v)]) hx hb zf_X12_lay_2 rfl hl (by decide) rfl (fun ls hl => ?_)
  refine zlayM_loop hx hb hown hts hK v 8 n fs f s.heap [] ls hn hlen ha hc hP hD hS hl (fun fs' f' H' locs' ls' k1 k2 k3 k4 k5 k6 => ?_)
  exact W.vret hx hb hr (fun t ht hW => ⟨⟨(fs', f'), rfl, trivial, k1, k2, k3, by rw [ht]; exact k4, k5⟩, k6.F ht⟩) k6.2.2 zf_X12_lay_75
-- BeggarHeaps.feed on a fresh tape
set_option maxHeartbeats 4000000 in
theorem zc_feedC (l : Launch) (D : va_G) (cA : Nat → ClassId) (hb0 h0 h1 sz : Nat) (bs fs : List Value) (f : Nat → Int32) (a b d : Int64) (hbl : bs.length = 19) (hb0e : bs[0]? = some (.ref h0)) (hlen : fs.length = 10) (ha : fs[0]? = some (.ref h1)) (hc : fs[2]? = some (.int (nI 0))) :
    Met l yX11_feed (Cond.code yX11_feed cX11_feed 7 (some .int) :: zAl) (zrm0 1) (va_Pc [.ref hb0, .long a, .long b, .long d] (fun U => U.heap.size = sz ∧ va_P D zcl [(hb0, .inr (11, bs)), (h0, .inr (10, fs)), (h1, .inl (cA 3, 1000, .inl f))] U.heap ∧ va_K D zcl (ztys cA) U ∧ va_D (fun _ => True) [(hb0, .inr (11, bs)), (h0, .inr (10, fs)), (h1, .inl (cA 3, 1000, .inl f))])) (va_Qi (fun (r : Int32) (_ : Unit) => r = nI (0 + zcnt (zgC a) 8 + zcnt (zgC b) 8 + zcnt (zgC d) 8)) (fun _ _ => True) (va_A [(hb0, .inr (11, bs)), (h0, .inr (10, fs)), (h1, .inl (cA 3, 1000, .inl f))] sz)) 0 0 (va_A [(hb0, .inr (11, bs)), (h0, .inr (10, fs)), (h1, .inl (cA 3, 1000, .inl f))] sz) := by
  refine Met.ofW (cc := cX11_feed) (maxL := 7) (ret := some .int) (by decide) rfl ?_
  intro p e s m args below meth c s₁ B hml hv
  obtain ⟨rfl, hsz, hP, hK, hD0⟩ := hv
  have hx := B.exec
  have hb := B.bytes
  have hr := B.returns
  have hts0 := atoms_spec (ws := Cond.code yX11_feed cX11_feed 7 (some .int) :: zAl) B.pre
  have hts : ∀ w ∈ zAl, w.before _ s = true := fun w hw => hts0 w (List.mem_cons_of_mem _ hw)
  have hown : s.vm.findClass RX11 = some m.cls := findClass_of_methodNamed B.named
  have hlocks := B.notSynchronized
  subst hsz
  have hD := hD0.self (sz := s.heap.size)
  generalize hAe : va_A [(hb0, .inr (11, bs)), (h0, .inr (10, fs)), (h1, .inl (cA 3, 1000, .inl f))] s.heap.size = A at hD ⊢
  have hA : ∀ q : Nat, s.heap.size ≤ q → A q := fun q h => by rw [← hAe]; exact Or.inr h
  have hS : va_S A s.heap s.heap [] := va_S.rf
  have hl := lv_entry ([.ref hb0, .long a, .long b, .long d]) (n := 7) (Nat.le_of_ble_eq_true rfl)
  rw [lg_entry_eq]
  generalize (lg_sl ([.ref hb0, .long a, .long b, .long d]) ++ List.replicate (7 - (lg_sl ([.ref hb0, .long a, .long b, .long d])).length) Slot.unset).toArray = ls at hl ⊢
  have hl : lv_has ls 7 [(0, .ref hb0), (1, .long a), (3, .long b), (5, .long d)] := hl
  have b1 := zcnt_le (zgC a) 8
  have b2 := zcnt_le (zgC b) 8
  have b3 := zcnt_le (zgC d) 8
  refine lv_aload_n hx hb zf_X11_feed_0 rfl (lv_at hl 0 rfl) ?_
  refine va_get (ref := "BeggarHeaps") hx hb hts (zcw_ok 11 (RX11, TX11, 19) rfl) hown hK hP 0 rfl rfl 0 (by decide) (hts _ zfw5) (fun _ h9 => h9) hb0e zf_X11_feed_1 ?_
  refine lv_lload_n hx hb zf_X11_feed_4 rfl (lv_at hl 1 rfl) ?_
  have hPc := hP.sub (ws' := [(h0, .inr (10, fs)), (h1, .inl (cA 3, 1000, .inl f))]) [1, 2] rfl
  have hDc := hD.sub (ws' := [(h0, .inr (10, fs)), (h1, .inl (cA 3, 1000, .inl f))]) [1, 2] (by decide) rfl
  have hFc := va_free (wc := [(h0, .inr (10, fs)), (h1, .inl (cA 3, 1000, .inl f))]) hD hS hA [1, 2] rfl
  refine va_callv (va_runV (As := [.long a]) (rest := []) ⟨hx, hb, hml, hown, hts⟩ (zc_addC l D cA h0 h1 _ (0) fs f a (by omega) hlen ha hc) ⟨callB_of 1 hts (zgoodIn zAl_good zfc_a) rfl rfl rfl (hts _ zfi_a) (hts _ zfk_a) (by decide +kernel) ⟨Nat.le_of_ble_eq_true rfl, Nat.le_of_ble_eq_true rfl⟩, hts _ zfn_a, hts _ zfs_a⟩ ⟨fun a U g mk q => by obtain ⟨q0, q1, qP, qK, qD⟩ := q; exact ⟨q0, q1, qP, va_K.moved (u := U) (U := U.calling g mk a) (Vm.Alike.refl U.vm) qK, qD⟩, va_recv hK hPc (ci := 10) (q0 := 0) rfl rfl, fun U hU hW => ⟨rfl, by rw [hU], by rw [hU]; exact hPc, va_K.moved hW.alike hK, hDc.weaken (fun _ _ _ _ => trivial)⟩⟩ rfl rfl hl.1 rfl (lv_room (Nat.le_of_ble_eq_true rfl)) zf_X11_feed_5 ⟨Nat.zero_le _, Nat.zero_le _⟩) hS (fun q _ h => hFc q h) hFc (fun u t H1 locs ht hvm hw hB hz1 hk1 hS => ?_)
  obtain ⟨fs1, f1⟩ := u
  obtain ⟨hlen, ha, hc, hP1, hD1⟩ := hB
  rw [ht] at hP1
  obtain ⟨hP, hD⟩ := va_join (wr := [(hb0, .inr (11, bs))]) hP hD [1, 2] [0] rfl rfl (by decide) (by decide) hk1 hFc hP1 hD1
  have hP : va_P D zcl [(hb0, .inr (11, bs)), (h0, .inr (10, fs1)), (h1, .inl (cA 3, 1000, .inl f1))] H1 := hP
  have hD : va_D A [(hb0, .inr (11, bs)), (h0, .inr (10, fs1)), (h1, .inl (cA 3, 1000, .inl f1))] := hD
  refine lv_aload_n hx hb zf_X11_feed_8 rfl (lv_at hl 0 rfl) ?_
  refine va_get (ref := "BeggarHeaps") hx hb hts (zcw_ok 11 (RX11, TX11, 19) rfl) hown hK hP 0 rfl rfl 0 (by decide) (hts _ zfw5) (fun _ h9 => h9) hb0e zf_X11_feed_9 ?_
  refine lv_lload_n hx hb zf_X11_feed_12 rfl (lv_at hl 2 rfl) ?_
  have hPc := hP.sub (ws' := [(h0, .inr (10, fs1)), (h1, .inl (cA 3, 1000, .inl f1))]) [1, 2] rfl
  have hDc := hD.sub (ws' := [(h0, .inr (10, fs1)), (h1, .inl (cA 3, 1000, .inl f1))]) [1, 2] (by decide) rfl
  have hFc := va_free (wc := [(h0, .inr (10, fs1)), (h1, .inl (cA 3, 1000, .inl f1))]) hD hS hA [1, 2] rfl
  refine va_callv (va_runV (As := [.long b]) (rest := []) ⟨hx, hb, hml, hown, hts⟩ (zc_addC l D cA h0 h1 _ (0 + zcnt (zgC a) 8) fs1 f1 b (by omega) hlen ha hc) ⟨callB_of 1 hts (zgoodIn zAl_good zfc_a) rfl rfl rfl (hts _ zfi_a) (hts _ zfk_a) (by decide +kernel) ⟨Nat.le_of_ble_eq_true rfl, Nat.le_of_ble_eq_true rfl⟩, hts _ zfn_a, hts _ zfs_a⟩ ⟨fun a U g mk q => by obtain ⟨q0, q1, qP, qK, qD⟩ := q; exact ⟨q0, q1, qP, va_K.moved (u := U) (U := U.calling g mk a) (Vm.Alike.refl U.vm) qK, qD⟩, va_recv hK hPc (ci := 10) (q0 := 0) rfl rfl, fun U hU hW => ⟨rfl, by rw [hU], by rw [hU]; exact hPc, va_K.moved hW.alike hK, hDc.weaken (fun _ _ _ _ => trivial)⟩⟩ rfl rfl hl.1 rfl (lv_room (Nat.le_of_ble_eq_true rfl)) zf_X11_feed_13 ⟨Nat.zero_le _, Nat.zero_le _⟩) hS (fun q _ h => hFc q h) hFc (fun u t H1 locs ht hvm hw hB hz1 hk1 hS => ?_)
  obtain ⟨fs2, f2⟩ := u
  obtain ⟨hlen, ha, hc, hP1, hD1⟩ := hB
  rw [ht] at hP1
  obtain ⟨hP, hD⟩ := va_join (wr := [(hb0, .inr (11, bs))]) hP hD [1, 2] [0] rfl rfl (by decide) (by decide) hk1 hFc hP1 hD1
  have hP : va_P D zcl [(hb0, .inr (11, bs)), (h0, .inr (10, fs2)), (h1, .inl (cA 3, 1000, .inl f2))] H1 := hP
  have hD : va_D A [(hb0, .inr (11, bs)), (h0, .inr (10, fs2)), (h1, .inl (cA 3, 1000, .inl f2))] := hD
  refine lv_aload_n hx hb zf_X11_feed_16 rfl (lv_at hl 0 rfl) ?_
  refine va_get (ref := "BeggarHeaps") hx hb hts (zcw_ok 11 (RX11, TX11, 19) rfl) hown hK hP 0 rfl rfl 0 (by decide) (hts _ zfw5) (fun _ h9 => h9) hb0e zf_X11_feed_17 ?_
  refine lv_lload hx hb zf_X11_feed_20 (lv_at hl 3 rfl) ?_
  have hPc := hP.sub (ws' := [(h0, .inr (10, fs2)), (h1, .inl (cA 3, 1000, .inl f2))]) [1, 2] rfl
  have hDc := hD.sub (ws' := [(h0, .inr (10, fs2)), (h1, .inl (cA 3, 1000, .inl f2))]) [1, 2] (by decide) rfl
  have hFc := va_free (wc := [(h0, .inr (10, fs2)), (h1, .inl (cA 3, 1000, .inl f2))]) hD hS hA [1, 2] rfl
  refine va_callv (va_runV (As := [.long d]) (rest := []) ⟨hx, hb, hml, hown, hts⟩ (zc_addC l D cA h0 h1 _ (0 + zcnt (zgC a) 8 + zcnt (zgC b) 8) fs2 f2 d (by omega) hlen ha hc) ⟨callB_of 1 hts (zgoodIn zAl_good zfc_a) rfl rfl rfl (hts _ zfi_a) (hts _ zfk_a) (by decide +kernel) ⟨Nat.le_of_ble_eq_true rfl, Nat.le_of_ble_eq_true rfl⟩, hts _ zfn_a, hts _ zfs_a⟩ ⟨fun a U g mk q => by obtain ⟨q0, q1, qP, qK, qD⟩ := q; exact ⟨q0, q1, qP, va_K.moved (u := U) (U := U.calling g mk a) (Vm.Alike.refl U.vm) qK, qD⟩, va_recv hK hPc (ci := 10) (q0 := 0) rfl rfl, fun U hU hW => ⟨rfl, by rw [hU], by rw [hU]; exact hPc, va_K.moved hW.alike hK, hDc.weaken (fun _ _ _ _ => trivial)⟩⟩ rfl rfl hl.1 rfl (lv_room (Nat.le_of_ble_eq_true rfl)) zf_X11_feed_22 ⟨Nat.zero_le _, Nat.zero_le _⟩) hS (fun q _ h => hFc q h) hFc (fun u t H1 locs ht hvm hw hB hz1 hk1 hS => ?_)
  obtain ⟨fs3, f3⟩ := u
  obtain ⟨hlen, ha, hc, hP1, hD1⟩ := hB
  rw [ht] at hP1
  obtain ⟨hP, hD⟩ := va_join (wr := [(hb0, .inr (11, bs))]) hP hD [1, 2] [0] rfl rfl (by decide) (by decide) hk1 hFc hP1 hD1
  have hP : va_P D zcl [(hb0, .inr (11, bs)), (h0, .inr (10, fs3)), (h1, .inl (cA 3, 1000, .inl f3))] H1 := hP
  have hD : va_D A [(hb0, .inr (11, bs)), (h0, .inr (10, fs3)), (h1, .inl (cA 3, 1000, .inl f3))] := hD
  refine lv_aload_n hx hb zf_X11_feed_25 rfl (lv_at hl 0 rfl) ?_
  refine va_get (ref := "BeggarHeaps") hx hb hts (zcw_ok 11 (RX11, TX11, 19) rfl) hown hK hP 0 rfl rfl 0 (by decide) (hts _ zfw5) (fun _ h9 => h9) hb0e zf_X11_feed_26 ?_
  refine va_get (ref := "BeggarHeaps$Tape") hx hb hts (zcw_ok 10 (RX10, TX10, 10) rfl) hown hK hP 1 rfl rfl 2 (by decide) (hts _ zfw6) (fun _ h9 => h9) hc zf_X11_feed_29 ?_
  exact W.iret hx hb hr (fun t ht hW => ⟨⟨_, (), rfl, rfl, trivial⟩, hS.F ht⟩) hS.2.2 zf_X11_feed_32
-- Model.feed on a fresh tape
set_option maxHeartbeats 4000000 in
theorem zc_feedM (l : Launch) (D : va_G) (cA : Nat → ClassId) (h0 h1 sz : Nat) (fs : List Value) (f : Nat → Int32) (a b d : Int64) (hlen : fs.length = 56) (ha : fs[1]? = some (.ref h1)) (hc : fs[2]? = some (.int (nI 0))) :
    Met l yX12_feed (Cond.code yX12_feed cX12_feed 7 (some .int) :: zAl) (zrm0 1) (va_Pc [.ref h0, .long a, .long b, .long d] (fun U => U.heap.size = sz ∧ va_P D zcl [(h0, .inr (12, fs)), (h1, .inl (cA 0, 1000, .inl f))] U.heap ∧ va_K D zcl (ztys cA) U ∧ va_D (fun _ => True) [(h0, .inr (12, fs)), (h1, .inl (cA 0, 1000, .inl f))])) (va_Qi (fun (r : Int32) (_ : Unit) => r = nI (0 + zcnt (zgM a) 8 + zcnt (zgM b) 8 + zcnt (zgM d) 8)) (fun _ _ => True) (va_A [(h0, .inr (12, fs)), (h1, .inl (cA 0, 1000, .inl f))] sz)) 0 0 (va_A [(h0, .inr (12, fs)), (h1, .inl (cA 0, 1000, .inl f))] sz) := by
  refine Met.ofW (cc := cX12_feed) (maxL := 7) (ret := some .int) (by decide) rfl ?_
  intro p e s m args below meth c s₁ B hml hv
  obtain ⟨rfl, hsz, hP, hK, hD0⟩ := hv
  have hx := B.exec
  have hb := B.bytes
  have hr := B.returns
  have hts0 := atoms_spec (ws := Cond.code yX12_feed cX12_feed 7 (some .int) :: zAl) B.pre
  have hts : ∀ w ∈ zAl, w.before _ s = true := fun w hw => hts0 w (List.mem_cons_of_mem _ hw)
  have hown : s.vm.findClass RX12 = some m.cls := findClass_of_methodNamed B.named
  have hlocks := B.notSynchronized
  subst hsz
  have hD := hD0.self (sz := s.heap.size)
  generalize hAe : va_A [(h0, .inr (12, fs)), (h1, .inl (cA 0, 1000, .inl f))] s.heap.size = A at hD ⊢
  have hA : ∀ q : Nat, s.heap.size ≤ q → A q := fun q h => by rw [← hAe]; exact Or.inr h
  have hS : va_S A s.heap s.heap [] := va_S.rf
  have hl := lv_entry ([.ref h0, .long a, .long b, .long d]) (n := 7) (Nat.le_of_ble_eq_true rfl)
  rw [lg_entry_eq]
  generalize (lg_sl ([.ref h0, .long a, .long b, .long d]) ++ List.replicate (7 - (lg_sl ([.ref h0, .long a, .long b, .long d])).length) Slot.unset).toArray = ls at hl ⊢
  have hl : lv_has ls 7 [(0, .ref h0), (1, .long a), (3, .long b), (5, .long d)] := hl
  have b1 := zcnt_le (zgM a) 8
  have b2 := zcnt_le (zgM b) 8
  have b3 := zcnt_le (zgM d) 8
  refine lv_aload_n hx hb zf_X12_feed_0 rfl (lv_at hl 0 rfl) ?_
  refine lv_iconst (v := 0) hx hb zf_X12_feed_1 (by decide) ?_
  refine va_put (ref := "BeggarHeapsModel") (ty := .int) (v := .int 0) hx hb hts (zcw_ok 12 (RX12, TX12, 56) rfl) (ztf 12) (zcl_ty 12 _ rfl).1 (zcl_ty 12 _ rfl).2 hown hK hP hD hS 0 rfl rfl 0 (by decide) (hts _ zfw7) (fun _ h9 => h9) rfl rfl rfl rfl (by rw [hlen]; decide) zf_X12_feed_2 (fun H locs hP hD hS => ?_)
  obtain ⟨fs0, e0⟩ : ∃ z, z = fs.set 0 (.int 0) := ⟨_, rfl⟩
  have hP : va_P D zcl [(h0, .inr (12, fs0)), (h1, .inl (cA 0, 1000, .inl f))] H := by rw [e0]; exact hP
  have hD : va_D A [(h0, .inr (12, fs0)), (h1, .inl (cA 0, 1000, .inl f))] := by rw [e0]; exact hD
  have ha : fs0[1]? = some (.ref h1) := by rw [e0, List.getElem?_set_ne (by decide)]; exact ha
  have hc : fs0[2]? = some (.int (nI 0)) := by rw [e0, List.getElem?_set_ne (by decide)]; exact hc
  have hlen : fs0.length = 56 := by rw [e0, List.length_set]; exact hlen
  refine lv_aload_n hx hb zf_X12_feed_5 rfl (lv_at hl 0 rfl) ?_
  refine lv_lload_n hx hb zf_X12_feed_6 rfl (lv_at hl 1 rfl) ?_
  have hPc := hP.sub (ws' := [(h0, .inr (12, fs0)), (h1, .inl (cA 0, 1000, .inl f))]) [0, 1] rfl
  have hDc := hD.sub (ws' := [(h0, .inr (12, fs0)), (h1, .inl (cA 0, 1000, .inl f))]) [0, 1] (by decide) rfl
  have hFc := va_free (wc := [(h0, .inr (12, fs0)), (h1, .inl (cA 0, 1000, .inl f))]) hD hS hA [0, 1] rfl
  refine va_callv (va_runV (As := [.long a]) (rest := []) ⟨hx, hb, hml, hown, hts⟩ (zc_layM l D cA h0 h1 _ (0) fs0 f a (by omega) hlen ha hc) ⟨callB_of 1 hts (zgoodIn zAl_good zfc_l) rfl rfl rfl (hts _ zfi_l) (hts _ zfk_l) (by decide +kernel) ⟨Nat.le_of_ble_eq_true rfl, Nat.le_of_ble_eq_true rfl⟩, hts _ zfn_l, hts _ zfs_l⟩ ⟨fun a U g mk q => by obtain ⟨q0, q1, qP, qK, qD⟩ := q; exact ⟨q0, q1, qP, va_K.moved (u := U) (U := U.calling g mk a) (Vm.Alike.refl U.vm) qK, qD⟩, va_recv hK hPc (ci := 12) (q0 := 0) rfl rfl, fun U hU hW => ⟨rfl, by rw [hU], by rw [hU]; exact hPc, va_K.moved hW.alike hK, hDc.weaken (fun _ _ _ _ => trivial)⟩⟩ rfl rfl hl.1 rfl (lv_room (Nat.le_of_ble_eq_true rfl)) zf_X12_feed_7 ⟨Nat.zero_le _, Nat.zero_le _⟩) hS (fun q _ h => hFc q h) hFc (fun u t H1 locs ht hvm hw hB hz1 hk1 hS => ?_)
  obtain ⟨fs1, f1⟩ := u
  obtain ⟨hlen, ha, hc, hP1, hD1⟩ := hB
  rw [ht] at hP1
  obtain ⟨hP, hD⟩ := va_join (wr := []) hP hD [0, 1] [] rfl rfl (by decide) (by decide) hk1 hFc hP1 hD1
  have hP : va_P D zcl [(h0, .inr (12, fs1)), (h1, .inl (cA 0, 1000, .inl f1))] H1 := hP
  have hD : va_D A [(h0, .inr (12, fs1)), (h1, .inl (cA 0, 1000, .inl f1))] := hD
  refine lv_aload_n hx hb zf_X12_feed_10 rfl (lv_at hl 0 rfl) ?_
  refine lv_lload_n hx hb zf_X12_feed_11 rfl (lv_at hl 2 rfl) ?_
  have hPc := hP.sub (ws' := [(h0, .inr (12, fs1)), (h1, .inl (cA 0, 1000, .inl f1))]) [0, 1] rfl
  have hDc := hD.sub (ws' := [(h0, .inr (12, fs1)), (h1, .inl (cA 0, 1000, .inl f1))]) [0, 1] (by decide) rfl
  have hFc := va_free (wc := [(h0, .inr (12, fs1)), (h1, .inl (cA 0, 1000, .inl f1))]) hD hS hA [0, 1] rfl
  refine va_callv (va_runV (As := [.long b]) (rest := []) ⟨hx, hb, hml, hown, hts⟩ (zc_layM l D cA h0 h1 _ (0 + zcnt (zgM a) 8) fs1 f1 b (by omega) hlen ha hc) ⟨callB_of 1 hts (zgoodIn zAl_good zfc_l) rfl rfl rfl (hts _ zfi_l) (hts _ zfk_l) (by decide +kernel) ⟨Nat.le_of_ble_eq_true rfl, Nat.le_of_ble_eq_true rfl⟩, hts _ zfn_l, hts _ zfs_l⟩ ⟨fun a U g mk q => by obtain ⟨q0, q1, qP, qK, qD⟩ := q; exact ⟨q0, q1, qP, va_K.moved (u := U) (U := U.calling g mk a) (Vm.Alike.refl U.vm) qK, qD⟩, va_recv hK hPc (ci := 12) (q0 := 0) rfl rfl, fun U hU hW => ⟨rfl, by rw [hU], by rw [hU]; exact hPc, va_K.moved hW.alike hK, hDc.weaken (fun _ _ _ _ => trivial)⟩⟩ rfl rfl hl.1 rfl (lv_room (Nat.le_of_ble_eq_true rfl)) zf_X12_feed_12 ⟨Nat.zero_le _, Nat.zero_le _⟩) hS (fun q _ h => hFc q h) hFc (fun u t H1 locs ht hvm hw hB hz1 hk1 hS => ?_)
  obtain ⟨fs2, f2⟩ := u
  obtain ⟨hlen, ha, hc, hP1, hD1⟩ := hB
  rw [ht] at hP1
  obtain ⟨hP, hD⟩ := va_join (wr := []) hP hD [0, 1] [] rfl rfl (by decide) (by decide) hk1 hFc hP1 hD1
  have hP : va_P D zcl [(h0, .inr (12, fs2)), (h1, .inl (cA 0, 1000, .inl f2))] H1 := hP
  have hD : va_D A [(h0, .inr (12, fs2)), (h1, .inl (cA 0, 1000, .inl f2))] := hD
  refine lv_aload_n hx hb zf_X12_feed_15 rfl (lv_at hl 0 rfl) ?_
  refine lv_lload hx hb zf_X12_feed_16 (lv_at hl 3 rfl) ?_
  have hPc := hP.sub (ws' := [(h0, .inr (12, fs2)), (h1, .inl (cA 0, 1000, .inl f2))]) [0, 1] rfl
  have hDc := hD.sub (ws' := [(h0, .inr (12, fs2)), (h1, .inl (cA 0, 1000, .inl f2))]) [0, 1] (by decide) rfl
  have hFc := va_free (wc := [(h0, .inr (12, fs2)), (h1, .inl (cA 0, 1000, .inl f2))]) hD hS hA [0, 1] rfl
  refine va_callv (va_runV (As := [.long d]) (rest := []) ⟨hx, hb, hml, hown, hts⟩ (zc_layM l D cA h0 h1 _ (0 + zcnt (zgM a) 8 + zcnt (zgM b) 8) fs2 f2 d (by omega) hlen ha hc) ⟨callB_of 1 hts (zgoodIn zAl_good zfc_l) rfl rfl rfl (hts _ zfi_l) (hts _ zfk_l) (by decide +kernel) ⟨Nat.le_of_ble_eq_true rfl, Nat.le_of_ble_eq_true rfl⟩, hts _ zfn_l, hts _ zfs_l⟩ ⟨fun a U g mk q => by obtain ⟨q0, q1, qP, qK, qD⟩ := q; exact ⟨q0, q1, qP, va_K.moved (u := U) (U := U.calling g mk a) (Vm.Alike.refl U.vm) qK, qD⟩, va_recv hK hPc (ci := 12) (q0 := 0) rfl rfl, fun U hU hW => ⟨rfl, by rw [hU], by rw [hU]; exact hPc, va_K.moved hW.alike hK, hDc.weaken (fun _ _ _ _ => trivial)⟩⟩ rfl rfl hl.1 rfl (lv_room (Nat.le_of_ble_eq_true rfl)) zf_X12_feed_18 ⟨Nat.zero_le _, Nat.zero_le _⟩) hS (fun q _ h => hFc q h) hFc (fun u t H1 locs ht hvm hw hB hz1 hk1 hS => ?_)
  obtain ⟨fs3, f3⟩ := u
  obtain ⟨hlen, ha, hc, hP1, hD1⟩ := hB
  rw [ht] at hP1
  obtain ⟨hP, hD⟩ := va_join (wr := []) hP hD [0, 1] [] rfl rfl (by decide) (by decide) hk1 hFc hP1 hD1
  have hP : va_P D zcl [(h0, .inr (12, fs3)), (h1, .inl (cA 0, 1000, .inl f3))] H1 := hP
  have hD : va_D A [(h0, .inr (12, fs3)), (h1, .inl (cA 0, 1000, .inl f3))] := hD
  refine lv_aload_n hx hb zf_X12_feed_21 rfl (lv_at hl 0 rfl) ?_
  refine va_get (ref := "BeggarHeapsModel") hx hb hts (zcw_ok 12 (RX12, TX12, 56) rfl) hown hK hP 0 rfl rfl 2 (by decide) (hts _ zfw3) (fun _ h9 => h9) hc zf_X12_feed_22 ?_
  exact W.iret hx hb hr (fun t ht hW => ⟨⟨_, (), rfl, rfl, trivial⟩, hS.F ht⟩) hS.2.2 zf_X12_feed_25
end ZFEED
end
section
/-! THE CLAIM OUT OF ONE WALK OF THE LAW'S BODY. Your part is whole_start (and what it stands on); all else here is the same for every law, but numbers. -/
def R_law : String := "BeggarHeapsLaw"
def lw_P (b : Addr) (xs : List Int32) (args : Array Value) (s : State) : Prop := args = #[.ref b] ∧ s.IntsAt b xs ∧ xs.length ≤ 7 ∧ (Jvm.Cond.and given_1 narrow_1).before args s = true
def lw_Q (_ : Array Value) (s : State) (o : Outcome) (t : State) : Prop := o = .returned (some (.int 1)) ∧ Framed s o t [] 600002 7302232
def lw_Z (below : List Frame) (a : Array Value) (s : State) : State → Prop := fun t => ∃ o, t.status = .running ∧ Ended t below o ∧ lw_Q a s o t
/-- the law's own end, with 1 on the stack, nothing written that was there before, its room as the claim has it -/
theorem lw_ret {p : Program} {l : Launch} {e : Env} {s : State} {m : MethodId} {below : List Frame} {meth : Method} {c : Code} {b : Nat} (hx : p.tables.exec = Jvm.exec) (hb : c.code = code) (hr : meth.sig.returnType = ret) (hlocks : meth.locks = false) {pc : Nat} {H : Heap} {ls : Array Slot} (hdg : decode code pc = .ok (.ireturn, 1)) : W p l e room_1 s m #[Value.ref b] below meth c H [] 600002 7302232 (lw_Z below #[Value.ref b] s) (F0 m pc ls [.int 1]) := by
  intro T hT X
  obtain ⟨fs, hret, hrun, hended, hW, hframe⟩ := X.leave (v := some (.int 1)) (hlocks := hlocks) (fun h => by rw [hr] at h; cases h)
  have hmeth' : T.vm.method? m = some meth := X.method'
  refine ⟨T.setFrames fs, ?_, .returned (some (.int 1)), hrun, hended, rfl, ⟨_, rfl⟩, hW, hframe⟩
  jvm_step X.here [X.here.top, hx, hb, hdg, hmeth', hr, ret, narrow_b1]
  (try refine ⟨rfl, ?_⟩); (try refine ⟨rfl, ?_⟩)
  first | (intro acts; rw [hret _ acts rfl rfl rfl]) | rw [hret _ _ rfl rfl rfl]
  exact Steps.refl _
/-- what holds at the law's entry: the machine, the code, the tables' words (any of lw_tbl by 'hts w (by decide +kernel)'), the script of L ints xs at the cell b, what the Statement gives of the start (any of its parts by flat_of_before) -/
def lw_At (p : Program) (s : State) (m : MethodId) (meth : Method) (c : Code) (b L : Nat) (xs : Nat → Int32) : Prop :=
  p.tables.exec = Jvm.exec ∧ c.code = code ∧ meth.sig.returnType = ret ∧ c.maxLocals = 7 ∧ s.vm.findClass R_law = some m.cls ∧ (∀ w ∈ lw_tbl, w.before #[Value.ref b] s = true) ∧ va_X b L xs s s.heap ∧ b < s.heap.size ∧ meth.locks = false ∧ (Jvm.Cond.and given_1 narrow_1).before #[Value.ref b] s = true ∧ meth.name = "law"
section ZLAW
theorem zw_23 : decode code 23 = .ok (.iload 4, 2) := by decide +kernel
theorem zw_25 : decode code 25 = .ok (.aload_n 0, 1) := by decide +kernel
theorem zw_26 : decode code 26 = .ok (.arraylength, 1) := by decide +kernel
theorem zw_27 : decode code 27 = .ok (.bipush 7, 2) := by decide +kernel
theorem zw_29 : decode code 29 = .ok (.isub, 1) := by decide +kernel
theorem zw_30 : decode code 30 = .ok (.if_icmp .gt 1300, 3) := by decide +kernel
theorem zw_1330 : decode code 1330 = .ok (.iconst 1, 1) := by decide +kernel
theorem zw_1331 : decode code 1331 = .ok (.ireturn, 1) := by decide +kernel
theorem zmtL : zmt 164 = zm164 := rfl
/-- the names of the unknown ints: the script's, the case, what a bet leaves -/
def zrh (xs : Nat → Int32) (k : Nat) : Int32 := if k < 7 then xs k else if k = 7 then xs 0 &&& 63 else if k < 16 then 100 - (if k - 8 < 7 then xs (k - 8) else xs 0 &&& 63) else if k = 20 then 1 else 0
theorem zrh_2 (xs : Nat → Int32) : zEnv2 (zrh xs) := by
  constructor
  · intro j hj
    unfold zrh
    rw [if_neg (by omega), if_neg (by omega), if_pos (by omega), Nat.add_sub_cancel]
    by_cases h : j < 7
    · rw [if_pos h, if_pos h]
    · rw [if_neg h, if_neg h, if_pos (by omega)]
  · rfl
theorem zEnv0 (rh : Nat → Int32) : zEnv zbd0 rh := fun k => z_rng _
/-- some case fits -/
theorem zsel {rh : Nat → Int32} {k : Nat} (hk : k < 64) (h0 : k ≠ 0) (h7 : rh 7 = nI k) (h20 : rh 20 = 1) : ∃ q l, zcase q l = true ∧ zEnv (zbdC q l) rh ∧ zlw (zbdC q l) true = true := by
  have e20 : (rh 20).toInt = 1 := by rw [h20]; rfl
  have e7 : (rh 7).toInt = (k : Int) := by rw [h7]; exact nI_toInt (by omega)
  have fin : ∀ q : Int × Int, (∃ l, zcase q l = true ∧ zEnv (zbdC q l) rh) → ∃ q l, zcase q l = true ∧ zEnv (zbdC q l) rh ∧ zlw (zbdC q l) true = true := by
    rintro q ⟨l, h1, h2⟩
    exact ⟨q, l, h1, h2, rfl⟩
  match k, hk, h0, e7 with
  | 0, _, h0, _ => exact absurd rfl h0
  | 1, _, _, e7 => exact fin _ (zfitC zk1 zv1 (by rw [e7]; exact ⟨Int.le_refl _, Int.le_refl _⟩) e20)
  | 2, _, _, e7 => exact fin _ (zfitC zk2 zv2 (by rw [e7]; exact ⟨Int.le_refl _, Int.le_refl _⟩) e20)
  | 3, _, _, e7 => exact fin _ (zfitC zk3 zv3 (by rw [e7]; exact ⟨Int.le_refl _, Int.le_refl _⟩) e20)
  | 4, _, _, e7 => exact fin _ (zfitC zk4 zv4 (by rw [e7]; exact ⟨Int.le_refl _, Int.le_refl _⟩) e20)
  | 5, _, _, e7 => exact fin _ (zfitC zk5 zv5 (by rw [e7]; exact ⟨Int.le_refl _, Int.le_refl _⟩) e20)
  | 6, _, _, e7 => exact fin _ (zfitC zk6 zv6 (by rw [e7]; exact ⟨Int.le_refl _, Int.le_refl _⟩) e20)
  | 7, _, _, e7 => exact fin _ (zfitC zk7 zv7 (by rw [e7]; exact ⟨Int.le_refl _, Int.le_refl _⟩) e20)
  | 8, _, _, e7 => exact fin _ (zfitC zk8 zv8 (by rw [e7]; exact ⟨Int.le_refl _, Int.le_refl _⟩) e20)
  | 9, _, _, e7 => exact fin _ (zfitC zk9 zv9 (by rw [e7]; exact ⟨Int.le_refl _, Int.le_refl _⟩) e20)
  | 10, _, _, e7 => exact fin _ (zfitC zk10 zv10 (by rw [e7]; exact ⟨Int.le_refl _, Int.le_refl _⟩) e20)
  | 11, _, _, e7 => exact fin _ (zfitC zk11 zv11 (by rw [e7]; exact ⟨Int.le_refl _, Int.le_refl _⟩) e20)
  | 12, _, _, e7 => exact fin _ (zfitC zk12 zv12 (by rw [e7]; exact ⟨Int.le_refl _, Int.le_refl _⟩) e20)
  | 13, _, _, e7 => exact fin _ (zfitC zk13 zv13 (by rw [e7]; exact ⟨Int.le_refl _, Int.le_refl _⟩) e20)
  | 14, _, _, e7 => exact fin _ (zfitC zk14 zv14 (by rw [e7]; exact ⟨Int.le_refl _, Int.le_refl _⟩) e20)
  | 15, _, _, e7 => exact fin _ (zfitC zk15 zv15 (by rw [e7]; exact ⟨Int.le_refl _, Int.le_refl _⟩) e20)
  | 16, _, _, e7 => exact fin _ (zfitC zk16 zv16 (by rw [e7]; exact ⟨Int.le_refl _, Int.le_refl _⟩) e20)
  | 17, _, _, e7 => exact fin _ (zfitC zk17 zv17 (by rw [e7]; exact ⟨Int.le_refl _, Int.le_refl _⟩) e20)
  | 18, _, _, e7 => exact fin _ (zfitC zk18 zv18 (by rw [e7]; exact ⟨Int.le_refl _, Int.le_refl _⟩) e20)
  | 19, _, _, e7 => exact fin _ (zfitC zk19 zv19 (by rw [e7]; exact ⟨Int.le_refl _, Int.le_refl _⟩) e20)
  | 20, _, _, e7 => exact fin _ (zfitC zk20 zv20 (by rw [e7]; exact ⟨Int.le_refl _, Int.le_refl _⟩) e20)
  | 21, _, _, e7 => exact fin _ (zfitC zk21 zv21 (by rw [e7]; exact ⟨Int.le_refl _, Int.le_refl _⟩) e20)
  | 22, _, _, e7 => exact fin _ (zfitC zk22 zv22 (by rw [e7]; exact ⟨Int.le_refl _, Int.le_refl _⟩) e20)
  | 23, _, _, e7 => exact fin _ (zfitC zk23 zv23 (by rw [e7]; exact ⟨Int.le_refl _, Int.le_refl _⟩) e20)
  | 24, _, _, e7 => exact fin _ (zfitC zk24 zv24 (by rw [e7]; exact ⟨Int.le_refl _, Int.le_refl _⟩) e20)
  | 25, _, _, e7 => exact fin _ (zfitC zk25 zv25 (by rw [e7]; exact ⟨Int.le_refl _, Int.le_refl _⟩) e20)
  | 26, _, _, e7 => exact fin _ (zfitC zk26 zv26 (by rw [e7]; exact ⟨Int.le_refl _, Int.le_refl _⟩) e20)
  | 27, _, _, e7 => exact fin _ (zfitC zk27 zv27 (by rw [e7]; exact ⟨Int.le_refl _, Int.le_refl _⟩) e20)
  | 28, _, _, e7 => exact fin _ (zfitC zk28 zv28 (by rw [e7]; exact ⟨Int.le_refl _, Int.le_refl _⟩) e20)
  | 29, _, _, e7 => exact fin _ (zfitC zk29 zv29 (by rw [e7]; exact ⟨Int.le_refl _, Int.le_refl _⟩) e20)
  | 30, _, _, e7 => exact fin _ (zfitC zk30 zv30 (by rw [e7]; exact ⟨Int.le_refl _, Int.le_refl _⟩) e20)
  | 31, _, _, e7 => exact fin _ (zfitC zk31 zv31 (by rw [e7]; exact ⟨Int.le_refl _, Int.le_refl _⟩) e20)
  | 32, _, _, e7 => exact fin _ (zfitC zk32 zv32 (by rw [e7]; exact ⟨Int.le_refl _, Int.le_refl _⟩) e20)
  | 33, _, _, e7 => exact fin _ (zfitC zk33 zv33 (by rw [e7]; exact ⟨Int.le_refl _, Int.le_refl _⟩) e20)
  | 34, _, _, e7 => exact fin _ (zfitC zk34 zv34 (by rw [e7]; exact ⟨Int.le_refl _, Int.le_refl _⟩) e20)
  | n + 35, hn, _, e7 => exact fin _ (zfitC zk35 zv35 (by rw [e7]; constructor <;> (show _ ≤ _; omega)) e20)
variable {p : Program} {e : Env} {s : State} {m : MethodId} {below : List Frame} {meth : Method} {c : Code}
/-- the law's frame -/
theorem zFrL {b L : Nat} {xs : Nat → Int32} (C0 : lw_At p s m meth c b L xs) {D : va_G} {cA : Nat → ClassId} (hZX : ZX D cA s) {ZS : (Nat → Prop) → State → Nat → Prop} {ad : Nat → Nat} (hZS : ZS (fun q => s.heap.size ≤ q) s (ad 1000000)) (hb1 : ad 1000001 = b) {bd : Nat → Int × Int} (hL : zlw bd true = true → L = 7) :
    ZFr zAl zmt bd (zrh xs) ZS D cA p room_1 s m #[Value.ref b] meth c (fun q => s.heap.size ≤ q) ad 20 164 true := by
  obtain ⟨hx, hb, hr, hml, hown, hts, hX, hbl, hlocks, hgv, hname⟩ := C0
  refine ⟨hx, hb, hml, hname, hown, fun w hw => hts w (List.mem_filter.mp hw).1, (zok 164).1, hZX, hZS, fun q h => h, by decide, by decide, Nat.le_refl _, Nat.le_refl _, fun h => ?_⟩
  have e7 := hL h
  subst e7
  rw [hb1]
  refine ⟨?_, hbl, Nat.not_le.mpr hbl⟩
  obtain ⟨scr, h1, h2, h3, h4, h5⟩ := hX
  refine ⟨scr, h1, h2, h3, h4, fun j hj => ?_⟩
  rw [h5 j hj]
  unfold zrh
  rw [if_pos hj]
set_option maxHeartbeats 2000000 in
/-- a case, from the loop's head to the end -/
theorem zrunC {ZS : (Nat → Prop) → State → Nat → Prop} (hZ : zZS ZS) (l : Launch) (hJ : zJ l zAl ZS) {b : Nat} {xs : Nat → Int32} (C0 : lw_At p s m meth c b 7 xs) {D : va_G} {cA : Nat → ClassId} {q : Int × Int} {k : List (Int × Int)} (hO : zJO l zAl zmt (zbdC q k) (zrh xs) ZS D cA) (hZX : ZX D cA s) {ad : Nat → Nat} (hZS : ZS (fun q => s.heap.size ≤ q) s (ad 1000000)) (hb1 : ad 1000001 = b)
    (hc : zcase q k = true) (hE : zEnv (zbdC q k) (zrh xs)) {H : Heap} {locs : List Loc} {mc ms : Nat} {ls : Array Slot} (hmc : mc ≤ 1000) (hms : ms ≤ 200000) (hP : va_P D zcl (zW cA (zrh xs) ad zbase) H) (hD : va_D (fun q => s.heap.size ≤ q) (zW cA (zrh xs) ad zbase)) (hS : va_S (fun q => s.heap.size ≤ q) s.heap H locs) (hl : lv_has ls 7 (zL (zrh xs) ad zsl)) :
    W p l e room_1 s m #[Value.ref b] below meth c H locs mc ms (lw_Z below #[Value.ref b] s) (F0 m 23 ls []) := by
  obtain ⟨cs, hrun⟩ := zcase_ok hc
  have hfr := zFrL C0 hZX hZS hb1 (bd := zbdC q k) (fun _ => rfl)
  obtain ⟨hx, hb, hr, hml, hown, hts, hX, hbl, hlocks, hgv, hname⟩ := C0
  refine W.widen hmc hms ?_
  refine z_snd zAl_good zcw_ok zAl0_ok hZ hJ hO (fun i => (zok i).2) (fun i => (zok i).1) hE (zrh_2 xs) 40000 20 164 true [] 9999 23 zsl [] zbase 1000 200000 (some (.int 1)) cs hrun p e room_1 s m #[Value.ref b] below meth c H locs _ ad ls (fun q => s.heap.size ≤ q) hfr (by decide) (by decide) hP hD hS hl ?_
  intro ad' H' locs' ls' mc' ms' pc' loc' st' g1 g2 g3 g4 g5 g6
  rcases g6 with ⟨-, -, -, -, z, -⟩ | ⟨v, rfl, hv, h3, h4, h5, h6, h7⟩ | ⟨-, z, -⟩
  · cases z
  · cases hv
    refine va_forget (fun z hz => g4.2.2 z hz) ?_
    refine W.widen h5 h6 ?_
    exact lw_ret hx hb hr hlocks h3
  · cases z
set_option maxHeartbeats 2000000 in
/-- a script of fewer than 7 ints: nothing is called -/
theorem zshort (l : Launch) {b L : Nat} {xs : Nat → Int32} (hL : L < 7) (C0 : lw_At p s m meth c b L xs) {rh : Nat → Int32} {ad : Nat → Nat} (hb1 : ad 1000001 = b) {H : Heap} {locs : List Loc} {mc ms : Nat} {ls : Array Slot} (hmc : mc ≤ 1000) (hms : ms ≤ 200000) (hS : va_S (fun q => s.heap.size ≤ q) s.heap H locs) (hl : lv_has ls 7 (zL rh ad zsl)) :
    W p l e room_1 s m #[Value.ref b] below meth c H locs mc ms (lw_Z below #[Value.ref b] s) (F0 m 23 ls []) := by
  obtain ⟨hx, hb, hr, hml, hown, hts, hX, hbl, hlocks, hgv, hname⟩ := C0
  have hl : lv_has ls 7 [(4, .int 0), (3, .ref (ad 112)), (2, .ref (ad 79)), (1, .ref (ad 0)), (0, .ref (ad 1000001))] := hl
  rw [hb1] at hl
  refine lv_iload hx hb zw_23 (lv_at hl 0 rfl) ?_
  refine lv_aload_n hx hb zw_25 rfl (lv_at hl 4 rfl) ?_
  refine va_slen hx hb hX hbl (Nat.not_le.mpr hbl) hS zw_26 ?_
  refine lv_bipush (v := 7) hx hb zw_27 (by decide) ?_
  refine lv_isub hx hb zw_29 ?_
  refine lv_icmp_gt (tgt := 1330) hx hb zw_30 (by decide) (fun _ => ?_) (fun h => absurd (show Int32.ofNat L - 7 < 0 from pk_sneg (a := L) (b := 7) (by decide) hL) h)
  refine lv_iconst (v := 1) hx hb zw_1330 (by decide) ?_
  refine va_forget (fun z hz => hS.2.2 z hz) ?_
  refine W.widen (k := 600002) (n := 7302232) (by omega) (by omega) ?_
  exact lw_ret hx hb hr hlocks zw_1331
set_option maxHeartbeats 2000000 in
/-- the law from its entry, once the feeding and the orders are known -/
theorem zstart {ZS : (Nat → Prop) → State → Nat → Prop} (hZ : zZS ZS) (l : Launch) (hJ : zJ l zAl ZS) {b L : Nat} {xs : Nat → Int32} (hL : L ≤ 7) (C0 : lw_At p s m meth c b L xs) {D : va_G} {cA : Nat → ClassId} (hO : ∀ bd, zJO l zAl zmt bd (zrh xs) ZS D cA) (hZX : ZX D cA s) {bs : Nat} (hZS : ZS (fun q => s.heap.size ≤ q) s bs)
    (hfeed : L = 7 → xs 0 &&& 63 = 0 → ∀ (ad : Nat → Nat) (H : Heap) (locs : List Loc) (mc ms : Nat) (ls : Array Slot), ad 1000000 = bs → ad 1000001 = b → mc ≤ 1000 → ms ≤ 200000 → va_P D zcl (zW cA (zrh xs) ad zbase) H → va_D (fun q => s.heap.size ≤ q) (zW cA (zrh xs) ad zbase) → va_S (fun q => s.heap.size ≤ q) s.heap H locs → lv_has ls 7 (zL (zrh xs) ad zsl) → W p l e room_1 s m #[Value.ref b] below meth c H locs mc ms (lw_Z below #[Value.ref b] s) (F0 m 23 ls [])) :
    W p l e room_1 s m #[Value.ref b] below meth c s.heap [] 0 0 (lw_Z below #[Value.ref b] s) (entryFrame m ([Value.ref b] : List Value).toArray 7) := by
  obtain ⟨ad, had0, had1⟩ : ∃ ad : Nat → Nat, ad 1000000 = bs ∧ ad 1000001 = b := ⟨fun k => if k = 1000000 then bs else b, rfl, rfl⟩
  have hfr := zFrL C0 hZX (ZS := ZS) (ad := ad) (by rw [had0]; exact hZS) had1 (bd := zbd0) (fun h => absurd h (by decide))
  have hl := lv_entry ([.ref b]) (n := 7) (Nat.le_of_ble_eq_true rfl)
  rw [lg_entry_eq]
  generalize (lg_sl ([.ref b]) ++ List.replicate (7 - (lg_sl ([.ref b])).length) Slot.unset).toArray = ls at hl ⊢
  have hl : lv_has ls 7 (zL (zrh xs) ad [(0, .ref 1000001)]) := by
    show lv_has ls 7 [(0, .ref (ad 1000001))]
    rw [had1]
    exact hl
  refine z_snd zAl_good zcw_ok zAl0_ok hZ hJ (hO zbd0) (fun i => (zok i).2) (fun i => (zok i).1) (zEnv0 _) (zrh_2 xs) 9000 20 164 true zsl 23 0 [(0, .ref 1000001)] [] [] 0 0 none zbase zph1 p e room_1 s m #[Value.ref b] below meth c s.heap [] _ ad ls (fun q => s.heap.size ≤ q) hfr (Nat.zero_le _) (Nat.zero_le _) (fun k q h => by simp [zW] at h) ⟨fun i j p q h => by simp [zW] at h, fun k q h => by simp [zW] at h⟩ va_S.rf hl ?_
  intro ad' H' locs' ls' mc' ms' pc' loc' st' g1 g2 g3 g4 g5 g6
  have a0 : ad' 1000000 = bs := (g1 _ (Or.inr (by decide))).trans had0
  have a1 : ad' 1000001 = b := (g1 _ (Or.inr (by decide))).trans had1
  rcases g6 with ⟨-, rfl, rfl, rfl, -, hmc, hms⟩ | ⟨v, -, hv, -⟩ | ⟨-, -, -, -, -, z⟩
  · by_cases h7 : L = 7
    · subst h7
      obtain ⟨k, hk, ek⟩ := pk_andE (xs 0) (m := 63) 6 rfl
      by_cases h0 : k = 0
      · subst h0
        exact hfeed rfl ek ad' H' locs' mc' ms' ls' a0 a1 hmc hms g2 g3 g4 g5
      · obtain ⟨q, l', c1, c2, c3⟩ := zsel (rh := zrh xs) hk h0 ek rfl
        exact zrunC hZ l hJ C0 (hO _) hZX (by rw [a0]; exact hZS) a1 c1 c2 hmc hms g2 g3 g4 g5
    · exact zshort l (by omega) C0 a1 hmc hms g4 g5
  · cases hv
  · rw [zmtL] at z
    cases z
end ZLAW
end
section
/-! the law's case 0: feeding -/
section ZFL
theorem zu_196 : decode code 196 = .ok (.aload_n 1, 1) := by decide +kernel
theorem zu_197 : decode code 197 = .ok (.aload_n 0, 1) := by decide +kernel
theorem zu_198 : decode code 198 = .ok (.iload 4, 2) := by decide +kernel
theorem zu_200 : decode code 200 = .ok (.iconst 1, 1) := by decide +kernel
theorem zu_201 : decode code 201 = .ok (.iadd, 1) := by decide +kernel
theorem zu_202 : decode code 202 = .ok (.iaload, 1) := by decide +kernel
theorem zu_203 : decode code 203 = .ok (.i2l, 1) := by decide +kernel
theorem zu_204 : decode code 204 = .ok (.bipush 32, 2) := by decide +kernel
theorem zu_206 : decode code 206 = .ok (.lshl, 1) := by decide +kernel
theorem zu_207 : decode code 207 = .ok (.aload_n 0, 1) := by decide +kernel
theorem zu_208 : decode code 208 = .ok (.iload 4, 2) := by decide +kernel
theorem zu_210 : decode code 210 = .ok (.iconst 2, 1) := by decide +kernel
theorem zu_211 : decode code 211 = .ok (.iadd, 1) := by decide +kernel
theorem zu_212 : decode code 212 = .ok (.iaload, 1) := by decide +kernel
theorem zu_213 : decode code 213 = .ok (.i2l, 1) := by decide +kernel
theorem zu_214 : decode code 214 = .ok (.ldc2_w 19, 3) := by decide +kernel
theorem zu_217 : decode code 217 = .ok (.land, 1) := by decide +kernel
theorem zu_218 : decode code 218 = .ok (.lor, 1) := by decide +kernel
theorem zu_219 : decode code 219 = .ok (.aload_n 0, 1) := by decide +kernel
theorem zu_220 : decode code 220 = .ok (.iload 4, 2) := by decide +kernel
theorem zu_222 : decode code 222 = .ok (.iconst 3, 1) := by decide +kernel
theorem zu_223 : decode code 223 = .ok (.iadd, 1) := by decide +kernel
theorem zu_224 : decode code 224 = .ok (.iaload, 1) := by decide +kernel
theorem zu_225 : decode code 225 = .ok (.i2l, 1) := by decide +kernel
theorem zu_226 : decode code 226 = .ok (.bipush 32, 2) := by decide +kernel
theorem zu_228 : decode code 228 = .ok (.lshl, 1) := by decide +kernel
theorem zu_229 : decode code 229 = .ok (.aload_n 0, 1) := by decide +kernel
theorem zu_230 : decode code 230 = .ok (.iload 4, 2) := by decide +kernel
theorem zu_232 : decode code 232 = .ok (.iconst 4, 1) := by decide +kernel
theorem zu_233 : decode code 233 = .ok (.iadd, 1) := by decide +kernel
theorem zu_234 : decode code 234 = .ok (.iaload, 1) := by decide +kernel
theorem zu_235 : decode code 235 = .ok (.i2l, 1) := by decide +kernel
theorem zu_236 : decode code 236 = .ok (.ldc2_w 19, 3) := by decide +kernel
theorem zu_239 : decode code 239 = .ok (.land, 1) := by decide +kernel
theorem zu_240 : decode code 240 = .ok (.lor, 1) := by decide +kernel
theorem zu_241 : decode code 241 = .ok (.aload_n 0, 1) := by decide +kernel
theorem zu_242 : decode code 242 = .ok (.iload 4, 2) := by decide +kernel
theorem zu_244 : decode code 244 = .ok (.iconst 5, 1) := by decide +kernel
theorem zu_245 : decode code 245 = .ok (.iadd, 1) := by decide +kernel
theorem zu_246 : decode code 246 = .ok (.iaload, 1) := by decide +kernel
theorem zu_247 : decode code 247 = .ok (.i2l, 1) := by decide +kernel
theorem zu_248 : decode code 248 = .ok (.bipush 32, 2) := by decide +kernel
theorem zu_250 : decode code 250 = .ok (.lshl, 1) := by decide +kernel
theorem zu_251 : decode code 251 = .ok (.aload_n 0, 1) := by decide +kernel
theorem zu_252 : decode code 252 = .ok (.iload 4, 2) := by decide +kernel
theorem zu_254 : decode code 254 = .ok (.bipush 6, 2) := by decide +kernel
theorem zu_256 : decode code 256 = .ok (.iadd, 1) := by decide +kernel
theorem zu_257 : decode code 257 = .ok (.iaload, 1) := by decide +kernel
theorem zu_258 : decode code 258 = .ok (.i2l, 1) := by decide +kernel
theorem zu_259 : decode code 259 = .ok (.ldc2_w 19, 3) := by decide +kernel
theorem zu_262 : decode code 262 = .ok (.land, 1) := by decide +kernel
theorem zu_263 : decode code 263 = .ok (.lor, 1) := by decide +kernel
theorem zu_264 : decode code 264 = .ok (.invokevirtual 21, 3) := by decide +kernel
theorem zu_267 : decode code 267 = .ok (.aload_n 2, 1) := by decide +kernel
theorem zu_268 : decode code 268 = .ok (.aload_n 0, 1) := by decide +kernel
theorem zu_269 : decode code 269 = .ok (.iload 4, 2) := by decide +kernel
theorem zu_271 : decode code 271 = .ok (.iconst 1, 1) := by decide +kernel
theorem zu_272 : decode code 272 = .ok (.iadd, 1) := by decide +kernel
theorem zu_273 : decode code 273 = .ok (.iaload, 1) := by decide +kernel
theorem zu_274 : decode code 274 = .ok (.i2l, 1) := by decide +kernel
theorem zu_275 : decode code 275 = .ok (.bipush 32, 2) := by decide +kernel
theorem zu_277 : decode code 277 = .ok (.lshl, 1) := by decide +kernel
theorem zu_278 : decode code 278 = .ok (.aload_n 0, 1) := by decide +kernel
theorem zu_279 : decode code 279 = .ok (.iload 4, 2) := by decide +kernel
theorem zu_281 : decode code 281 = .ok (.iconst 2, 1) := by decide +kernel
theorem zu_282 : decode code 282 = .ok (.iadd, 1) := by decide +kernel
theorem zu_283 : decode code 283 = .ok (.iaload, 1) := by decide +kernel
theorem zu_284 : decode code 284 = .ok (.i2l, 1) := by decide +kernel
theorem zu_285 : decode code 285 = .ok (.ldc2_w 19, 3) := by decide +kernel
theorem zu_288 : decode code 288 = .ok (.land, 1) := by decide +kernel
theorem zu_289 : decode code 289 = .ok (.lor, 1) := by decide +kernel
theorem zu_290 : decode code 290 = .ok (.aload_n 0, 1) := by decide +kernel
theorem zu_291 : decode code 291 = .ok (.iload 4, 2) := by decide +kernel
theorem zu_293 : decode code 293 = .ok (.iconst 3, 1) := by decide +kernel
theorem zu_294 : decode code 294 = .ok (.iadd, 1) := by decide +kernel
theorem zu_295 : decode code 295 = .ok (.iaload, 1) := by decide +kernel
theorem zu_296 : decode code 296 = .ok (.i2l, 1) := by decide +kernel
theorem zu_297 : decode code 297 = .ok (.bipush 32, 2) := by decide +kernel
theorem zu_299 : decode code 299 = .ok (.lshl, 1) := by decide +kernel
theorem zu_300 : decode code 300 = .ok (.aload_n 0, 1) := by decide +kernel
theorem zu_301 : decode code 301 = .ok (.iload 4, 2) := by decide +kernel
theorem zu_303 : decode code 303 = .ok (.iconst 4, 1) := by decide +kernel
theorem zu_304 : decode code 304 = .ok (.iadd, 1) := by decide +kernel
theorem zu_305 : decode code 305 = .ok (.iaload, 1) := by decide +kernel
theorem zu_306 : decode code 306 = .ok (.i2l, 1) := by decide +kernel
theorem zu_307 : decode code 307 = .ok (.ldc2_w 19, 3) := by decide +kernel
theorem zu_310 : decode code 310 = .ok (.land, 1) := by decide +kernel
theorem zu_311 : decode code 311 = .ok (.lor, 1) := by decide +kernel
theorem zu_312 : decode code 312 = .ok (.aload_n 0, 1) := by decide +kernel
theorem zu_313 : decode code 313 = .ok (.iload 4, 2) := by decide +kernel
theorem zu_315 : decode code 315 = .ok (.iconst 5, 1) := by decide +kernel
theorem zu_316 : decode code 316 = .ok (.iadd, 1) := by decide +kernel
theorem zu_317 : decode code 317 = .ok (.iaload, 1) := by decide +kernel
theorem zu_318 : decode code 318 = .ok (.i2l, 1) := by decide +kernel
theorem zu_319 : decode code 319 = .ok (.bipush 32, 2) := by decide +kernel
theorem zu_321 : decode code 321 = .ok (.lshl, 1) := by decide +kernel
theorem zu_322 : decode code 322 = .ok (.aload_n 0, 1) := by decide +kernel
theorem zu_323 : decode code 323 = .ok (.iload 4, 2) := by decide +kernel
theorem zu_325 : decode code 325 = .ok (.bipush 6, 2) := by decide +kernel
theorem zu_327 : decode code 327 = .ok (.iadd, 1) := by decide +kernel
theorem zu_328 : decode code 328 = .ok (.iaload, 1) := by decide +kernel
theorem zu_329 : decode code 329 = .ok (.i2l, 1) := by decide +kernel
theorem zu_330 : decode code 330 = .ok (.ldc2_w 19, 3) := by decide +kernel
theorem zu_333 : decode code 333 = .ok (.land, 1) := by decide +kernel
theorem zu_334 : decode code 334 = .ok (.lor, 1) := by decide +kernel
theorem zu_335 : decode code 335 = .ok (.invokevirtual 25, 3) := by decide +kernel
theorem zu_338 : decode code 338 = .ok (.if_icmp .eq 986, 3) := by decide +kernel
theorem zu_1324 : decode code 1324 = .ok (.iinc 4 7, 3) := by decide +kernel
theorem zu_1327 : decode code 1327 = .ok (.goto (-1304), 3) := by decide +kernel
theorem zul : Cond.constantLong "BeggarHeapsLaw" 19 4294967295 ∈ zAl := zmem_of 2246 (by decide +kernel) rfl
noncomputable def zlg (x y : Int32) : Int64 := (x.toInt64 <<< ((32 : Int32).toInt64 &&& 63)) ||| (y.toInt64 &&& 4294967295)
theorem zph0b : (match zrun zmt (zbdC (0, 0) []) 100 20 164 true zsl 196 23 zsl [] zbase 1000 200000 with
  | some (none, cs) => zcsB cs zbase
  | _ => false) = true := by decide +kernel
theorem zph0 : zrun zmt (zbdC (0, 0) []) 100 20 164 true zsl 196 23 zsl [] zbase 1000 200000 = some (none, zbase) := by
  have h := zph0b
  split at h
  · rename_i cs hq
    rw [hq, of_decide_eq_true h]
  · cases h
noncomputable def zfv0 : List Value := [.ref 1, .ref 4, .ref 11, .ref 18, .ref 22, .ref 26, .ref 29, .ref 45, .int 0, .int 0, .ref 46, .ref 47, .ref 48, .ref 51, .ref 60, .ref 71, .ref 76, .ref 78, .int 0]
noncomputable def zfv1 : List Value := [.ref 2, .ref 3, .int 0, .int 0, .int 0, .int 0, .int 0, .int 0, .int 0, .long 0]
noncomputable def zfv79 : List Value := [.int 0, .ref 80, .int 0, .int 0, .ref 81, .ref 82, .ref 83, .int 0, .int 0, .ref 84, .ref 85, .ref 86, .ref 87, .int 0, .ref 88, .ref 89, .int 0, .ref 90, .ref 91, .ref 92, .ref 93, .ref 94, .ref 95, .int 0, .ref 96, .int (-1), .int 0, .ref 97, .ref 98, .ref 99, .ref 100, .ref 101, .ref 102, .ref 103, .ref 104, .int 0, .int 0, .int 0, .int 0, .int 0, .ref 105, .int 0, .ref 106, .ref 107, .int 0, .int 0, .ref 108, .ref 109, .int 0, .int 0, .int 0, .int 0, .ref 110, .ref 111, .int 0, .long 0]
theorem zf5_0 : zn zbase 0 = some (.inl (11, zfv0)) := rfl
theorem zf5_1 : zn zbase 1 = some (.inl (10, zfv1)) := rfl
theorem zf5_2 : zn zbase 2 = some (.inr (3, 1000, [])) := rfl
theorem zf5_79 : zn zbase 79 = some (.inl (12, zfv79)) := rfl
theorem zf5_80 : zn zbase 80 = some (.inr (0, 1000, [])) := rfl
theorem zfm {α β : Type} {is : List α} {f : α → Option β} {ws : List β} (h : is.map f = ws.map some) : is.filterMap f = ws := by
  have h1 : (is.map f).filterMap id = (ws.map some).filterMap id := by rw [h]
  simpa [List.filterMap_map] using h1
/-- the cells that feeding works on -/
noncomputable abbrev zW5 (cA : Nat → ClassId) (xs : Nat → Int32) (ad : Nat → Nat) : va_W := [(ad 0, .inr (11, zfv0.map (zc (zrh xs) ad))), (ad 1, .inr (10, zfv1.map (zc (zrh xs) ad))), (ad 2, .inl (cA 3, 1000, .inl (fun _ => 0))), (ad 79, .inr (12, zfv79.map (zc (zrh xs) ad))), (ad 80, .inl (cA 0, 1000, .inl (fun _ => 0)))]
theorem zf5 {cA : Nat → ClassId} {xs : Nat → Int32} {ad : Nat → Nat} : [0, 1, 2, 79, 80].map (fun i => (zW cA (zrh xs) ad zbase)[i]?) = (zW5 cA xs ad).map some := by
  show [(zW cA (zrh xs) ad zbase)[0]?, (zW cA (zrh xs) ad zbase)[1]?, (zW cA (zrh xs) ad zbase)[2]?, (zW cA (zrh xs) ad zbase)[79]?, (zW cA (zrh xs) ad zbase)[80]?] = _
  rw [zW_get zf5_0, zW_get zf5_1, zW_get zf5_2, zW_get zf5_79, zW_get zf5_80]
  rfl
variable {p : Program} {l : Launch} {e : Env} {s : State} {m : MethodId} {below : List Frame} {meth : Method} {c : Code} {b : Nat} {xs : Nat → Int32}
set_option maxHeartbeats 2000000 in
theorem zfL1 (C0 : lw_At p s m meth c b 7 xs) {ad : Nat → Nat} {H : Heap} {locs : List Loc} {mc ms : Nat} {ls : Array Slot} {Q : State → Prop} (hS : va_S (fun q => s.heap.size ≤ q) s.heap H locs) (hl : lv_has ls 7 [(4, .int 0), (3, .ref (ad 112)), (2, .ref (ad 79)), (1, .ref (ad 0)), (0, .ref b)]) (kk : W p l e room_1 s m #[Value.ref b] below meth c H locs mc ms Q (F0 m 264 ls [.long (zlg (xs 5) (xs 6)), .long (zlg (xs 3) (xs 4)), .long (zlg (xs 1) (xs 2)), .ref (ad 0)])) : W p l e room_1 s m #[Value.ref b] below meth c H locs mc ms Q (F0 m 196 ls []) := by
  obtain ⟨hx, hb, hr, hml, hown, hts, hX, hbl, hlocks, hgv, hname⟩ := C0
  have hAl : ∀ w ∈ zAl, w.before #[Value.ref b] s = true := fun w hw => hts w (List.mem_filter.mp hw).1
  have hbA : ¬ (fun q : Nat => s.heap.size ≤ q) b := Nat.not_le.mpr hbl
  refine lv_aload_n hx hb zu_196 rfl (lv_at hl 3 rfl) ?_
  refine lv_aload_n hx hb zu_197 rfl (lv_at hl 4 rfl) ?_
  refine lv_iload hx hb zu_198 (lv_at hl 0 rfl) ?_
  refine lv_iconst (v := 1) hx hb zu_200 (by decide) ?_
  refine lv_iadd hx hb zu_201 ?_
  refine va_sld hx hb hX hbl hbA hS (show ¬ (_ ∨ _) by decide) zu_202 ?_
  refine lv_i2l hx hb zu_203 rfl ?_
  refine lv_bipush (v := 32) hx hb zu_204 (by decide) ?_
  refine lv_lshl hx hb zu_206 rfl ?_
  refine lv_aload_n hx hb zu_207 rfl (lv_at hl 4 rfl) ?_
  refine lv_iload hx hb zu_208 (lv_at hl 0 rfl) ?_
  refine lv_iconst (v := 2) hx hb zu_210 (by decide) ?_
  refine lv_iadd hx hb zu_211 ?_
  refine va_sld hx hb hX hbl hbA hS (show ¬ (_ ∨ _) by decide) zu_212 ?_
  refine lv_i2l hx hb zu_213 rfl ?_
  refine lv_ldc2 hx hb hown (hAl _ zul) zu_214 ?_
  refine lv_land hx hb zu_217 ?_
  refine lv_lor hx hb zu_218 ?_
  refine lv_aload_n hx hb zu_219 rfl (lv_at hl 4 rfl) ?_
  refine lv_iload hx hb zu_220 (lv_at hl 0 rfl) ?_
  refine lv_iconst (v := 3) hx hb zu_222 (by decide) ?_
  refine lv_iadd hx hb zu_223 ?_
  refine va_sld hx hb hX hbl hbA hS (show ¬ (_ ∨ _) by decide) zu_224 ?_
  refine lv_i2l hx hb zu_225 rfl ?_
  refine lv_bipush (v := 32) hx hb zu_226 (by decide) ?_
  refine lv_lshl hx hb zu_228 rfl ?_
  refine lv_aload_n hx hb zu_229 rfl (lv_at hl 4 rfl) ?_
  refine lv_iload hx hb zu_230 (lv_at hl 0 rfl) ?_
  refine lv_iconst (v := 4) hx hb zu_232 (by decide) ?_
  refine lv_iadd hx hb zu_233 ?_
  refine va_sld hx hb hX hbl hbA hS (show ¬ (_ ∨ _) by decide) zu_234 ?_
  refine lv_i2l hx hb zu_235 rfl ?_
  refine lv_ldc2 hx hb hown (hAl _ zul) zu_236 ?_
  refine lv_land hx hb zu_239 ?_
  refine lv_lor hx hb zu_240 ?_
  refine lv_aload_n hx hb zu_241 rfl (lv_at hl 4 rfl) ?_
  refine lv_iload hx hb zu_242 (lv_at hl 0 rfl) ?_
  refine lv_iconst (v := 5) hx hb zu_244 (by decide) ?_
  refine lv_iadd hx hb zu_245 ?_
  refine va_sld hx hb hX hbl hbA hS (show ¬ (_ ∨ _) by decide) zu_246 ?_
  refine lv_i2l hx hb zu_247 rfl ?_
  refine lv_bipush (v := 32) hx hb zu_248 (by decide) ?_
  refine lv_lshl hx hb zu_250 rfl ?_
  refine lv_aload_n hx hb zu_251 rfl (lv_at hl 4 rfl) ?_
  refine lv_iload hx hb zu_252 (lv_at hl 0 rfl) ?_
  refine lv_bipush (v := 6) hx hb zu_254 (by decide) ?_
  refine lv_iadd hx hb zu_256 ?_
  refine va_sld hx hb hX hbl hbA hS (show ¬ (_ ∨ _) by decide) zu_257 ?_
  refine lv_i2l hx hb zu_258 rfl ?_
  refine lv_ldc2 hx hb hown (hAl _ zul) zu_259 ?_
  refine lv_land hx hb zu_262 ?_
  refine lv_lor hx hb zu_263 ?_
  exact kk
set_option maxHeartbeats 2000000 in
theorem zfL2 (C0 : lw_At p s m meth c b 7 xs) {ad : Nat → Nat} {H : Heap} {locs : List Loc} {mc ms : Nat} {ls : Array Slot} {Q : State → Prop} (hS : va_S (fun q => s.heap.size ≤ q) s.heap H locs) (hl : lv_has ls 7 [(4, .int 0), (3, .ref (ad 112)), (2, .ref (ad 79)), (1, .ref (ad 0)), (0, .ref b)]) {r1 : Int32} (kk : W p l e room_1 s m #[Value.ref b] below meth c H locs mc ms Q (F0 m 335 ls [.long (zlg (xs 5) (xs 6)), .long (zlg (xs 3) (xs 4)), .long (zlg (xs 1) (xs 2)), .ref (ad 79), .int r1])) : W p l e room_1 s m #[Value.ref b] below meth c H locs mc ms Q (F0 m 267 ls [.int r1]) := by
  obtain ⟨hx, hb, hr, hml, hown, hts, hX, hbl, hlocks, hgv, hname⟩ := C0
  have hAl : ∀ w ∈ zAl, w.before #[Value.ref b] s = true := fun w hw => hts w (List.mem_filter.mp hw).1
  have hbA : ¬ (fun q : Nat => s.heap.size ≤ q) b := Nat.not_le.mpr hbl
  refine lv_aload_n hx hb zu_267 rfl (lv_at hl 2 rfl) ?_
  refine lv_aload_n hx hb zu_268 rfl (lv_at hl 4 rfl) ?_
  refine lv_iload hx hb zu_269 (lv_at hl 0 rfl) ?_
  refine lv_iconst (v := 1) hx hb zu_271 (by decide) ?_
  refine lv_iadd hx hb zu_272 ?_
  refine va_sld hx hb hX hbl hbA hS (show ¬ (_ ∨ _) by decide) zu_273 ?_
  refine lv_i2l hx hb zu_274 rfl ?_
  refine lv_bipush (v := 32) hx hb zu_275 (by decide) ?_
  refine lv_lshl hx hb zu_277 rfl ?_
  refine lv_aload_n hx hb zu_278 rfl (lv_at hl 4 rfl) ?_
  refine lv_iload hx hb zu_279 (lv_at hl 0 rfl) ?_
  refine lv_iconst (v := 2) hx hb zu_281 (by decide) ?_
  refine lv_iadd hx hb zu_282 ?_
  refine va_sld hx hb hX hbl hbA hS (show ¬ (_ ∨ _) by decide) zu_283 ?_
  refine lv_i2l hx hb zu_284 rfl ?_
  refine lv_ldc2 hx hb hown (hAl _ zul) zu_285 ?_
  refine lv_land hx hb zu_288 ?_
  refine lv_lor hx hb zu_289 ?_
  refine lv_aload_n hx hb zu_290 rfl (lv_at hl 4 rfl) ?_
  refine lv_iload hx hb zu_291 (lv_at hl 0 rfl) ?_
  refine lv_iconst (v := 3) hx hb zu_293 (by decide) ?_
  refine lv_iadd hx hb zu_294 ?_
  refine va_sld hx hb hX hbl hbA hS (show ¬ (_ ∨ _) by decide) zu_295 ?_
  refine lv_i2l hx hb zu_296 rfl ?_
  refine lv_bipush (v := 32) hx hb zu_297 (by decide) ?_
  refine lv_lshl hx hb zu_299 rfl ?_
  refine lv_aload_n hx hb zu_300 rfl (lv_at hl 4 rfl) ?_
  refine lv_iload hx hb zu_301 (lv_at hl 0 rfl) ?_
  refine lv_iconst (v := 4) hx hb zu_303 (by decide) ?_
  refine lv_iadd hx hb zu_304 ?_
  refine va_sld hx hb hX hbl hbA hS (show ¬ (_ ∨ _) by decide) zu_305 ?_
  refine lv_i2l hx hb zu_306 rfl ?_
  refine lv_ldc2 hx hb hown (hAl _ zul) zu_307 ?_
  refine lv_land hx hb zu_310 ?_
  refine lv_lor hx hb zu_311 ?_
  refine lv_aload_n hx hb zu_312 rfl (lv_at hl 4 rfl) ?_
  refine lv_iload hx hb zu_313 (lv_at hl 0 rfl) ?_
  refine lv_iconst (v := 5) hx hb zu_315 (by decide) ?_
  refine lv_iadd hx hb zu_316 ?_
  refine va_sld hx hb hX hbl hbA hS (show ¬ (_ ∨ _) by decide) zu_317 ?_
  refine lv_i2l hx hb zu_318 rfl ?_
  refine lv_bipush (v := 32) hx hb zu_319 (by decide) ?_
  refine lv_lshl hx hb zu_321 rfl ?_
  refine lv_aload_n hx hb zu_322 rfl (lv_at hl 4 rfl) ?_
  refine lv_iload hx hb zu_323 (lv_at hl 0 rfl) ?_
  refine lv_bipush (v := 6) hx hb zu_325 (by decide) ?_
  refine lv_iadd hx hb zu_327 ?_
  refine va_sld hx hb hX hbl hbA hS (show ¬ (_ ∨ _) by decide) zu_328 ?_
  refine lv_i2l hx hb zu_329 rfl ?_
  refine lv_ldc2 hx hb hown (hAl _ zul) zu_330 ?_
  refine lv_land hx hb zu_333 ?_
  refine lv_lor hx hb zu_334 ?_
  exact kk
set_option maxHeartbeats 2000000 in
theorem zfL3 (C0 : lw_At p s m meth c b 7 xs) {ad : Nat → Nat} {H : Heap} {locs : List Loc} {mc ms : Nat} {ls : Array Slot} (hS : va_S (fun q => s.heap.size ≤ q) s.heap H locs) (hl : lv_has ls 7 [(4, .int 0), (3, .ref (ad 112)), (2, .ref (ad 79)), (1, .ref (ad 0)), (0, .ref b)]) {r : Int32} (hmc : mc ≤ 600002) (hms : ms ≤ 7302232) : W p l e room_1 s m #[Value.ref b] below meth c H locs mc ms (lw_Z below #[Value.ref b] s) (F0 m 338 ls [.int r, .int r]) := by
  obtain ⟨hx, hb, hr, hml, hown, hts, hX, hbl, hlocks, hgv, hname⟩ := C0
  have hAl : ∀ w ∈ zAl, w.before #[Value.ref b] s = true := fun w hw => hts w (List.mem_filter.mp hw).1
  have hbA : ¬ (fun q : Nat => s.heap.size ≤ q) b := Nat.not_le.mpr hbl
  refine lv_icmp_eq (tgt := 1324) hx hb zu_338 (by decide) (fun _ => ?_) (fun h => absurd rfl h)
  refine lv_iinc (v := 7) (lv' := [(4, .int 7), (3, .ref (ad 112)), (2, .ref (ad 79)), (1, .ref (ad 0)), (0, .ref b)]) hx hb zu_1324 hl (k := 0) rfl (by decide) (by decide) rfl (fun ls hl => ?_)
  refine lv_goto (tgt := 23) hx hb zu_1327 (by decide) ?_
  refine lv_iload hx hb zw_23 (lv_at hl 0 rfl) ?_
  refine lv_aload_n hx hb zw_25 rfl (lv_at hl 4 rfl) ?_
  refine va_slen hx hb hX hbl hbA hS zw_26 ?_
  refine lv_bipush (v := 7) hx hb zw_27 (by decide) ?_
  refine lv_isub hx hb zw_29 ?_
  refine lv_icmp_gt (tgt := 1330) hx hb zw_30 (by decide) (fun _ => ?_) (fun h => absurd (by decide) h)
  refine lv_iconst (v := 1) hx hb zw_1330 (by decide) ?_
  refine va_forget (fun z hz => hS.2.2 z hz) ?_
  refine W.widen (k := 600002) (n := 7302232) hmc hms ?_
  exact lw_ret hx hb hr hlocks zw_1331
set_option maxHeartbeats 2000000 in
theorem zfeed1 (l : Launch) (C0 : lw_At p s m meth c b 7 xs) {D : va_G} {cA : Nat → ClassId} (hZX : ZX D cA s) {ad : Nat → Nat} (hb1 : ad 1000001 = b) {H : Heap} {locs : List Loc} {mc ms : Nat} {ls : Array Slot} (hmc : mc ≤ 1000) (hms : ms ≤ 200000) (hP : va_P D zcl (zW cA (zrh xs) ad zbase) H) (hD : va_D (fun q => s.heap.size ≤ q) (zW cA (zrh xs) ad zbase)) (hS : va_S (fun q => s.heap.size ≤ q) s.heap H locs) (hl : lv_has ls 7 (zL (zrh xs) ad zsl)) :
    W p l e room_1 s m #[Value.ref b] below meth c H locs mc ms (lw_Z below #[Value.ref b] s) (F0 m 196 ls []) := by
  have C1 := C0
  obtain ⟨hx, hb, hr, hml, hown, hts, hX, hbl, hlocks, hgv, hname⟩ := C0
  have hAl : ∀ w ∈ zAl, w.before #[Value.ref b] s = true := fun w hw => hts w (List.mem_filter.mp hw).1
  have hK := hZX.1
  have hA : ∀ q : Nat, s.heap.size ≤ q → (fun q : Nat => s.heap.size ≤ q) q := fun _ h => h
  have hl : lv_has ls 7 [(4, .int 0), (3, .ref (ad 112)), (2, .ref (ad 79)), (1, .ref (ad 0)), (0, .ref (ad 1000001))] := hl
  rw [hb1] at hl
  have hmc' : mc + 0 ≤ room_1.cells := by show mc + 0 ≤ 600002; omega
  have hms' : ms + 0 ≤ room_1.slots := by show ms + 0 ≤ 7302232; omega
  have hP : va_P D zcl (zW5 cA xs ad) H := hP.sub [0, 1, 2, 79, 80] (zfm zf5)
  have hD : va_D (fun q : Nat => s.heap.size ≤ q) (zW5 cA xs ad) := hD.sub [0, 1, 2, 79, 80] (by decide) zf5
  refine zfL1 C1 hS hl ?_
  have hPc : va_P D zcl [(ad 0, .inr (11, zfv0.map (zc (zrh xs) ad))), (ad 1, .inr (10, zfv1.map (zc (zrh xs) ad))), (ad 2, .inl (cA 3, 1000, .inl (fun _ => 0)))] H := hP.sub [0, 1, 2] rfl
  have hDc : va_D _ [(ad 0, .inr (11, zfv0.map (zc (zrh xs) ad))), (ad 1, .inr (10, zfv1.map (zc (zrh xs) ad))), (ad 2, .inl (cA 3, 1000, .inl (fun _ => 0)))] := hD.sub [0, 1, 2] (by decide) rfl
  have hFc := va_free (wc := [(ad 0, .inr (11, zfv0.map (zc (zrh xs) ad))), (ad 1, .inr (10, zfv1.map (zc (zrh xs) ad))), (ad 2, .inl (cA 3, 1000, .inl (fun _ => 0)))]) hD hS hA [0, 1, 2] rfl
  refine va_calli (va_runV (As := [.long (zlg (xs 1) (xs 2)), .long (zlg (xs 3) (xs 4)), .long (zlg (xs 5) (xs 6))]) (rest := []) ⟨hx, hb, hml, hown, hAl⟩ (zc_feedC l D cA (ad 0) (ad 1) (ad 2) _ (zfv0.map (zc (zrh xs) ad)) (zfv1.map (zc (zrh xs) ad)) (fun _ => 0) _ _ _ rfl rfl rfl rfl rfl) ⟨callB_of 3 hAl (zgoodIn zAl_good zfc_f) rfl rfl rfl (hAl _ zfi_f) (hAl _ zfk_f) (by decide +kernel) ⟨Nat.le_of_ble_eq_true rfl, Nat.le_of_ble_eq_true rfl⟩, hAl _ zfn_f, hAl _ zfs_f⟩ ⟨fun a U g mk q => by obtain ⟨q0, q1, qP, qK, qD⟩ := q; exact ⟨q0, q1, qP, va_K.moved (u := U) (U := U.calling g mk a) (Vm.Alike.refl U.vm) qK, qD⟩, va_recv hK hPc (ci := 11) (q0 := 0) rfl rfl, fun U hU hW => ⟨rfl, by rw [hU], by rw [hU]; exact hPc, va_K.moved hW.alike hK, hDc.weaken (fun _ _ _ _ => trivial)⟩⟩ rfl rfl hl.1 rfl (lv_room (Nat.le_of_ble_eq_true rfl)) zu_264 ⟨hmc', hms'⟩) hS (fun q _ h => hFc q h) hFc (fun r1 u1 t1 H1 locs1 ht1 hvm1 hw1 hB1 hz1 hk1 hS => ?_)
  obtain ⟨hP, hD⟩ := va_join (wr := [(ad 79, .inr (12, zfv79.map (zc (zrh xs) ad))), (ad 80, .inl (cA 0, 1000, .inl (fun _ => 0)))]) (w1 := []) hP hD [0, 1, 2] [3, 4] rfl rfl (by decide) (by decide) hk1 hFc (fun k q h => by simp at h) ⟨fun i j p q h => by simp at h, fun k q h => by simp at h⟩
  have hP : va_P D zcl [(ad 79, .inr (12, zfv79.map (zc (zrh xs) ad))), (ad 80, .inl (cA 0, 1000, .inl (fun _ => 0)))] H1 := hP
  have hD : va_D (fun q : Nat => s.heap.size ≤ q) [(ad 79, .inr (12, zfv79.map (zc (zrh xs) ad))), (ad 80, .inl (cA 0, 1000, .inl (fun _ => 0)))] := hD
  refine zfL2 C1 hS hl ?_
  have hPc : va_P D zcl [(ad 79, .inr (12, zfv79.map (zc (zrh xs) ad))), (ad 80, .inl (cA 0, 1000, .inl (fun _ => 0)))] H1 := hP
  have hDc : va_D _ [(ad 79, .inr (12, zfv79.map (zc (zrh xs) ad))), (ad 80, .inl (cA 0, 1000, .inl (fun _ => 0)))] := hD
  have hFc := va_free (wc := [(ad 79, .inr (12, zfv79.map (zc (zrh xs) ad))), (ad 80, .inl (cA 0, 1000, .inl (fun _ => 0)))]) hD hS hA [0, 1] rfl
  refine va_calli (va_runV (As := [.long (zlg (xs 1) (xs 2)), .long (zlg (xs 3) (xs 4)), .long (zlg (xs 5) (xs 6))]) (rest := [.int r1]) ⟨hx, hb, hml, hown, hAl⟩ (zc_feedM l D cA (ad 79) (ad 80) _ (zfv79.map (zc (zrh xs) ad)) (fun _ => 0) _ _ _ rfl rfl rfl) ⟨callB_of 3 hAl (zgoodIn zAl_good zfc_m) rfl rfl rfl (hAl _ zfi_m) (hAl _ zfk_m) (by decide +kernel) ⟨Nat.le_of_ble_eq_true rfl, Nat.le_of_ble_eq_true rfl⟩, hAl _ zfn_m, hAl _ zfs_m⟩ ⟨fun a U g mk q => by obtain ⟨q0, q1, qP, qK, qD⟩ := q; exact ⟨q0, q1, qP, va_K.moved (u := U) (U := U.calling g mk a) (Vm.Alike.refl U.vm) qK, qD⟩, va_recv hK hPc (ci := 12) (q0 := 0) rfl rfl, fun U hU hW => ⟨rfl, by rw [hU], by rw [hU]; exact hPc, va_K.moved hW.alike hK, hDc.weaken (fun _ _ _ _ => trivial)⟩⟩ rfl rfl hl.1 rfl (lv_room (Nat.le_of_ble_eq_true rfl)) zu_335 ⟨hmc', hms'⟩) hS (fun q _ h => hFc q h) hFc (fun r2 u2 t2 H2 locs2 ht2 hvm2 hw2 hB2 hz2 hk2 hS => ?_)
  have er : r1 = r2 := by rw [hw1, hw2, zcnt_eq _ 8 (Nat.le_refl _), zcnt_eq _ 8 (Nat.le_refl _), zcnt_eq _ 8 (Nat.le_refl _)]
  subst er
  exact zfL3 C1 hS hl (by omega) (by omega)
set_option maxHeartbeats 2000000 in
theorem zfeed {ZS : (Nat → Prop) → State → Nat → Prop} (hZ : zZS ZS) (l : Launch) (hJ : zJ l zAl ZS) (C0 : lw_At p s m meth c b 7 xs) {D : va_G} {cA : Nat → ClassId} (hO : ∀ bd, zJO l zAl zmt bd (zrh xs) ZS D cA) (hZX : ZX D cA s) {ad : Nat → Nat} (hZS : ZS (fun q => s.heap.size ≤ q) s (ad 1000000)) (h0 : xs 0 &&& 63 = 0) (hb1 : ad 1000001 = b) {H : Heap} {locs : List Loc} {mc ms : Nat} {ls : Array Slot} (hmc : mc ≤ 1000) (hms : ms ≤ 200000) (hP : va_P D zcl (zW cA (zrh xs) ad zbase) H) (hD : va_D (fun q => s.heap.size ≤ q) (zW cA (zrh xs) ad zbase)) (hS : va_S (fun q => s.heap.size ≤ q) s.heap H locs) (hl : lv_has ls 7 (zL (zrh xs) ad zsl)) :
    W p l e room_1 s m #[Value.ref b] below meth c H locs mc ms (lw_Z below #[Value.ref b] s) (F0 m 23 ls []) := by
  have hfr := zFrL C0 hZX hZS hb1 (bd := zbdC (0, 0) []) (fun _ => rfl)
  have hE : zEnv (zbdC (0, 0) []) (zrh xs) := by
    intro k
    unfold zbdC
    cases h1 : Nat.beq k 7 with
    | true =>
      rw [cond_true, Nat.eq_of_beq_eq_true h1]
      show 0 ≤ (xs 0 &&& 63).toInt ∧ (xs 0 &&& 63).toInt ≤ 0
      rw [h0]
      exact ⟨Int.le_refl _, Int.le_refl _⟩
    | false =>
      rw [cond_false]
      cases h2 : Nat.beq k 20 with
      | true => rw [cond_true, Nat.eq_of_beq_eq_true h2]; exact ⟨Int.le_refl _, Int.le_refl _⟩
      | false => rw [cond_false]; exact z_rng _
  refine W.widen hmc hms ?_
  refine z_snd zAl_good zcw_ok zAl0_ok hZ hJ (hO _) (fun i => (zok i).2) (fun i => (zok i).1) hE (zrh_2 xs) 100 20 164 true zsl 196 23 zsl [] zbase 1000 200000 none zbase zph0 p e room_1 s m #[Value.ref b] below meth c H locs _ ad ls (fun q => s.heap.size ≤ q) hfr (by decide) (by decide) hP hD hS hl ?_
  intro ad' H' locs' ls' mc' ms' pc' loc' st' g1 g2 g3 g4 g5 g6
  rcases g6 with ⟨-, rfl, rfl, rfl, -, k1, k2⟩ | ⟨v, -, hv, -⟩ | ⟨-, -, -, -, -, z⟩
  · exact zfeed1 l C0 hZX ((g1 _ (Or.inr (by decide))).trans hb1) k1 k2 g2 g3 g4 g5
  · cases hv
  · rw [zmtL] at z
    cases z
end ZFL
end
section
section VXA
/-! The laws vx_back, vx_callV, vx_callS, vx_callSW, vx_throw0, vx_throwS follow proofs of the library, with one case more: JvmDerived/Free/Laws.lean (Back.of_free), Shelf42/LK1.lean (callV, callS), Shelf/KitTraced.lean (throwNew0V, throwNewS). -/
/-- where a method has thrown q: the class by its name, the cell, what was written, the world -/
def vx_T (XC : String → State → State → Prop) (st : State) (q : Addr) (t : State) (mc ms : Nat) (free : Addr → Prop) : Prop :=
  ∃ (E : String) (ce : Cell) (L : List Loc), XC E st t ∧ t.heap[q]? = some ce ∧ ce.vm = .none ∧ st.vm.findClass E = some ce.cls ∧ st.WarmedH t.vm ∧ st.sameButNew ({ t with vm := st.vm } : State) L mc ms ∧ ∀ z ∈ L, free z.base
def vx_Q (Qc : Array Value → State → Outcome → State → Prop) (XC : String → State → State → Prop) (mc ms : Nat) (free : Addr → Prop) : Array Value → State → Outcome → State → Prop := fun a st o t =>
  (Qc a st o t ∧ ∃ L, FrameEnd st o t L mc ms ∧ ∀ q ∈ L, free q.base) ∨ ∃ q, o = .threw q ∧ vx_T XC st q t mc ms free
/-- a callee that returns or throws -/
def vx_Met (l : Launch) (y : MethodName) (ws : List Cond) (rm : Room) (Pc : Array Value → State → Prop) (Qc : Array Value → State → Outcome → State → Prop) (XC : String → State → State → Prop) (mc ms : Nat) (free : Addr → Prop) : Prop :=
  MetFree l y (headSpec ws rm) Pc (fun _ _ _ _ _ => True) (vx_Q Qc XC mc ms free)
def vx_Post (XC : String → State → State → Prop) (mc ms : Nat) (free : Addr → Prop) : Pt → Array Value → Addr → Pt → Prop := fun A a q B =>
  ∃ (g : JFrame) (mk : MethodId) (t : State) (L : List Loc) (E : String) (ce : Cell), B.U.heap = t.heap ∧ B.U.vm = t.vm ∧ XC E (A.U.calling g mk a) t ∧ t.heap[q]? = some ce ∧ ce.vm = .none ∧ A.U.vm.findClass E = some ce.cls ∧ B.locs = A.locs ++ L ∧ (∀ z ∈ L, free z.base) ∧ B.cells = A.cells + mc ∧ B.slots = A.slots + ms
def vx_Back (l : Launch) (R : Room) (p : Program) (e : Env) (below : List Frame) (s : State) (sargs : Array Value) (y : MethodName) (len W9 : Nat)
    (Pre : Pt → Array Value → Prop) (Post : Pt → Array Value → Option Value → Pt → Prop) (PostX : Pt → Array Value → Addr → Pt → Prop) : Prop :=
  ∀ (m : MethodId) (meth : Method) (c : Code) (A : Pt) (g : JFrame) (ig : Instr) (mk : MethodId) (a : Array Value),
    Stand p l e R s m sargs below meth c A.U A.locs A.cells A.slots → g.method = m → g.locals.size = c.maxLocals → decode c.code g.pc = .ok (ig, len) →
    2 * g.monitorRoom + (g.stack.map fun v => v.category).sum ≤ W9 → A.U.methodNamed? y = some mk → Pre A a →
    (∃ (v : Option Value) (B : Pt), Stand p l e R s m sargs below meth c B.U B.locs B.cells B.slots ∧ Post A a v B ∧
      Steps p.tables e below (doInvoke e (A.U.setTop g) [] mk a).1 (B.U.setTop { g with pc := g.pc + len, stack := v.toList ++ g.stack })) ∨
    (∃ (q : Addr) (B : Pt), Stand p l e R s m sargs below meth c B.U B.locs B.cells B.slots ∧ PostX A a q B ∧
      Steps p.tables e below (doInvoke e (A.U.setTop g) [] mk a).1 ((B.U.setTop g).pushFrame (.throwing q)))
section Payer
variable {l : Launch} {R : Room} {p : Program} {e : Env} {below : List Frame} {s : State} {sargs : Array Value} {y : MethodName} {len W9 : Nat}
theorem vx_back {ws : List Cond} {rm : Room} {Pc : Array Value → State → Prop} {Qc : Array Value → State → Outcome → State → Prop} {XC : String → State → State → Prop} {mc ms : Nat} {free : Addr → Prop} {bytes : ByteArray} {maxL : Nat} {ret : Option FieldType}
    (hM : vx_Met l y ws rm Pc Qc XC mc ms free) (hblind : FrameBlind Pc) (hrc : rm.cells = mc) (hrs : rm.slots = ms)
    (hframes : rm.frames + 1 ≤ R.frames) (hlocals : W9 + (maxL + 11) + rm.locals ≤ R.locals)
    (hws : ∀ w ∈ ws, ∀ a' U, s.WarmedH U.vm → w.before a' U = true) (hcode : Cond.code y bytes maxL ret ∈ ws) (hinit : ∀ a' U, s.WarmedH U.vm → (Cond.initialized y.cls).before a' U = true) :
    vx_Back l R p e below s sargs y len W9 (PreOf R mc ms Pc) (PostOf Qc mc ms free) (vx_Post XC mc ms free) := by
  intro m meth c A g ig mk a X hg hsize hdg hW hn hp
  have h1 : (headSpec ws rm).pre.before a A.U = true := atoms_intro fun w hw => hws w hw _ _ X.warmed
  have h2 : (Cond.code y bytes maxL ret).before a A.U = true := hws _ hcode _ _ X.warmed
  have h3 : (Cond.initialized y.cls).before a A.U = true := hinit _ _ X.warmed
  have h4 : A.cells + (headSpec ws rm).room.cells ≤ R.cells := by rw [show (headSpec ws rm).room.cells = mc from hrc]; exact hp.1
  have h5 : A.slots + (headSpec ws rm).room.slots ≤ R.slots := by rw [show (headSpec ws rm).room.slots = ms from hrs]; exact hp.2.1
  have hPc : Pc a (A.U.calling g mk a) := hblind _ _ _ _ hp.2.2
  obtain ⟨U, Ls, c0, s0⟩ := A
  dsimp only [Pt.U, Pt.locs, Pt.cells, Pt.slots] at h1 h2 h3 h4 h5 X hn hPc ⊢
  obtain ⟨methY, cY, hmY, hcY, -, hlY, -, -, -, -⟩ := Cond.code_spec hn h2
  obtain ⟨kY, hkY, -⟩ := className_of_methodNamed hn
  have hinitY : kY.init = .initialized := Cond.initialized_spec (findClass_of_methodNamed hn) hkY h3
  have h : At U g.method c below := by rw [hg]; exact X.here
  have hlocals9 : W9 + (maxL + 11) + (headSpec ws rm).room.locals ≤ R.locals := hlocals
  have happ : (headSpec ws rm).appliesLoose y e.platform (U.calling g mk a) = true :=
    Spec.appliesLoose_calling (g := g) h hdg hn hkY hinitY
      (X.room_calling (g := g) (R' := (headSpec ws rm).room) hsize hmY hcY hframes (by rw [hlY]; omega) h4 h5) h1
  obtain ⟨mid, hmid⟩ := h.above
  have hfr : (U.setTop g).frames = (.java g :: mid) ++ below := by rw [State.frames_setTop' g h.top, hmid]; rfl
  obtain ⟨o, s₂, hsteps, -, hend, hq⟩ := Steps.callFree hM p X.admits X.cas X.clock (acts := []) hfr happ hPc trivial
  have hq' : vx_Q Qc XC mc ms free a (U.calling g mk a) o s₂ := hq
  rw [State.frames_setTop' g h.top] at hend
  obtain ⟨g₀, hg0⟩ := Option.isSome_iff_exists.mp h.top
  obtain ⟨r, hr⟩ := State.topJava?_eq_some.mp hg0
  have hr' : (({ U with heap := s₂.heap, slotsUsed := s₂.slotsUsed } : State).setVm s₂.vm).frames = .java g₀ :: r := hr
  rcases hq' with ⟨hqc, L, hfe, hL⟩ | ⟨q, rfl, E, ce, L, hx, hce, hcv, hcl, hW₂, hsm, hL⟩
  · obtain ⟨⟨v, rfl⟩, hW₂, e2, q2, q3, q4, q5, q6⟩ := id hfe
    have e3 : s₂ = ({ (U.calling g mk a).setFrames s₂.frames with heap := s₂.heap, slotsUsed := s₂.slotsUsed } : State).setVm s₂.vm := by
      have : s₂ = ({ s₂ with vm := (U.calling g mk a).vm } : State).setVm s₂.vm := rfl
      rw [e2] at this
      exact this
    obtain ⟨c₂, i₂, len₂, hc₂, hd₂, hf₂⟩ := hend
    have hW' : U.WarmedH s₂.vm := hW₂
    have hcc : c₂ = c := by
      have h1 : s₂.code? g.method = U.code? g.method := by
        rw [State.code?_eq, State.code?_eq, hW'.alike.method?]
      exact Option.some.inj (hc₂.symm.trans (h1.trans h.code))
    subst hcc
    have hlen : len₂ = len := by rw [hdg] at hd₂; cases hd₂; rfl
    subst hlen
    have hs₂ : s₂ = (({ U with heap := s₂.heap, slotsUsed := s₂.slotsUsed } : State).setVm s₂.vm).setTop { g with pc := g.pc + len₂, stack := v.toList ++ g.stack } := by
      refine e3.trans ?_
      rw [hf₂, State.calling_eq h.top, State.setFrames_setFrames, State.setTop_of_frames _ hr', hr]
      rfl
    have hsame : U.sameButNew ({ U with heap := s₂.heap, slotsUsed := s₂.slotsUsed } : State) L mc ms := by
      refine ⟨?_, q2, q3, q4, q5, q6⟩
      obtain ⟨t, ht, -⟩ := State.frames_cons hr
      show ({ U with heap := s₂.heap, slotsUsed := s₂.slotsUsed } : State) = { U.setFrames U.frames with heap := s₂.heap, slotsUsed := s₂.slotsUsed }
      rw [State.setFrames_self ht]
    subst hg
    refine Or.inl ⟨v, ⟨(({ U with heap := s₂.heap, slotsUsed := s₂.slotsUsed } : State).setVm s₂.vm), Ls ++ L, c0 + mc, s0 + ms⟩,
      ⟨X.admits, X.cas, X.clock, X.frames, X.room, X.hears, X.method, X.code, (X.here.setHeapUsed s₂.heap s₂.slotsUsed).setVm hW'.alike, X.tail, State.WarmedH.trans X.warmed hW', X.limits, X.bytes, X.same.trans (hsame.setVm s.vm)⟩,
      ⟨g, mk, s₂, L, rfl, rfl, hqc, rfl, hL, rfl, rfl⟩, ?_⟩
    show Steps p.tables e below _ ((({ U with heap := s₂.heap, slotsUsed := s₂.slotsUsed } : State).setVm s₂.vm).setTop { g with pc := g.pc + len₂, stack := v.toList ++ g.stack })
    rw [← hs₂]
    exact hsteps
  · obtain ⟨e2, q2, q3, q4, q5, q6⟩ := id hsm
    have e3 : s₂ = ({ (U.calling g mk a).setFrames s₂.frames with heap := s₂.heap, slotsUsed := s₂.slotsUsed } : State).setVm s₂.vm := by
      have : s₂ = ({ s₂ with vm := (U.calling g mk a).vm } : State).setVm s₂.vm := rfl
      rw [e2] at this
      exact this
    have hf₂ : s₂.frames = .throwing q :: .java g :: U.frames.tail := hend
    have hW' : U.WarmedH s₂.vm := hW₂
    have hs₂ : s₂ = ((({ U with heap := s₂.heap, slotsUsed := s₂.slotsUsed } : State).setVm s₂.vm).setTop g).pushFrame (.throwing q) := by
      refine e3.trans ?_
      rw [hf₂, State.calling_eq h.top, State.setFrames_setFrames, State.pushFrame, State.frames_setTop _ hr', State.setTop_of_frames _ hr', State.setFrames_setFrames, hr]
      rfl
    have hsame : U.sameButNew ({ U with heap := s₂.heap, slotsUsed := s₂.slotsUsed } : State) L mc ms := by
      refine ⟨?_, q2, q3, q4, q5, q6⟩
      obtain ⟨t, ht, -⟩ := State.frames_cons hr
      show ({ U with heap := s₂.heap, slotsUsed := s₂.slotsUsed } : State) = { U.setFrames U.frames with heap := s₂.heap, slotsUsed := s₂.slotsUsed }
      rw [State.setFrames_self ht]
    subst hg
    refine Or.inr ⟨q, ⟨(({ U with heap := s₂.heap, slotsUsed := s₂.slotsUsed } : State).setVm s₂.vm), Ls ++ L, c0 + mc, s0 + ms⟩,
      ⟨X.admits, X.cas, X.clock, X.frames, X.room, X.hears, X.method, X.code, (X.here.setHeapUsed s₂.heap s₂.slotsUsed).setVm hW'.alike, X.tail, State.WarmedH.trans X.warmed hW', X.limits, X.bytes, X.same.trans (hsame.setVm s.vm)⟩,
      ⟨g, mk, s₂, L, E, ce, rfl, rfl, hx, hce, hcv, hcl, rfl, hL, rfl, rfl⟩, ?_⟩
    show Steps p.tables e below _ (((({ U with heap := s₂.heap, slotsUsed := s₂.slotsUsed } : State).setVm s₂.vm).setTop g).pushFrame (.throwing q))
    rw [← hs₂]
    exact hsteps
end Payer
section Calls
variable {p : Program} {l : Launch} {e : Env} {R : Room} {s : State} {m : MethodId} {args : Array Value} {below : List Frame} {meth : Method} {c : Code} {T : State} {locs : List Loc} {cells slots : Nat}
theorem vx_callV (X : Stand p l e R s m args below meth c T locs cells slots) (hexec : p.tables.exec = Jvm.exec) {own C : String} {index : Nat} {y : MethodName} {bytes : ByteArray} {maxL : Nat} {ret : Option FieldType}
    (hown : s.vm.findClass own = some m.cls) (hlink : (Cond.methodLink own index y).before args s = true) (hinst : (Cond.instanceMethod y).before args s = true) (hsel : (Cond.selects C y y).before args s = true)
    (hcode : (Cond.code y bytes maxL ret).before args s = true) (hy : y.cls ≠ "java/lang/invoke/MethodHandle" ∧ y.cls ≠ "java/lang/invoke/VarHandle")
    {W9 : Nat} {Pre : Pt → Array Value → Prop} {Post : Pt → Array Value → Option Value → Pt → Prop} {PostX : Pt → Array Value → Addr → Pt → Prop} (hK : vx_Back l R p e below s args y 3 W9 Pre Post PostX)
    {b : Addr} {cellB : Cell} (hcell : T.heap[b]? = some cellB) (hobj : cellB.vm.isStatics = false) (hcls : s.vm.findClass C = some cellB.cls)
    {g : JFrame} (hg : g.method = m) (hsize : g.locals.size = c.maxLocals) {argsL rest : List Value} (hlen : ∀ sig, parseMethodDescriptor y.desc = some sig → argsL.length = sig.parameters.length)
    (hstack : g.stack = argsL.reverse ++ .ref b :: rest) (hW : 2 * g.monitorRoom + (rest.map fun v => v.category).sum ≤ W9) (hdg : decode c.code g.pc = .ok (.invokevirtual index, 3))
    (hpre : ∀ vm₁, s.WarmedH vm₁ → Pre ⟨T.setVm vm₁, locs, cells, slots⟩ (Value.ref b :: argsL).toArray) :
    (∃ (v : Option Value) (vm₁ : Vm) (B : Pt), s.WarmedH vm₁ ∧ Stand p l e R s m args below meth c B.U B.locs B.cells B.slots ∧ Post ⟨T.setVm vm₁, locs, cells, slots⟩ (Value.ref b :: argsL).toArray v B ∧
      ∀ target, Steps p.tables e below (B.U.setTop { g with pc := g.pc + 3, stack := v.toList ++ rest }) target → Steps p.tables e below (T.setTop g) target) ∨
    (∃ (q : Addr) (vm₁ : Vm) (B : Pt), s.WarmedH vm₁ ∧ Stand p l e R s m args below meth c B.U B.locs B.cells B.slots ∧ PostX ⟨T.setVm vm₁, locs, cells, slots⟩ (Value.ref b :: argsL).toArray q B ∧
      Steps p.tables e below (T.setTop g) ((B.U.setTop { g with stack := rest }).pushFrame (.throwing q))) := by
  obtain ⟨mk, methM, hnamed, hmethM, hstM, habM⟩ := Cond.instanceMethod_spec hinst
  obtain ⟨methM', cM, hmethM', -, -, -, -, -, -, hsigM⟩ := Cond.code_spec hnamed hcode
  cases hmethM.symm.trans hmethM'
  obtain ⟨c2, r2, m2, q1, q2, q3, q4, kP, hkP, hkPi⟩ := Cond.selects_spec hsel
  cases hcls.symm.trans q1
  cases (State.methodFound?_of_named hnamed hy).symm.trans q2
  cases hnamed.symm.trans q3
  have hselP : selectMethod e.platform s.vm cellB.cls mk = .method mk := by rw [Launch.admits_selectMethod X.admits]; exact q4
  obtain ⟨vm₁, X₁, hstep₁⟩ := X.invokevirtual hexec hown hlink hnamed hmethM hstM hkP hkPi hy (a := b) (cell := cellB) hcell
    (fun z h => by rw [h] at hobj; cases hobj) hselP hmethM habM hkP hkPi (g := g) hg (argsL := argsL) (rest := rest) (hlen _ hsigM) hstack hdg
  rcases hK m meth c ⟨T.setVm vm₁, locs, cells, slots⟩ { g with stack := rest } (.invokevirtual index) mk (Value.ref b :: argsL).toArray X₁ hg hsize hdg hW (X₁.named hnamed) (hpre vm₁ X₁.warmed) with ⟨v, B, X', hpost, hsteps⟩ | ⟨q, B, X', hpost, hsteps⟩
  · exact Or.inl ⟨v, vm₁, B, X₁.warmed, X', hpost, fun target h => hstep₁ _ fun acts => by rw [doInvoke_state]; exact hsteps.trans h⟩
  · exact Or.inr ⟨q, vm₁, B, X₁.warmed, X', hpost, hstep₁ _ fun acts => by rw [doInvoke_state]; exact hsteps⟩
end Calls
theorem vx_cls {s : State} {T : State} {vm₁ : Vm} {E : String} {k : ClassId} (hW : s.WarmedH vm₁) (h : (T.setVm vm₁).vm.findClass E = some k) : s.vm.findClass E = some k := by
  have h1 : vm₁.findClass E = some k := h
  rw [hW.alike.findClass] at h1
  exact h1
/-- the method's frame g, with q thrown over it -/
def vx_W (p : Program) (l : Launch) (e : Env) (R : Room) (s : State) (m : MethodId) (args : Array Value) (below : List Frame) (meth : Method) (c : Code) (H : Heap) (locs : List Loc) (cells slots : Nat) (Q : State → Prop) (g : JFrame) (q : Addr) : Prop :=
  ∀ T : State, T.heap = H → Stand p l e R s m args below meth c T locs cells slots → ∃ t, Steps p.tables e below ((T.setTop g).pushFrame (.throwing q)) t ∧ Q t
def vx_Run (p : Program) (l : Launch) (e : Env) (R : Room) (s : State) (m : MethodId) (args : Array Value) (below : List Frame) (meth : Method) (c : Code) (H : Heap) (locs : List Loc) (cells slots mc ms : Nat) (g : JFrame) (rest : List Value) (Qa : State → Outcome → State → Prop) (XC : String → State → State → Prop) (free : Addr → Prop) : Prop :=
  ∀ T : State, T.heap = H → Stand p l e R s m args below meth c T locs cells slots →
    (∃ (v : Option Value) (st₀ t T' : State) (L : List Loc), st₀.heap = H ∧ Stand p l e R s m args below meth c T' (locs ++ L) (cells + mc) (slots + ms) ∧ (∀ q ∈ L, free q.base) ∧ T'.heap = t.heap ∧ T'.vm = t.vm ∧ Qa st₀ (.returned v) t ∧
      Goes p e below T g T' { g with pc := g.pc + 3, stack := v.toList ++ rest }) ∨
    (∃ (q : Addr) (st₀ t T' : State) (L : List Loc) (E : String) (ce : Cell), st₀.heap = H ∧ Stand p l e R s m args below meth c T' (locs ++ L) (cells + mc) (slots + ms) ∧ (∀ z ∈ L, free z.base) ∧ T'.heap = t.heap ∧ T'.vm = t.vm ∧ XC E st₀ t ∧ t.heap[q]? = some ce ∧ ce.vm = .none ∧ s.vm.findClass E = some ce.cls ∧
      Steps p.tables e below (T.setTop g) ((T'.setTop { g with stack := rest }).pushFrame (.throwing q)))
def vx_X {S : Type} (px : S → Prop) (B : String → S → State → Prop) (A : Nat → Prop) : String → State → State → Prop := fun E st t => ∃ u : S, px u ∧ B E u t ∧ va_F A st t
section Runs
variable {p : Program} {l : Launch} {e : Env} {R : Room} {s : State} {m : MethodId} {args : Array Value} {below : List Frame} {meth : Method} {c : Code} {H : Heap} {locs : List Loc} {cells slots : Nat}
variable {y : MethodName} {bytes cc : ByteArray} {maxL nL mc ms n index : Nat} {ret : Option FieldType} {ws : List Cond} {rm : Room} {Pc : Array Value → State → Prop} {Qc : Array Value → State → Outcome → State → Prop} {XC : String → State → State → Prop} {free : Addr → Prop} {Ts : List Cond} {own C : String} {b : Addr} {As rest : List Value} {g : JFrame}
theorem vx_callBack (cb : CallB R s args own index y bytes maxL ret ws rm mc ms n) (hM : vx_Met l y ws rm Pc Qc XC mc ms free) (hbl : FrameBlind Pc) : vx_Back l R p e below s args y 3 8 (PreOf R mc ms Pc) (PostOf Qc mc ms free) (vx_Post XC mc ms free) := by
  obtain ⟨hrc, hrs, hfr, hlo, hws, hcw, -, hini, -⟩ := cb
  exact vx_back (bytes := bytes) (maxL := maxL) (ret := ret) hM hbl hrc hrs hfr hlo hws hcw (fun a' U hW => word_at hW (Or.inl (by first | rfl | simp [Cond.onTables, Cond.keeps, Cond.steady])) hini)
theorem vx_runV (S : CallFix p m c cc nL s args Ts own) (hM : vx_Met l y ws rm Pc Qc XC mc ms free) (cw : CallW R s args own C index y bytes maxL ret ws rm mc ms n) (hp : PreV s H C b Pc As)
    (hg : g.method = m) (hn : As.length = n) (hsize : g.locals.size = nL) (hstack : g.stack = As.reverse ++ .ref b :: rest) (hW : 2 * g.monitorRoom + (rest.map fun v => v.category).sum ≤ 8) (hdg : decode cc g.pc = .ok (.invokevirtual index, 3)) (hf : cells + mc ≤ R.cells ∧ slots + ms ≤ R.slots) :
    vx_Run p l e R s m args below meth c H locs cells slots mc ms g rest (Qc (Value.ref b :: As).toArray) XC free := by
  have hK : vx_Back l R p e below s args y 3 8 (PreOf R mc ms Pc) (PostOf Qc mc ms free) (vx_Post XC mc ms free) := vx_callBack cw.1 hM hp.1
  obtain ⟨⟨-, -, -, -, -, -, hcode, -, hy, hlen, hl⟩, hin, hse⟩ := cw
  obtain ⟨hx, hb, hml, ho, -⟩ := S
  obtain ⟨-, ⟨cellB, hcB, hoB, hclB⟩, hPc⟩ := hp
  intro T hT X
  rcases vx_callV X hx (C := C) (bytes := bytes) (maxL := maxL) (ret := ret) ho hl hin hse hcode hy hK (by rw [hT]; exact hcB) hoB hclB hg (hsize.trans hml.symm) (argsL := As) (rest := rest) (fun sig h => hn.trans (hlen sig h)) hstack hW (by rw [hb]; exact hdg)
    (fun vm₁ hW₁ => ⟨hf.1, hf.2, hPc (T.setVm vm₁) hT hW₁⟩) with ⟨v, vm₁, ⟨U', l2, c2, s2⟩, hW₁, X', ⟨g', mk, t, L, e1, e2, hq, h1, hL, h2, h3⟩, st⟩ | ⟨q, vm₁, ⟨U', l2, c2, s2⟩, hW₁, X', ⟨g', mk, t, L, E, ce, e1, e2, hq, hce, hcv, hcl, h1, hL, h2, h3⟩, st⟩
  · dsimp only [Pt.U, Pt.locs, Pt.cells, Pt.slots] at X' e1 e2 h1 h2 h3 st
    subst h1; subst h2; subst h3
    exact Or.inl ⟨v, (T.setVm vm₁).calling g' mk (Value.ref b :: As).toArray, t, U', L, hT, X', hL, e1, e2, hq, st⟩
  · dsimp only [Pt.U, Pt.locs, Pt.cells, Pt.slots] at X' e1 e2 h1 h2 h3 st hcl
    subst h1; subst h2; subst h3
    exact Or.inr ⟨q, (T.setVm vm₁).calling g' mk (Value.ref b :: As).toArray, t, U', L, E, ce, hT, X', hL, e1, e2, hq, hce, hcv, vx_cls hW₁ hcl, st⟩
end Runs
section Rows
variable {p : Program} {l : Launch} {e : Env} {R : Room} {s : State} {m : MethodId} {args : Array Value} {below : List Frame} {meth : Method} {c : Code} {H : Heap} {locs : List Loc} {cells slots : Nat} {Q : State → Prop}
variable {mc ms : Nat} {free : Addr → Prop} {A0 A1 : Nat → Prop} {H0 : Heap} {a : Array Value} {pc : Nat} {ls : Array Slot} {st0 rest : List Value}
theorem vx_keep {st₀ t T' : State} {L : List Loc} (h0 : st₀.heap = H) (e1 : T'.heap = t.heap) (hS : va_S A0 H0 H locs) (hA : ∀ q, q < H.size → A1 q → A0 q) (hf : ∀ q, free q → A0 q) (hL : ∀ q ∈ L, free q.base) (hF : va_F A1 st₀ t) :
    H.size ≤ T'.heap.size ∧ (∀ q : Nat, q < H.size → ¬ A1 q → T'.heap[q]? = H[q]?) ∧ va_S A0 H0 T'.heap (locs ++ L) := by
  obtain ⟨hz, hk⟩ := hF
  rw [h0] at hz hk
  exact ⟨by rw [e1]; exact hz, fun q h1 h2 => by rw [e1]; exact hk q h1 h2,
    ⟨Nat.le_trans hS.1 (by rw [e1]; exact hz), fun q h1 h2 => by rw [e1, hk q (Nat.lt_of_lt_of_le h1 hS.1) (fun z => h2 (hA q (Nat.lt_of_lt_of_le h1 hS.1) z))]; exact hS.2.1 q h1 h2, fun q hq => by
      rcases List.mem_append.mp hq with h | h
      · exact hS.2.2 q h
      · exact hf _ (hL q h)⟩⟩
theorem vx_calli {S SX : Type} {post : Int32 → S → Prop} {px : SX → Prop} {B : S → State → Prop} {BX : String → SX → State → Prop} {AX : Nat → Prop} (hr : vx_Run p l e R s m args below meth c H locs cells slots mc ms (F0 m pc ls st0) rest (va_Qi post B A1 a) (vx_X px BX AX) free) (hS : va_S A0 H0 H locs) (hA : ∀ q, q < H.size → A1 q → A0 q) (hf : ∀ q, free q → A0 q) (hAX : ∀ q, q < H.size → AX q → A0 q)
    (kx : ∀ (E : String) (ce : Cell) (q9 : Addr) (u : SX) (t : State) (H1 : Heap) (locs1 : List Loc), t.heap = H1 → s.vm.Alike t.vm → px u → BX E u t → H.size ≤ H1.size → (∀ q : Nat, q < H.size → ¬ AX q → H1[q]? = H[q]?) → va_S A0 H0 H1 locs1 → H1[q9]? = some ce → ce.vm = .none → s.vm.findClass E = some ce.cls → vx_W p l e R s m args below meth c H1 locs1 (cells + mc) (slots + ms) Q (F0 m pc ls rest) q9)
    (kk : ∀ (r : Int32) (u : S) (t : State) (H1 : Heap) (locs1 : List Loc), t.heap = H1 → s.vm.Alike t.vm → post r u → B u t → H.size ≤ H1.size → (∀ q : Nat, q < H.size → ¬ A1 q → H1[q]? = H[q]?) → va_S A0 H0 H1 locs1 → W p l e R s m args below meth c H1 locs1 (cells + mc) (slots + ms) Q (F0 m (pc + 3) ls (.int r :: rest))) : W p l e R s m args below meth c H locs cells slots Q (F0 m pc ls st0) := by
  intro T hT X
  rcases hr T hT X with ⟨v, st₀, t, T', L, h0, X', hL, e1, e2, ⟨⟨r, u, hv, hp, hb⟩, hF⟩, st⟩ | ⟨q, st₀, t, T', L, E, ce, h0, X', hL, e1, e2, ⟨u, hp, hb, hF⟩, hce, hcv, hcl, st⟩
  · cases hv
    obtain ⟨k1, k2, k3⟩ := vx_keep h0 e1 hS hA hf hL hF
    obtain ⟨t2, a1, b1⟩ := kk r u t T'.heap (locs ++ L) e1.symm (by rw [← e2]; exact X'.warmed.alike) hp hb k1 k2 k3 T' rfl X'
    exact ⟨t2, st t2 a1, b1⟩
  · obtain ⟨k1, k2, k3⟩ := vx_keep h0 e1 hS hAX hf hL hF
    obtain ⟨t2, a1, b1⟩ := kx E ce q u t T'.heap (locs ++ L) e1.symm (by rw [← e2]; exact X'.warmed.alike) hp hb k1 k2 k3 (by rw [e1]; exact hce) hcv hcl T' rfl X'
    exact ⟨t2, st.trans a1, b1⟩
end Rows
section Ends
variable {p : Program} {l : Launch} {e : Env} {R : Room} {s : State} {m : MethodId} {args : Array Value} {below : List Frame} {meth : Method} {c : Code} {H : Heap} {locs : List Loc} {cells slots : Nat} {Q : State → Prop}
variable {mc ms : Nat} {free : Addr → Prop} {A0 A1 : Nat → Prop} {H0 : Heap} {a : Array Value} {ls : Array Slot} {st0 rest : List Value}
variable {Qc : Array Value → State → Outcome → State → Prop} {XC : String → State → State → Prop}
/-- what a body that may throw owes at its end -/
def vx_MQ (below : List Frame) (Qc : Array Value → State → Outcome → State → Prop) (XC : String → State → State → Prop) (a : Array Value) (s : State) (mc ms : Nat) (free : Addr → Prop) : State → Prop := fun t =>
  ∃ o, t.status = .running ∧ Ended t below o ∧ vx_Q Qc XC mc ms free a s o t
theorem vx_ret {g : JFrame} {mc ms : Nat} (k : W p l e R s m args below meth c H locs cells slots (MQ below Qc args s mc ms free) g) : W p l e R s m args below meth c H locs cells slots (vx_MQ below Qc XC args s mc ms free) g := by
  intro T hT X
  obtain ⟨t, a1, o, b1, b2, b3, b4⟩ := k T hT X
  exact ⟨t, a1, o, b1, b2, Or.inl ⟨b3, b4⟩⟩
/-- not caught here: it goes on to the caller -/
theorem vx_widen {g : JFrame} {q : Addr} {k n : Nat} (h1 : cells ≤ k) (h2 : slots ≤ n) (kk : vx_W p l e R s m args below meth c H locs k n Q g q) : vx_W p l e R s m args below meth c H locs cells slots Q g q := fun T hT X => kk T hT (stand_widen X h1 h2)
theorem vx_frame {U : State} {k n : Nat} (h : s.sameButNew ({ U with vm := s.vm } : State) locs k n) : s.heap.size ≤ U.heap.size ∧ ∀ q : Nat, q < s.heap.size → (∀ z ∈ locs, z.base ≠ q) → U.heap[q]? = s.heap[q]? := by
  obtain ⟨-, h2, -, -, -, h6⟩ := h
  refine ⟨h2, fun q hq hz => ?_⟩
  obtain ⟨c9, e1, e2, e3, e4⟩ := h6 q _ (Array.getElem?_eq_getElem hq)
  have hs : c9.slots = (s.heap[q]).slots := Array.ext_getElem? fun i => e4 i fun hm => hz _ hm rfl
  have h9 : c9 = s.heap[q] := by
    rw [hs] at e2
    exact e2
  have e5 : U.heap[q]? = some c9 := e1
  rw [e5, h9, Array.getElem?_eq_getElem hq]
/-- the words of a throw but the four that speak of the heap -/
def vx_no (w : Cond) : Bool := decide (w ≠ .isRef (.static Bundle.tN "UNASSIGNED_STACK" Bundle.steD)) && decide (w ≠ .isRef (.static Bundle.tN "SUPPRESSED_SENTINEL" Bundle.listD)) && decide (w ≠ .laysStatic Bundle.tN "UNASSIGNED_STACK" Bundle.steD) && decide (w ≠ .laysStatic Bundle.tN "SUPPRESSED_SENTINEL" Bundle.listD)
/-- a word that the tables alone decide, or a good one -/
def vx_ot (w : Cond) : Bool := w.onTables || goodWord w
theorem vx_ot_at {args a' : Array Value} {s U : State} {w : Cond} (hW : s.WarmedH U.vm) (hvm : s.vm = U.vm) (hg : vx_ot w = true) (h : w.before args s = true) : w.before a' U = true := by
  simp only [vx_ot, Bool.or_eq_true] at hg
  rcases hg with hg | hg
  · exact va_tabs hg hvm h
  · exact word_at hW (good_of_word hg) h
theorem vx_c {args : Array Value} {s : State} {w : Cond} {B : List Cond} (h : w.before args s = true) (t : ∀ w ∈ B, w.before args s = true) : ∀ w' ∈ w :: B, w'.before args s = true := fun w' h' => (List.mem_cons.mp h').elim (fun e => by rw [e]; exact h) (t w')
theorem vx_n {args : Array Value} {s : State} : ∀ w ∈ ([] : List Cond), w.before args s = true := fun _ h => nomatch h
theorem vx_own {args : Array Value} {s : State} {L : List Cond} (h1 : ∀ w ∈ L.filter vx_no, w.before args s = true)
    (hU : (Cond.isRef (.static Bundle.tN "UNASSIGNED_STACK" Bundle.steD)).before args s = true) (hN : (Cond.isRef (.static Bundle.tN "SUPPRESSED_SENTINEL" Bundle.listD)).before args s = true)
    (lU : (Cond.laysStatic Bundle.tN "UNASSIGNED_STACK" Bundle.steD).before args s = true) (lN : (Cond.laysStatic Bundle.tN "SUPPRESSED_SENTINEL" Bundle.listD).before args s = true) : ∀ w ∈ L, w.before args s = true := by
  intro w hw
  by_cases e1 : w = .isRef (.static Bundle.tN "UNASSIGNED_STACK" Bundle.steD)
  · rw [e1]; exact hU
  · by_cases e2 : w = .isRef (.static Bundle.tN "SUPPRESSED_SENTINEL" Bundle.listD)
    · rw [e2]; exact hN
    · by_cases e3 : w = .laysStatic Bundle.tN "UNASSIGNED_STACK" Bundle.steD
      · rw [e3]; exact lU
      · by_cases e4 : w = .laysStatic Bundle.tN "SUPPRESSED_SENTINEL" Bundle.listD
        · rw [e4]; exact lN
        · exact h1 w (List.mem_filter.mpr ⟨hw, by unfold vx_no; rw [decide_eq_true e1, decide_eq_true e2, decide_eq_true e3, decide_eq_true e4]; rfl⟩)
/-- where a static field lies, its class's statics cell in H -/
def vx_L (C n d : String) (A : Nat → Prop) (U : State) (H : Heap) : Prop := ∃ (c : ClassId) (k : Class) (i : Nat) (f : Field) (a : Nat) (cell : Cell), U.vm.findClass C = some c ∧ U.fieldFound? C n d = some (c, k, i, f) ∧ f.isStatic = true ∧ k.statics = some a ∧ H[a]? = some cell ∧ cell.vm.isStatics = true ∧ cell.cls = c ∧ f.slot < cell.slots.size ∧ k.staticTypes[f.slot]? = some f.type ∧ ¬ A a
theorem vx_L.moved {C n d : String} {A : Nat → Prop} {u U : State} {H : Heap} (hvm : u.vm.Alike U.vm) (h : vx_L C n d A u H) : vx_L C n d A U H := by
  obtain ⟨c, k, i, f, a, cell, h1, h2, h3, h4, h5, h6, h7, h8, h9, h10⟩ := h
  obtain ⟨k', hi', he⟩ := State.fieldFound?_setVm hvm h2
  exact ⟨c, k', i, f, a, cell, by rw [hvm.findClass]; exact h1, hi', h3, by rw [he]; exact h4, h5, h6, h7, h8, by rw [he]; exact h9, h10⟩
theorem vx_L.kept {C n d : String} {A : Nat → Prop} {U : State} {H H1 : Heap} (h : vx_L C n d A U H) (hq : ∀ a : Nat, a < H.size → ¬ A a → H1[a]? = H[a]?) : vx_L C n d A U H1 := by
  obtain ⟨c, k, i, f, a, cell, h1, h2, h3, h4, h5, h6, h7, h8, h9, h10⟩ := h
  exact ⟨c, k, i, f, a, cell, h1, h2, h3, h4, by rw [hq a (Array.getElem?_eq_some_iff.mp h5).1 h10]; exact h5, h6, h7, h8, h9, h10⟩
theorem vx_L.narrow {C n d : String} {A B : Nat → Prop} {U : State} {H : Heap} (h : vx_L C n d A U H) (hAB : ∀ q, B q → A q) : vx_L C n d B U H := by
  obtain ⟨c, k, i, f, a, cell, h1, h2, h3, h4, h5, h6, h7, h8, h9, h10⟩ := h
  exact ⟨c, k, i, f, a, cell, h1, h2, h3, h4, h5, h6, h7, h8, h9, fun z => h10 (hAB _ z)⟩
theorem vx_L.word {C n d : String} {A : Nat → Prop} {s : State} {args : Array Value} (h : vx_L C n d A s s.heap) : (Cond.laysStatic C n d).before args s = true := by
  obtain ⟨c, k, i, f, a, cell, h1, h2, h3, h4, h5, h6, h7, h8, h9, -⟩ := h
  show (Cond.laysStatic C n d).holds args s none s [] = true
  exact Cond.laysStatic_of h1 h2 h3 h4 h5 h6 h7 h8 h9
/-- .. and what it holds: null or some reference -/
def vx_Zq (C n d : String) (A : Nat → Prop) (U : State) (H : Heap) : Prop := va_Zq C n d A U H ∧ vx_L C n d A U H
theorem vx_Zq.moved {C n d : String} {A : Nat → Prop} {u U : State} {H : Heap} (hvm : u.vm.Alike U.vm) (h : vx_Zq C n d A u H) : vx_Zq C n d A U H := ⟨va_Zq.moved hvm h.1, vx_L.moved hvm h.2⟩
theorem vx_Zq.kept {C n d : String} {A : Nat → Prop} {U : State} {H H1 : Heap} (h : vx_Zq C n d A U H) (hq : ∀ a : Nat, a < H.size → ¬ A a → H1[a]? = H[a]?) : vx_Zq C n d A U H1 := ⟨va_Zq.kept h.1 hq, vx_L.kept h.2 hq⟩
theorem vx_Zq.narrow {C n d : String} {A B : Nat → Prop} {U : State} {H : Heap} (h : vx_Zq C n d A U H) (hAB : ∀ q, B q → A q) : vx_Zq C n d B U H := ⟨va_Zq.narrow h.1 hAB, vx_L.narrow h.2 hAB⟩
theorem vx_Zqof {args : Array Value} {s : State} {C n d : String} {A : Nat → Prop} (hl : (Cond.laysStatic C n d).before args s = true) (hini : (Cond.initialized C).before args s = true) (h : (Cond.isRef (.static C n d)).before args s = true) (hA : ∀ a : Nat, a < s.heap.size → ¬ A a) : vx_Zq C n d A s s.heap := by
  refine ⟨va_Zqof hl hini h hA, ?_⟩
  obtain ⟨c, k, i, f, a, cell, h1, h2, h3, h4, h5, h6, h7, h8, h9⟩ := Cond.laysStatic_spec hl
  exact ⟨c, k, i, f, a, cell, h1, h2, h3, h4, h5, h6, h7, h8, h9, hA a (Array.getElem?_eq_some_iff.mp h5).1⟩
theorem vx_isRef {C n d : String} {v : Value} {A : Nat → Prop} {s : State} {args : Array Value} (h : va_Z C n d v A s s.heap) (hv : v.isRef = true) : (Cond.isRef (.static C n d)).before args s = true := by
  obtain ⟨cf, kf, fi, f, a, cell, h1, h2, h3, h4, h5, h6, h7, -⟩ := h
  have he : (Term.static C n d).eval args s none [] s = some v := by
    simp [Term.eval, State.fieldNamed?, h1, h2, h4, h5, h6, h7]
  simp only [Cond.before, Cond.holds, Cond.value, he]
  cases v <;> simp_all [Value.isRef]
theorem vx_isRefq {C n d : String} {A : Nat → Prop} {s : State} {args : Array Value} (h : va_Zq C n d A s s.heap) : (Cond.isRef (.static C n d)).before args s = true := by
  rcases h with h | ⟨t, h⟩
  · exact vx_isRef h rfl
  · exact vx_isRef h rfl
/-- the same frame, seen from here: as if the method were called anew in this heap -/
theorem vx_rebase {T : State} (X : Stand p l e R s m args below meth c T locs cells slots) {R' : Room} (hf : R'.frames ≤ R.frames) (hl : R'.locals ≤ R.locals) (hc : cells + R'.cells ≤ R.cells) (hs : slots + R'.slots ≤ R.slots) :
    Stand p l e R' ((T.setVm s.vm).setFrames (.invoking m args :: below)) m args below meth c T [] 0 0 := by
  have htop : (T.setVm s.vm).topJava?.isSome := X.here.top
  have hF : ((T.setVm s.vm).setFrames (.invoking m args :: below)).frames = .invoking m args :: below := State.frames_setFrames _ (State.cur_lt_of_top htop)
  obtain ⟨g₀, hg0⟩ := Option.isSome_iff_exists.mp htop
  obtain ⟨r, hr⟩ := State.topJava?_eq_some.mp hg0
  have hl9 : e.platform.stackLimits (T.setVm s.vm).me = e.platform.stackLimits s.me := X.limits
  have hb9 : (T.setVm s.vm).me.stackBytes = s.me.stackBytes := X.bytes
  refine ⟨X.admits, X.cas, X.clock, hF, ?_, X.hears, X.method, X.code, X.here, X.tail, X.warmed, ?_, ?_, ?_⟩
  · have h := X.room
    have hU : ((T.setVm s.vm).setFrames (.invoking m args :: below)).localsInUse = s.localsInUse := by
      rw [State.localsInUse_invoking hF (meth := meth) (c := c) X.method X.code, State.localsInUse_invoking X.frames X.method X.code]
    simp only [State.hasRoom, Bool.and_eq_true, decide_eq_true_eq] at h ⊢
    obtain ⟨⟨⟨⟨h1, h2, h3, h4, h5, h6⟩, h7⟩, h8⟩, h9⟩ := h
    rw [X.frames, List.length_cons] at h2 h3
    have q1 := X.heapSize
    have q2 := X.used
    simp only [hF, hU, List.length_cons, State.stackLimits_setFrames, State.stackBytes_setFrames, hl9, hb9]
    refine ⟨⟨⟨⟨by omega, by omega, by omega, by omega, by omega, h6⟩, ?_⟩, ?_⟩, X.book⟩
    · show T.heap.size + R'.cells ≤ e.platform.maxCells
      omega
    · show T.slotsUsed + R'.slots ≤ e.platform.maxSlots
      omega
  · rw [State.stackLimits_setFrames]; rfl
  · rw [State.stackBytes_setFrames]; rfl
  · refine ⟨?_, Nat.le_refl _, Nat.le_refl _, ?_, ?_, fun a c9 h9 => ⟨c9, h9, rfl, rfl, fun _ _ => rfl⟩⟩
    · obtain ⟨t, ht, -⟩ := State.frames_cons hr
      show T.setVm s.vm = { ((T.setVm s.vm).setFrames (.invoking m args :: below)).setFrames (T.setVm s.vm).frames with heap := T.heap, slotsUsed := T.slotsUsed }
      rw [State.setFrames_setFrames, State.setFrames_self ht]
      rfl
    · show T.slotsUsed = T.slotsUsed + ((T.heap.toList.drop T.heap.size).map (·.slots.size)).sum
      rw [List.drop_eq_nil_of_le (Nat.le_of_eq Array.length_toList)]
      rfl
    · show ((T.heap.toList.drop T.heap.size).map (·.slots.size)).sum ≤ 0
      rw [List.drop_eq_nil_of_le (Nat.le_of_eq Array.length_toList)]
      exact Nat.le_refl _
end Ends
section Bodies
variable {l : Launch}
theorem vx_ofW {y : MethodName} {ws ws' : List Cond} {rm : Room} {Pc : Array Value → State → Prop} {Qc : Array Value → State → Outcome → State → Prop} {XC : String → State → State → Prop} {mc ms : Nat} {free : Addr → Prop} {cc : ByteArray} {maxL : Nat} {ret : Option FieldType}
    (hy : plainName y.cls = true) (hw : ws = Cond.code y cc maxL ret :: ws')
    (body : ∀ p e s m args below meth c s₁, BodyLoose p l y (headSpec ws rm) cc maxL ret e s m args below meth c s₁ → c.maxLocals = maxL → (∀ x ∈ c.exceptionTable.toList, False) → Pc args s →
      W p l e (headSpec ws rm).room s m args below meth c s.heap [] 0 0 (vx_MQ below Qc XC args s mc ms free) (entryFrame m args maxL)) : vx_Met l y ws rm Pc Qc XC mc ms free := by
  refine MetFree.of_bodyS (code := cc) (maxLocals := maxL) (ret := ret) hy ?_ ?_
  · intro args s m h hn
    obtain ⟨meth, c, h1, h2, h3, h4, h5, h6, -, -⟩ := Cond.code_spec hn (atoms_spec (ws := ws) h _ (by rw [hw]; exact List.mem_cons_self))
    exact ⟨meth, c, h1, h2, h3, h4, h5, h6⟩
  · intro p e s m args below meth c s₁ B hml hP _
    have hh0 : s₁.heap = s.heap := by rw [B.state]; rfl
    have ht : ∀ x ∈ c.exceptionTable.toList, False := by
      obtain ⟨meth9, c9, h1, h2, -, -, -, -, h7, -⟩ := Cond.code_spec B.named (atoms_spec (ws := ws) B.pre _ (by rw [hw]; exact List.mem_cons_self))
      cases Option.some.inj (h1.symm.trans B.method)
      cases Option.some.inj (h2.symm.trans (Stand.of_body B).code)
      intro x hx
      rw [Array.isEmpty_iff.mp h7] at hx
      cases hx
    obtain ⟨t, a1, o, b1, b2, b3⟩ := body p e s m args below meth c s₁ B hml ht hP s₁ hh0 (Stand.of_body B)
    exact ⟨t, o, a1, b1, b2, b3⟩
/-- the table of a body with handlers -/
theorem vx_table {p : Program} {x y : MethodName} {S : Spec} {cc bytes : ByteArray} {maxL maxL' : Nat} {ret ret' : Option FieldType} {e : Env} {s s₁ : State} {m : MethodId} {args : Array Value} {below : List Frame} {meth : Method} {c : Code} {hh : List (Nat × Nat × Nat × Nat)}
    (B : BodyLoose p l y S cc maxL ret e s m args below meth c s₁) (h : (Cond.codeWith y bytes maxL' ret' hh).before args s = true) : c.exceptionTable.toList = tableOf hh := by
  obtain ⟨m9, meth9, c9, hn9, h1, h2, -, -, h6, -⟩ := Cond.codeWith_spec h
  cases Option.some.inj (hn9.symm.trans B.named)
  cases Option.some.inj (h1.symm.trans B.method)
  cases Option.some.inj (h2.symm.trans (Stand.of_body B).code)
  rw [← h6, table_eq]
end Bodies
end VXA
/-! ===== END ===== -/
/-! ===== BEGIN a static call of a method with an exception table ===== -/
section VXS
variable {p : Program} {l : Launch} {e : Env} {R : Room} {s : State} {m : MethodId} {args : Array Value} {below : List Frame} {meth : Method} {c : Code} {T : State} {H : Heap} {locs : List Loc} {cells slots : Nat}
abbrev vx_CSW (R : Room) (s : State) (args : Array Value) (own : String) (index : Nat) (y : MethodName) (bytes : ByteArray) (maxL : Nat) (ret : Option FieldType) (hh : List (Nat × Nat × Nat × Nat)) (ws : List Cond) (rm : Room) (mc ms n : Nat) : Prop :=
  (rm.cells = mc ∧ rm.slots = ms ∧ rm.frames + 1 ≤ R.frames ∧ 8 + (maxL + 11) + rm.locals ≤ R.locals ∧ (∀ w ∈ ws, ∀ (a' : Array Value) (U : State), s.WarmedH U.vm → w.before a' U = true) ∧ Cond.codeWith y bytes maxL ret hh ∈ ws) ∧
  (Cond.codeWith y bytes maxL ret hh).before args s = true ∧ (Cond.initialized y.cls).before args s = true ∧ (y.cls ≠ "java/lang/invoke/MethodHandle" ∧ y.cls ≠ "java/lang/invoke/VarHandle") ∧
  (∀ sig, parseMethodDescriptor y.desc = some sig → n = sig.parameters.length) ∧ (Cond.methodLink own index y).before args s = true ∧ (Cond.static y).before args s = true
theorem vx_cwSW {own : String} {index maxL mc ms : Nat} {y : MethodName} {bytes : ByteArray} {ret : Option FieldType} {hh : List (Nat × Nat × Nat × Nat)} {Ts ws ws' : List Cond} {rm : Room} (n : Nat) (ht : ∀ w ∈ Ts, w.before args s = true) (hT : GoodIn Ts (va_wsS own index y ws)) (hw : ws = Cond.codeWith y bytes maxL ret hh :: ws') (hrc : rm.cells = mc) (hrs : rm.slots = ms)
    (hd : y.cls ≠ "java/lang/invoke/MethodHandle" ∧ y.cls ≠ "java/lang/invoke/VarHandle" ∧ (parseMethodDescriptor y.desc).map (fun d => d.parameters.length) = some n) (hR : rm.frames + 1 ≤ R.frames ∧ 8 + (maxL + 11) + rm.locals ≤ R.locals) :
    vx_CSW R s args own index y bytes maxL ret hh ws rm mc ms n := by
  have ok : ∀ w ∈ va_wsS own index y ws, w.before args s = true := fun w h => ht w (hT w h).1
  have hG : GoodIn Ts ws := fun w h => hT w (by unfold va_wsS; exact List.mem_append_right _ h)
  have hc : Cond.codeWith y bytes maxL ret hh ∈ ws := by rw [hw]; exact List.mem_cons_self
  refine ⟨⟨hrc, hrs, hR.1, hR.2, pay_in ht hG, hc⟩, ht _ (hG _ hc).1, ok _ (by simp [va_wsS]), ⟨hd.1, hd.2.1⟩, fun sig h => ?_, ok _ (by simp [va_wsS]), ok _ (by simp [va_wsS])⟩
  have h2 := hd.2.2
  rw [h] at h2
  exact (Option.some.inj h2).symm
theorem vx_callSW (X : Stand p l e R s m args below meth c T locs cells slots) (hexec : p.tables.exec = Jvm.exec) {own : String} {index : Nat} {y : MethodName} {bytes : ByteArray} {maxL : Nat} {ret : Option FieldType} {hh : List (Nat × Nat × Nat × Nat)}
    (hown : s.vm.findClass own = some m.cls) (hlink : (Cond.methodLink own index y).before args s = true) (hstat : (Cond.static y).before args s = true) (hinit : (Cond.initialized y.cls).before args s = true)
    (hcode : (Cond.codeWith y bytes maxL ret hh).before args s = true) (hy : y.cls ≠ "java/lang/invoke/MethodHandle" ∧ y.cls ≠ "java/lang/invoke/VarHandle")
    {W9 : Nat} {Pre : Pt → Array Value → Prop} {Post : Pt → Array Value → Option Value → Pt → Prop} (hK : Back l R p e below s args y 3 W9 Pre Post)
    {g : JFrame} (hg : g.method = m) (hsize : g.locals.size = c.maxLocals) {argsL rest : List Value} (hlen : ∀ sig, parseMethodDescriptor y.desc = some sig → argsL.length = sig.parameters.length)
    (hstack : g.stack = argsL.reverse ++ rest) (hW : 2 * g.monitorRoom + (rest.map fun v => v.category).sum ≤ W9) (hdg : decode c.code g.pc = .ok (.invokestatic index, 3))
    (hpre : ∀ vm₁, s.WarmedH vm₁ → Pre ⟨T.setVm vm₁, locs, cells, slots⟩ argsL.toArray) :
    ∃ (v : Option Value) (vm₁ : Vm) (B : Pt), s.WarmedH vm₁ ∧ Stand p l e R s m args below meth c B.U B.locs B.cells B.slots ∧ Post ⟨T.setVm vm₁, locs, cells, slots⟩ argsL.toArray v B ∧
      ∀ target, Steps p.tables e below (B.U.setTop { g with pc := g.pc + 3, stack := v.toList ++ rest }) target → Steps p.tables e below (T.setTop g) target := by
  obtain ⟨mk, methM, cM, hnamed, hmethM, -, -, -, -, -, -, hsigM⟩ := Cond.codeWith_spec hcode
  have hstatic : methM.isStatic = true := Cond.static_spec hnamed hmethM hstat
  obtain ⟨kP, hkP, -⟩ := className_of_methodNamed hnamed
  have hinitP : kP.init = .initialized := Cond.initialized_spec (findClass_of_methodNamed hnamed) hkP hinit
  obtain ⟨vm₁, X₁, hstep₁⟩ := X.invokestatic hexec hown hlink hnamed hmethM hstatic hkP hinitP hy (g := g) hg (argsL := argsL) (rest := rest) (hlen _ hsigM) hstack hdg
  obtain ⟨v, B, X', hpost, hsteps⟩ := hK m meth c ⟨T.setVm vm₁, locs, cells, slots⟩ { g with stack := rest } (.invokestatic index) mk argsL.toArray X₁ hg hsize hdg hW (X₁.named hnamed) (hpre vm₁ X₁.warmed)
  exact ⟨v, vm₁, B, X₁.warmed, X', hpost, fun target h => hstep₁ _ fun acts => by rw [doInvoke_state]; exact hsteps.trans h⟩
theorem vx_runSW {y : MethodName} {bytes cc : ByteArray} {maxL nL mc ms n index : Nat} {ret : Option FieldType} {hh : List (Nat × Nat × Nat × Nat)} {ws : List Cond} {rm : Room} {Pc : Array Value → State → Prop} {Qc : Array Value → State → Outcome → State → Prop} {free : Addr → Prop} {Ts : List Cond} {own : String} {As rest : List Value} {g : JFrame}
    (S : CallFix p m c cc nL s args Ts own) (hM : Met l y ws rm Pc Qc mc ms free) (cw : vx_CSW R s args own index y bytes maxL ret hh ws rm mc ms n) (hp : PreS s H Pc As)
    (hg : g.method = m) (hn : As.length = n) (hsize : g.locals.size = nL) (hstack : g.stack = As.reverse ++ rest) (hW : 2 * g.monitorRoom + (rest.map fun v => v.category).sum ≤ 8) (hdg : decode cc g.pc = .ok (.invokestatic index, 3)) (hf : cells + mc ≤ R.cells ∧ slots + ms ≤ R.slots) :
    va_Run p l e R s m args below meth c H locs cells slots mc ms g rest (Qc As.toArray) (free) := by
  obtain ⟨⟨hrc, hrs, hfr, hlo, hws, hcw⟩, hcode, hini, hy, hlen, hl, hstt⟩ := cw
  have hK : Back l R p e below s args y 3 8 (PreOf R mc ms Pc) (PostOf Qc mc ms free) := va_backW (hh := hh) (bytes := bytes) (maxL := maxL) (ret := ret) hM hp.1 hrc hrs hfr hlo hws hcw (fun a' U hW => word_at hW (Or.inl (by first | rfl | simp [Cond.onTables, Cond.keeps, Cond.steady])) hini)
  obtain ⟨hx, hb, hml, ho, -⟩ := S
  intro T hT X
  obtain ⟨v, vm₁, ⟨U', l2, c2, s2⟩, hW₁, X', ⟨g', mk, t, L, e1, e2, hq, h1, hL, h2, h3⟩, st⟩ := vx_callSW X hx (hh := hh) (bytes := bytes) (maxL := maxL) (ret := ret) ho hl hstt hini hcode hy hK hg (hsize.trans hml.symm) (argsL := As) (rest := rest) (fun sig h => hn.trans (hlen sig h)) hstack hW (by rw [hb]; exact hdg)
    (fun vm₁ hW₁ => ⟨hf.1, hf.2, hp.2 (T.setVm vm₁) hT hW₁⟩)
  dsimp only [Pt.U, Pt.locs, Pt.cells, Pt.slots] at X' e1 e2 h1 h2 h3 st
  subst h1; subst h2; subst h3
  exact ⟨v, (T.setVm vm₁).calling g' mk As.toArray, t, U', L, hT, X', hL, e1, e2, hq, st⟩
end VXS
end
section
/-! a NoSuchElementException is made, thrown and caught -/
section ZTHROW
abbrev zNSE : String := "java/util/NoSuchElementException"
abbrev zRTE : String := "java/lang/RuntimeException"
abbrev zEXC : String := "java/lang/Exception"
theorem zx_0 : decode prog_28_method_4_code 0 = .ok (.aload_n 0, 1) := by decide +kernel
theorem zx_1 : decode prog_28_method_4_code 1 = .ok (.aload_n 1, 1) := by decide +kernel
theorem zx_2 : decode prog_28_method_4_code 2 = .ok (.invokespecial 13, 3) := by decide +kernel
theorem zx_5 : decode prog_28_method_4_code 5 = .ok (.return_, 1) := by decide +kernel
/-- the constructor's words, beside those of Throwable and of the two constructors between -/
def zXo : List Cond := [.methodLink RX11 348 (Bundle.initS zNSE), .instantiable zNSE 6, .castable zNSE zNSE, .selects zNSE Bundle.tFill0 Bundle.tFill0, .selects zNSE Bundle.tFill Bundle.tFill, .lays zNSE Bundle.tN "cause" "Ljava/lang/Throwable;", .lays zNSE Bundle.tN "stackTrace" Bundle.steD, .lays zNSE Bundle.tN "suppressedExceptions" Bundle.listD, .lays zNSE Bundle.tN "detailMessage" "Ljava/lang/String;", .isRef (.static Bundle.tN "UNASSIGNED_STACK" Bundle.steD), .isRef (.static Bundle.tN "SUPPRESSED_SENTINEL" Bundle.listD), .fieldLink Bundle.tN 198 Bundle.tN "backtrace" "Ljava/lang/Object;", .lays Bundle.tN Bundle.tN "backtrace" "Ljava/lang/Object;", .lays zNSE Bundle.tN "backtrace" "Ljava/lang/Object;"]
def zXw : List Cond := Bundle.throwableAtoms ++ (Bundle.throwableSAtoms ++ (Bundle.passSAtoms zNSE zRTE 13 prog_28_method_4_code ++ (Bundle.chainSAtoms zRTE [zEXC] ++ zXo)))
def zXb : List Cond := [.castable zNSE zNSE, .declares (Bundle.initS zRTE), .declares (Bundle.initS zEXC), .declares (Bundle.initS Bundle.tN)]
theorem zXn_in : zXw.filter vx_no = [145, 1549, 1558, 1560, 1563, 1565, 1550, 1551, 155, 156, 1552, 1557, 1561, 1581, 1539, 1582, 1541, 1583, 1543, 1553, 1555, 1545, 1577, 1578, 1580, 1545, 1568, 1569, 1570, 1571, 1531, 1571, 1572, 1573, 1574, 1533, 1574, 1575, 1576, 1577, 1535, 1567, 1528, 1529, 1536, 1537, 1538, 1540, 1542, 1544, 1548, 1547, 1546].filterMap (fun p => lw_tbl[p]?) := by decide +kernel
theorem zXn_b : ((zXw.filter vx_no).filter (fun w => !goodWord w)).all (fun w => decide (w ∈ zXb)) = true := by decide +kernel
theorem zXn_t : (zXw.filter vx_no).all vx_ot = true := by decide +kernel
/-- what is told beside the good words -/
def zThr (A : Nat → Prop) (U : State) : Prop := (∀ w ∈ zXb, va_Nw w U) ∧ vx_Zq Bundle.tN "UNASSIGNED_STACK" Bundle.steD A U U.heap ∧ vx_Zq Bundle.tN "SUPPRESSED_SENTINEL" Bundle.listD A U U.heap ∧ ∃ sa, vk_R RX11 346 "no heap was taken in this game" sa U
theorem zXb_t : ∀ w ∈ zXb, w.onTables = true := by
  intro w hw
  simp only [zXb, List.mem_cons, List.not_mem_nil, or_false] at hw
  rcases hw with rfl | rfl | rfl | rfl <;> rfl
theorem zXb_w {s U : State} (hW : s.WarmedH U.vm) (h : ∀ w ∈ zXb, va_Nw w s) : ∀ w ∈ zXb, va_Nw w U := by
  intro w hw
  have h1 := h w hw
  simp only [zXb, List.mem_cons, List.not_mem_nil, or_false] at hw
  rcases hw with rfl | rfl | rfl | rfl
  · exact va_Nw.warmC hW h1
  · exact va_Nw.warmD hW h1
  · exact va_Nw.warmD hW h1
  · exact va_Nw.warmD hW h1
theorem zThr.call {A : Nat → Prop} {U : State} (h : zThr A U) (g : JFrame) (mk : MethodId) (a : Array Value) : zThr A (U.calling g mk a) := by
  obtain ⟨h1, h2, h3, sa, h4⟩ := h
  exact ⟨fun w hw => va_Nw.same (u := U) (U := U.calling g mk a) (zXb_t w hw) rfl (h1 w hw), vx_Zq.moved (u := U) (U := U.calling g mk a) (Vm.Alike.refl U.vm) h2, vx_Zq.moved (u := U) (U := U.calling g mk a) (Vm.Alike.refl U.vm) h3, sa, vk_R.same (u := U) (U := U.calling g mk a) rfl h4⟩
theorem zThr.step {A B : Nat → Prop} {s U : State} {H : Heap} {locs : List Loc} (h : zThr A s) (hS : va_S A s.heap H locs) (hU : U.heap = H) (hW : s.WarmedH U.vm) (hAB : ∀ q, B q → A q) : zThr B U := by
  obtain ⟨h1, h2, h3, sa, h4⟩ := h
  refine ⟨zXb_w hW h1, ?_, ?_, sa, vk_R.warm hW h4⟩
  · rw [hU]; exact vx_Zq.narrow (vx_Zq.moved hW.alike (h2.kept hS.2.1)) hAB
  · rw [hU]; exact vx_Zq.narrow (vx_Zq.moved hW.alike (h3.kept hS.2.1)) hAB
theorem zXn_ok {A : Nat → Prop} {args : Array Value} {s : State} (hts : ∀ w ∈ zAl, w.before args s = true) (hT : zThr A s) : ∀ w ∈ zXw.filter vx_no, w.before args s = true := by
  intro w hw
  by_cases hg : goodWord w = true
  · refine hts w (List.mem_filter.mpr ⟨?_, hg⟩)
    rw [zXn_in] at hw
    obtain ⟨i, -, hi⟩ := List.mem_filterMap.mp hw
    exact List.mem_of_getElem? hi
  · have h1 := of_decide_eq_true (List.all_eq_true.mp zXn_b w (List.mem_filter.mpr ⟨hw, by rw [Bool.eq_false_iff.mpr hg]; rfl⟩))
    exact va_Nw.use (zXb_t w h1) (hT.1 w h1)
variable {p : Program} {l : Launch} {e : Env} {R : Room} {s : State} {m : MethodId} {args : Array Value} {below : List Frame} {meth : Method} {c : Code} {H : Heap} {locs : List Loc} {cells slots : Nat}
/-- the search through a table of one row, its class resolved or not -/
theorem zx_find {S : State} {f : JFrame} {q : Addr} {x : ExceptionTableEntry} {cT : ClassId} {ce : Cell} (hm : S.vm.method? f.method = some meth) (hc : meth.code = some c) (ht : c.exceptionTable.toList = [x]) (hx : covers x f.pc = true) (h0 : x.catchType ≠ 0) (hl : S.vm.ClassLinks e.platform f.method.cls x.catchType cT) (hce : S.heap[q]? = some ce) (hv : ∀ k, ce.vm ≠ .statics k) (hk : ∃ k, S.vm.classes[ce.cls]? = some k) (hk2 : ∃ k, S.vm.classes[cT]? = some k) (hfit : S.vm.assignable ce.cls cT = true) (P : Handler → Pre) (E : CtlPost) (d : Bool) (acts : List Action) :
    wp (findHandler f q) P E e d acts S ↔ P (.found x.handlerPc) d acts (S.setVm (S.vm.noted f.method.cls x.catchType (.cls cT))) := by
  have hA : S.vm.Alike (S.vm.noted f.method.cls x.catchType (.cls cT)) := (Vm.Alike.refl S.vm).noted _ _ _
  obtain ⟨r1, r2⟩ := (resolveClass_links e.toSetting hl).op (op := VmOp.resolveClass f.method.cls x.catchType) rfl
  obtain ⟨k1, g1⟩ := hk
  obtain ⟨k2, g2⟩ := hk2
  obtain ⟨k3, g3, -⟩ := hA.2.2 _ _ g1
  obtain ⟨k4, g4, -⟩ := hA.2.2 _ _ g2
  have g5 : (S.vm.noted f.method.cls x.catchType (.cls cT)).assignable ce.cls cT = true := by rw [hA.assignable]; exact hfit
  rw [W.findHandler_eq hm hc, ht]
  simp only [covers] at hx
  simp [findHandler.go, hx, h0, r1, r2, hce, hv, g3, g4, g5, VmOp.dirties, VmOp.acts]
theorem zx_catch {own name E : String} {ce : Cell} {q : Addr} {pc : Nat} {ls : Array Slot} {rest : List Value} {Q : State → Prop} (hown : s.vm.findClass own = some m.cls) (x : ExceptionTableEntry) (ht : c.exceptionTable.toList = [x]) (hx : covers x pc = true) (h0 : x.catchType ≠ 0) (hlink : (Cond.classLink own x.catchType name).before args s = true) (hcast : (Cond.castable E name).before args s = true) (hcell : H[q]? = some ce) (hv : ce.vm = .none) (hcl : s.vm.findClass E = some ce.cls)
    (kk : W p l e R s m args below meth c H locs cells slots Q (F0 m x.handlerPc ls [.ref q])) : vx_W p l e R s m args below meth c H locs cells slots Q (F0 m pc ls rest) q := by
  intro T hT X
  have hpl : e.platform.magicAccessors = ({} : Platform).magicAccessors := by rw [X.admits.platform]
  obtain ⟨c3, c4, h3, h4, hasg⟩ := Cond.castable_spec hcast
  cases Option.some.inj (h3.symm.trans hcl)
  obtain ⟨c5, h5, hlk⟩ := Cond.classLink_spec hown hlink e.platform hpl
  cases Option.some.inj (h4.symm.trans h5)
  obtain ⟨dk, _, _, kt, hd, _, _, _, _, hkt, _, hopen⟩ := hlk.here
  have hW := X.warmed
  obtain ⟨k6, h6, -⟩ := hW.alike.2.2 _ _ hkt
  obtain ⟨k7, h7, -⟩ := Vm.findClass_spec hcl
  obtain ⟨k8, h8, -⟩ := hW.alike.2.2 _ _ h7
  have hf := zx_find (S := (T.setTop (F0 m pc ls rest)).pushFrame (.throwing q)) (f := F0 m pc ls rest) (q := q) (cT := c4) (ce := ce) (e := e) X.method' X.code ht hx h0 (hW.classLinks hlk) (show T.heap[q]? = some ce by rw [hT]; exact hcell) (fun k => by rw [hv]; simp) ⟨k8, h8⟩ ⟨k6, h6⟩ (show T.vm.assignable ce.cls c4 = true by rw [hW.alike.assignable]; exact hasg)
  have hW' := hW.noted hd hopen (State.rightAt_cls hlk)
  obtain ⟨t, a1, b1⟩ := kk (T.setVm (T.vm.noted m.cls x.catchType (.cls c4))) hT (X.noted hW')
  refine ⟨t, ?_, b1⟩
  obtain ⟨go, hw⟩ := At.throwing (g := F0 m pc ls rest) X.here q
  refine Steps.head go hw ?_
  obtain ⟨g₀, hfr⟩ := X.frames_eq
  rw [stepThread_throwing (frames_entered X.here.top _)]
  have hst : (stepThrowing e ((T.setTop (F0 m pc ls rest)).pushFrame (.throwing q)) q (.java (F0 m pc ls rest) :: T.frames.tail)).1 = (((T.setTop (F0 m pc ls rest)).pushFrame (.throwing q)).setVm (T.vm.noted m.cls x.catchType (.cls c4))).setFrames (.java (F0 m x.handlerPc ls [.ref q]) :: T.frames.tail) := by
    simp only [stepThrowing, searchFrame, vmDo]
    generalize hr : Sem.go _ e false [] _ = res
    obtain ⟨as, rfl, -⟩ := Sem.eq_ok_of hr (a := Handler.found x.handlerPc) (s' := ((T.setTop (F0 m pc ls rest)).pushFrame (.throwing q)).setVm (T.vm.noted m.cls x.catchType (.cls c4))) (acts' := []) (by simp [hf]; rfl)
    rfl
  rw [hst]
  have e2 : ∀ vm' : Vm, (((T.setTop (F0 m pc ls rest)).pushFrame (.throwing q)).setVm vm').setFrames (.java (F0 m x.handlerPc ls [.ref q]) :: T.frames.tail) = (T.setVm vm').setTop (F0 m x.handlerPc ls [.ref q]) := by
    intro vm'
    have hfr' : (T.setVm vm').frames = .java g₀ :: below := hfr
    have h1 : ∀ (u : State) (F G : List Frame), ((u.setFrames F).setVm vm').setFrames G = (u.setVm vm').setFrames G := fun u F G => by
      show ((u.setVm vm').setFrames F).setFrames G = _
      rw [State.setFrames_setFrames]
    rw [State.setTop_of_frames _ hfr', hfr, List.tail_cons, State.pushFrame, State.setTop_of_frames _ hfr, h1, h1]
  rw [e2]
  exact a1
set_option maxHeartbeats 1000000 in
/-- the constructor runs, and what it made is thrown out of the method -/
theorem zx_ctor {V : State} (X : Stand p l e R s m args below meth c V [] cells slots) (hexec : p.tables.exec = Jvm.exec) (htr : e.platform.stackTraces = false) (hown : s.vm.findClass RX11 = some m.cls) (h : ∀ w ∈ zXw, w.before args s = true)
    {a : Addr} {cX : ClassId} {kX : Class} (hfX : s.vm.findClass zNSE = some cX) (hkX : s.vm.classes[cX]? = some kX) (hcell : V.heap[a]? = some (freshCell cX kX)) (hnew : s.heap.size ≤ a) {msg : Value} (hmsg : msg.isRef = true)
    {g : JFrame} (hg : g.method = m) (hsize : g.locals.size = c.maxLocals) (hlocked : g.locked = none) (hent : g.entered = []) {rest : List Value} (hstack : g.stack = msg :: .ref a :: .ref a :: rest) (hd : decode c.code g.pc = .ok (.invokespecial 348, 3)) (hd3 : decode c.code (g.pc + 3) = .ok (.athrow, 1)) (hout : ∀ x ∈ c.exceptionTable.toList, covers x (g.pc + 3) = false)
    (hRf : 5 < R.frames) (hRl : 2 * g.monitorRoom + ((Value.ref a :: rest).map fun v => v.category).sum + 81 ≤ R.locals) (hlocks : meth.locks = false) :
    ∃ U : State, Steps p.tables e below (V.setTop g) U ∧ U.status = .running ∧ Ended U below (.threw a) ∧ s.WarmedH U.vm ∧ s.sameButNew ({ U with vm := s.vm } : State) [] cells slots ∧ ∃ ce : Cell, U.heap[a]? = some ce ∧ ce.cls = cX ∧ ce.vm = .none := by
  have howns : e.platform.frameOwnsMonitors = true := by rw [X.admits.platform]
  have hfin : e.platform.finalization = false := by rw [X.admits.platform]
  have hpl : e.platform.magicAccessors = ({} : Platform).magicAccessors := by rw [X.admits.platform]
  have ho : ∀ w ∈ zXo, w.holds args s none s [] = true := fun w hw => h w (by simp [zXw, hw])
  obtain ⟨T, Z0, L, -, Y⟩ := ThrowableC.of_atoms (args := args) howns hfin hpl (fun x hx => h x (by simp [zXw, hx]))
  obtain ⟨Z, M, LZ, LM, hnZ⟩ := Init0T.ofS_atoms (args := args) hpl L Y (fun x hx => h x (by simp [zXw, hx]))
  obtain ⟨P, LP, hPm, hPs⟩ := PassC.ofS_atoms (args := args) (s := s) hpl (X := zNSE) (Y := zRTE) (by decide) ⟨by decide, by decide⟩ zx_0 zx_1 zx_2 zx_5 (fun x hx => h x (by simp [zXw, hx]))
  obtain ⟨P', Ps, hlen, LP', hLs, hPm', hsup, hpass⟩ := Bundle.chainS (args := args) hpl hnZ [zEXC] zRTE (by decide) (by decide) (fun x hx => h x (by simp [zXw, hx]))
  have hlink : PassesOn (Z.m T.toThrowableT) ((P :: P' :: Ps).map (·.toPassT)) := ⟨Option.some.inj (hPs.symm.trans hPm'), hsup, hpass⟩
  have hLall : ∀ P9, P9 ∈ P :: P' :: Ps → P9.LinksS e.platform s := by
    intro P9 h9
    rcases List.mem_cons.mp h9 with rfl | h9
    · exact LP
    · rcases List.mem_cons.mp h9 with rfl | h9
      · exact LP'
      · exact hLs P9 h9
  have hfP : s.vm.findClass zNSE = some P.m.cls := findClass_of_methodNamed hPm
  cases Option.some.inj (hfX.symm.trans hfP)
  obtain ⟨c1, k1, hc1, hk, hord, -, -, -⟩ := Cond.instantiable_spec (ho (.instantiable zNSE 6) (by simp [zXo]))
  cases Option.some.inj (hc1.symm.trans hfP)
  cases Option.some.inj (hkX.symm.trans hk)
  have hsel : ∀ (y : MethodName) (my : MethodId), (Cond.selects zNSE y y).holds args s none s [] = true → s.methodNamed? y = some my → s.methodFound? y.cls y.name y.desc = some my → selectMethod e.platform s.vm P.m.cls my = .method my := by
    intro y my hw h1 h2
    obtain ⟨c2, r2, m2, q1, q2, q3, q4, -⟩ := Cond.selects_spec hw
    cases Option.some.inj (q1.symm.trans hfP)
    cases Option.some.inj (q2.symm.trans h2)
    cases Option.some.inj (q3.symm.trans h1)
    rw [Launch.admits_selectMethod X.admits]; exact q4
  have hsel0 := hsel _ _ (ho (.selects zNSE Bundle.tFill0 Bundle.tFill0) (by simp [zXo])) Y.fill0 (State.methodFound?_of_named Y.fill0 (by decide))
  have hselF := hsel _ _ (ho (.selects zNSE Bundle.tFill Bundle.tFill) (by simp [zXo])) Y.fill (State.methodFound?_of_named Y.fill (by decide))
  obtain ⟨cS, hcS, hiss⟩ := Y.statics
  obtain ⟨u0, hu0⟩ := Cond.staticRefV Y.unassigned L.unassignedStatic L.statics hcS hiss (ho (.isRef (.static Bundle.tN "UNASSIGNED_STACK" Bundle.steD)) (by simp [zXo]))
  obtain ⟨sen, hsen⟩ := Cond.staticRefV Y.sentinel L.sentinelStatic L.statics hcS hiss (ho (.isRef (.static Bundle.tN "SUPPRESSED_SENTINEL" Bundle.listD)) (by simp [zXo]))
  obtain ⟨ci, ib, fB, hkB, hgB, haB, hsB, -, hnB, htB, hffB⟩ := Cond.ownField (t := .object "java/lang/Object") Y.found L.cls (by decide +kernel) (ho (.fieldLink Bundle.tN 198 Bundle.tN "backtrace" "Ljava/lang/Object;") (by simp [zXo])) (ho (.lays Bundle.tN Bundle.tN "backtrace" "Ljava/lang/Object;") (by simp [zXo])) e.platform hpl
  obtain ⟨cV, hcV', heV, -, hkeep⟩ := X.same.2.2.2.2.2 T.aS cS hcS
  have hcV : V.heap[T.aS]? = some cV := hcV'
  have hneS : T.aS ≠ a := Nat.ne_of_lt (Nat.lt_of_lt_of_le (Array.getElem?_eq_some_iff.mp hcS).1 hnew)
  have hknS : cV.vm ≠ .unknown := by
    rw [heV]; intro hu
    rw [show cS.vm = .unknown from hu] at hiss
    cases hiss
  have hkp : ∀ i, cV.slots[i]? = cS.slots[i]? := fun i => hkeep i (by simp)
  obtain ⟨iM, hffM⟩ := Y.msg
  obtain ⟨tyC, dC, hdC, hnC⟩ := Cond.laysAt hfP hk Y.cause (ho (.lays zNSE Bundle.tN "cause" "Ljava/lang/Throwable;") (by simp [zXo]))
  obtain ⟨tyS, dS, hdS, hnS⟩ := Cond.laysAt hfP hk Y.stack (ho (.lays zNSE Bundle.tN "stackTrace" Bundle.steD) (by simp [zXo]))
  obtain ⟨tyP, dP, hdP, hnP⟩ := Cond.laysAt hfP hk Y.supp (ho (.lays zNSE Bundle.tN "suppressedExceptions" Bundle.listD) (by simp [zXo]))
  obtain ⟨tyM, dM, hdM, hnM⟩ := Cond.laysAt hfP hk hffM (ho (.lays zNSE Bundle.tN "detailMessage" "Ljava/lang/String;") (by simp [zXo]))
  obtain ⟨tyB, dB, hdB, hnB'⟩ := Cond.laysAt hfP hk hffB (ho (.lays zNSE Bundle.tN "backtrace" "Ljava/lang/Object;") (by simp [zXo]))
  have bC := Cond.laysApart hdB hdC hnB' hnC (by rw [hnB, Y.causeName]; decide)
  have bS := Cond.laysApart hdB hdS hnB' hnS (by rw [hnB, Y.stackName]; decide)
  have bP := Cond.laysApart hdB hdP hnB' hnP (by rw [hnB, Y.suppName]; decide)
  have hskip : SkipFacts T e.platform s (fun u => u) u0 ((preparedCellV T.toThrowableT (freshCell P.m.cls kX) a u0 sen).withEntry V.cur) :=
    ⟨{ ci198 := ci, i198 := ib, fBack := fB }, ⟨hkB, hgB, haB, hsB⟩, by
      have h9 := fresh_default (c := P.m.cls) tyB
      rw [htB] at h9
      simpa [preparedCellV, Cell.setSlot, Cell.withEntry, Array.getElem?_setIfInBounds, bC, bS, bP, bC.symm, bS.symm, bP.symm, defaultValue] using h9, fun _ _ => rfl⟩
  obtain ⟨tm, mC, cdC, kC, vm₁, hnC1, -, -, -, -, -, -, -, hW₁, st1⟩ := Steps.initColdS (tb := p.tables) (e := e) (below := below) (s := s) (U := V) X.here hexec X.warmed hpl hown (t := Bundle.initS zNSE) rfl rfl ⟨by decide, by decide⟩
    (ho (.methodLink RX11 348 (Bundle.initS zNSE)) (by simp [zXo])) (h (.instanceMethod (Bundle.initS zNSE)) (by simp [zXw, Bundle.passSAtoms])) (bytes := prog_28_method_4_code) (maxL := 2) (h (.code (Bundle.initS zNSE) prog_28_method_4_code 2 none) (by simp [zXw, Bundle.passSAtoms]))
    (f := g) hg (a := a) (msg := msg) (rest := .ref a :: rest) hstack hd
  cases Option.some.inj (hnC1.symm.trans hPm)
  have X₁ := X.noted hW₁
  have hl2 : (P :: P' :: Ps).length = 3 := by simp [hlen]
  obtain ⟨vm₂, X₂, st2⟩ := X₁.ctorMessageOffV hexec (g := { g with stack := .ref a :: rest }) hg hsize T L Z LZ M LM (P :: P' :: Ps) hLall hlink (u0 := u0) (sen := sen) (self := a) hmsg (cell := freshCell P.m.cls kX) (cellS := cV)
    hcell (fun _ => by simp) (by simp) rfl rfl hsel0 hselF hcV hneS hknS (by rw [hkp]; exact hu0) (by rw [hkp]; exact hsen)
    (Takes.of_laid hk hord tyC (by rw [Y.causeType]; rfl)) (Takes.of_laid hk hord tyS (by rw [Y.stackType]; exact fits_refV_array _ u0)) (Takes.of_laid hk hord tyP (by rw [Y.suppType]; exact fits_refV_object _ sen))
    (Takes.of_laid hk hord tyM (by rw [Y.msgType]; exact fits_refV_object _ ⟨msg, hmsg⟩)) Y.objLocals hskip htr [] hd (by rw [hl2]; exact hRf) (by rw [hl2]; exact hRl)
  obtain ⟨hwalk, hrun, hended, hWU, hsame⟩ := X₂.athrowLeaves hexec (g := { g with stack := .ref a :: rest, pc := g.pc + 3 }) hg hlocked hent hout (a := a) (rest := rest) rfl hd3 hlocks
  have hlt : a < ((V.setVm vm₁).setVm vm₂).heap.size := (Array.getElem?_eq_some_iff.mp hcell).1
  have hU := heapAt_setCell_self (s := (V.setVm vm₁).setVm vm₂) (plainBareV T.toThrowableT (freshCell P.m.cls kX) a u0 sen msg) hlt
  refine ⟨_, st1 _ (fun acts => ?_), hrun, hended, hWU, hsame.weaken (fun y hy hlt' => ?_) (Nat.le_refl _) (Nat.le_refl _), _, hU, rfl, rfl⟩
  · rw [doInvoke_state]
    exact st2 _ hwalk
  · exfalso
    have hb : y.base = a := by
      simp only [List.nil_append, List.mem_cons, List.not_mem_nil, or_false] at hy
      rcases hy with rfl | rfl | rfl | rfl | rfl <;> rfl
    rw [hb] at hlt'
    exact Nat.not_lt.mpr hnew hlt'
variable {mc ms : Nat} {free : Addr → Prop} {ls : Array Slot} {rest : List Value} {Qc : Array Value → State → Outcome → State → Prop} {XC : String → State → State → Prop}
set_option maxHeartbeats 1000000 in
/-- new; dup; ldc_w; invokespecial; athrow -/
theorem zx_throw {cc : ByteArray} {pc sa : Nat} (hexec : p.tables.exec = Jvm.exec) (hb : c.code = cc) (hl : l.stackTraces = false) {A : Nat → Prop} (hown : s.vm.findClass RX11 = some m.cls) (hk : (Cond.classLink RX11 344 zNSE).before args s = true) (hini : (Cond.initialized zNSE).before args s = true) (hgk : goodWord (.classLink RX11 344 zNSE) = true) (hgi : goodWord (.initialized zNSE) = true) (hat : ∀ w ∈ zXw.filter vx_no, w.before args s = true) (hT : zThr A s) (hstr : vk_R RX11 346 "no heap was taken in this game" sa s) (hS : va_S A s.heap H locs) (hsize : ls.size = c.maxLocals)
    (d0 : decode cc pc = .ok (.new 344, 3)) (d3 : decode cc (pc + 3) = .ok (.dup, 1)) (d4 : decode cc (pc + 4) = .ok (.ldc_w 346, 3)) (d7 : decode cc (pc + 7) = .ok (.invokespecial 348, 3)) (d10 : decode cc (pc + 10) = .ok (.athrow, 1)) (hout : ∀ x ∈ c.exceptionTable.toList, covers x (pc + 10) = false)
    (hRf : 5 < R.frames) (hRl : (rest.map fun v => v.category).sum + 82 ≤ R.locals) (hRc : cells + 1 ≤ R.cells) (hRs : slots + 6 ≤ R.slots) (hlocks : meth.locks = false)
    (hx : ∀ t : State, s.vm.Alike t.vm → H.size ≤ t.heap.size → (∀ q : Nat, q < H.size → t.heap[q]? = H[q]?) → XC zNSE s t) (hf : ∀ z ∈ locs, free z.base) (hc : cells + 1 ≤ mc) (hs : slots + 6 ≤ ms) :
    W p l e R s m args below meth c H locs cells slots (vx_MQ below Qc XC args s mc ms free) (F0 m pc ls rest) := by
  intro T hTH X
  have htr : e.platform.stackTraces = false := (show e.platform.stackTraces = l.stackTraces by rw [X.admits.platform]).trans hl
  have Y := vx_rebase X (R' := { frames := R.frames, locals := R.locals, cells := 1, slots := 6 }) (Nat.le_refl _) (Nat.le_refl _) hRc hRs
  obtain ⟨s', hA⟩ : ∃ z, z = (T.setVm s.vm).setFrames (.invoking m args :: below) := ⟨_, rfl⟩
  rw [← hA] at Y
  have hvm : s'.vm = s.vm := by rw [hA]; rfl
  have hhp : s'.heap = H := by rw [hA]; exact hTH
  have hW0 : s.WarmedH s'.vm := by rw [hvm]; exact State.WarmedH.refl s
  have hat' : ∀ w ∈ zXw.filter vx_no, w.before args s' = true := fun w hw => vx_ot_at hW0 hvm.symm (List.all_eq_true.mp zXn_t w hw) (hat w hw)
  have hk' : (Cond.classLink RX11 344 zNSE).before args s' = true := word_at hW0 (good_of_word hgk) hk
  have hini' : (Cond.initialized zNSE).before args s' = true := word_at hW0 (good_of_word hgi) hini
  have hU' : vx_Zq Bundle.tN "UNASSIGNED_STACK" Bundle.steD A s' s'.heap := by rw [hhp]; exact vx_Zq.moved hW0.alike (hT.2.1.kept hS.2.1)
  have hN' : vx_Zq Bundle.tN "SUPPRESSED_SENTINEL" Bundle.listD A s' s'.heap := by rw [hhp]; exact vx_Zq.moved hW0.alike (hT.2.2.1.kept hS.2.1)
  have h : ∀ w ∈ zXw, w.before args s' = true := vx_own hat' (vx_isRefq hU'.1) (vx_isRefq hN'.1) hU'.2.word hN'.2.word
  have hown' : s'.vm.findClass RX11 = some m.cls := by rw [hvm]; exact hown
  have hins : (Cond.instantiable zNSE 6).before args s' = true := h _ (by simp [zXw, zXo])
  obtain ⟨vm₁, cX, kX, hfX, hkX, -, -, X₁, st1⟩ := Y.newCold hexec (own := RX11) (C := zNSE) (index := 344) (n := 6) hown' hk' hins hini' (g := F0 m pc ls rest) rfl (by rw [hb]; exact d0) (Nat.le_refl _) (Nat.le_refl _)
  generalize hT1 : (T.setVm vm₁).pushCell { cls := cX, slots := kX.instanceTypes.map defaultValue, vm := .none } = T1 at X₁ st1
  have hcat : (Value.ref T.heap.size).category = 1 := rfl
  have hcellA : T1.heap[T.heap.size]? = some (freshCell cX kX) := by rw [← hT1]; exact State.heap_pushCell_size _ _
  have d3' : decode c.code (pc + 3) = .ok (.dup, 1) := by rw [hb]; exact d3
  have d4' : decode c.code (pc + 4) = .ok (.ldc_w 346, 3) := by rw [hb]; exact d4
  have hstr' : vk_R RX11 346 "no heap was taken in this game" sa s' := vk_R.warm hW0 hstr
  obtain ⟨U, hsteps, hrun, hend, hW, hsame, ce, hce, hcls, hcv⟩ := zx_ctor X₁ hexec htr hown' h hfX hkX hcellA (by rw [hhp, hTH]; exact Nat.le_refl _) (msg := .ref sa) rfl
    (g := { method := m, pc := pc + 7, locals := ls, stack := .ref sa :: .ref T.heap.size :: .ref T.heap.size :: rest, locked := none }) rfl hsize rfl rfl (rest := rest) rfl
    (by rw [hb]; exact d7) (by rw [hb]; exact d10) hout hRf (by simp only [List.map_cons, List.sum_cons, hcat, JFrame.monitorRoom]; simp; omega) hlocks
  obtain ⟨f1, f2⟩ := vx_frame hsame
  rw [hhp] at f1 f2
  have hWs : s.WarmedH U.vm := State.WarmedH.trans hW0 hW
  have hcl : s.vm.findClass zNSE = some ce.cls := by
    rw [hcls, ← hvm]
    exact hfX
  have hall : s.sameButNew ({ U with vm := s.vm } : State) locs mc ms := by
    subst hA
    obtain ⟨e1, e2⟩ := hsame
    rw [State.setFrames_setFrames] at e1
    have h2 : (T.setVm s.vm).sameButNew ({ U with vm := s.vm } : State) [] (0 + 1) (0 + 6) := ⟨e1, e2⟩
    have h3 := X.same.trans h2
    rw [List.append_nil] at h3
    exact h3.mono hc hs
  refine ⟨U, ?_, .threw T.heap.size, hrun, hend, Or.inr ⟨T.heap.size, rfl, zNSE, ce, locs, hx U hWs.alike f1 (fun q hq => f2 q hq (fun z hz => nomatch hz)), hce, hcv, hcl, hWs, hall, hf⟩⟩
  refine st1 _ ?_
  show Steps p.tables e below (T1.setTop { method := m, pc := pc + 3, locals := ls, stack := .ref T.heap.size :: rest, locked := none }) _
  jvm_step X₁.here [X₁.here.top, hexec, d3', Value.category]
  exact X₁.ldcStringW hexec (own := RX11) (text := "no heap was taken in this game") (index := 346) (a := sa) hown' hstr'.1 hstr'.2
    (g := { method := m, pc := pc + 4, locals := ls, stack := .ref T.heap.size :: .ref T.heap.size :: rest, locked := none }) rfl d4' _ hsteps
end ZTHROW
end
section
/-! the law's own 'orders': the class throws, the law catches it -/
section ZORD
abbrev cL_orders : ByteArray := method_3_code
def yL_orders : MethodName := ⟨"BeggarHeapsLaw", "orders", "(LBeggarHeaps;[J)I"⟩
theorem zoX_0 : decode cX11_orders 0 = .ok (.aload_n 0, 1) := by decide +kernel
theorem zoX_1 : decode cX11_orders 1 = .ok (.getfield 48, 3) := by decide +kernel
theorem zoX_4 : decode cX11_orders 4 = .ok (.getfield 158, 3) := by decide +kernel
theorem zoX_7 : decode cX11_orders 7 = .ok (.getfield 343, 3) := by decide +kernel
theorem zoX_10 : decode cX11_orders 10 = .ok (.ifCond .ne 14, 3) := by decide +kernel
theorem zoX_13 : decode cX11_orders 13 = .ok (.new 344, 3) := by decide +kernel
theorem zoX_16 : decode cX11_orders 16 = .ok (.dup, 1) := by decide +kernel
theorem zoX_17 : decode cX11_orders 17 = .ok (.ldc_w 346, 3) := by decide +kernel
theorem zoX_20 : decode cX11_orders 20 = .ok (.invokespecial 348, 3) := by decide +kernel
theorem zoX_23 : decode cX11_orders 23 = .ok (.athrow, 1) := by decide +kernel
theorem zoL_0 : decode cL_orders 0 = .ok (.aload_n 1, 1) := by decide +kernel
theorem zoL_1 : decode cL_orders 1 = .ok (.iconst 0, 1) := by decide +kernel
theorem zoL_2 : decode cL_orders 2 = .ok (.aload_n 0, 1) := by decide +kernel
theorem zoL_3 : decode cL_orders 3 = .ok (.invokevirtual 7, 3) := by decide +kernel
theorem zoL_11 : decode cL_orders 11 = .ok (.astore_n 2, 1) := by decide +kernel
theorem zoL_12 : decode cL_orders 12 = .ok (.iconst 1, 1) := by decide +kernel
theorem zoL_13 : decode cL_orders 13 = .ok (.ireturn, 1) := by decide +kernel
theorem zow48 : Cond.fieldLink RX11 48 "BeggarHeaps" "game" "LBeggarHeaps$Game;" ∈ zAl := zmem_of 774 (by decide +kernel) rfl
theorem zow158 : Cond.fieldLink RX11 158 "BeggarHeaps$Game" "play" "LBeggarHeaps$Play;" ∈ zAl := zmem_of 484 (by decide +kernel) rfl
theorem zow343 : Cond.fieldLink RX11 343 "BeggarHeaps$Play" "heaps" "I" ∈ zAl := zmem_of 440 (by decide +kernel) rfl
theorem zow344 : Cond.classLink RX11 344 zNSE ∈ zAl := zmem_of 1527 (by decide +kernel) rfl
theorem zowini : Cond.initialized zNSE ∈ zAl := zmem_of 148 (by decide +kernel) rfl
theorem zow7 : Cond.methodLink "BeggarHeapsLaw" 7 yX11_orders ∈ zAl := zmem_of 1523 (by decide +kernel) rfl
theorem zown : Cond.instanceMethod yX11_orders ∈ zAl := zmem_of 1524 (by decide +kernel) rfl
theorem zows : Cond.selects RX11 yX11_orders yX11_orders ∈ zAl := zmem_of 1525 (by decide +kernel) rfl
theorem zowc : Cond.code yX11_orders cX11_orders 1 (some .int) ∈ zAl := zmem_of 1526 (by decide +kernel) rfl
theorem zowX : Cond.initialized RX11 ∈ zAl := zmem_of 126 (by decide +kernel) rfl
theorem zow13 : Cond.classLink "BeggarHeapsLaw" 13 zNSE ∈ zAl := zmem_of 1522 (by decide +kernel) rfl
theorem zow139 : Cond.methodLink "BeggarHeapsLaw" 139 yL_orders ∈ zAl := zmem_of 1519 (by decide +kernel) rfl
theorem zowst : Cond.static yL_orders ∈ zAl := zmem_of 1520 (by decide +kernel) rfl
theorem zowcw : Cond.codeWith yL_orders cL_orders 3 (some .int) [(0, 8, 11, 13)] ∈ zAl := zmem_of 1521 (by decide +kernel) rfl
theorem zowL : Cond.initialized "BeggarHeapsLaw" ∈ zAl := zmem_of 125 (by decide +kernel) rfl
/-- a game that has taken no heap -/
theorem zord_ok {cs : List ZC} {a : Nat} (h : zord cs a = true) : ∃ (fs : List Value) (g : Nat) (gs : List Value) (q : Nat) (ps : List Value), zn cs a = some (.inl (11, fs)) ∧ zn fs 6 = some (.ref g) ∧ zn cs g = some (.inl (2, gs)) ∧ zn gs 0 = some (.ref q) ∧ zn cs q = some (.inl (5, ps)) ∧ zn ps 11 = some (.int 0) := by
  unfold zord at h
  split at h
  · rename_i fs h1
    split at h
    · rename_i g h2
      split at h
      · rename_i gs h3
        split at h
        · rename_i q h4
          split at h
          · rename_i ps h5
            split at h
            · rename_i h6
              exact ⟨fs, g, gs, q, ps, h1, h2, h3, h4, h5, h6⟩
            · cases h
          · cases h
        · cases h
      · cases h
    · cases h
  · cases h
def zorm1 : Room := { frames := 6, cells := 1, slots := 6, locals := 100 }
def zorm2 : Room := { frames := 7, cells := 1, slots := 6, locals := 140 }
/-- at the start of either method -/
def zoP (D : va_G) (cA : Nat → ClassId) (rh : Nat → Int32) (ad : Nat → Nat) (cs : List ZC) (av : List Value) (sz : Nat) : Array Value → State → Prop := va_Pc av (fun U => U.heap.size = sz ∧ va_P D zcl (zW cA rh ad cs) U.heap ∧ ZX D cA U ∧ zThr (fun q => sz ≤ q) U)
theorem zoP_blind {D : va_G} {cA : Nat → ClassId} {rh : Nat → Int32} {ad : Nat → Nat} {cs : List ZC} {av : List Value} {sz : Nat} : FrameBlind (zoP D cA rh ad cs av sz) := fun a U g mk q => by
  obtain ⟨q0, q1, q2, q3, q4⟩ := q
  exact ⟨q0, q1, q2, q3.call g mk a, q4.call g mk a⟩
set_option maxHeartbeats 2000000 in
/-- BeggarHeaps.orders throws -/
theorem zo_throw (l : Launch) (hl0 : l.stackTraces = false) {D : va_G} {cA : Nat → ClassId} {rh : Nat → Int32} {ad : Nat → Nat} {cs : List ZC} {a : Nat} (ho : zord cs a = true) (sz : Nat) :
    vx_Met l yX11_orders (Cond.code yX11_orders cX11_orders 1 (some .int) :: zAl) zorm1 (zoP D cA rh ad cs [.ref (ad a)] sz) (va_Qi (S := Unit) (fun _ _ => False) (fun _ _ => True) (fun q => sz ≤ q)) (vx_X (fun _ : Unit => True) (fun E _ _ => E = zNSE) (fun q => sz ≤ q)) 1 6 (fun q => sz ≤ q) := by
  refine vx_ofW (cc := cX11_orders) (maxL := 1) (ret := some .int) (by decide) rfl ?_
  intro p e s m args below meth c s₁ B hml htab hv
  obtain ⟨rfl, hsz, hP, hX, hT⟩ := hv
  have hts0 := atoms_spec (ws := Cond.code yX11_orders cX11_orders 1 (some .int) :: zAl) B.pre
  have hts : ∀ w ∈ zAl, w.before ([Value.ref (ad a)] : List Value).toArray s = true := fun w hw => hts0 w (List.mem_cons_of_mem _ hw)
  have hown : s.vm.findClass RX11 = some m.cls := findClass_of_methodNamed B.named
  have hx := B.exec
  have hb := B.bytes
  have hK := hX.1
  obtain ⟨fs, g, gs, q, ps, h1, h2, h3, h4, h5, h6⟩ := zord_ok ho
  have hl := lv_entry ([.ref (ad a)]) (n := 1) (Nat.le_of_ble_eq_true rfl)
  rw [lg_entry_eq]
  generalize (lg_sl ([.ref (ad a)]) ++ List.replicate (1 - (lg_sl ([.ref (ad a)])).length) Slot.unset).toArray = ls at hl ⊢
  have hl : lv_has ls 1 [(0, .ref (ad a))] := hl
  have e2 : (fs.map (zc rh ad))[6]? = some (.ref (ad g)) := by rw [List.getElem?_map, ← zn_eq, h2]; rfl
  have e4 : (gs.map (zc rh ad))[0]? = some (.ref (ad q)) := by rw [List.getElem?_map, ← zn_eq, h4]; rfl
  have e6 : (ps.map (zc rh ad))[11]? = some (.int 0) := by rw [List.getElem?_map, ← zn_eq, h6]; rfl
  refine lv_aload_n hx hb zoX_0 rfl (lv_at hl 0 rfl) ?_
  refine va_get (ref := "BeggarHeaps") hx hb hts (zcw_ok 11 (RX11, TX11, 19) rfl) hown hK hP a (zW_get h1) rfl 6 (by decide) (hts _ zow48) (fun _ h9 => h9) e2 zoX_1 ?_
  refine va_get (ref := "BeggarHeaps$Game") hx hb hts (zcw_ok 2 (RX2, TX2, 16) rfl) hown hK hP g (zW_get h3) rfl 0 (by decide) (hts _ zow158) (fun _ h9 => h9) e4 zoX_4 ?_
  refine va_get (ref := "BeggarHeaps$Play") hx hb hts (zcw_ok 5 (RX5, TX5, 15) rfl) hown hK hP q (zW_get h5) rfl 11 (by decide) (hts _ zow343) (fun _ h9 => h9) e6 zoX_7 ?_
  refine lv_if_ne (tgt := 24) hx hb zoX_10 (by decide) (fun h => absurd rfl h) (fun _ => ?_)
  obtain ⟨sa, hsa⟩ := hT.2.2.2
  refine zx_throw (rest := []) hx hb hl0 hown (hts _ zow344) (hts _ zowini) rfl rfl (zXn_ok hts hT) hT hsa (A := fun q => sz ≤ q) va_S.rf (hl.1.trans hml.symm) zoX_13 zoX_16 zoX_17 zoX_20 zoX_23 (fun x hx => (htab x hx).elim) (by decide) (by decide) (by decide) (by decide) B.notSynchronized (fun t hvm hz hk => ⟨(), trivial, rfl, hz, fun q9 hq _ => hk q9 hq⟩) (fun z hz => nomatch hz) (by decide) (by decide)
set_option maxHeartbeats 2000000 in
/-- the law's own orders catches it and answers 1 -/
theorem zo_law (l : Launch) (hl0 : l.stackTraces = false) {D : va_G} {cA : Nat → ClassId} {rh : Nat → Int32} {ad : Nat → Nat} {cs : List ZC} {a o : Nat} (ho : zord cs a = true) (sz : Nat) :
    Met l yL_orders (Cond.codeWith yL_orders cL_orders 3 (some .int) [(0, 8, 11, 13)] :: zAl) zorm2 (zoP D cA rh ad cs [.ref (ad a), .ref (ad o)] sz) (va_Qi (S := Unit) (fun r _ => r = 1) (fun _ _ => True) (fun q => sz ≤ q)) 1 6 (fun q => sz ≤ q) := by
  refine va_MetW (cc := cL_orders) (maxL := 3) (ret := some .int) (hh := [(0, 8, 11, 13)]) (by decide) rfl ?_
  intro p e s m args below meth c s₁ B hml hv
  obtain ⟨rfl, hsz, hP, hX, hT⟩ := hv
  subst hsz
  have hts0 := atoms_spec (ws := Cond.codeWith yL_orders cL_orders 3 (some .int) [(0, 8, 11, 13)] :: zAl) B.pre
  have hts : ∀ w ∈ zAl, w.before ([Value.ref (ad a), Value.ref (ad o)] : List Value).toArray s = true := fun w hw => hts0 w (List.mem_cons_of_mem _ hw)
  have hown : s.vm.findClass "BeggarHeapsLaw" = some m.cls := findClass_of_methodNamed B.named
  have htab : c.exceptionTable.toList = [⟨0, 8, 11, 13⟩] := vx_table (x := yL_orders) B (hts0 _ List.mem_cons_self)
  have hx := B.exec
  have hb := B.bytes
  have hr := B.returns
  have hK := hX.1
  obtain ⟨fs, g, gs, q, ps, h1, -⟩ := zord_ok ho
  have hl := lv_entry ([.ref (ad a), .ref (ad o)]) (n := 3) (Nat.le_of_ble_eq_true rfl)
  rw [lg_entry_eq]
  generalize (lg_sl ([.ref (ad a), .ref (ad o)]) ++ List.replicate (3 - (lg_sl ([.ref (ad a), .ref (ad o)])).length) Slot.unset).toArray = ls at hl ⊢
  have hl : lv_has ls 3 [(0, .ref (ad a)), (1, .ref (ad o))] := hl
  refine lv_aload_n hx hb zoL_0 rfl (lv_at hl 1 rfl) ?_
  refine lv_iconst (v := 0) hx hb zoL_1 (by decide) ?_
  refine lv_aload_n hx hb zoL_2 rfl (lv_at hl 0 rfl) ?_
  refine vx_calli (A0 := fun q => s.heap.size ≤ q) (H0 := s.heap) (vx_runV (As := []) (rest := [.int 0, .ref (ad o)]) ⟨hx, hb, hml, hown, hts⟩ (zo_throw l hl0 ho s.heap.size) ⟨callB_of 0 hts (zgoodIn zAl_good zowc) rfl rfl rfl (hts _ zowX) (hts _ zow7) (by decide +kernel) ⟨by decide, by decide⟩, hts _ zown, hts _ zows⟩ ⟨zoP_blind, va_recv hK hP (ci := 11) (q0 := a) rfl (zW_get h1), fun U hU hW => ⟨rfl, by rw [hU], by rw [hU]; exact hP, hX.warm hW, hT.step (H := s.heap) (locs := []) va_S.rf hU hW (fun _ h => h)⟩⟩ rfl rfl hl.1 rfl (lv_room (Nat.le_of_ble_eq_true rfl)) zoL_3 ⟨by decide, by decide⟩) va_S.rf (fun q _ h => h) (fun q h => h) (fun q _ h => h) ?_ (fun r u t H1 locs1 ht hvm hw => hw.elim)
  intro E ce q9 u t H1 locs1 ht hvm hp hE hz hk hS hc hcv hcl
  subst hE
  refine zx_catch (own := "BeggarHeapsLaw") (name := zNSE) (E := zNSE) hown ⟨0, 8, 11, 13⟩ htab (by decide) (by decide) (hts _ zow13) (va_Nw.use rfl (hT.1 _ (by simp [zXb]))) hc hcv hcl ?_
  show W p l e _ s m _ below meth c H1 locs1 _ _ _ (F0 m 11 ls [.ref q9])
  refine lv_astore_n hx hb zoL_11 rfl hl (by decide) rfl (fun ls' hl' => ?_)
  refine lv_iconst (v := 1) hx hb zoL_12 (by decide) ?_
  refine W.widen (k := 1) (n := 6) (by decide) (by decide) ?_
  exact W.iret hx hb hr (fun t ht hW => ⟨⟨1, (), rfl, rfl, trivial⟩, hS.F ht⟩) hS.2.2 zoL_13
/-- what is told of the String of words and of the throw -/
def zZ (A : Nat → Prop) (U : State) (b : Nat) : Prop := zStr A U b ∧ zThr A U
theorem zZ_ZS : zZS zZ := ⟨fun A U b g mk a h => ⟨zStr_ZS.1 A U b g mk a h.1, h.2.call g mk a⟩, fun A B s U b H locs h hS hU hW hAB => ⟨zStr_ZS.2 A B s U b H locs h.1 hS hU hW hAB, h.2.step hS hU hW hAB⟩⟩
theorem zZ_J (l : Launch) : zJ l zAl zZ := fun p e R s m args below meth c H locs mc ms Q cc pc ls rest own A b hx hb hml hown hts hZS => zJ_ok l p e R s m args below meth c H locs mc ms Q cc pc ls rest own A b hx hb hml hown hts hZS.1
set_option maxHeartbeats 2000000 in
theorem zZ_JO (l : Launch) (hl0 : l.stackTraces = false) (mt : Nat → ZMI) (bd : Nat → Int × Int) (rh : Nat → Int32) (D : va_G) (cA : Nat → ClassId) : zJO l zAl mt bd rh zZ D cA := by
  intro p e R s m args below meth c H locs mc ms Q pc ls rest A ad d j cs a o idx x2 hf hd hP hD hS hls hmc hms hrest ho hdg hwi kk
  obtain ⟨f1, f2, f3, f4, f5, f6, f7, f8, f9, f10, f11, f12, f13, f14, f15⟩ := hf
  obtain ⟨hown9, hidx⟩ := hwi.2.2.2 rfl
  rw [hown9] at f5
  subst hidx
  have hA : ∀ q, H.size ≤ q → A q := fun q h => f10 q (Nat.le_trans hS.1 h)
  have hG : GoodIn zAl (va_wsS "BeggarHeapsLaw" 139 yL_orders (Cond.codeWith yL_orders cL_orders 3 (some .int) [(0, 8, 11, 13)] :: zAl)) := by
    intro w hw
    have hw' : w ∈ zAl := by
      simp only [va_wsS, List.mem_append, List.mem_cons, List.not_mem_nil, or_false] at hw
      rcases hw with (rfl | rfl | rfl) | rfl | hw
      · exact zow139
      · exact zowst
      · exact zowL
      · exact zowcw
      · exact hw
    exact ⟨hw', zAl_good w hw'⟩
  refine va_calli (vx_runSW (Ts := zAl) (own := "BeggarHeapsLaw") (As := [.ref (ad a), .ref (ad o)]) (rest := rest) ⟨f1, f2, f3, f5, f6⟩ (zo_law l hl0 (D := D) (cA := cA) (rh := rh) (ad := ad) (o := o) ho H.size) (vx_cwSW 2 f6 hG rfl rfl rfl (by decide +kernel) ⟨by show 7 + 1 ≤ _; omega, by show 8 + (3 + 11) + 140 ≤ _; omega⟩) ⟨zoP_blind, fun U hU hW => ⟨rfl, by rw [hU], by rw [hU]; exact hP, f8.warm hW, f9.2.step hS hU hW hA⟩⟩ rfl rfl hls rfl (lv_room hrest) hdg ⟨by omega, by omega⟩) hS (fun q _ h => hA q h) (fun q h => hA q h) (fun r u t H1 locs1 ht hvm hr hB hz hk hS1 => ?_)
  subst hr
  refine W.widen (k := mc + 100) (n := ms + 10000) (by omega) (by omega) ?_
  exact kk H1 locs1 (hP.kept fun k q hq => hk q.1 (hP k q hq).lt (fun h => absurd (hP k q hq).lt (Nat.not_lt.mpr h))) hD hS1
/-- at the law's entry -/
theorem zThr_ex {args : Array Value} {s : State} (hts : ∀ w ∈ lw_tbl, w.before args s = true) (hgv : (Jvm.Cond.and given_1 narrow_1).before args s = true) : zThr (fun q => s.heap.size ≤ q) s := by
  have hs := flat_of_before _ hgv
  have hat : ∀ (p : Nat) (w : Cond), (flatC (Jvm.Cond.and given_1 narrow_1))[p]? = some w → w.before args s = true := fun p w h => hs w (List.mem_of_getElem? h)
  have hA : ∀ a : Nat, a < s.heap.size → ¬ (fun q : Nat => s.heap.size ≤ q) a := fun a h => Nat.not_le.mpr h
  have hex := hat 185 (Cond.exactly (.string RX11 346) "java/lang/String") (by decide +kernel)
  obtain ⟨a, c, cA, kA, q1, -⟩ := Cond.exactly_spec (args := args) (first := s) (o := none) (s := s) (idx := []) (t := .string RX11 346) (cls := "java/lang/String") hex
  have hini : (Cond.initialized Bundle.tN).before args s = true := hts _ (List.mem_of_getElem? (i := 145) (by decide +kernel))
  refine ⟨fun w hw => va_Nw.of (zXb_t w hw) (hts w ?_), vx_Zqof (hts _ (List.mem_of_getElem? (i := 1554) (by decide +kernel))) hini (hat 9 _ (by decide +kernel)) hA, vx_Zqof (hts _ (List.mem_of_getElem? (i := 1556) (by decide +kernel))) hini (hat 10 _ (by decide +kernel)) hA, a, vk_R.of (hts _ (List.mem_of_getElem? (i := 1566) (by decide +kernel))) q1⟩
  simp only [zXb, List.mem_cons, List.not_mem_nil, or_false] at hw
  rcases hw with rfl | rfl | rfl | rfl
  · exact List.mem_of_getElem? (i := 1529) (by decide +kernel)
  · exact List.mem_of_getElem? (i := 1531) (by decide +kernel)
  · exact List.mem_of_getElem? (i := 1533) (by decide +kernel)
  · exact List.mem_of_getElem? (i := 1535) (by decide +kernel)
end ZORD
end
section
/-! the law from its entry, and the claim -/
theorem whole_start {p : Program} {e : Env} {s : State} {m : MethodId} {below : List Frame} {meth : Method} {c : Code} (l : Launch) (hflags : l.flags = flags0) {b L : Nat} {xs : Nat → Int32} (hL : L ≤ 7) (C0 : lw_At p s m meth c b L xs) : W p l e room_1 s m #[Value.ref b] below meth c s.heap [] 0 0 (lw_Z below #[Value.ref b] s) (entryFrame m ([Value.ref b] : List Value).toArray 7) := by
  have hl0 : l.stackTraces = false := by
    unfold Launch.stackTraces
    rw [hflags]
    decide +kernel
  obtain ⟨hx, hb, hr, hml, hown, hts, hX, hbl, hlocks, hgv, hname⟩ := id C0
  obtain ⟨D, cA, hZX⟩ := zX_ex hts
  obtain ⟨bs, hbs⟩ := zStr_ex hts hgv
  have hZ0 : zZ (fun q => s.heap.size ≤ q) s bs := ⟨hbs, zThr_ex hts hgv⟩
  refine zstart zZ_ZS l (zZ_J l) hL C0 (fun bd => zZ_JO l hl0 zmt bd (zrh xs) D cA) hZX hZ0 ?_
  intro h7 h0 ad H locs mc ms ls hb0 hb1 hmc hms hP hD hS hl
  subst h7
  exact zfeed zZ_ZS l (zZ_J l) C0 (fun bd => zZ_JO l hl0 zmt bd (zrh xs) D cA) hZX (by rw [hb0]; exact hZ0) h0 hb1 hmc hms hP hD hS hl
set_option maxHeartbeats 4000000 in
theorem lw_walk (l : Launch) (hflags : l.flags = flags0) (b : Addr) (xs : List Int32) : MetFree l x (headSpec (Jvm.Cond.code x code maxLocals ret :: tables_1) room_1) (lw_P b xs) (fun _ _ _ _ _ => True) lw_Q := by
  refine MetFree.of_bodyS (code := code) (maxLocals := maxLocals) (ret := ret) (by decide) ?_ ?_
  · intro args s m h hn
    obtain ⟨meth, c, h1, h2, h3, h4, h5, h6, -, -⟩ := Cond.code_spec hn (atoms_spec (ws := Jvm.Cond.code x code maxLocals ret :: tables_1) h _ List.mem_cons_self)
    exact ⟨meth, c, h1, h2, h3, h4, h5, h6⟩
  · intro p e s m args below meth c s₁ B hml0 hP _
    obtain ⟨rfl, hx, hbd, hgv⟩ := hP
    obtain ⟨scr, harrAt, hlist, hof, hsmall⟩ := hx
    obtain ⟨hcb, hkn, -, -⟩ := State.arrayAt?_spec harrAt
    have hown : s.vm.findClass R_law = some m.cls := findClass_of_methodNamed B.named
    have hts0 : ∀ c ∈ (Jvm.Cond.code x code maxLocals ret :: tables_1), c.before #[Value.ref b] s = true := atoms_spec (ws := Jvm.Cond.code x code maxLocals ret :: tables_1) B.pre
    have hts : ∀ w ∈ lw_tbl, w.before #[Value.ref b] s = true := k2_hts_sels lw_privs (fun w hw => hts0 w (List.mem_cons_of_mem _ hw)) lw_privs_ok
    have hml : c.maxLocals = 7 := B.maxLocals_eq (hts0 _ List.mem_cons_self)
    have X₀ : Stand p l e room_1 s m #[Value.ref b] below meth c s₁ [] 0 0 := Stand.of_body B
    have hh0 : s₁.heap = s.heap := by rw [B.state]; rfl
    have hsz : scr.slots.size = xs.length := by rw [← Array.length_toList, hlist, List.length_map]
    have hval : ∀ j : Nat, j < xs.length → scr.slots[j]? = some (.int (xs.getD j 0)) := fun j hj => by
      rw [← Array.getElem?_toList, hlist]
      simp [hj]
    have hbl : b < s.heap.size := (Array.getElem?_eq_some_iff.mp hcb).1
    have hX : va_X b xs.length (fun j => xs.getD j 0) s s.heap := ⟨scr, hcb, hof, hkn, hsz, hval⟩
    have K : W p l e room_1 s m #[Value.ref b] below meth c s₁.heap [] 0 0 (lw_Z below #[Value.ref b] s) (entryFrame m ([Value.ref b] : List Value).toArray 7) := by
      rw [hh0]
      exact whole_start l hflags hbd ⟨B.exec, B.bytes, B.returns, hml, hown, hts, hX, hbl, B.notSynchronized, hgv, (name_of_methodNamed B.named B.method).1⟩
    obtain ⟨t, a1, o, b1, b2, b3⟩ := K s₁ rfl X₀
    exact ⟨t, o, a1, b1, b2, b3⟩
theorem lw_pre_spec {args : Array Value} {s : State} (h : (Jvm.Cond.and given_1 narrow_1).before args s = true) (hr : rest_1_c.before args s = true) : ∃ (b : Addr) (xs : List Int32), lw_P b xs args s := by
  have hs := flat_of_before _ h
  have hq := flat_of_before _ hr
  have hc : (Cond.count 1).before args s = true := hs _ (by decide +kernel)
  have harr : (Cond.arrayOf (.arg 0) .int).before args s = true := hs _ (by decide +kernel)
  have hle : (Cond.le (.length (.arg 0)) (.int 7)).before args s = true := hs _ (by decide +kernel)
  have hlen : (Cond.isInt (.length (.arg 0))).before args s = true := hq _ (by decide +kernel)
  have hall : (Cond.all (.arg 0) (.isInt (.elem (.arg 0) (.index 0)))).before args s = true := hq _ (by decide +kernel)
  obtain ⟨b, xs, hb, hx⟩ := State.ints_of_pre rfl harr hlen hall
  have hsm : xs.length < 2 ^ 31 := hx.choose_spec.2.2.2
  have hev : (Term.length (.arg 0)).eval args s none [] s = some (.int xs.length.toInt32) := hx.length_eval hb
  have hv := Cond.le_ints hev (show (Term.int 7).eval args s none [] s = some (.int 7) from rfl)
  have hd : xs.length.toInt32 ≤ 7 := by
    simpa [Cond.before, Cond.holds, hv] using hle
  have hN : xs.length ≤ 7 := (Int32.ofNat_le_ofNat hsm (by decide)).mp (show Int32.ofNat xs.length ≤ Int32.ofNat 7 from hd)
  exact ⟨b, xs, Cond.one_arg hc (show args[0]? = some (.ref b) from hb), hx, hN, h⟩
theorem lw_comes (l : Launch) (hflags : l.flags = flags0) : Comes l x (Jvm.Cond.code x code maxLocals ret :: tables_1) room_1 (fun tb e args s => Calls_1 tb e args s ∧ rest_1 tb e args s ∧ Pre_1 tb e args s)
    (fun _ _ args s o t => lw_Q args s o t) := by
  intro p e ha hc hk s m args below hf hfit hheap happ hpre
  obtain ⟨b, xs, hP⟩ := lw_pre_spec hpre.2.2 hpre.2.1
  obtain ⟨k, o, h1, h2, h3, hQ⟩ := lw_walk l hflags b xs p e ha hc hk s m args below hf ((Spec.applies_iff_loose hf).mp happ).1 hP trivial
  exact ⟨k, o, h1, h2, h3, hQ⟩
theorem lw_frame {s t : State} {o : Outcome} {args : Array Value} (h : Framed s o t [] 600002 7302232) :
    Framed s o t (fieldLocs frame_1_writes args s ++ arrayLocs frame_1_arrays args s ++ staticLocs frame_1_statics s) 600002 7302232 := h
theorem lw_limb (L : Cond) (hL : ∀ (args : Array Value) (s t : State), L.after args s (.returned (some (.int 1))) t = true) :
    ArmFor flags0 classFile x code maxLocals ret World_1 tables_1 room_1 Calls_1 rest_1 Pre_1
      (fun tb e a s o t => postC L tb e a s o t ∧ Framed s o t (fieldLocs frame_1_writes a s ++ arrayLocs frame_1_arrays a s ++ staticLocs frame_1_statics s) 600002 7302232) := by
  intro l hflags _ _ p e ha hc hk s m args below hf hfit hheap happ hpre
  obtain ⟨k, o, h1, h2, h3, rfl, hF⟩ := lw_comes l hflags p e ha hc hk s m args below hf hfit hheap happ hpre
  exact ⟨k, _, h1, h2, h3, hL args s _, lw_frame hF⟩
theorem i_vc : Claimed_1_1 ∧ Claimed_1_2 := ⟨lw_limb limb_1_1 (fun args s t => by simp [limb_1_1, Cond.after, Cond.holds, Cond.value]), lw_limb limb_1_2 (fun args s t => Cond.after_iff.mpr (by
  first | (rw [show limb_1_2 = Cond.eq .result (.int 1) from rfl, Cond.eq_ints (x := 1) (y := 1) rfl rfl]; simp; done) | (simp [limb_1_2, Cond.value, Term.eval]; done)))⟩
end
