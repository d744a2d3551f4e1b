-- ===== PART A: goes FIRST, ahead of the names: the tables' words, and 'selects' of the private methods out of them =====
/-- a private method of a class that the tables say can be made, by its rows of tables_1 -/
def lw_okq (q : MethodName × Nat) : Prop := (q.1.cls ≠ "java/lang/invoke/MethodHandle" ∧ q.1.cls ≠ "java/lang/invoke/VarHandle") ∧ Cond.instantiable q.1.cls q.2 ∈ tables_1 ∧ Cond.privateMethod q.1 ∈ tables_1 ∧ Cond.instanceMethod q.1 ∈ tables_1
theorem lw_p0 : lw_okq (⟨"ThrownMarks", "isMark", "(I)Z"⟩, 10) := ⟨⟨by decide +kernel, by decide +kernel⟩, List.mem_of_getElem? (i := 15) (by decide +kernel), List.mem_of_getElem? (i := 243) (by decide +kernel), List.mem_of_getElem? (i := 244) (by decide +kernel)⟩
theorem lw_p1 : lw_okq (⟨"ThrownMarks$Scheme", "readPart", "(LThrownMarks$Text;I)Z"⟩, 5) := ⟨⟨by decide +kernel, by decide +kernel⟩, List.mem_of_getElem? (i := 63) (by decide +kernel), List.mem_of_getElem? (i := 322) (by decide +kernel), List.mem_of_getElem? (i := 323) (by decide +kernel)⟩
theorem lw_p2 : lw_okq (⟨"ThrownMarks$Scheme", "readStrike", "(LThrownMarks$Text;)Z"⟩, 5) := ⟨⟨by decide +kernel, by decide +kernel⟩, List.mem_of_getElem? (i := 63) (by decide +kernel), List.mem_of_getElem? (i := 333) (by decide +kernel), List.mem_of_getElem? (i := 334) (by decide +kernel)⟩
theorem lw_p3 : lw_okq (⟨"ThrownMarks$Scheme", "readFigures", "(LThrownMarks$Text;I)Z"⟩, 5) := ⟨⟨by decide +kernel, by decide +kernel⟩, List.mem_of_getElem? (i := 63) (by decide +kernel), List.mem_of_getElem? (i := 337) (by decide +kernel), List.mem_of_getElem? (i := 338) (by decide +kernel)⟩
theorem lw_p4 : lw_okq (⟨"ThrownMarks", "isRule", "(I)Z"⟩, 10) := ⟨⟨by decide +kernel, by decide +kernel⟩, List.mem_of_getElem? (i := 15) (by decide +kernel), List.mem_of_getElem? (i := 346) (by decide +kernel), List.mem_of_getElem? (i := 347) (by decide +kernel)⟩
theorem lw_p5 : lw_okq (⟨"ThrownMarks$Scale", "sortMarks", "(LThrownMarks$Card;I)I"⟩, 1) := ⟨⟨by decide +kernel, by decide +kernel⟩, List.mem_of_getElem? (i := 91) (by decide +kernel), List.mem_of_getElem? (i := 388) (by decide +kernel), List.mem_of_getElem? (i := 389) (by decide +kernel)⟩
theorem lw_p6 : lw_okq (⟨"ThrownMarks$Scale", "sumWithout", "(II)I"⟩, 1) := ⟨⟨by decide +kernel, by decide +kernel⟩, List.mem_of_getElem? (i := 91) (by decide +kernel), List.mem_of_getElem? (i := 395) (by decide +kernel), List.mem_of_getElem? (i := 396) (by decide +kernel)⟩
theorem lw_p7 : lw_okq (⟨"ThrownMarks$Scale", "middleOf", "(I)I"⟩, 1) := ⟨⟨by decide +kernel, by decide +kernel⟩, List.mem_of_getElem? (i := 91) (by decide +kernel), List.mem_of_getElem? (i := 399) (by decide +kernel), List.mem_of_getElem? (i := 400) (by decide +kernel)⟩
theorem lw_p8 : lw_okq (⟨"ThrownMarks$Scale", "pairs", "(LThrownMarks$Card;I)I"⟩, 1) := ⟨⟨by decide +kernel, by decide +kernel⟩, List.mem_of_getElem? (i := 91) (by decide +kernel), List.mem_of_getElem? (i := 411) (by decide +kernel), List.mem_of_getElem? (i := 412) (by decide +kernel)⟩
theorem lw_p9 : lw_okq (⟨"ThrownMarks$Scale", "weighted", "(LThrownMarks$Scheme;ILThrownMarks$Card;I)I"⟩, 1) := ⟨⟨by decide +kernel, by decide +kernel⟩, List.mem_of_getElem? (i := 91) (by decide +kernel), List.mem_of_getElem? (i := 419) (by decide +kernel), List.mem_of_getElem? (i := 420) (by decide +kernel)⟩
theorem lw_p10 : lw_okq (⟨"ThrownMarks$Reach", "layBeside", "(IZ)V"⟩, 8) := ⟨⟨by decide +kernel, by decide +kernel⟩, List.mem_of_getElem? (i := 114) (by decide +kernel), List.mem_of_getElem? (i := 482) (by decide +kernel), List.mem_of_getElem? (i := 483) (by decide +kernel)⟩
theorem lw_p11 : lw_okq (⟨"ThrownMarks$Reach", "giveAll", "(I)V"⟩, 8) := ⟨⟨by decide +kernel, by decide +kernel⟩, List.mem_of_getElem? (i := 114) (by decide +kernel), List.mem_of_getElem? (i := 502) (by decide +kernel), List.mem_of_getElem? (i := 503) (by decide +kernel)⟩
theorem lw_p12 : lw_okq (⟨"ThrownMarks$Reach", "placeNow", "(I)I"⟩, 8) := ⟨⟨by decide +kernel, by decide +kernel⟩, List.mem_of_getElem? (i := 114) (by decide +kernel), List.mem_of_getElem? (i := 506) (by decide +kernel), List.mem_of_getElem? (i := 507) (by decide +kernel)⟩
theorem lw_p13 : lw_okq (⟨"ThrownMarks$Reach", "worthNow", "(II)I"⟩, 8) := ⟨⟨by decide +kernel, by decide +kernel⟩, List.mem_of_getElem? (i := 114) (by decide +kernel), List.mem_of_getElem? (i := 510) (by decide +kernel), List.mem_of_getElem? (i := 511) (by decide +kernel)⟩
theorem lw_p14 : lw_okq (⟨"ThrownMarks$Reach", "giveNext", "()V"⟩, 8) := ⟨⟨by decide +kernel, by decide +kernel⟩, List.mem_of_getElem? (i := 114) (by decide +kernel), List.mem_of_getElem? (i := 514) (by decide +kernel), List.mem_of_getElem? (i := 515) (by decide +kernel)⟩
theorem lw_p15 : lw_okq (⟨"ThrownMarks", "bettersOwn", "(I)Z"⟩, 10) := ⟨⟨by decide +kernel, by decide +kernel⟩, List.mem_of_getElem? (i := 15) (by decide +kernel), List.mem_of_getElem? (i := 530) (by decide +kernel), List.mem_of_getElem? (i := 531) (by decide +kernel)⟩
def lw_privs_1 : List (MethodName × Nat) := [(⟨"ThrownMarks", "isMark", "(I)Z"⟩, 10), (⟨"ThrownMarks$Scheme", "readPart", "(LThrownMarks$Text;I)Z"⟩, 5), (⟨"ThrownMarks$Scheme", "readStrike", "(LThrownMarks$Text;)Z"⟩, 5), (⟨"ThrownMarks$Scheme", "readFigures", "(LThrownMarks$Text;I)Z"⟩, 5), (⟨"ThrownMarks", "isRule", "(I)Z"⟩, 10), (⟨"ThrownMarks$Scale", "sortMarks", "(LThrownMarks$Card;I)I"⟩, 1), (⟨"ThrownMarks$Scale", "sumWithout", "(II)I"⟩, 1), (⟨"ThrownMarks$Scale", "middleOf", "(I)I"⟩, 1), (⟨"ThrownMarks$Scale", "pairs", "(LThrownMarks$Card;I)I"⟩, 1), (⟨"ThrownMarks$Scale", "weighted", "(LThrownMarks$Scheme;ILThrownMarks$Card;I)I"⟩, 1), (⟨"ThrownMarks$Reach", "layBeside", "(IZ)V"⟩, 8), (⟨"ThrownMarks$Reach", "giveAll", "(I)V"⟩, 8), (⟨"ThrownMarks$Reach", "placeNow", "(I)I"⟩, 8), (⟨"ThrownMarks$Reach", "worthNow", "(II)I"⟩, 8), (⟨"ThrownMarks$Reach", "giveNext", "()V"⟩, 8), (⟨"ThrownMarks", "bettersOwn", "(I)Z"⟩, 10)]
theorem lw_r1 : ∀ q ∈ lw_privs_1, lw_okq q := List.forall_mem_cons.mpr ⟨lw_p0, List.forall_mem_cons.mpr ⟨lw_p1, List.forall_mem_cons.mpr ⟨lw_p2, List.forall_mem_cons.mpr ⟨lw_p3, List.forall_mem_cons.mpr ⟨lw_p4, List.forall_mem_cons.mpr ⟨lw_p5, List.forall_mem_cons.mpr ⟨lw_p6, List.forall_mem_cons.mpr ⟨lw_p7, List.forall_mem_cons.mpr ⟨lw_p8, List.forall_mem_cons.mpr ⟨lw_p9, List.forall_mem_cons.mpr ⟨lw_p10, List.forall_mem_cons.mpr ⟨lw_p11, List.forall_mem_cons.mpr ⟨lw_p12, List.forall_mem_cons.mpr ⟨lw_p13, List.forall_mem_cons.mpr ⟨lw_p14, List.forall_mem_cons.mpr ⟨lw_p15, fun _ h => absurd h List.not_mem_nil⟩⟩⟩⟩⟩⟩⟩⟩⟩⟩⟩⟩⟩⟩⟩⟩
theorem lw_p16 : lw_okq (⟨"ThrownMarks", "benders", "(LThrownMarks$Scheme;)I"⟩, 10) := ⟨⟨by decide +kernel, by decide +kernel⟩, List.mem_of_getElem? (i := 15) (by decide +kernel), List.mem_of_getElem? (i := 542) (by decide +kernel), List.mem_of_getElem? (i := 543) (by decide +kernel)⟩
theorem lw_p17 : lw_okq (⟨"ThrownMarks", "isJudgeSet", "(I)Z"⟩, 10) := ⟨⟨by decide +kernel, by decide +kernel⟩, List.mem_of_getElem? (i := 15) (by decide +kernel), List.mem_of_getElem? (i := 569) (by decide +kernel), List.mem_of_getElem? (i := 570) (by decide +kernel)⟩
theorem lw_p18 : lw_okq (⟨"ThrownMarks", "placeByBloc", "(LThrownMarks$Scheme;II)I"⟩, 10) := ⟨⟨by decide +kernel, by decide +kernel⟩, List.mem_of_getElem? (i := 15) (by decide +kernel), List.mem_of_getElem? (i := 577) (by decide +kernel), List.mem_of_getElem? (i := 578) (by decide +kernel)⟩
theorem lw_p19 : lw_okq (⟨"ThrownMarks", "doesTurn", "(LThrownMarks$Scheme;III)Z"⟩, 10) := ⟨⟨by decide +kernel, by decide +kernel⟩, List.mem_of_getElem? (i := 15) (by decide +kernel), List.mem_of_getElem? (i := 610) (by decide +kernel), List.mem_of_getElem? (i := 611) (by decide +kernel)⟩
theorem lw_p20 : lw_okq (⟨"ThrownMarks$Card", "marksBut", "(II)I"⟩, 6) := ⟨⟨by decide +kernel, by decide +kernel⟩, List.mem_of_getElem? (i := 23) (by decide +kernel), List.mem_of_getElem? (i := 658) (by decide +kernel), List.mem_of_getElem? (i := 659) (by decide +kernel)⟩
theorem lw_p21 : lw_okq (⟨"ThrownMarks$Past", "standsBeside", "(II)Z"⟩, 2) := ⟨⟨by decide +kernel, by decide +kernel⟩, List.mem_of_getElem? (i := 150) (by decide +kernel), List.mem_of_getElem? (i := 672) (by decide +kernel), List.mem_of_getElem? (i := 673) (by decide +kernel)⟩
theorem lw_p22 : lw_okq (⟨"ThrownMarks$Past", "leanInPlaceOf", "(II)I"⟩, 2) := ⟨⟨by decide +kernel, by decide +kernel⟩, List.mem_of_getElem? (i := 150) (by decide +kernel), List.mem_of_getElem? (i := 676) (by decide +kernel), List.mem_of_getElem? (i := 677) (by decide +kernel)⟩
theorem lw_p23 : lw_okq (⟨"ThrownMarks", "noteMind", "(LThrownMarks$Scheme;I)V"⟩, 10) := ⟨⟨by decide +kernel, by decide +kernel⟩, List.mem_of_getElem? (i := 15) (by decide +kernel), List.mem_of_getElem? (i := 709) (by decide +kernel), List.mem_of_getElem? (i := 710) (by decide +kernel)⟩
theorem lw_p24 : lw_okq (⟨"ThrownMarks$Minds", "wouldChange", "(III)Z"⟩, 1) := ⟨⟨by decide +kernel, by decide +kernel⟩, List.mem_of_getElem? (i := 166) (by decide +kernel), List.mem_of_getElem? (i := 733) (by decide +kernel), List.mem_of_getElem? (i := 734) (by decide +kernel)⟩
theorem lw_p25 : lw_okq (⟨"ThrownMarksModel", "noSkater", "(I)Z"⟩, 29) := ⟨⟨by decide +kernel, by decide +kernel⟩, List.mem_of_getElem? (i := 745) (by decide +kernel), List.mem_of_getElem? (i := 852) (by decide +kernel), List.mem_of_getElem? (i := 853) (by decide +kernel)⟩
theorem lw_p26 : lw_okq (⟨"ThrownMarksModel", "noJudge", "(I)Z"⟩, 29) := ⟨⟨by decide +kernel, by decide +kernel⟩, List.mem_of_getElem? (i := 745) (by decide +kernel), List.mem_of_getElem? (i := 856) (by decide +kernel), List.mem_of_getElem? (i := 857) (by decide +kernel)⟩
theorem lw_p27 : lw_okq (⟨"ThrownMarksModel", "cards", "()I"⟩, 29) := ⟨⟨by decide +kernel, by decide +kernel⟩, List.mem_of_getElem? (i := 745) (by decide +kernel), List.mem_of_getElem? (i := 870) (by decide +kernel), List.mem_of_getElem? (i := 871) (by decide +kernel)⟩
theorem lw_p28 : lw_okq (⟨"ThrownMarksModel", "read", "()I"⟩, 29) := ⟨⟨by decide +kernel, by decide +kernel⟩, List.mem_of_getElem? (i := 745) (by decide +kernel), List.mem_of_getElem? (i := 895) (by decide +kernel), List.mem_of_getElem? (i := 896) (by decide +kernel)⟩
theorem lw_p29 : lw_okq (⟨"ThrownMarksModel", "isFigure", "(II)Z"⟩, 29) := ⟨⟨by decide +kernel, by decide +kernel⟩, List.mem_of_getElem? (i := 745) (by decide +kernel), List.mem_of_getElem? (i := 899) (by decide +kernel), List.mem_of_getElem? (i := 900) (by decide +kernel)⟩
theorem lw_p30 : lw_okq (⟨"ThrownMarksModel", "take", "()V"⟩, 29) := ⟨⟨by decide +kernel, by decide +kernel⟩, List.mem_of_getElem? (i := 745) (by decide +kernel), List.mem_of_getElem? (i := 920) (by decide +kernel), List.mem_of_getElem? (i := 921) (by decide +kernel)⟩
theorem lw_p31 : lw_okq (⟨"ThrownMarksModel", "worthOf", "(III)I"⟩, 29) := ⟨⟨by decide +kernel, by decide +kernel⟩, List.mem_of_getElem? (i := 745) (by decide +kernel), List.mem_of_getElem? (i := 924) (by decide +kernel), List.mem_of_getElem? (i := 925) (by decide +kernel)⟩
def lw_privs_2 : List (MethodName × Nat) := [(⟨"ThrownMarks", "benders", "(LThrownMarks$Scheme;)I"⟩, 10), (⟨"ThrownMarks", "isJudgeSet", "(I)Z"⟩, 10), (⟨"ThrownMarks", "placeByBloc", "(LThrownMarks$Scheme;II)I"⟩, 10), (⟨"ThrownMarks", "doesTurn", "(LThrownMarks$Scheme;III)Z"⟩, 10), (⟨"ThrownMarks$Card", "marksBut", "(II)I"⟩, 6), (⟨"ThrownMarks$Past", "standsBeside", "(II)Z"⟩, 2), (⟨"ThrownMarks$Past", "leanInPlaceOf", "(II)I"⟩, 2), (⟨"ThrownMarks", "noteMind", "(LThrownMarks$Scheme;I)V"⟩, 10), (⟨"ThrownMarks$Minds", "wouldChange", "(III)Z"⟩, 1), (⟨"ThrownMarksModel", "noSkater", "(I)Z"⟩, 29), (⟨"ThrownMarksModel", "noJudge", "(I)Z"⟩, 29), (⟨"ThrownMarksModel", "cards", "()I"⟩, 29), (⟨"ThrownMarksModel", "read", "()I"⟩, 29), (⟨"ThrownMarksModel", "isFigure", "(II)Z"⟩, 29), (⟨"ThrownMarksModel", "take", "()V"⟩, 29), (⟨"ThrownMarksModel", "worthOf", "(III)I"⟩, 29)]
theorem lw_r2 : ∀ q ∈ lw_privs_2, lw_okq q := List.forall_mem_cons.mpr ⟨lw_p16, List.forall_mem_cons.mpr ⟨lw_p17, List.forall_mem_cons.mpr ⟨lw_p18, List.forall_mem_cons.mpr ⟨lw_p19, List.forall_mem_cons.mpr ⟨lw_p20, List.forall_mem_cons.mpr ⟨lw_p21, List.forall_mem_cons.mpr ⟨lw_p22, List.forall_mem_cons.mpr ⟨lw_p23, List.forall_mem_cons.mpr ⟨lw_p24, List.forall_mem_cons.mpr ⟨lw_p25, List.forall_mem_cons.mpr ⟨lw_p26, List.forall_mem_cons.mpr ⟨lw_p27, List.forall_mem_cons.mpr ⟨lw_p28, List.forall_mem_cons.mpr ⟨lw_p29, List.forall_mem_cons.mpr ⟨lw_p30, List.forall_mem_cons.mpr ⟨lw_p31, fun _ h => absurd h List.not_mem_nil⟩⟩⟩⟩⟩⟩⟩⟩⟩⟩⟩⟩⟩⟩⟩⟩
theorem lw_p32 : lw_okq (⟨"ThrownMarksModel", "struck", "(II)I"⟩, 29) := ⟨⟨by decide +kernel, by decide +kernel⟩, List.mem_of_getElem? (i := 745) (by decide +kernel), List.mem_of_getElem? (i := 928) (by decide +kernel), List.mem_of_getElem? (i := 929) (by decide +kernel)⟩
theorem lw_p33 : lw_okq (⟨"ThrownMarksModel", "sort", "(I)I"⟩, 29) := ⟨⟨by decide +kernel, by decide +kernel⟩, List.mem_of_getElem? (i := 745) (by decide +kernel), List.mem_of_getElem? (i := 932) (by decide +kernel), List.mem_of_getElem? (i := 933) (by decide +kernel)⟩
theorem lw_p34 : lw_okq (⟨"ThrownMarksModel", "middle", "(I)I"⟩, 29) := ⟨⟨by decide +kernel, by decide +kernel⟩, List.mem_of_getElem? (i := 745) (by decide +kernel), List.mem_of_getElem? (i := 936) (by decide +kernel), List.mem_of_getElem? (i := 937) (by decide +kernel)⟩
theorem lw_p35 : lw_okq (⟨"ThrownMarksModel", "ranks", "(I)I"⟩, 29) := ⟨⟨by decide +kernel, by decide +kernel⟩, List.mem_of_getElem? (i := 745) (by decide +kernel), List.mem_of_getElem? (i := 940) (by decide +kernel), List.mem_of_getElem? (i := 941) (by decide +kernel)⟩
theorem lw_p36 : lw_okq (⟨"ThrownMarksModel", "pairs", "(I)I"⟩, 29) := ⟨⟨by decide +kernel, by decide +kernel⟩, List.mem_of_getElem? (i := 745) (by decide +kernel), List.mem_of_getElem? (i := 944) (by decide +kernel), List.mem_of_getElem? (i := 945) (by decide +kernel)⟩
theorem lw_p37 : lw_okq (⟨"ThrownMarksModel", "weighed", "(II)I"⟩, 29) := ⟨⟨by decide +kernel, by decide +kernel⟩, List.mem_of_getElem? (i := 745) (by decide +kernel), List.mem_of_getElem? (i := 948) (by decide +kernel), List.mem_of_getElem? (i := 949) (by decide +kernel)⟩
theorem lw_p38 : lw_okq (⟨"ThrownMarksModel", "lay", "(I)V"⟩, 29) := ⟨⟨by decide +kernel, by decide +kernel⟩, List.mem_of_getElem? (i := 745) (by decide +kernel), List.mem_of_getElem? (i := 956) (by decide +kernel), List.mem_of_getElem? (i := 957) (by decide +kernel)⟩
theorem lw_p39 : lw_okq (⟨"ThrownMarksModel", "placeOf", "(II)I"⟩, 29) := ⟨⟨by decide +kernel, by decide +kernel⟩, List.mem_of_getElem? (i := 745) (by decide +kernel), List.mem_of_getElem? (i := 960) (by decide +kernel), List.mem_of_getElem? (i := 961) (by decide +kernel)⟩
theorem lw_p40 : lw_okq (⟨"ThrownMarksModel", "by", "(III)I"⟩, 29) := ⟨⟨by decide +kernel, by decide +kernel⟩, List.mem_of_getElem? (i := 745) (by decide +kernel), List.mem_of_getElem? (i := 964) (by decide +kernel), List.mem_of_getElem? (i := 965) (by decide +kernel)⟩
theorem lw_p41 : lw_okq (⟨"ThrownMarksModel", "firsts", "(I)I"⟩, 29) := ⟨⟨by decide +kernel, by decide +kernel⟩, List.mem_of_getElem? (i := 745) (by decide +kernel), List.mem_of_getElem? (i := 976) (by decide +kernel), List.mem_of_getElem? (i := 977) (by decide +kernel)⟩
theorem lw_p42 : lw_okq (⟨"ThrownMarksModel", "findBest", "(IIIZ)I"⟩, 29) := ⟨⟨by decide +kernel, by decide +kernel⟩, List.mem_of_getElem? (i := 745) (by decide +kernel), List.mem_of_getElem? (i := 988) (by decide +kernel), List.mem_of_getElem? (i := 989) (by decide +kernel)⟩
theorem lw_p43 : lw_okq (⟨"ThrownMarksModel", "give", "(II)V"⟩, 29) := ⟨⟨by decide +kernel, by decide +kernel⟩, List.mem_of_getElem? (i := 745) (by decide +kernel), List.mem_of_getElem? (i := 992) (by decide +kernel), List.mem_of_getElem? (i := 993) (by decide +kernel)⟩
theorem lw_p44 : lw_okq (⟨"ThrownMarksModel", "isBent", "(II)Z"⟩, 29) := ⟨⟨by decide +kernel, by decide +kernel⟩, List.mem_of_getElem? (i := 745) (by decide +kernel), List.mem_of_getElem? (i := 1004) (by decide +kernel), List.mem_of_getElem? (i := 1005) (by decide +kernel)⟩
theorem lw_p45 : lw_okq (⟨"ThrownMarksModel", "allBent", "(I)I"⟩, 29) := ⟨⟨by decide +kernel, by decide +kernel⟩, List.mem_of_getElem? (i := 745) (by decide +kernel), List.mem_of_getElem? (i := 1012) (by decide +kernel), List.mem_of_getElem? (i := 1013) (by decide +kernel)⟩
theorem lw_p46 : lw_okq (⟨"ThrownMarksModel", "noSet", "(I)Z"⟩, 29) := ⟨⟨by decide +kernel, by decide +kernel⟩, List.mem_of_getElem? (i := 745) (by decide +kernel), List.mem_of_getElem? (i := 1031) (by decide +kernel), List.mem_of_getElem? (i := 1032) (by decide +kernel)⟩
theorem lw_p47 : lw_okq (⟨"ThrownMarksModel", "placeBy", "(III)I"⟩, 29) := ⟨⟨by decide +kernel, by decide +kernel⟩, List.mem_of_getElem? (i := 745) (by decide +kernel), List.mem_of_getElem? (i := 1035) (by decide +kernel), List.mem_of_getElem? (i := 1036) (by decide +kernel)⟩
def lw_privs_3 : List (MethodName × Nat) := [(⟨"ThrownMarksModel", "struck", "(II)I"⟩, 29), (⟨"ThrownMarksModel", "sort", "(I)I"⟩, 29), (⟨"ThrownMarksModel", "middle", "(I)I"⟩, 29), (⟨"ThrownMarksModel", "ranks", "(I)I"⟩, 29), (⟨"ThrownMarksModel", "pairs", "(I)I"⟩, 29), (⟨"ThrownMarksModel", "weighed", "(II)I"⟩, 29), (⟨"ThrownMarksModel", "lay", "(I)V"⟩, 29), (⟨"ThrownMarksModel", "placeOf", "(II)I"⟩, 29), (⟨"ThrownMarksModel", "by", "(III)I"⟩, 29), (⟨"ThrownMarksModel", "firsts", "(I)I"⟩, 29), (⟨"ThrownMarksModel", "findBest", "(IIIZ)I"⟩, 29), (⟨"ThrownMarksModel", "give", "(II)V"⟩, 29), (⟨"ThrownMarksModel", "isBent", "(II)Z"⟩, 29), (⟨"ThrownMarksModel", "allBent", "(I)I"⟩, 29), (⟨"ThrownMarksModel", "noSet", "(I)Z"⟩, 29), (⟨"ThrownMarksModel", "placeBy", "(III)I"⟩, 29)]
theorem lw_r3 : ∀ q ∈ lw_privs_3, lw_okq q := List.forall_mem_cons.mpr ⟨lw_p32, List.forall_mem_cons.mpr ⟨lw_p33, List.forall_mem_cons.mpr ⟨lw_p34, List.forall_mem_cons.mpr ⟨lw_p35, List.forall_mem_cons.mpr ⟨lw_p36, List.forall_mem_cons.mpr ⟨lw_p37, List.forall_mem_cons.mpr ⟨lw_p38, List.forall_mem_cons.mpr ⟨lw_p39, List.forall_mem_cons.mpr ⟨lw_p40, List.forall_mem_cons.mpr ⟨lw_p41, List.forall_mem_cons.mpr ⟨lw_p42, List.forall_mem_cons.mpr ⟨lw_p43, List.forall_mem_cons.mpr ⟨lw_p44, List.forall_mem_cons.mpr ⟨lw_p45, List.forall_mem_cons.mpr ⟨lw_p46, List.forall_mem_cons.mpr ⟨lw_p47, fun _ h => absurd h List.not_mem_nil⟩⟩⟩⟩⟩⟩⟩⟩⟩⟩⟩⟩⟩⟩⟩⟩
theorem lw_p48 : lw_okq (⟨"ThrownMarksModel", "isTurned", "(IIII)Z"⟩, 29) := ⟨⟨by decide +kernel, by decide +kernel⟩, List.mem_of_getElem? (i := 745) (by decide +kernel), List.mem_of_getElem? (i := 1055) (by decide +kernel), List.mem_of_getElem? (i := 1056) (by decide +kernel)⟩
theorem lw_p49 : lw_okq (⟨"ThrownMarksModel", "leanOf", "(I)I"⟩, 29) := ⟨⟨by decide +kernel, by decide +kernel⟩, List.mem_of_getElem? (i := 745) (by decide +kernel), List.mem_of_getElem? (i := 1076) (by decide +kernel), List.mem_of_getElem? (i := 1077) (by decide +kernel)⟩
theorem lw_p50 : lw_okq (⟨"ThrownMarksModel", "leanIn", "(III)I"⟩, 29) := ⟨⟨by decide +kernel, by decide +kernel⟩, List.mem_of_getElem? (i := 745) (by decide +kernel), List.mem_of_getElem? (i := 1080) (by decide +kernel), List.mem_of_getElem? (i := 1081) (by decide +kernel)⟩
theorem lw_p51 : lw_okq (⟨"ThrownMarksModel", "stood", "(II)Z"⟩, 29) := ⟨⟨by decide +kernel, by decide +kernel⟩, List.mem_of_getElem? (i := 745) (by decide +kernel), List.mem_of_getElem? (i := 1084) (by decide +kernel), List.mem_of_getElem? (i := 1085) (by decide +kernel)⟩
theorem lw_p52 : lw_okq (⟨"ThrownMarksModel", "mind", "(I)V"⟩, 29) := ⟨⟨by decide +kernel, by decide +kernel⟩, List.mem_of_getElem? (i := 745) (by decide +kernel), List.mem_of_getElem? (i := 1104) (by decide +kernel), List.mem_of_getElem? (i := 1105) (by decide +kernel)⟩
theorem lw_p53 : lw_okq (⟨"ThrownMarksModel", "isAtRest", "(II)Z"⟩, 29) := ⟨⟨by decide +kernel, by decide +kernel⟩, List.mem_of_getElem? (i := 745) (by decide +kernel), List.mem_of_getElem? (i := 1112) (by decide +kernel), List.mem_of_getElem? (i := 1113) (by decide +kernel)⟩
theorem lw_p54 : lw_okq (⟨"ThrownMarksModel", "leastOf", "(III)I"⟩, 29) := ⟨⟨by decide +kernel, by decide +kernel⟩, List.mem_of_getElem? (i := 745) (by decide +kernel), List.mem_of_getElem? (i := 1116) (by decide +kernel), List.mem_of_getElem? (i := 1117) (by decide +kernel)⟩
def lw_privs_4 : List (MethodName × Nat) := [(⟨"ThrownMarksModel", "isTurned", "(IIII)Z"⟩, 29), (⟨"ThrownMarksModel", "leanOf", "(I)I"⟩, 29), (⟨"ThrownMarksModel", "leanIn", "(III)I"⟩, 29), (⟨"ThrownMarksModel", "stood", "(II)Z"⟩, 29), (⟨"ThrownMarksModel", "mind", "(I)V"⟩, 29), (⟨"ThrownMarksModel", "isAtRest", "(II)Z"⟩, 29), (⟨"ThrownMarksModel", "leastOf", "(III)I"⟩, 29)]
theorem lw_r4 : ∀ q ∈ lw_privs_4, lw_okq q := List.forall_mem_cons.mpr ⟨lw_p48, List.forall_mem_cons.mpr ⟨lw_p49, List.forall_mem_cons.mpr ⟨lw_p50, List.forall_mem_cons.mpr ⟨lw_p51, List.forall_mem_cons.mpr ⟨lw_p52, List.forall_mem_cons.mpr ⟨lw_p53, List.forall_mem_cons.mpr ⟨lw_p54, fun _ h => absurd h List.not_mem_nil⟩⟩⟩⟩⟩⟩⟩
def lw_privs : List (MethodName × Nat) := lw_privs_1 ++ (lw_privs_2 ++ (lw_privs_3 ++ (lw_privs_4)))
def lw_tbl : List Cond := k2_sels lw_privs ++ tables_1
theorem lw_privs_ok : ∀ q ∈ lw_privs, lw_okq q := by
  show ∀ q ∈ lw_privs_1 ++ (lw_privs_2 ++ (lw_privs_3 ++ (lw_privs_4))), lw_okq q
  exact List.forall_mem_append.mpr ⟨lw_r1, List.forall_mem_append.mpr ⟨lw_r2, List.forall_mem_append.mpr ⟨lw_r3, lw_r4⟩⟩⟩

def RX0 : String := "ThrownMarks$Card"
def TX0 : u_T := fun k => match k with
  | 0 => ("ThrownMarks$Card", "marks", "[I", true)
  | 1 => ("ThrownMarks$Card", "judgeLands", "[I", true)
  | 2 => ("ThrownMarks$Card", "skaterLands", "[I", true)
  | 3 => ("ThrownMarks$Card", "judges", "I", false)
  | 4 => ("ThrownMarks$Card", "skaters", "I", false)
  | _ => ("ThrownMarks$Card", "lost", "I", false)
def tyX0 : Nat → FieldType := fun k => match k with
  | 0 => .array .int
  | 1 => .array .int
  | 2 => .array .int
  | 3 => .int
  | 4 => .int
  | _ => .int
abbrev wsX00 : List Cond := u_ws RX0 TX0 6
theorem nmX0 : ∀ a, a < 6 → ∀ b, b < 6 → a ≠ b → (TX0 a).2.1 ≠ (TX0 b).2.1 := by decide +kernel
theorem tyX0_ok : ∀ k, k < 6 → parseFieldDescriptor (TX0 k).2.2.1 = some (tyX0 k) := by decide +kernel
abbrev cX0_init : ByteArray := prog_2_method_1_code
def yX0_init : MethodName := ⟨RX0, "<init>", "()V"⟩
abbrev cX0_begin : ByteArray := prog_2_method_2_code
def yX0_begin : MethodName := ⟨RX0, "begin", "(II)V"⟩
abbrev cX0_copyFrom : ByteArray := prog_2_method_3_code
def yX0_copyFrom : MethodName := ⟨RX0, "copyFrom", "(LThrownMarks$Card;)V"⟩
abbrev cX0_judges : ByteArray := prog_2_method_4_code
def yX0_judges : MethodName := ⟨RX0, "judges", "()I"⟩
abbrev cX0_skaters : ByteArray := prog_2_method_5_code
def yX0_skaters : MethodName := ⟨RX0, "skaters", "()I"⟩
abbrev cX0_size : ByteArray := prog_2_method_6_code
def yX0_size : MethodName := ⟨RX0, "size", "()I"⟩
abbrev cX0_judgeSets : ByteArray := prog_2_method_7_code
def yX0_judgeSets : MethodName := ⟨RX0, "judgeSets", "()I"⟩
abbrev cX0_rows : ByteArray := prog_2_method_8_code
def yX0_rows : MethodName := ⟨RX0, "rows", "()I"⟩
abbrev cX0_hasJudge : ByteArray := prog_2_method_9_code
def yX0_hasJudge : MethodName := ⟨RX0, "hasJudge", "(I)Z"⟩
abbrev cX0_hasSkater : ByteArray := prog_2_method_10_code
def yX0_hasSkater : MethodName := ⟨RX0, "hasSkater", "(I)Z"⟩
abbrev cX0_markOf : ByteArray := prog_2_method_11_code
def yX0_markOf : MethodName := ⟨RX0, "markOf", "(II)I"⟩
abbrev cX0_give : ByteArray := prog_2_method_12_code
def yX0_give : MethodName := ⟨RX0, "give", "(III)V"⟩
abbrev cX0_rowOf : ByteArray := prog_2_method_13_code
def yX0_rowOf : MethodName := ⟨RX0, "rowOf", "(I)I"⟩
abbrev cX0_giveRow : ByteArray := prog_2_method_14_code
def yX0_giveRow : MethodName := ⟨RX0, "giveRow", "(II)V"⟩
abbrev cX0_counts : ByteArray := prog_2_method_15_code
def yX0_counts : MethodName := ⟨RX0, "counts", "(I)Z"⟩
abbrev cX0_counting : ByteArray := prog_2_method_16_code
def yX0_counting : MethodName := ⟨RX0, "counting", "()I"⟩
abbrev cX0_setLost : ByteArray := prog_2_method_17_code
def yX0_setLost : MethodName := ⟨RX0, "setLost", "(IZ)V"⟩
abbrev cX0_loseAllBut : ByteArray := prog_2_method_18_code
def yX0_loseAllBut : MethodName := ⟨RX0, "loseAllBut", "(I)V"⟩
abbrev cX0_judgeLand : ByteArray := prog_2_method_19_code
def yX0_judgeLand : MethodName := ⟨RX0, "judgeLand", "(I)I"⟩
abbrev cX0_skaterLand : ByteArray := prog_2_method_20_code
def yX0_skaterLand : MethodName := ⟨RX0, "skaterLand", "(I)I"⟩
abbrev cX0_ofOneLand : ByteArray := prog_2_method_21_code
def yX0_ofOneLand : MethodName := ⟨RX0, "ofOneLand", "(II)Z"⟩
abbrev cX0_moveJudge : ByteArray := prog_2_method_22_code
def yX0_moveJudge : MethodName := ⟨RX0, "moveJudge", "(II)I"⟩
abbrev cX0_moveSkater : ByteArray := prog_2_method_23_code
def yX0_moveSkater : MethodName := ⟨RX0, "moveSkater", "(II)I"⟩
abbrev cX0_favour : ByteArray := prog_2_method_24_code
def yX0_favour : MethodName := ⟨RX0, "favour", "(II)V"⟩
abbrev cX0_leanAll : ByteArray := prog_2_method_25_code
def yX0_leanAll : MethodName := ⟨RX0, "leanAll", "(I)V"⟩
abbrev cX0_leanFor : ByteArray := prog_2_method_26_code
def yX0_leanFor : MethodName := ⟨RX0, "leanFor", "(II)I"⟩
abbrev cX0_marksBut : ByteArray := prog_2_method_27_code
def yX0_marksBut : MethodName := ⟨RX0, "marksBut", "(II)I"⟩
def RX1 : String := "ThrownMarks$Minds"
def TX1 : u_T := fun k => match k with
  | _ => ("ThrownMarks$Minds", "leastPlaces", "[I", true)
def tyX1 : Nat → FieldType := fun k => match k with
  | _ => .array .int
abbrev wsX10 : List Cond := u_ws RX1 TX1 1
theorem nmX1 : ∀ a, a < 1 → ∀ b, b < 1 → a ≠ b → (TX1 a).2.1 ≠ (TX1 b).2.1 := by decide +kernel
theorem tyX1_ok : ∀ k, k < 1 → parseFieldDescriptor (TX1 k).2.2.1 = some (tyX1 k) := by decide +kernel
abbrev cX1_init : ByteArray := prog_3_method_1_code
def yX1_init : MethodName := ⟨RX1, "<init>", "()V"⟩
abbrev cX1_note : ByteArray := prog_3_method_2_code
def yX1_note : MethodName := ⟨RX1, "note", "(ILThrownMarks$Card;LThrownMarks$Standing;)V"⟩
abbrev cX1_atRest : ByteArray := prog_3_method_3_code
def yX1_atRest : MethodName := ⟨RX1, "atRest", "(LThrownMarks$Card;I)Z"⟩
abbrev cX1_wouldChange : ByteArray := prog_3_method_4_code
def yX1_wouldChange : MethodName := ⟨RX1, "wouldChange", "(III)Z"⟩
def RX2 : String := "ThrownMarks$Past"
def TX2 : u_T := fun k => match k with
  | 0 => ("ThrownMarks$Past", "cards", "[LThrownMarks$Card;", true)
  | _ => ("ThrownMarks$Past", "size", "I", false)
def tyX2 : Nat → FieldType := fun k => match k with
  | 0 => .array (.object "ThrownMarks$Card")
  | _ => .int
abbrev wsX20 : List Cond := u_ws RX2 TX2 2
theorem nmX2 : ∀ a, a < 2 → ∀ b, b < 2 → a ≠ b → (TX2 a).2.1 ≠ (TX2 b).2.1 := by decide +kernel
theorem tyX2_ok : ∀ k, k < 2 → parseFieldDescriptor (TX2 k).2.2.1 = some (tyX2 k) := by decide +kernel
abbrev cX2_init : ByteArray := prog_4_method_1_code
def yX2_init : MethodName := ⟨RX2, "<init>", "()V"⟩
abbrev cX2_size : ByteArray := prog_4_method_2_code
def yX2_size : MethodName := ⟨RX2, "size", "()I"⟩
abbrev cX2_hasRoom : ByteArray := prog_4_method_3_code
def yX2_hasRoom : MethodName := ⟨RX2, "hasRoom", "()Z"⟩
abbrev cX2_add : ByteArray := prog_4_method_4_code
def yX2_add : MethodName := ⟨RX2, "add", "(LThrownMarks$Card;)I"⟩
abbrev cX2_empty : ByteArray := prog_4_method_5_code
def yX2_empty : MethodName := ⟨RX2, "empty", "()I"⟩
abbrev cX2_cardAt : ByteArray := prog_4_method_6_code
def yX2_cardAt : MethodName := ⟨RX2, "cardAt", "(I)LThrownMarks$Card;"⟩
abbrev cX2_leanOf : ByteArray := prog_4_method_7_code
def yX2_leanOf : MethodName := ⟨RX2, "leanOf", "(I)I"⟩
abbrev cX2_asMuch : ByteArray := prog_4_method_8_code
def yX2_asMuch : MethodName := ⟨RX2, "asMuch", "(I)I"⟩
abbrev cX2_standsBeside : ByteArray := prog_4_method_9_code
def yX2_standsBeside : MethodName := ⟨RX2, "standsBeside", "(II)Z"⟩
abbrev cX2_leanInPlaceOf : ByteArray := prog_4_method_10_code
def yX2_leanInPlaceOf : MethodName := ⟨RX2, "leanInPlaceOf", "(II)I"⟩
def RX3 : String := "ThrownMarks$Reach"
def TX3 : u_T := fun k => match k with
  | 0 => ("ThrownMarks$Reach", "scale", "LThrownMarks$Scale;", true)
  | 1 => ("ThrownMarks$Reach", "card", "LThrownMarks$Card;", true)
  | 2 => ("ThrownMarks$Reach", "alone", "[I", true)
  | 3 => ("ThrownMarks$Reach", "beside", "[I", true)
  | 4 => ("ThrownMarks$Reach", "paired", "[Z", true)
  | 5 => ("ThrownMarks$Reach", "given", "[I", true)
  | 6 => ("ThrownMarks$Reach", "parts", "I", false)
  | _ => ("ThrownMarks$Reach", "skaters", "I", false)
def tyX3 : Nat → FieldType := fun k => match k with
  | 0 => .object "ThrownMarks$Scale"
  | 1 => .object "ThrownMarks$Card"
  | 2 => .array .int
  | 3 => .array .int
  | 4 => .array .boolean
  | 5 => .array .int
  | 6 => .int
  | _ => .int
abbrev wsX30 : List Cond := u_ws RX3 TX3 8
theorem nmX3 : ∀ a, a < 8 → ∀ b, b < 8 → a ≠ b → (TX3 a).2.1 ≠ (TX3 b).2.1 := by decide +kernel
theorem tyX3_ok : ∀ k, k < 8 → parseFieldDescriptor (TX3 k).2.2.1 = some (tyX3 k) := by decide +kernel
abbrev cX3_init : ByteArray := prog_5_method_1_code
def yX3_init : MethodName := ⟨RX3, "<init>", "()V"⟩
abbrev cX3_open : ByteArray := prog_5_method_2_code
def yX3_open : MethodName := ⟨RX3, "open", "(LThrownMarks$Scheme;LThrownMarks$Card;I)V"⟩
abbrev cX3_layBeside : ByteArray := prog_5_method_3_code
def yX3_layBeside : MethodName := ⟨RX3, "layBeside", "(IZ)V"⟩
abbrev cX3_aloneAt : ByteArray := prog_5_method_4_code
def yX3_aloneAt : MethodName := ⟨RX3, "aloneAt", "(III)I"⟩
abbrev cX3_besideAt : ByteArray := prog_5_method_5_code
def yX3_besideAt : MethodName := ⟨RX3, "besideAt", "(IIII)I"⟩
abbrev cX3_bestRow : ByteArray := prog_5_method_6_code
def yX3_bestRow : MethodName := ⟨RX3, "bestRow", "(II)I"⟩
abbrev cX3_placeBy : ByteArray := prog_5_method_7_code
def yX3_placeBy : MethodName := ⟨RX3, "placeBy", "(II)I"⟩
abbrev cX3_giveAll : ByteArray := prog_5_method_8_code
def yX3_giveAll : MethodName := ⟨RX3, "giveAll", "(I)V"⟩
abbrev cX3_giveNext : ByteArray := prog_5_method_9_code
def yX3_giveNext : MethodName := ⟨RX3, "giveNext", "()V"⟩
abbrev cX3_placeNow : ByteArray := prog_5_method_10_code
def yX3_placeNow : MethodName := ⟨RX3, "placeNow", "(I)I"⟩
abbrev cX3_worthNow : ByteArray := prog_5_method_11_code
def yX3_worthNow : MethodName := ⟨RX3, "worthNow", "(II)I"⟩
def RX4 : String := "ThrownMarks$Scale"
def TX4 : u_T := fun k => match k with
  | _ => ("ThrownMarks$Scale", "sorted", "[I", true)
def tyX4 : Nat → FieldType := fun k => match k with
  | _ => .array .int
abbrev wsX40 : List Cond := u_ws RX4 TX4 1
theorem nmX4 : ∀ a, a < 1 → ∀ b, b < 1 → a ≠ b → (TX4 a).2.1 ≠ (TX4 b).2.1 := by decide +kernel
theorem tyX4_ok : ∀ k, k < 1 → parseFieldDescriptor (TX4 k).2.2.1 = some (tyX4 k) := by decide +kernel
abbrev cX4_init : ByteArray := prog_6_method_1_code
def yX4_init : MethodName := ⟨RX4, "<init>", "()V"⟩
abbrev cX4_weigh : ByteArray := prog_6_method_2_code
def yX4_weigh : MethodName := ⟨RX4, "weigh", "(LThrownMarks$Scheme;ILThrownMarks$Card;I)I"⟩
abbrev cX4_leadOf : ByteArray := prog_6_method_3_code
def yX4_leadOf : MethodName := ⟨RX4, "leadOf", "(LThrownMarks$Card;II)I"⟩
abbrev cX4_ranks : ByteArray := prog_6_method_4_code
def yX4_ranks : MethodName := ⟨RX4, "ranks", "(LThrownMarks$Card;I)I"⟩
abbrev cX4_pairs : ByteArray := prog_6_method_5_code
def yX4_pairs : MethodName := ⟨RX4, "pairs", "(LThrownMarks$Card;I)I"⟩
abbrev cX4_sumWithout : ByteArray := prog_6_method_6_code
def yX4_sumWithout : MethodName := ⟨RX4, "sumWithout", "(II)I"⟩
abbrev cX4_middleOf : ByteArray := prog_6_method_7_code
def yX4_middleOf : MethodName := ⟨RX4, "middleOf", "(I)I"⟩
abbrev cX4_weighted : ByteArray := prog_6_method_8_code
def yX4_weighted : MethodName := ⟨RX4, "weighted", "(LThrownMarks$Scheme;ILThrownMarks$Card;I)I"⟩
abbrev cX4_sortMarks : ByteArray := prog_6_method_9_code
def yX4_sortMarks : MethodName := ⟨RX4, "sortMarks", "(LThrownMarks$Card;I)I"⟩
def RX5 : String := "ThrownMarks$Scheme"
def TX5 : u_T := fun k => match k with
  | 0 => ("ThrownMarks$Scheme", "kinds", "[I", true)
  | 1 => ("ThrownMarks$Scheme", "strikes", "[I", true)
  | 2 => ("ThrownMarks$Scheme", "figures", "[I", true)
  | 3 => ("ThrownMarks$Scheme", "parts", "I", false)
  | _ => ("ThrownMarks$Scheme", "next", "I", false)
def tyX5 : Nat → FieldType := fun k => match k with
  | 0 => .array .int
  | 1 => .array .int
  | 2 => .array .int
  | 3 => .int
  | _ => .int
abbrev wsX50 : List Cond := u_ws RX5 TX5 5
theorem nmX5 : ∀ a, a < 5 → ∀ b, b < 5 → a ≠ b → (TX5 a).2.1 ≠ (TX5 b).2.1 := by decide +kernel
theorem tyX5_ok : ∀ k, k < 5 → parseFieldDescriptor (TX5 k).2.2.1 = some (tyX5 k) := by decide +kernel
abbrev cX5_init : ByteArray := prog_7_method_1_code
def yX5_init : MethodName := ⟨RX5, "<init>", "()V"⟩
abbrev cX5_parts : ByteArray := prog_7_method_2_code
def yX5_parts : MethodName := ⟨RX5, "parts", "()I"⟩
abbrev cX5_hasPart : ByteArray := prog_7_method_3_code
def yX5_hasPart : MethodName := ⟨RX5, "hasPart", "(I)Z"⟩
abbrev cX5_kindOf : ByteArray := prog_7_method_4_code
def yX5_kindOf : MethodName := ⟨RX5, "kindOf", "(I)I"⟩
abbrev cX5_strikeOf : ByteArray := prog_7_method_5_code
def yX5_strikeOf : MethodName := ⟨RX5, "strikeOf", "(I)I"⟩
abbrev cX5_figureOf : ByteArray := prog_7_method_6_code
def yX5_figureOf : MethodName := ⟨RX5, "figureOf", "(II)I"⟩
abbrev cX5_strikeAlone : ByteArray := prog_7_method_7_code
def yX5_strikeAlone : MethodName := ⟨RX5, "strikeAlone", "(I)V"⟩
abbrev cX5_read : ByteArray := prog_7_method_8_code
def yX5_read : MethodName := ⟨RX5, "read", "(LThrownMarks$Text;I)I"⟩
abbrev cX5_readPart : ByteArray := prog_7_method_9_code
def yX5_readPart : MethodName := ⟨RX5, "readPart", "(LThrownMarks$Text;I)Z"⟩
abbrev cX5_readStrike : ByteArray := prog_7_method_10_code
def yX5_readStrike : MethodName := ⟨RX5, "readStrike", "(LThrownMarks$Text;)Z"⟩
abbrev cX5_readFigures : ByteArray := prog_7_method_11_code
def yX5_readFigures : MethodName := ⟨RX5, "readFigures", "(LThrownMarks$Text;I)Z"⟩
abbrev cX5_kindBy : ByteArray := prog_7_method_12_code
def yX5_kindBy : MethodName := ⟨RX5, "kindBy", "(I)I"⟩
def RX6 : String := "ThrownMarks$Standing"
def TX6 : u_T := fun k => match k with
  | 0 => ("ThrownMarks$Standing", "scale", "LThrownMarks$Scale;", true)
  | 1 => ("ThrownMarks$Standing", "worths", "[I", true)
  | 2 => ("ThrownMarks$Standing", "parts", "I", false)
  | _ => ("ThrownMarks$Standing", "skaters", "I", false)
def tyX6 : Nat → FieldType := fun k => match k with
  | 0 => .object "ThrownMarks$Scale"
  | 1 => .array .int
  | 2 => .int
  | _ => .int
abbrev wsX60 : List Cond := u_ws RX6 TX6 4
theorem nmX6 : ∀ a, a < 4 → ∀ b, b < 4 → a ≠ b → (TX6 a).2.1 ≠ (TX6 b).2.1 := by decide +kernel
theorem tyX6_ok : ∀ k, k < 4 → parseFieldDescriptor (TX6 k).2.2.1 = some (tyX6 k) := by decide +kernel
abbrev cX6_init : ByteArray := prog_8_method_1_code
def yX6_init : MethodName := ⟨RX6, "<init>", "()V"⟩
abbrev cX6_take : ByteArray := prog_8_method_2_code
def yX6_take : MethodName := ⟨RX6, "take", "(LThrownMarks$Scheme;LThrownMarks$Card;)V"⟩
abbrev cX6_worthOf : ByteArray := prog_8_method_3_code
def yX6_worthOf : MethodName := ⟨RX6, "worthOf", "(II)I"⟩
abbrev cX6_ahead : ByteArray := prog_8_method_4_code
def yX6_ahead : MethodName := ⟨RX6, "ahead", "(II)Z"⟩
abbrev cX6_placeOf : ByteArray := prog_8_method_5_code
def yX6_placeOf : MethodName := ⟨RX6, "placeOf", "(I)I"⟩
abbrev cX6_leaders : ByteArray := prog_8_method_6_code
def yX6_leaders : MethodName := ⟨RX6, "leaders", "()I"⟩
def RX7 : String := "ThrownMarks$Text"
def TX7 : u_T := fun k => match k with
  | 0 => ("ThrownMarks$Text", "bytes", "[I", true)
  | _ => ("ThrownMarks$Text", "length", "I", false)
def tyX7 : Nat → FieldType := fun k => match k with
  | 0 => .array .int
  | _ => .int
abbrev wsX70 : List Cond := u_ws RX7 TX7 2
theorem nmX7 : ∀ a, a < 2 → ∀ b, b < 2 → a ≠ b → (TX7 a).2.1 ≠ (TX7 b).2.1 := by decide +kernel
theorem tyX7_ok : ∀ k, k < 2 → parseFieldDescriptor (TX7 k).2.2.1 = some (tyX7 k) := by decide +kernel
abbrev cX7_init : ByteArray := prog_9_method_1_code
def yX7_init : MethodName := ⟨RX7, "<init>", "()V"⟩
abbrev cX7_length : ByteArray := prog_9_method_2_code
def yX7_length : MethodName := ⟨RX7, "length", "()I"⟩
abbrev cX7_empty : ByteArray := prog_9_method_3_code
def yX7_empty : MethodName := ⟨RX7, "empty", "()I"⟩
abbrev cX7_append : ByteArray := prog_9_method_4_code
def yX7_append : MethodName := ⟨RX7, "append", "(IJ)I"⟩
abbrev cX7_byteAt : ByteArray := prog_9_method_5_code
def yX7_byteAt : MethodName := ⟨RX7, "byteAt", "(I)I"⟩
def RX8 : String := "ThrownMarks"
def TX8 : u_T := fun k => match k with
  | 0 => ("ThrownMarks", "now", "LThrownMarks$Card;", true)
  | 1 => ("ThrownMarks", "draft", "LThrownMarks$Card;", true)
  | 2 => ("ThrownMarks", "text", "LThrownMarks$Text;", true)
  | 3 => ("ThrownMarks", "schemes", "[LThrownMarks$Scheme;", true)
  | 4 => ("ThrownMarks", "spare", "LThrownMarks$Scheme;", true)
  | 5 => ("ThrownMarks", "today", "LThrownMarks$Standing;", true)
  | 6 => ("ThrownMarks", "trial", "LThrownMarks$Standing;", true)
  | 7 => ("ThrownMarks", "reach", "LThrownMarks$Reach;", true)
  | 8 => ("ThrownMarks", "kept", "LThrownMarks$Past;", true)
  | _ => ("ThrownMarks", "minds", "LThrownMarks$Minds;", true)
def tyX8 : Nat → FieldType := fun k => match k with
  | 0 => .object "ThrownMarks$Card"
  | 1 => .object "ThrownMarks$Card"
  | 2 => .object "ThrownMarks$Text"
  | 3 => .array (.object "ThrownMarks$Scheme")
  | 4 => .object "ThrownMarks$Scheme"
  | 5 => .object "ThrownMarks$Standing"
  | 6 => .object "ThrownMarks$Standing"
  | 7 => .object "ThrownMarks$Reach"
  | 8 => .object "ThrownMarks$Past"
  | _ => .object "ThrownMarks$Minds"
abbrev wsX80 : List Cond := u_ws RX8 TX8 10
theorem nmX8 : ∀ a, a < 10 → ∀ b, b < 10 → a ≠ b → (TX8 a).2.1 ≠ (TX8 b).2.1 := by decide +kernel
theorem tyX8_ok : ∀ k, k < 10 → parseFieldDescriptor (TX8 k).2.2.1 = some (tyX8 k) := by decide +kernel
abbrev cX8_init : ByteArray := prog_1_method_1_code
def yX8_init : MethodName := ⟨RX8, "<init>", "()V"⟩
abbrev cX8_panel : ByteArray := prog_1_method_2_code
def yX8_panel : MethodName := ⟨RX8, "panel", "(II)I"⟩
abbrev cX8_land : ByteArray := prog_1_method_3_code
def yX8_land : MethodName := ⟨RX8, "land", "(ZII)I"⟩
abbrev cX8_mark : ByteArray := prog_1_method_4_code
def yX8_mark : MethodName := ⟨RX8, "mark", "(III)I"⟩
abbrev cX8_card : ByteArray := prog_1_method_5_code
def yX8_card : MethodName := ⟨RX8, "card", "(II)I"⟩
abbrev cX8_lose : ByteArray := prog_1_method_6_code
def yX8_lose : MethodName := ⟨RX8, "lose", "(IZ)I"⟩
abbrev cX8_at : ByteArray := prog_1_method_7_code
def yX8_at : MethodName := ⟨RX8, "at", "(II)I"⟩
abbrev cX8_write : ByteArray := prog_1_method_8_code
def yX8_write : MethodName := ⟨RX8, "write", "(IJ)I"⟩
abbrev cX8_wipe : ByteArray := prog_1_method_9_code
def yX8_wipe : MethodName := ⟨RX8, "wipe", "()I"⟩
abbrev cX8_fault : ByteArray := prog_1_method_10_code
def yX8_fault : MethodName := ⟨RX8, "fault", "()I"⟩
abbrev cX8_rule : ByteArray := prog_1_method_11_code
def yX8_rule : MethodName := ⟨RX8, "rule", "(I)I"⟩
abbrev cX8_part : ByteArray := prog_1_method_12_code
def yX8_part : MethodName := ⟨RX8, "part", "(II)I"⟩
abbrev cX8_worth : ByteArray := prog_1_method_13_code
def yX8_worth : MethodName := ⟨RX8, "worth", "(III)I"⟩
abbrev cX8_place : ByteArray := prog_1_method_14_code
def yX8_place : MethodName := ⟨RX8, "place", "(II)I"⟩
abbrev cX8_order : ByteArray := prog_1_method_15_code
def yX8_order : MethodName := ⟨RX8, "order", "(II)I"⟩
abbrev cX8_first : ByteArray := prog_1_method_16_code
def yX8_first : MethodName := ⟨RX8, "first", "(I)I"⟩
abbrev cX8_apart : ByteArray := prog_1_method_17_code
def yX8_apart : MethodName := ⟨RX8, "apart", "(II)I"⟩
abbrev cX8_could : ByteArray := prog_1_method_18_code
def yX8_could : MethodName := ⟨RX8, "could", "(III)I"⟩
abbrev cX8_best : ByteArray := prog_1_method_19_code
def yX8_best : MethodName := ⟨RX8, "best", "(III)I"⟩
abbrev cX8_bends : ByteArray := prog_1_method_20_code
def yX8_bends : MethodName := ⟨RX8, "bends", "(II)I"⟩
abbrev cX8_bent : ByteArray := prog_1_method_21_code
def yX8_bent : MethodName := ⟨RX8, "bent", "(I)I"⟩
abbrev cX8_strike : ByteArray := prog_1_method_22_code
def yX8_strike : MethodName := ⟨RX8, "strike", "()I"⟩
abbrev cX8_move : ByteArray := prog_1_method_23_code
def yX8_move : MethodName := ⟨RX8, "move", "(IIII)I"⟩
abbrev cX8_bloc : ByteArray := prog_1_method_24_code
def yX8_bloc : MethodName := ⟨RX8, "bloc", "(III)I"⟩
abbrev cX8_few : ByteArray := prog_1_method_25_code
def yX8_few : MethodName := ⟨RX8, "few", "(III)I"⟩
abbrev cX8_drawn : ByteArray := prog_1_method_26_code
def yX8_drawn : MethodName := ⟨RX8, "drawn", "(III)I"⟩
abbrev cX8_leftOut : ByteArray := prog_1_method_27_code
def yX8_leftOut : MethodName := ⟨RX8, "leftOut", "(I)I"⟩
abbrev cX8_turns : ByteArray := prog_1_method_28_code
def yX8_turns : MethodName := ⟨RX8, "turns", "(IIII)I"⟩
abbrev cX8_thirds : ByteArray := prog_1_method_29_code
def yX8_thirds : MethodName := ⟨RX8, "thirds", "(I)I"⟩
abbrev cX8_keep : ByteArray := prog_1_method_30_code
def yX8_keep : MethodName := ⟨RX8, "keep", "()I"⟩
abbrev cX8_forget : ByteArray := prog_1_method_31_code
def yX8_forget : MethodName := ⟨RX8, "forget", "()I"⟩
abbrev cX8_lean : ByteArray := prog_1_method_32_code
def yX8_lean : MethodName := ⟨RX8, "lean", "(I)I"⟩
abbrev cX8_seldom : ByteArray := prog_1_method_33_code
def yX8_seldom : MethodName := ⟨RX8, "seldom", "(I)I"⟩
abbrev cX8_leaner : ByteArray := prog_1_method_34_code
def yX8_leaner : MethodName := ⟨RX8, "leaner", "()I"⟩
abbrev cX8_again : ByteArray := prog_1_method_35_code
def yX8_again : MethodName := ⟨RX8, "again", "(I)I"⟩
abbrev cX8_minded : ByteArray := prog_1_method_36_code
def yX8_minded : MethodName := ⟨RX8, "minded", "(III)I"⟩
abbrev cX8_rest : ByteArray := prog_1_method_37_code
def yX8_rest : MethodName := ⟨RX8, "rest", "(II)I"⟩
abbrev cX8_rests : ByteArray := prog_1_method_38_code
def yX8_rests : MethodName := ⟨RX8, "rests", "(IZ)I"⟩
abbrev cX8_count : ByteArray := prog_1_method_39_code
def yX8_count : MethodName := ⟨RX8, "count", "(I)I"⟩
abbrev cX8_isRule : ByteArray := prog_1_method_40_code
def yX8_isRule : MethodName := ⟨RX8, "isRule", "(I)Z"⟩
abbrev cX8_isMark : ByteArray := prog_1_method_41_code
def yX8_isMark : MethodName := ⟨RX8, "isMark", "(I)Z"⟩
abbrev cX8_isJudgeSet : ByteArray := prog_1_method_42_code
def yX8_isJudgeSet : MethodName := ⟨RX8, "isJudgeSet", "(I)Z"⟩
abbrev cX8_benders : ByteArray := prog_1_method_43_code
def yX8_benders : MethodName := ⟨RX8, "benders", "(LThrownMarks$Scheme;)I"⟩
abbrev cX8_bettersOwn : ByteArray := prog_1_method_44_code
def yX8_bettersOwn : MethodName := ⟨RX8, "bettersOwn", "(I)Z"⟩
abbrev cX8_placeByBloc : ByteArray := prog_1_method_45_code
def yX8_placeByBloc : MethodName := ⟨RX8, "placeByBloc", "(LThrownMarks$Scheme;II)I"⟩
abbrev cX8_doesTurn : ByteArray := prog_1_method_46_code
def yX8_doesTurn : MethodName := ⟨RX8, "doesTurn", "(LThrownMarks$Scheme;III)Z"⟩
abbrev cX8_noteMind : ByteArray := prog_1_method_47_code
def yX8_noteMind : MethodName := ⟨RX8, "noteMind", "(LThrownMarks$Scheme;I)V"⟩
abbrev cX8_pointsFor : ByteArray := prog_1_method_48_code
def yX8_pointsFor : MethodName := ⟨RX8, "pointsFor", "(I)I"⟩
def RX9 : String := "ThrownMarksModel"
def TX9 : u_T := fun k => match k with
  | 0 => ("ThrownMarksModel", "thrown", "I", false)
  | 1 => ("ThrownMarksModel", "judges", "I", false)
  | 2 => ("ThrownMarksModel", "skaters", "I", false)
  | 3 => ("ThrownMarksModel", "landOf", "[I", true)
  | 4 => ("ThrownMarksModel", "landFor", "[I", true)
  | 5 => ("ThrownMarksModel", "marks", "[I", true)
  | 6 => ("ThrownMarksModel", "isLost", "[Z", true)
  | 7 => ("ThrownMarksModel", "now", "[I", true)
  | 8 => ("ThrownMarksModel", "counts", "[Z", true)
  | 9 => ("ThrownMarksModel", "text", "[I", true)
  | 10 => ("ThrownMarksModel", "textSize", "I", false)
  | 11 => ("ThrownMarksModel", "readMany", "I", false)
  | 12 => ("ThrownMarksModel", "readLetter", "[I", true)
  | 13 => ("ThrownMarksModel", "readStrike", "[I", true)
  | 14 => ("ThrownMarksModel", "readFigure", "[I", true)
  | 15 => ("ThrownMarksModel", "ruleMany", "[I", true)
  | 16 => ("ThrownMarksModel", "letter", "[I", true)
  | 17 => ("ThrownMarksModel", "strike", "[I", true)
  | 18 => ("ThrownMarksModel", "figure", "[I", true)
  | 19 => ("ThrownMarksModel", "worths", "[I", true)
  | 20 => ("ThrownMarksModel", "row", "[I", true)
  | 21 => ("ThrownMarksModel", "places", "[I", true)
  | 22 => ("ThrownMarksModel", "pastMany", "I", false)
  | 23 => ("ThrownMarksModel", "pastJudges", "[I", true)
  | 24 => ("ThrownMarksModel", "pastSkaters", "[I", true)
  | 25 => ("ThrownMarksModel", "pastOf", "[I", true)
  | 26 => ("ThrownMarksModel", "pastFor", "[I", true)
  | 27 => ("ThrownMarksModel", "pastMarks", "[I", true)
  | _ => ("ThrownMarksModel", "pastLost", "[Z", true)
def tyX9 : Nat → FieldType := fun k => match k with
  | 0 => .int
  | 1 => .int
  | 2 => .int
  | 3 => .array .int
  | 4 => .array .int
  | 5 => .array .int
  | 6 => .array .boolean
  | 7 => .array .int
  | 8 => .array .boolean
  | 9 => .array .int
  | 10 => .int
  | 11 => .int
  | 12 => .array .int
  | 13 => .array .int
  | 14 => .array .int
  | 15 => .array .int
  | 16 => .array .int
  | 17 => .array .int
  | 18 => .array .int
  | 19 => .array .int
  | 20 => .array .int
  | 21 => .array .int
  | 22 => .int
  | 23 => .array .int
  | 24 => .array .int
  | 25 => .array .int
  | 26 => .array .int
  | 27 => .array .int
  | _ => .array .boolean
abbrev wsX90 : List Cond := u_ws RX9 TX9 29
theorem nmX9 : ∀ a, a < 29 → ∀ b, b < 29 → a ≠ b → (TX9 a).2.1 ≠ (TX9 b).2.1 := by decide +kernel
theorem tyX9_ok : ∀ k, k < 29 → parseFieldDescriptor (TX9 k).2.2.1 = some (tyX9 k) := by decide +kernel
abbrev cX9_init : ByteArray := prog_11_method_1_code
def yX9_init : MethodName := ⟨RX9, "<init>", "()V"⟩
abbrev cX9_in : ByteArray := prog_11_method_3_code
def yX9_in : MethodName := ⟨RX9, "in", "(JJJ)Z"⟩
abbrev cX9_noJudge : ByteArray := prog_11_method_4_code
def yX9_noJudge : MethodName := ⟨RX9, "noJudge", "(I)Z"⟩
abbrev cX9_noSkater : ByteArray := prog_11_method_5_code
def yX9_noSkater : MethodName := ⟨RX9, "noSkater", "(I)Z"⟩
abbrev cX9_noRule : ByteArray := prog_11_method_6_code
def yX9_noRule : MethodName := ⟨RX9, "noRule", "(I)Z"⟩
abbrev cX9_noSet : ByteArray := prog_11_method_7_code
def yX9_noSet : MethodName := ⟨RX9, "noSet", "(I)Z"⟩
abbrev cX9_cards : ByteArray := prog_11_method_8_code
def yX9_cards : MethodName := ⟨RX9, "cards", "()I"⟩
abbrev cX9_panel : ByteArray := prog_11_method_9_code
def yX9_panel : MethodName := ⟨RX9, "panel", "(II)I"⟩
abbrev cX9_land : ByteArray := prog_11_method_10_code
def yX9_land : MethodName := ⟨RX9, "land", "(ZII)I"⟩
abbrev cX9_mark : ByteArray := prog_11_method_11_code
def yX9_mark : MethodName := ⟨RX9, "mark", "(III)I"⟩
abbrev cX9_card : ByteArray := prog_11_method_12_code
def yX9_card : MethodName := ⟨RX9, "card", "(II)I"⟩
abbrev cX9_lose : ByteArray := prog_11_method_13_code
def yX9_lose : MethodName := ⟨RX9, "lose", "(IZ)I"⟩
abbrev cX9_at : ByteArray := prog_11_method_14_code
def yX9_at : MethodName := ⟨RX9, "at", "(II)I"⟩
abbrev cX9_write : ByteArray := prog_11_method_15_code
def yX9_write : MethodName := ⟨RX9, "write", "(IJ)I"⟩
abbrev cX9_wipe : ByteArray := prog_11_method_16_code
def yX9_wipe : MethodName := ⟨RX9, "wipe", "()I"⟩
abbrev cX9_isFigure : ByteArray := prog_11_method_17_code
def yX9_isFigure : MethodName := ⟨RX9, "isFigure", "(II)Z"⟩
abbrev cX9_read : ByteArray := prog_11_method_18_code
def yX9_read : MethodName := ⟨RX9, "read", "()I"⟩
abbrev cX9_fault : ByteArray := prog_11_method_19_code
def yX9_fault : MethodName := ⟨RX9, "fault", "()I"⟩
abbrev cX9_rule : ByteArray := prog_11_method_20_code
def yX9_rule : MethodName := ⟨RX9, "rule", "(I)I"⟩
abbrev cX9_part : ByteArray := prog_11_method_21_code
def yX9_part : MethodName := ⟨RX9, "part", "(II)I"⟩
abbrev cX9_take : ByteArray := prog_11_method_22_code
def yX9_take : MethodName := ⟨RX9, "take", "()V"⟩
abbrev cX9_sort : ByteArray := prog_11_method_23_code
def yX9_sort : MethodName := ⟨RX9, "sort", "(I)I"⟩
abbrev cX9_struck : ByteArray := prog_11_method_24_code
def yX9_struck : MethodName := ⟨RX9, "struck", "(II)I"⟩
abbrev cX9_middle : ByteArray := prog_11_method_25_code
def yX9_middle : MethodName := ⟨RX9, "middle", "(I)I"⟩
abbrev cX9_ranks : ByteArray := prog_11_method_26_code
def yX9_ranks : MethodName := ⟨RX9, "ranks", "(I)I"⟩
abbrev cX9_pairs : ByteArray := prog_11_method_27_code
def yX9_pairs : MethodName := ⟨RX9, "pairs", "(I)I"⟩
abbrev cX9_weighed : ByteArray := prog_11_method_28_code
def yX9_weighed : MethodName := ⟨RX9, "weighed", "(II)I"⟩
abbrev cX9_worthOf : ByteArray := prog_11_method_29_code
def yX9_worthOf : MethodName := ⟨RX9, "worthOf", "(III)I"⟩
abbrev cX9_lay : ByteArray := prog_11_method_30_code
def yX9_lay : MethodName := ⟨RX9, "lay", "(I)V"⟩
abbrev cX9_by : ByteArray := prog_11_method_31_code
def yX9_by : MethodName := ⟨RX9, "by", "(III)I"⟩
abbrev cX9_placeOf : ByteArray := prog_11_method_32_code
def yX9_placeOf : MethodName := ⟨RX9, "placeOf", "(II)I"⟩
abbrev cX9_firsts : ByteArray := prog_11_method_33_code
def yX9_firsts : MethodName := ⟨RX9, "firsts", "(I)I"⟩
abbrev cX9_worth : ByteArray := prog_11_method_34_code
def yX9_worth : MethodName := ⟨RX9, "worth", "(III)I"⟩
abbrev cX9_place : ByteArray := prog_11_method_35_code
def yX9_place : MethodName := ⟨RX9, "place", "(II)I"⟩
abbrev cX9_order : ByteArray := prog_11_method_36_code
def yX9_order : MethodName := ⟨RX9, "order", "(II)I"⟩
abbrev cX9_first : ByteArray := prog_11_method_37_code
def yX9_first : MethodName := ⟨RX9, "first", "(I)I"⟩
abbrev cX9_apart : ByteArray := prog_11_method_38_code
def yX9_apart : MethodName := ⟨RX9, "apart", "(II)I"⟩
abbrev cX9_give : ByteArray := prog_11_method_39_code
def yX9_give : MethodName := ⟨RX9, "give", "(II)V"⟩
abbrev cX9_findBest : ByteArray := prog_11_method_40_code
def yX9_findBest : MethodName := ⟨RX9, "findBest", "(IIIZ)I"⟩
abbrev cX9_could : ByteArray := prog_11_method_41_code
def yX9_could : MethodName := ⟨RX9, "could", "(III)I"⟩
abbrev cX9_best : ByteArray := prog_11_method_42_code
def yX9_best : MethodName := ⟨RX9, "best", "(III)I"⟩
abbrev cX9_isBent : ByteArray := prog_11_method_43_code
def yX9_isBent : MethodName := ⟨RX9, "isBent", "(II)Z"⟩
abbrev cX9_bends : ByteArray := prog_11_method_44_code
def yX9_bends : MethodName := ⟨RX9, "bends", "(II)I"⟩
abbrev cX9_allBent : ByteArray := prog_11_method_45_code
def yX9_allBent : MethodName := ⟨RX9, "allBent", "(I)I"⟩
abbrev cX9_bent : ByteArray := prog_11_method_46_code
def yX9_bent : MethodName := ⟨RX9, "bent", "(I)I"⟩
abbrev cX9_many : ByteArray := prog_11_method_47_code
def yX9_many : MethodName := ⟨RX9, "many", "(I)I"⟩
abbrev cX9_strike : ByteArray := prog_11_method_48_code
def yX9_strike : MethodName := ⟨RX9, "strike", "()I"⟩
abbrev cX9_move : ByteArray := prog_11_method_49_code
def yX9_move : MethodName := ⟨RX9, "move", "(IIII)I"⟩
abbrev cX9_placeBy : ByteArray := prog_11_method_50_code
def yX9_placeBy : MethodName := ⟨RX9, "placeBy", "(III)I"⟩
abbrev cX9_bloc : ByteArray := prog_11_method_51_code
def yX9_bloc : MethodName := ⟨RX9, "bloc", "(III)I"⟩
abbrev cX9_few : ByteArray := prog_11_method_52_code
def yX9_few : MethodName := ⟨RX9, "few", "(III)I"⟩
abbrev cX9_drawn : ByteArray := prog_11_method_53_code
def yX9_drawn : MethodName := ⟨RX9, "drawn", "(III)I"⟩
abbrev cX9_leftOut : ByteArray := prog_11_method_54_code
def yX9_leftOut : MethodName := ⟨RX9, "leftOut", "(I)I"⟩
abbrev cX9_isTurned : ByteArray := prog_11_method_55_code
def yX9_isTurned : MethodName := ⟨RX9, "isTurned", "(IIII)Z"⟩
abbrev cX9_turns : ByteArray := prog_11_method_56_code
def yX9_turns : MethodName := ⟨RX9, "turns", "(IIII)I"⟩
abbrev cX9_thirds : ByteArray := prog_11_method_57_code
def yX9_thirds : MethodName := ⟨RX9, "thirds", "(I)I"⟩
abbrev cX9_keep : ByteArray := prog_11_method_58_code
def yX9_keep : MethodName := ⟨RX9, "keep", "()I"⟩
abbrev cX9_forget : ByteArray := prog_11_method_59_code
def yX9_forget : MethodName := ⟨RX9, "forget", "()I"⟩
abbrev cX9_stood : ByteArray := prog_11_method_60_code
def yX9_stood : MethodName := ⟨RX9, "stood", "(II)Z"⟩
abbrev cX9_leanIn : ByteArray := prog_11_method_61_code
def yX9_leanIn : MethodName := ⟨RX9, "leanIn", "(III)I"⟩
abbrev cX9_leanOf : ByteArray := prog_11_method_62_code
def yX9_leanOf : MethodName := ⟨RX9, "leanOf", "(I)I"⟩
abbrev cX9_lean : ByteArray := prog_11_method_63_code
def yX9_lean : MethodName := ⟨RX9, "lean", "(I)I"⟩
abbrev cX9_seldom : ByteArray := prog_11_method_64_code
def yX9_seldom : MethodName := ⟨RX9, "seldom", "(I)I"⟩
abbrev cX9_leaner : ByteArray := prog_11_method_65_code
def yX9_leaner : MethodName := ⟨RX9, "leaner", "()I"⟩
abbrev cX9_again : ByteArray := prog_11_method_66_code
def yX9_again : MethodName := ⟨RX9, "again", "(I)I"⟩
abbrev cX9_mind : ByteArray := prog_11_method_67_code
def yX9_mind : MethodName := ⟨RX9, "mind", "(I)V"⟩
abbrev cX9_leastOf : ByteArray := prog_11_method_68_code
def yX9_leastOf : MethodName := ⟨RX9, "leastOf", "(III)I"⟩
abbrev cX9_isAtRest : ByteArray := prog_11_method_69_code
def yX9_isAtRest : MethodName := ⟨RX9, "isAtRest", "(II)Z"⟩
abbrev cX9_minded : ByteArray := prog_11_method_70_code
def yX9_minded : MethodName := ⟨RX9, "minded", "(III)I"⟩
abbrev cX9_rest : ByteArray := prog_11_method_71_code
def yX9_rest : MethodName := ⟨RX9, "rest", "(II)I"⟩
abbrev cX9_rests : ByteArray := prog_11_method_72_code
def yX9_rests : MethodName := ⟨RX9, "rests", "(IZ)I"⟩
abbrev cX9_count : ByteArray := prog_11_method_73_code
def yX9_count : MethodName := ⟨RX9, "count", "(I)I"⟩
def RJ6 : String := "java/lang/Integer"
def TJ6 : u_T := fun k => match k with
  | _ => ("", "", "", false)
def tyJ6 : Nat → FieldType := fun k => match k with
  | _ => .int
abbrev wsJ60 : List Cond := u_ws RJ6 TJ6 0
theorem nmJ6 : ∀ a, a < 0 → ∀ b, b < 0 → a ≠ b → (TJ6 a).2.1 ≠ (TJ6 b).2.1 := by decide +kernel
theorem tyJ6_ok : ∀ k, k < 0 → parseFieldDescriptor (TJ6 k).2.2.1 = some (tyJ6 k) := by decide +kernel
abbrev cJ6_bitCount_0f7a4 : ByteArray := prog_12_method_49_code
def yJ6_bitCount_0f7a4 : MethodName := ⟨RJ6, "bitCount", "(I)I"⟩
def RJ9 : String := "java/lang/Math"
def TJ9 : u_T := fun k => match k with
  | _ => ("", "", "", false)
def tyJ9 : Nat → FieldType := fun k => match k with
  | _ => .int
abbrev wsJ90 : List Cond := u_ws RJ9 TJ9 0
theorem nmJ9 : ∀ a, a < 0 → ∀ b, b < 0 → a ≠ b → (TJ9 a).2.1 ≠ (TJ9 b).2.1 := by decide +kernel
theorem tyJ9_ok : ∀ k, k < 0 → parseFieldDescriptor (TJ9 k).2.2.1 = some (tyJ9 k) := by decide +kernel
abbrev cJ9_min_7cf53 : ByteArray := prog_13_method_69_code
def yJ9_min_7cf53 : MethodName := ⟨RJ9, "min", "(II)I"⟩
def RJ10 : String := "java/lang/System"
def TJ10 : u_T := fun k => match k with
  | _ => ("", "", "", false)
def tyJ10 : Nat → FieldType := fun k => match k with
  | _ => .int
abbrev wsJ100 : List Cond := u_ws RJ10 TJ10 0
theorem nmJ10 : ∀ a, a < 0 → ∀ b, b < 0 → a ≠ b → (TJ10 a).2.1 ≠ (TJ10 b).2.1 := by decide +kernel
theorem tyJ10_ok : ∀ k, k < 0 → parseFieldDescriptor (TJ10 k).2.2.1 = some (tyJ10 k) := by decide +kernel
def RL : String := "ThrownMarksLaw"
abbrev cL_law : ByteArray := code
def yL_law : MethodName := ⟨RL, "law", "([I)Z"⟩
abbrev vwCl : List vw_C := [(RX0, TX0, 6), (RX1, TX1, 1), (RX2, TX2, 2), (RX3, TX3, 8), (RX4, TX4, 1), (RX5, TX5, 5), (RX6, TX6, 4), (RX7, TX7, 2), (RX8, TX8, 10), (RX9, TX9, 29)]
