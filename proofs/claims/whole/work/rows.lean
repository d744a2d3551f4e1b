section
-- ===== PART A: goes FIRST, ahead of the names: the tables' words, and 'selects' of the private methods out of them =====
/-- a private method of a class that the tables say can be made, by its rows of tables_1 -/
def lw_okq (q : MethodName × Nat) : Prop := (q.1.cls ≠ "java/lang/invoke/MethodHandle" ∧ q.1.cls ≠ "java/lang/invoke/VarHandle") ∧ Cond.instantiable q.1.cls q.2 ∈ tables_1 ∧ Cond.privateMethod q.1 ∈ tables_1 ∧ Cond.instanceMethod q.1 ∈ tables_1
theorem lw_p0 : lw_okq (⟨"ThrownMarks", "isMark", "(I)Z"⟩, 10) := ⟨⟨by decide +kernel, by decide +kernel⟩, List.mem_of_getElem? (i := 15) (by decide +kernel), List.mem_of_getElem? (i := 243) (by decide +kernel), List.mem_of_getElem? (i := 244) (by decide +kernel)⟩
theorem lw_p1 : lw_okq (⟨"ThrownMarks$Scheme", "readPart", "(LThrownMarks$Text;I)Z"⟩, 5) := ⟨⟨by decide +kernel, by decide +kernel⟩, List.mem_of_getElem? (i := 63) (by decide +kernel), List.mem_of_getElem? (i := 322) (by decide +kernel), List.mem_of_getElem? (i := 323) (by decide +kernel)⟩
theorem lw_p2 : lw_okq (⟨"ThrownMarks$Scheme", "readStrike", "(LThrownMarks$Text;)Z"⟩, 5) := ⟨⟨by decide +kernel, by decide +kernel⟩, List.mem_of_getElem? (i := 63) (by decide +kernel), List.mem_of_getElem? (i := 333) (by decide +kernel), List.mem_of_getElem? (i := 334) (by decide +kernel)⟩
theorem lw_p3 : lw_okq (⟨"ThrownMarks$Scheme", "readFigures", "(LThrownMarks$Text;I)Z"⟩, 5) := ⟨⟨by decide +kernel, by decide +kernel⟩, List.mem_of_getElem? (i := 63) (by decide +kernel), List.mem_of_getElem? (i := 337) (by decide +kernel), List.mem_of_getElem? (i := 338) (by decide +kernel)⟩
theorem lw_p4 : lw_okq (⟨"ThrownMarks", "isRule", "(I)Z"⟩, 10) := ⟨⟨by decide +kernel, by decide +kernel⟩, List.mem_of_getElem? (i := 15) (by decide +kernel), List.mem_of_getElem? (i := 346) (by decide +kernel), List.mem_of_getElem? (i := 347) (by decide +kernel)⟩
theorem lw_p5 : lw_okq (⟨"ThrownMarks$Scale", "sortMarks", "(LThrownMarks$Card;I)I"⟩, 1) := ⟨⟨by decide +kernel, by decide +kernel⟩, List.mem_of_getElem? (i := 91) (by decide +kernel), List.mem_of_getElem? (i := 388) (by decide +kernel), List.mem_of_getElem? (i := 389) (by decide +kernel)⟩
theorem lw_p6 : lw_okq (⟨"ThrownMarks$Scale", "sumWithout", "(II)I"⟩, 1) := ⟨⟨by decide +kernel, by decide +kernel⟩, List.mem_of_getElem? (i := 91) (by decide +kernel), List.mem_of_getElem? (i := 395) (by decide +kernel), List.mem_of_getElem? (i := 396) (by decide +kernel)⟩
theorem lw_p7 : lw_okq (⟨"ThrownMarks$Scale", "middleOf", "(I)I"⟩, 1) := ⟨⟨by decide +kernel, by decide +kernel⟩, List.mem_of_getElem? (i := 91) (by decide +kernel), List.mem_of_getElem? (i := 399) (by decide +kernel), List.mem_of_getElem? (i := 400) (by decide +kernel)⟩
theorem lw_p8 : lw_okq (⟨"ThrownMarks$Scale", "pairs", "(LThrownMarks$Card;I)I"⟩, 1) := ⟨⟨by decide +kernel, by decide +kernel⟩, List.mem_of_getElem? (i := 91) (by decide +kernel), List.mem_of_getElem? (i := 411) (by decide +kernel), List.mem_of_getElem? (i := 412) (by decide +kernel)⟩
theorem lw_p9 : lw_okq (⟨"ThrownMarks$Scale", "weighted", "(LThrownMarks$Scheme;ILThrownMarks$Card;I)I"⟩, 1) := ⟨⟨by decide +kernel, by decide +kernel⟩, List.mem_of_getElem? (i := 91) (by decide +kernel), List.mem_of_getElem? (i := 419) (by decide +kernel), List.mem_of_getElem? (i := 420) (by decide +kernel)⟩
theorem lw_p10 : lw_okq (⟨"ThrownMarks$Reach", "layBeside", "(IZ)V"⟩, 8) := ⟨⟨by decide +kernel, by decide +kernel⟩, List.mem_of_getElem? (i := 114) (by decide +kernel), List.mem_of_getElem? (i := 482) (by decide +kernel), List.mem_of_getElem? (i := 483) (by decide +kernel)⟩
theorem lw_p11 : lw_okq (⟨"ThrownMarks$Reach", "giveAll", "(I)V"⟩, 8) := ⟨⟨by decide +kernel, by decide +kernel⟩, List.mem_of_getElem? (i := 114) (by decide +kernel), List.mem_of_getElem? (i := 502) (by decide +kernel), List.mem_of_getElem? (i := 503) (by decide +kernel)⟩
theorem lw_p12 : lw_okq (⟨"ThrownMarks$Reach", "placeNow", "(I)I"⟩, 8) := ⟨⟨by decide +kernel, by decide +kernel⟩, List.mem_of_getElem? (i := 114) (by decide +kernel), List.mem_of_getElem? (i := 506) (by decide +kernel), List.mem_of_getElem? (i := 507) (by decide +kernel)⟩
theorem lw_p13 : lw_okq (⟨"ThrownMarks$Reach", "worthNow", "(II)I"⟩, 8) := ⟨⟨by decide +kernel, by decide +kernel⟩, List.mem_of_getElem? (i := 114) (by decide +kernel), List.mem_of_getElem? (i := 510) (by decide +kernel), List.mem_of_getElem? (i := 511) (by decide +kernel)⟩
theorem lw_p14 : lw_okq (⟨"ThrownMarks$Reach", "giveNext", "()V"⟩, 8) := ⟨⟨by decide +kernel, by decide +kernel⟩, List.mem_of_getElem? (i := 114) (by decide +kernel), List.mem_of_getElem? (i := 514) (by decide +kernel), List.mem_of_getElem? (i := 515) (by decide +kernel)⟩
theorem lw_p15 : lw_okq (⟨"ThrownMarks", "bettersOwn", "(I)Z"⟩, 10) := ⟨⟨by decide +kernel, by decide +kernel⟩, List.mem_of_getElem? (i := 15) (by decide +kernel), List.mem_of_getElem? (i := 530) (by decide +kernel), List.mem_of_getElem? (i := 531) (by decide +kernel)⟩
def lw_privs_1 : List (MethodName × Nat) := [(⟨"ThrownMarks", "isMark", "(I)Z"⟩, 10), (⟨"ThrownMarks$Scheme", "readPart", "(LThrownMarks$Text;I)Z"⟩, 5), (⟨"ThrownMarks$Scheme", "readStrike", "(LThrownMarks$Text;)Z"⟩, 5), (⟨"ThrownMarks$Scheme", "readFigures", "(LThrownMarks$Text;I)Z"⟩, 5), (⟨"ThrownMarks", "isRule", "(I)Z"⟩, 10), (⟨"ThrownMarks$Scale", "sortMarks", "(LThrownMarks$Card;I)I"⟩, 1), (⟨"ThrownMarks$Scale", "sumWithout", "(II)I"⟩, 1), (⟨"ThrownMarks$Scale", "middleOf", "(I)I"⟩, 1), (⟨"ThrownMarks$Scale", "pairs", "(LThrownMarks$Card;I)I"⟩, 1), (⟨"ThrownMarks$Scale", "weighted", "(LThrownMarks$Scheme;ILThrownMarks$Card;I)I"⟩, 1), (⟨"ThrownMarks$Reach", "layBeside", "(IZ)V"⟩, 8), (⟨"ThrownMarks$Reach", "giveAll", "(I)V"⟩, 8), (⟨"ThrownMarks$Reach", "placeNow", "(I)I"⟩, 8), (⟨"ThrownMarks$Reach", "worthNow", "(II)I"⟩, 8), (⟨"ThrownMarks$Reach", "giveNext", "()V"⟩, 8), (⟨"ThrownMarks", "bettersOwn", "(I)Z"⟩, 10)]
theorem lw_r1 : ∀ q ∈ lw_privs_1, lw_okq q := List.forall_mem_cons.mpr ⟨lw_p0, List.forall_mem_cons.mpr ⟨lw_p1, List.forall_mem_cons.mpr ⟨lw_p2, List.forall_mem_cons.mpr ⟨lw_p3, List.forall_mem_cons.mpr ⟨lw_p4, List.forall_mem_cons.mpr ⟨lw_p5, List.forall_mem_cons.mpr ⟨lw_p6, List.forall_mem_cons.mpr ⟨lw_p7, List.forall_mem_cons.mpr ⟨lw_p8, List.forall_mem_cons.mpr ⟨lw_p9, List.forall_mem_cons.mpr ⟨lw_p10, List.forall_mem_cons.mpr ⟨lw_p11, List.forall_mem_cons.mpr ⟨lw_p12, List.forall_mem_cons.mpr ⟨lw_p13, List.forall_mem_cons.mpr ⟨lw_p14, List.forall_mem_cons.mpr ⟨lw_p15, fun _ h => absurd h List.not_mem_nil⟩⟩⟩⟩⟩⟩⟩⟩⟩⟩⟩⟩⟩⟩⟩⟩
theorem lw_p16 : lw_okq (⟨"ThrownMarks", "benders", "(LThrownMarks$Scheme;)I"⟩, 10) := ⟨⟨by decide +kernel, by decide +kernel⟩, List.mem_of_getElem? (i := 15) (by decide +kernel), List.mem_of_getElem? (i := 542) (by decide +kernel), List.mem_of_getElem? (i := 543) (by decide +kernel)⟩
theorem lw_p17 : lw_okq (⟨"ThrownMarks", "isJudgeSet", "(I)Z"⟩, 10) := ⟨⟨by decide +kernel, by decide +kernel⟩, List.mem_of_getElem? (i := 15) (by decide +kernel), List.mem_of_getElem? (i := 569) (by decide +kernel), List.mem_of_getElem? (i := 570) (by decide +kernel)⟩
theorem lw_p18 : lw_okq (⟨"ThrownMarks", "placeByBloc", "(LThrownMarks$Scheme;II)I"⟩, 10) := ⟨⟨by decide +kernel, by decide +kernel⟩, List.mem_of_getElem? (i := 15) (by decide +kernel), List.mem_of_getElem? (i := 577) (by decide +kernel), List.mem_of_getElem? (i := 578) (by decide +kernel)⟩
theorem lw_p19 : lw_okq (⟨"ThrownMarks", "doesTurn", "(LThrownMarks$Scheme;III)Z"⟩, 10) := ⟨⟨by decide +kernel, by decide +kernel⟩, List.mem_of_getElem? (i := 15) (by decide +kernel), List.mem_of_getElem? (i := 610) (by decide +kernel), List.mem_of_getElem? (i := 611) (by decide +kernel)⟩
theorem lw_p20 : lw_okq (⟨"ThrownMarks$Card", "marksBut", "(II)I"⟩, 6) := ⟨⟨by decide +kernel, by decide +kernel⟩, List.mem_of_getElem? (i := 23) (by decide +kernel), List.mem_of_getElem? (i := 658) (by decide +kernel), List.mem_of_getElem? (i := 659) (by decide +kernel)⟩
theorem lw_p21 : lw_okq (⟨"ThrownMarks$Past", "standsBeside", "(II)Z"⟩, 2) := ⟨⟨by decide +kernel, by decide +kernel⟩, List.mem_of_getElem? (i := 150) (by decide +kernel), List.mem_of_getElem? (i := 672) (by decide +kernel), List.mem_of_getElem? (i := 673) (by decide +kernel)⟩
theorem lw_p22 : lw_okq (⟨"ThrownMarks$Past", "leanInPlaceOf", "(II)I"⟩, 2) := ⟨⟨by decide +kernel, by decide +kernel⟩, List.mem_of_getElem? (i := 150) (by decide +kernel), List.mem_of_getElem? (i := 676) (by decide +kernel), List.mem_of_getElem? (i := 677) (by decide +kernel)⟩
theorem lw_p23 : lw_okq (⟨"ThrownMarks", "noteMind", "(LThrownMarks$Scheme;I)V"⟩, 10) := ⟨⟨by decide +kernel, by decide +kernel⟩, List.mem_of_getElem? (i := 15) (by decide +kernel), List.mem_of_getElem? (i := 709) (by decide +kernel), List.mem_of_getElem? (i := 710) (by decide +kernel)⟩
theorem lw_p24 : lw_okq (⟨"ThrownMarks$Minds", "wouldChange", "(III)Z"⟩, 1) := ⟨⟨by decide +kernel, by decide +kernel⟩, List.mem_of_getElem? (i := 166) (by decide +kernel), List.mem_of_getElem? (i := 733) (by decide +kernel), List.mem_of_getElem? (i := 734) (by decide +kernel)⟩
theorem lw_p25 : lw_okq (⟨"ThrownMarksModel", "noSkater", "(I)Z"⟩, 29) := ⟨⟨by decide +kernel, by decide +kernel⟩, List.mem_of_getElem? (i := 745) (by decide +kernel), List.mem_of_getElem? (i := 852) (by decide +kernel), List.mem_of_getElem? (i := 853) (by decide +kernel)⟩
theorem lw_p26 : lw_okq (⟨"ThrownMarksModel", "noJudge", "(I)Z"⟩, 29) := ⟨⟨by decide +kernel, by decide +kernel⟩, List.mem_of_getElem? (i := 745) (by decide +kernel), List.mem_of_getElem? (i := 856) (by decide +kernel), List.mem_of_getElem? (i := 857) (by decide +kernel)⟩
theorem lw_p27 : lw_okq (⟨"ThrownMarksModel", "cards", "()I"⟩, 29) := ⟨⟨by decide +kernel, by decide +kernel⟩, List.mem_of_getElem? (i := 745) (by decide +kernel), List.mem_of_getElem? (i := 870) (by decide +kernel), List.mem_of_getElem? (i := 871) (by decide +kernel)⟩
theorem lw_p28 : lw_okq (⟨"ThrownMarksModel", "read", "()I"⟩, 29) := ⟨⟨by decide +kernel, by decide +kernel⟩, List.mem_of_getElem? (i := 745) (by decide +kernel), List.mem_of_getElem? (i := 895) (by decide +kernel), List.mem_of_getElem? (i := 896) (by decide +kernel)⟩
theorem lw_p29 : lw_okq (⟨"ThrownMarksModel", "isFigure", "(II)Z"⟩, 29) := ⟨⟨by decide +kernel, by decide +kernel⟩, List.mem_of_getElem? (i := 745) (by decide +kernel), List.mem_of_getElem? (i := 899) (by decide +kernel), List.mem_of_getElem? (i := 900) (by decide +kernel)⟩
theorem lw_p30 : lw_okq (⟨"ThrownMarksModel", "take", "()V"⟩, 29) := ⟨⟨by decide +kernel, by decide +kernel⟩, List.mem_of_getElem? (i := 745) (by decide +kernel), List.mem_of_getElem? (i := 920) (by decide +kernel), List.mem_of_getElem? (i := 921) (by decide +kernel)⟩
theorem lw_p31 : lw_okq (⟨"ThrownMarksModel", "worthOf", "(III)I"⟩, 29) := ⟨⟨by decide +kernel, by decide +kernel⟩, List.mem_of_getElem? (i := 745) (by decide +kernel), List.mem_of_getElem? (i := 924) (by decide +kernel), List.mem_of_getElem? (i := 925) (by decide +kernel)⟩
def lw_privs_2 : List (MethodName × Nat) := [(⟨"ThrownMarks", "benders", "(LThrownMarks$Scheme;)I"⟩, 10), (⟨"ThrownMarks", "isJudgeSet", "(I)Z"⟩, 10), (⟨"ThrownMarks", "placeByBloc", "(LThrownMarks$Scheme;II)I"⟩, 10), (⟨"ThrownMarks", "doesTurn", "(LThrownMarks$Scheme;III)Z"⟩, 10), (⟨"ThrownMarks$Card", "marksBut", "(II)I"⟩, 6), (⟨"ThrownMarks$Past", "standsBeside", "(II)Z"⟩, 2), (⟨"ThrownMarks$Past", "leanInPlaceOf", "(II)I"⟩, 2), (⟨"ThrownMarks", "noteMind", "(LThrownMarks$Scheme;I)V"⟩, 10), (⟨"ThrownMarks$Minds", "wouldChange", "(III)Z"⟩, 1), (⟨"ThrownMarksModel", "noSkater", "(I)Z"⟩, 29), (⟨"ThrownMarksModel", "noJudge", "(I)Z"⟩, 29), (⟨"ThrownMarksModel", "cards", "()I"⟩, 29), (⟨"ThrownMarksModel", "read", "()I"⟩, 29), (⟨"ThrownMarksModel", "isFigure", "(II)Z"⟩, 29), (⟨"ThrownMarksModel", "take", "()V"⟩, 29), (⟨"ThrownMarksModel", "worthOf", "(III)I"⟩, 29)]
theorem lw_r2 : ∀ q ∈ lw_privs_2, lw_okq q := List.forall_mem_cons.mpr ⟨lw_p16, List.forall_mem_cons.mpr ⟨lw_p17, List.forall_mem_cons.mpr ⟨lw_p18, List.forall_mem_cons.mpr ⟨lw_p19, List.forall_mem_cons.mpr ⟨lw_p20, List.forall_mem_cons.mpr ⟨lw_p21, List.forall_mem_cons.mpr ⟨lw_p22, List.forall_mem_cons.mpr ⟨lw_p23, List.forall_mem_cons.mpr ⟨lw_p24, List.forall_mem_cons.mpr ⟨lw_p25, List.forall_mem_cons.mpr ⟨lw_p26, List.forall_mem_cons.mpr ⟨lw_p27, List.forall_mem_cons.mpr ⟨lw_p28, List.forall_mem_cons.mpr ⟨lw_p29, List.forall_mem_cons.mpr ⟨lw_p30, List.forall_mem_cons.mpr ⟨lw_p31, fun _ h => absurd h List.not_mem_nil⟩⟩⟩⟩⟩⟩⟩⟩⟩⟩⟩⟩⟩⟩⟩⟩
theorem lw_p32 : lw_okq (⟨"ThrownMarksModel", "struck", "(II)I"⟩, 29) := ⟨⟨by decide +kernel, by decide +kernel⟩, List.mem_of_getElem? (i := 745) (by decide +kernel), List.mem_of_getElem? (i := 928) (by decide +kernel), List.mem_of_getElem? (i := 929) (by decide +kernel)⟩
theorem lw_p33 : lw_okq (⟨"ThrownMarksModel", "sort", "(I)I"⟩, 29) := ⟨⟨by decide +kernel, by decide +kernel⟩, List.mem_of_getElem? (i := 745) (by decide +kernel), List.mem_of_getElem? (i := 932) (by decide +kernel), List.mem_of_getElem? (i := 933) (by decide +kernel)⟩
theorem lw_p34 : lw_okq (⟨"ThrownMarksModel", "middle", "(I)I"⟩, 29) := ⟨⟨by decide +kernel, by decide +kernel⟩, List.mem_of_getElem? (i := 745) (by decide +kernel), List.mem_of_getElem? (i := 936) (by decide +kernel), List.mem_of_getElem? (i := 937) (by decide +kernel)⟩
theorem lw_p35 : lw_okq (⟨"ThrownMarksModel", "ranks", "(I)I"⟩, 29) := ⟨⟨by decide +kernel, by decide +kernel⟩, List.mem_of_getElem? (i := 745) (by decide +kernel), List.mem_of_getElem? (i := 940) (by decide +kernel), List.mem_of_getElem? (i := 941) (by decide +kernel)⟩
theorem lw_p36 : lw_okq (⟨"ThrownMarksModel", "pairs", "(I)I"⟩, 29) := ⟨⟨by decide +kernel, by decide +kernel⟩, List.mem_of_getElem? (i := 745) (by decide +kernel), List.mem_of_getElem? (i := 944) (by decide +kernel), List.mem_of_getElem? (i := 945) (by decide +kernel)⟩
theorem lw_p37 : lw_okq (⟨"ThrownMarksModel", "weighed", "(II)I"⟩, 29) := ⟨⟨by decide +kernel, by decide +kernel⟩, List.mem_of_getElem? (i := 745) (by decide +kernel), List.mem_of_getElem? (i := 948) (by decide +kernel), List.mem_of_getElem? (i := 949) (by decide +kernel)⟩
theorem lw_p38 : lw_okq (⟨"ThrownMarksModel", "lay", "(I)V"⟩, 29) := ⟨⟨by decide +kernel, by decide +kernel⟩, List.mem_of_getElem? (i := 745) (by decide +kernel), List.mem_of_getElem? (i := 956) (by decide +kernel), List.mem_of_getElem? (i := 957) (by decide +kernel)⟩
theorem lw_p39 : lw_okq (⟨"ThrownMarksModel", "placeOf", "(II)I"⟩, 29) := ⟨⟨by decide +kernel, by decide +kernel⟩, List.mem_of_getElem? (i := 745) (by decide +kernel), List.mem_of_getElem? (i := 960) (by decide +kernel), List.mem_of_getElem? (i := 961) (by decide +kernel)⟩
theorem lw_p40 : lw_okq (⟨"ThrownMarksModel", "by", "(III)I"⟩, 29) := ⟨⟨by decide +kernel, by decide +kernel⟩, List.mem_of_getElem? (i := 745) (by decide +kernel), List.mem_of_getElem? (i := 964) (by decide +kernel), List.mem_of_getElem? (i := 965) (by decide +kernel)⟩
theorem lw_p41 : lw_okq (⟨"ThrownMarksModel", "firsts", "(I)I"⟩, 29) := ⟨⟨by decide +kernel, by decide +kernel⟩, List.mem_of_getElem? (i := 745) (by decide +kernel), List.mem_of_getElem? (i := 976) (by decide +kernel), List.mem_of_getElem? (i := 977) (by decide +kernel)⟩
theorem lw_p42 : lw_okq (⟨"ThrownMarksModel", "findBest", "(IIIZ)I"⟩, 29) := ⟨⟨by decide +kernel, by decide +kernel⟩, List.mem_of_getElem? (i := 745) (by decide +kernel), List.mem_of_getElem? (i := 988) (by decide +kernel), List.mem_of_getElem? (i := 989) (by decide +kernel)⟩
theorem lw_p43 : lw_okq (⟨"ThrownMarksModel", "give", "(II)V"⟩, 29) := ⟨⟨by decide +kernel, by decide +kernel⟩, List.mem_of_getElem? (i := 745) (by decide +kernel), List.mem_of_getElem? (i := 992) (by decide +kernel), List.mem_of_getElem? (i := 993) (by decide +kernel)⟩
theorem lw_p44 : lw_okq (⟨"ThrownMarksModel", "isBent", "(II)Z"⟩, 29) := ⟨⟨by decide +kernel, by decide +kernel⟩, List.mem_of_getElem? (i := 745) (by decide +kernel), List.mem_of_getElem? (i := 1004) (by decide +kernel), List.mem_of_getElem? (i := 1005) (by decide +kernel)⟩
theorem lw_p45 : lw_okq (⟨"ThrownMarksModel", "allBent", "(I)I"⟩, 29) := ⟨⟨by decide +kernel, by decide +kernel⟩, List.mem_of_getElem? (i := 745) (by decide +kernel), List.mem_of_getElem? (i := 1012) (by decide +kernel), List.mem_of_getElem? (i := 1013) (by decide +kernel)⟩
theorem lw_p46 : lw_okq (⟨"ThrownMarksModel", "noSet", "(I)Z"⟩, 29) := ⟨⟨by decide +kernel, by decide +kernel⟩, List.mem_of_getElem? (i := 745) (by decide +kernel), List.mem_of_getElem? (i := 1031) (by decide +kernel), List.mem_of_getElem? (i := 1032) (by decide +kernel)⟩
theorem lw_p47 : lw_okq (⟨"ThrownMarksModel", "placeBy", "(III)I"⟩, 29) := ⟨⟨by decide +kernel, by decide +kernel⟩, List.mem_of_getElem? (i := 745) (by decide +kernel), List.mem_of_getElem? (i := 1035) (by decide +kernel), List.mem_of_getElem? (i := 1036) (by decide +kernel)⟩
def lw_privs_3 : List (MethodName × Nat) := [(⟨"ThrownMarksModel", "struck", "(II)I"⟩, 29), (⟨"ThrownMarksModel", "sort", "(I)I"⟩, 29), (⟨"ThrownMarksModel", "middle", "(I)I"⟩, 29), (⟨"ThrownMarksModel", "ranks", "(I)I"⟩, 29), (⟨"ThrownMarksModel", "pairs", "(I)I"⟩, 29), (⟨"ThrownMarksModel", "weighed", "(II)I"⟩, 29), (⟨"ThrownMarksModel", "lay", "(I)V"⟩, 29), (⟨"ThrownMarksModel", "placeOf", "(II)I"⟩, 29), (⟨"ThrownMarksModel", "by", "(III)I"⟩, 29), (⟨"ThrownMarksModel", "firsts", "(I)I"⟩, 29), (⟨"ThrownMarksModel", "findBest", "(IIIZ)I"⟩, 29), (⟨"ThrownMarksModel", "give", "(II)V"⟩, 29), (⟨"ThrownMarksModel", "isBent", "(II)Z"⟩, 29), (⟨"ThrownMarksModel", "allBent", "(I)I"⟩, 29), (⟨"ThrownMarksModel", "noSet", "(I)Z"⟩, 29), (⟨"ThrownMarksModel", "placeBy", "(III)I"⟩, 29)]
theorem lw_r3 : ∀ q ∈ lw_privs_3, lw_okq q := List.forall_mem_cons.mpr ⟨lw_p32, List.forall_mem_cons.mpr ⟨lw_p33, List.forall_mem_cons.mpr ⟨lw_p34, List.forall_mem_cons.mpr ⟨lw_p35, List.forall_mem_cons.mpr ⟨lw_p36, List.forall_mem_cons.mpr ⟨lw_p37, List.forall_mem_cons.mpr ⟨lw_p38, List.forall_mem_cons.mpr ⟨lw_p39, List.forall_mem_cons.mpr ⟨lw_p40, List.forall_mem_cons.mpr ⟨lw_p41, List.forall_mem_cons.mpr ⟨lw_p42, List.forall_mem_cons.mpr ⟨lw_p43, List.forall_mem_cons.mpr ⟨lw_p44, List.forall_mem_cons.mpr ⟨lw_p45, List.forall_mem_cons.mpr ⟨lw_p46, List.forall_mem_cons.mpr ⟨lw_p47, fun _ h => absurd h List.not_mem_nil⟩⟩⟩⟩⟩⟩⟩⟩⟩⟩⟩⟩⟩⟩⟩⟩
theorem lw_p48 : lw_okq (⟨"ThrownMarksModel", "isTurned", "(IIII)Z"⟩, 29) := ⟨⟨by decide +kernel, by decide +kernel⟩, List.mem_of_getElem? (i := 745) (by decide +kernel), List.mem_of_getElem? (i := 1055) (by decide +kernel), List.mem_of_getElem? (i := 1056) (by decide +kernel)⟩
theorem lw_p49 : lw_okq (⟨"ThrownMarksModel", "leanOf", "(I)I"⟩, 29) := ⟨⟨by decide +kernel, by decide +kernel⟩, List.mem_of_getElem? (i := 745) (by decide +kernel), List.mem_of_getElem? (i := 1076) (by decide +kernel), List.mem_of_getElem? (i := 1077) (by decide +kernel)⟩
theorem lw_p50 : lw_okq (⟨"ThrownMarksModel", "leanIn", "(III)I"⟩, 29) := ⟨⟨by decide +kernel, by decide +kernel⟩, List.mem_of_getElem? (i := 745) (by decide +kernel), List.mem_of_getElem? (i := 1080) (by decide +kernel), List.mem_of_getElem? (i := 1081) (by decide +kernel)⟩
theorem lw_p51 : lw_okq (⟨"ThrownMarksModel", "stood", "(II)Z"⟩, 29) := ⟨⟨by decide +kernel, by decide +kernel⟩, List.mem_of_getElem? (i := 745) (by decide +kernel), List.mem_of_getElem? (i := 1084) (by decide +kernel), List.mem_of_getElem? (i := 1085) (by decide +kernel)⟩
theorem lw_p52 : lw_okq (⟨"ThrownMarksModel", "mind", "(I)V"⟩, 29) := ⟨⟨by decide +kernel, by decide +kernel⟩, List.mem_of_getElem? (i := 745) (by decide +kernel), List.mem_of_getElem? (i := 1104) (by decide +kernel), List.mem_of_getElem? (i := 1105) (by decide +kernel)⟩
theorem lw_p53 : lw_okq (⟨"ThrownMarksModel", "isAtRest", "(II)Z"⟩, 29) := ⟨⟨by decide +kernel, by decide +kernel⟩, List.mem_of_getElem? (i := 745) (by decide +kernel), List.mem_of_getElem? (i := 1112) (by decide +kernel), List.mem_of_getElem? (i := 1113) (by decide +kernel)⟩
theorem lw_p54 : lw_okq (⟨"ThrownMarksModel", "leastOf", "(III)I"⟩, 29) := ⟨⟨by decide +kernel, by decide +kernel⟩, List.mem_of_getElem? (i := 745) (by decide +kernel), List.mem_of_getElem? (i := 1116) (by decide +kernel), List.mem_of_getElem? (i := 1117) (by decide +kernel)⟩
def lw_privs_4 : List (MethodName × Nat) := [(⟨"ThrownMarksModel", "isTurned", "(IIII)Z"⟩, 29), (⟨"ThrownMarksModel", "leanOf", "(I)I"⟩, 29), (⟨"ThrownMarksModel", "leanIn", "(III)I"⟩, 29), (⟨"ThrownMarksModel", "stood", "(II)Z"⟩, 29), (⟨"ThrownMarksModel", "mind", "(I)V"⟩, 29), (⟨"ThrownMarksModel", "isAtRest", "(II)Z"⟩, 29), (⟨"ThrownMarksModel", "leastOf", "(III)I"⟩, 29)]
theorem lw_r4 : ∀ q ∈ lw_privs_4, lw_okq q := List.forall_mem_cons.mpr ⟨lw_p48, List.forall_mem_cons.mpr ⟨lw_p49, List.forall_mem_cons.mpr ⟨lw_p50, List.forall_mem_cons.mpr ⟨lw_p51, List.forall_mem_cons.mpr ⟨lw_p52, List.forall_mem_cons.mpr ⟨lw_p53, List.forall_mem_cons.mpr ⟨lw_p54, fun _ h => absurd h List.not_mem_nil⟩⟩⟩⟩⟩⟩⟩
def lw_privs : List (MethodName × Nat) := lw_privs_1 ++ (lw_privs_2 ++ (lw_privs_3 ++ (lw_privs_4)))
def lw_tbl : List Cond := k2_sels lw_privs ++ tables_1
theorem lw_privs_ok : ∀ q ∈ lw_privs, lw_okq q := by
  show ∀ q ∈ lw_privs_1 ++ (lw_privs_2 ++ (lw_privs_3 ++ (lw_privs_4))), lw_okq q
  exact List.forall_mem_append.mpr ⟨lw_r1, List.forall_mem_append.mpr ⟨lw_r2, List.forall_mem_append.mpr ⟨lw_r3, lw_r4⟩⟩⟩

def RX0 : String := "ThrownMarks$Card"
def TX0 : u_T := fun k => match k with
  | 0 => ("ThrownMarks$Card", "marks", "[I", true)
  | 1 => ("ThrownMarks$Card", "judgeLands", "[I", true)
  | 2 => ("ThrownMarks$Card", "skaterLands", "[I", true)
  | 3 => ("ThrownMarks$Card", "judges", "I", false)
  | 4 => ("ThrownMarks$Card", "skaters", "I", false)
  | _ => ("ThrownMarks$Card", "lost", "I", false)
def tyX0 : Nat → FieldType := fun k => match k with
  | 0 => .array .int
  | 1 => .array .int
  | 2 => .array .int
  | 3 => .int
  | 4 => .int
  | _ => .int
abbrev wsX00 : List Cond := u_ws RX0 TX0 6
theorem nmX0 : ∀ a, a < 6 → ∀ b, b < 6 → a ≠ b → (TX0 a).2.1 ≠ (TX0 b).2.1 := by decide +kernel
theorem tyX0_ok : ∀ k, k < 6 → parseFieldDescriptor (TX0 k).2.2.1 = some (tyX0 k) := by decide +kernel
abbrev cX0_init : ByteArray := prog_2_method_1_code
def yX0_init : MethodName := ⟨RX0, "<init>", "()V"⟩
abbrev cX0_begin : ByteArray := prog_2_method_2_code
def yX0_begin : MethodName := ⟨RX0, "begin", "(II)V"⟩
abbrev cX0_copyFrom : ByteArray := prog_2_method_3_code
def yX0_copyFrom : MethodName := ⟨RX0, "copyFrom", "(LThrownMarks$Card;)V"⟩
abbrev cX0_judges : ByteArray := prog_2_method_4_code
def yX0_judges : MethodName := ⟨RX0, "judges", "()I"⟩
abbrev cX0_skaters : ByteArray := prog_2_method_5_code
def yX0_skaters : MethodName := ⟨RX0, "skaters", "()I"⟩
abbrev cX0_size : ByteArray := prog_2_method_6_code
def yX0_size : MethodName := ⟨RX0, "size", "()I"⟩
abbrev cX0_judgeSets : ByteArray := prog_2_method_7_code
def yX0_judgeSets : MethodName := ⟨RX0, "judgeSets", "()I"⟩
abbrev cX0_rows : ByteArray := prog_2_method_8_code
def yX0_rows : MethodName := ⟨RX0, "rows", "()I"⟩
abbrev cX0_hasJudge : ByteArray := prog_2_method_9_code
def yX0_hasJudge : MethodName := ⟨RX0, "hasJudge", "(I)Z"⟩
abbrev cX0_hasSkater : ByteArray := prog_2_method_10_code
def yX0_hasSkater : MethodName := ⟨RX0, "hasSkater", "(I)Z"⟩
abbrev cX0_markOf : ByteArray := prog_2_method_11_code
def yX0_markOf : MethodName := ⟨RX0, "markOf", "(II)I"⟩
abbrev cX0_give : ByteArray := prog_2_method_12_code
def yX0_give : MethodName := ⟨RX0, "give", "(III)V"⟩
abbrev cX0_rowOf : ByteArray := prog_2_method_13_code
def yX0_rowOf : MethodName := ⟨RX0, "rowOf", "(I)I"⟩
abbrev cX0_giveRow : ByteArray := prog_2_method_14_code
def yX0_giveRow : MethodName := ⟨RX0, "giveRow", "(II)V"⟩
abbrev cX0_counts : ByteArray := prog_2_method_15_code
def yX0_counts : MethodName := ⟨RX0, "counts", "(I)Z"⟩
abbrev cX0_counting : ByteArray := prog_2_method_16_code
def yX0_counting : MethodName := ⟨RX0, "counting", "()I"⟩
abbrev cX0_setLost : ByteArray := prog_2_method_17_code
def yX0_setLost : MethodName := ⟨RX0, "setLost", "(IZ)V"⟩
abbrev cX0_loseAllBut : ByteArray := prog_2_method_18_code
def yX0_loseAllBut : MethodName := ⟨RX0, "loseAllBut", "(I)V"⟩
abbrev cX0_judgeLand : ByteArray := prog_2_method_19_code
def yX0_judgeLand : MethodName := ⟨RX0, "judgeLand", "(I)I"⟩
abbrev cX0_skaterLand : ByteArray := prog_2_method_20_code
def yX0_skaterLand : MethodName := ⟨RX0, "skaterLand", "(I)I"⟩
abbrev cX0_ofOneLand : ByteArray := prog_2_method_21_code
def yX0_ofOneLand : MethodName := ⟨RX0, "ofOneLand", "(II)Z"⟩
abbrev cX0_moveJudge : ByteArray := prog_2_method_22_code
def yX0_moveJudge : MethodName := ⟨RX0, "moveJudge", "(II)I"⟩
abbrev cX0_moveSkater : ByteArray := prog_2_method_23_code
def yX0_moveSkater : MethodName := ⟨RX0, "moveSkater", "(II)I"⟩
abbrev cX0_favour : ByteArray := prog_2_method_24_code
def yX0_favour : MethodName := ⟨RX0, "favour", "(II)V"⟩
abbrev cX0_leanAll : ByteArray := prog_2_method_25_code
def yX0_leanAll : MethodName := ⟨RX0, "leanAll", "(I)V"⟩
abbrev cX0_leanFor : ByteArray := prog_2_method_26_code
def yX0_leanFor : MethodName := ⟨RX0, "leanFor", "(II)I"⟩
abbrev cX0_marksBut : ByteArray := prog_2_method_27_code
def yX0_marksBut : MethodName := ⟨RX0, "marksBut", "(II)I"⟩
def RX1 : String := "ThrownMarks$Minds"
def TX1 : u_T := fun k => match k with
  | _ => ("ThrownMarks$Minds", "leastPlaces", "[I", true)
def tyX1 : Nat → FieldType := fun k => match k with
  | _ => .array .int
abbrev wsX10 : List Cond := u_ws RX1 TX1 1
theorem nmX1 : ∀ a, a < 1 → ∀ b, b < 1 → a ≠ b → (TX1 a).2.1 ≠ (TX1 b).2.1 := by decide +kernel
theorem tyX1_ok : ∀ k, k < 1 → parseFieldDescriptor (TX1 k).2.2.1 = some (tyX1 k) := by decide +kernel
abbrev cX1_init : ByteArray := prog_3_method_1_code
def yX1_init : MethodName := ⟨RX1, "<init>", "()V"⟩
abbrev cX1_note : ByteArray := prog_3_method_2_code
def yX1_note : MethodName := ⟨RX1, "note", "(ILThrownMarks$Card;LThrownMarks$Standing;)V"⟩
abbrev cX1_atRest : ByteArray := prog_3_method_3_code
def yX1_atRest : MethodName := ⟨RX1, "atRest", "(LThrownMarks$Card;I)Z"⟩
abbrev cX1_wouldChange : ByteArray := prog_3_method_4_code
def yX1_wouldChange : MethodName := ⟨RX1, "wouldChange", "(III)Z"⟩
def RX2 : String := "ThrownMarks$Past"
def TX2 : u_T := fun k => match k with
  | 0 => ("ThrownMarks$Past", "cards", "[LThrownMarks$Card;", true)
  | _ => ("ThrownMarks$Past", "size", "I", false)
def tyX2 : Nat → FieldType := fun k => match k with
  | 0 => .array (.object "ThrownMarks$Card")
  | _ => .int
abbrev wsX20 : List Cond := u_ws RX2 TX2 2
theorem nmX2 : ∀ a, a < 2 → ∀ b, b < 2 → a ≠ b → (TX2 a).2.1 ≠ (TX2 b).2.1 := by decide +kernel
theorem tyX2_ok : ∀ k, k < 2 → parseFieldDescriptor (TX2 k).2.2.1 = some (tyX2 k) := by decide +kernel
abbrev cX2_init : ByteArray := prog_4_method_1_code
def yX2_init : MethodName := ⟨RX2, "<init>", "()V"⟩
abbrev cX2_size : ByteArray := prog_4_method_2_code
def yX2_size : MethodName := ⟨RX2, "size", "()I"⟩
abbrev cX2_hasRoom : ByteArray := prog_4_method_3_code
def yX2_hasRoom : MethodName := ⟨RX2, "hasRoom", "()Z"⟩
abbrev cX2_add : ByteArray := prog_4_method_4_code
def yX2_add : MethodName := ⟨RX2, "add", "(LThrownMarks$Card;)I"⟩
abbrev cX2_empty : ByteArray := prog_4_method_5_code
def yX2_empty : MethodName := ⟨RX2, "empty", "()I"⟩
abbrev cX2_cardAt : ByteArray := prog_4_method_6_code
def yX2_cardAt : MethodName := ⟨RX2, "cardAt", "(I)LThrownMarks$Card;"⟩
abbrev cX2_leanOf : ByteArray := prog_4_method_7_code
def yX2_leanOf : MethodName := ⟨RX2, "leanOf", "(I)I"⟩
abbrev cX2_asMuch : ByteArray := prog_4_method_8_code
def yX2_asMuch : MethodName := ⟨RX2, "asMuch", "(I)I"⟩
abbrev cX2_standsBeside : ByteArray := prog_4_method_9_code
def yX2_standsBeside : MethodName := ⟨RX2, "standsBeside", "(II)Z"⟩
abbrev cX2_leanInPlaceOf : ByteArray := prog_4_method_10_code
def yX2_leanInPlaceOf : MethodName := ⟨RX2, "leanInPlaceOf", "(II)I"⟩
def RX3 : String := "ThrownMarks$Reach"
def TX3 : u_T := fun k => match k with
  | 0 => ("ThrownMarks$Reach", "scale", "LThrownMarks$Scale;", true)
  | 1 => ("ThrownMarks$Reach", "card", "LThrownMarks$Card;", true)
  | 2 => ("ThrownMarks$Reach", "alone", "[I", true)
  | 3 => ("ThrownMarks$Reach", "beside", "[I", true)
  | 4 => ("ThrownMarks$Reach", "paired", "[Z", true)
  | 5 => ("ThrownMarks$Reach", "given", "[I", true)
  | 6 => ("ThrownMarks$Reach", "parts", "I", false)
  | _ => ("ThrownMarks$Reach", "skaters", "I", false)
def tyX3 : Nat → FieldType := fun k => match k with
  | 0 => .object "ThrownMarks$Scale"
  | 1 => .object "ThrownMarks$Card"
  | 2 => .array .int
  | 3 => .array .int
  | 4 => .array .boolean
  | 5 => .array .int
  | 6 => .int
  | _ => .int
abbrev wsX30 : List Cond := u_ws RX3 TX3 8
theorem nmX3 : ∀ a, a < 8 → ∀ b, b < 8 → a ≠ b → (TX3 a).2.1 ≠ (TX3 b).2.1 := by decide +kernel
theorem tyX3_ok : ∀ k, k < 8 → parseFieldDescriptor (TX3 k).2.2.1 = some (tyX3 k) := by decide +kernel
abbrev cX3_init : ByteArray := prog_5_method_1_code
def yX3_init : MethodName := ⟨RX3, "<init>", "()V"⟩
abbrev cX3_open : ByteArray := prog_5_method_2_code
def yX3_open : MethodName := ⟨RX3, "open", "(LThrownMarks$Scheme;LThrownMarks$Card;I)V"⟩
abbrev cX3_layBeside : ByteArray := prog_5_method_3_code
def yX3_layBeside : MethodName := ⟨RX3, "layBeside", "(IZ)V"⟩
abbrev cX3_aloneAt : ByteArray := prog_5_method_4_code
def yX3_aloneAt : MethodName := ⟨RX3, "aloneAt", "(III)I"⟩
abbrev cX3_besideAt : ByteArray := prog_5_method_5_code
def yX3_besideAt : MethodName := ⟨RX3, "besideAt", "(IIII)I"⟩
abbrev cX3_bestRow : ByteArray := prog_5_method_6_code
def yX3_bestRow : MethodName := ⟨RX3, "bestRow", "(II)I"⟩
abbrev cX3_placeBy : ByteArray := prog_5_method_7_code
def yX3_placeBy : MethodName := ⟨RX3, "placeBy", "(II)I"⟩
abbrev cX3_giveAll : ByteArray := prog_5_method_8_code
def yX3_giveAll : MethodName := ⟨RX3, "giveAll", "(I)V"⟩
abbrev cX3_giveNext : ByteArray := prog_5_method_9_code
def yX3_giveNext : MethodName := ⟨RX3, "giveNext", "()V"⟩
abbrev cX3_placeNow : ByteArray := prog_5_method_10_code
def yX3_placeNow : MethodName := ⟨RX3, "placeNow", "(I)I"⟩
abbrev cX3_worthNow : ByteArray := prog_5_method_11_code
def yX3_worthNow : MethodName := ⟨RX3, "worthNow", "(II)I"⟩
def RX4 : String := "ThrownMarks$Scale"
def TX4 : u_T := fun k => match k with
  | _ => ("ThrownMarks$Scale", "sorted", "[I", true)
def tyX4 : Nat → FieldType := fun k => match k with
  | _ => .array .int
abbrev wsX40 : List Cond := u_ws RX4 TX4 1
theorem nmX4 : ∀ a, a < 1 → ∀ b, b < 1 → a ≠ b → (TX4 a).2.1 ≠ (TX4 b).2.1 := by decide +kernel
theorem tyX4_ok : ∀ k, k < 1 → parseFieldDescriptor (TX4 k).2.2.1 = some (tyX4 k) := by decide +kernel
abbrev cX4_init : ByteArray := prog_6_method_1_code
def yX4_init : MethodName := ⟨RX4, "<init>", "()V"⟩
abbrev cX4_weigh : ByteArray := prog_6_method_2_code
def yX4_weigh : MethodName := ⟨RX4, "weigh", "(LThrownMarks$Scheme;ILThrownMarks$Card;I)I"⟩
abbrev cX4_leadOf : ByteArray := prog_6_method_3_code
def yX4_leadOf : MethodName := ⟨RX4, "leadOf", "(LThrownMarks$Card;II)I"⟩
abbrev cX4_ranks : ByteArray := prog_6_method_4_code
def yX4_ranks : MethodName := ⟨RX4, "ranks", "(LThrownMarks$Card;I)I"⟩
abbrev cX4_pairs : ByteArray := prog_6_method_5_code
def yX4_pairs : MethodName := ⟨RX4, "pairs", "(LThrownMarks$Card;I)I"⟩
abbrev cX4_sumWithout : ByteArray := prog_6_method_6_code
def yX4_sumWithout : MethodName := ⟨RX4, "sumWithout", "(II)I"⟩
abbrev cX4_middleOf : ByteArray := prog_6_method_7_code
def yX4_middleOf : MethodName := ⟨RX4, "middleOf", "(I)I"⟩
abbrev cX4_weighted : ByteArray := prog_6_method_8_code
def yX4_weighted : MethodName := ⟨RX4, "weighted", "(LThrownMarks$Scheme;ILThrownMarks$Card;I)I"⟩
abbrev cX4_sortMarks : ByteArray := prog_6_method_9_code
def yX4_sortMarks : MethodName := ⟨RX4, "sortMarks", "(LThrownMarks$Card;I)I"⟩
def RX5 : String := "ThrownMarks$Scheme"
def TX5 : u_T := fun k => match k with
  | 0 => ("ThrownMarks$Scheme", "kinds", "[I", true)
  | 1 => ("ThrownMarks$Scheme", "strikes", "[I", true)
  | 2 => ("ThrownMarks$Scheme", "figures", "[I", true)
  | 3 => ("ThrownMarks$Scheme", "parts", "I", false)
  | _ => ("ThrownMarks$Scheme", "next", "I", false)
def tyX5 : Nat → FieldType := fun k => match k with
  | 0 => .array .int
  | 1 => .array .int
  | 2 => .array .int
  | 3 => .int
  | _ => .int
abbrev wsX50 : List Cond := u_ws RX5 TX5 5
theorem nmX5 : ∀ a, a < 5 → ∀ b, b < 5 → a ≠ b → (TX5 a).2.1 ≠ (TX5 b).2.1 := by decide +kernel
theorem tyX5_ok : ∀ k, k < 5 → parseFieldDescriptor (TX5 k).2.2.1 = some (tyX5 k) := by decide +kernel
abbrev cX5_init : ByteArray := prog_7_method_1_code
def yX5_init : MethodName := ⟨RX5, "<init>", "()V"⟩
abbrev cX5_parts : ByteArray := prog_7_method_2_code
def yX5_parts : MethodName := ⟨RX5, "parts", "()I"⟩
abbrev cX5_hasPart : ByteArray := prog_7_method_3_code
def yX5_hasPart : MethodName := ⟨RX5, "hasPart", "(I)Z"⟩
abbrev cX5_kindOf : ByteArray := prog_7_method_4_code
def yX5_kindOf : MethodName := ⟨RX5, "kindOf", "(I)I"⟩
abbrev cX5_strikeOf : ByteArray := prog_7_method_5_code
def yX5_strikeOf : MethodName := ⟨RX5, "strikeOf", "(I)I"⟩
abbrev cX5_figureOf : ByteArray := prog_7_method_6_code
def yX5_figureOf : MethodName := ⟨RX5, "figureOf", "(II)I"⟩
abbrev cX5_strikeAlone : ByteArray := prog_7_method_7_code
def yX5_strikeAlone : MethodName := ⟨RX5, "strikeAlone", "(I)V"⟩
abbrev cX5_read : ByteArray := prog_7_method_8_code
def yX5_read : MethodName := ⟨RX5, "read", "(LThrownMarks$Text;I)I"⟩
abbrev cX5_readPart : ByteArray := prog_7_method_9_code
def yX5_readPart : MethodName := ⟨RX5, "readPart", "(LThrownMarks$Text;I)Z"⟩
abbrev cX5_readStrike : ByteArray := prog_7_method_10_code
def yX5_readStrike : MethodName := ⟨RX5, "readStrike", "(LThrownMarks$Text;)Z"⟩
abbrev cX5_readFigures : ByteArray := prog_7_method_11_code
def yX5_readFigures : MethodName := ⟨RX5, "readFigures", "(LThrownMarks$Text;I)Z"⟩
abbrev cX5_kindBy : ByteArray := prog_7_method_12_code
def yX5_kindBy : MethodName := ⟨RX5, "kindBy", "(I)I"⟩
def RX6 : String := "ThrownMarks$Standing"
def TX6 : u_T := fun k => match k with
  | 0 => ("ThrownMarks$Standing", "scale", "LThrownMarks$Scale;", true)
  | 1 => ("ThrownMarks$Standing", "worths", "[I", true)
  | 2 => ("ThrownMarks$Standing", "parts", "I", false)
  | _ => ("ThrownMarks$Standing", "skaters", "I", false)
def tyX6 : Nat → FieldType := fun k => match k with
  | 0 => .object "ThrownMarks$Scale"
  | 1 => .array .int
  | 2 => .int
  | _ => .int
abbrev wsX60 : List Cond := u_ws RX6 TX6 4
theorem nmX6 : ∀ a, a < 4 → ∀ b, b < 4 → a ≠ b → (TX6 a).2.1 ≠ (TX6 b).2.1 := by decide +kernel
theorem tyX6_ok : ∀ k, k < 4 → parseFieldDescriptor (TX6 k).2.2.1 = some (tyX6 k) := by decide +kernel
abbrev cX6_init : ByteArray := prog_8_method_1_code
def yX6_init : MethodName := ⟨RX6, "<init>", "()V"⟩
abbrev cX6_take : ByteArray := prog_8_method_2_code
def yX6_take : MethodName := ⟨RX6, "take", "(LThrownMarks$Scheme;LThrownMarks$Card;)V"⟩
abbrev cX6_worthOf : ByteArray := prog_8_method_3_code
def yX6_worthOf : MethodName := ⟨RX6, "worthOf", "(II)I"⟩
abbrev cX6_ahead : ByteArray := prog_8_method_4_code
def yX6_ahead : MethodName := ⟨RX6, "ahead", "(II)Z"⟩
abbrev cX6_placeOf : ByteArray := prog_8_method_5_code
def yX6_placeOf : MethodName := ⟨RX6, "placeOf", "(I)I"⟩
abbrev cX6_leaders : ByteArray := prog_8_method_6_code
def yX6_leaders : MethodName := ⟨RX6, "leaders", "()I"⟩
def RX7 : String := "ThrownMarks$Text"
def TX7 : u_T := fun k => match k with
  | 0 => ("ThrownMarks$Text", "bytes", "[I", true)
  | _ => ("ThrownMarks$Text", "length", "I", false)
def tyX7 : Nat → FieldType := fun k => match k with
  | 0 => .array .int
  | _ => .int
abbrev wsX70 : List Cond := u_ws RX7 TX7 2
theorem nmX7 : ∀ a, a < 2 → ∀ b, b < 2 → a ≠ b → (TX7 a).2.1 ≠ (TX7 b).2.1 := by decide +kernel
theorem tyX7_ok : ∀ k, k < 2 → parseFieldDescriptor (TX7 k).2.2.1 = some (tyX7 k) := by decide +kernel
abbrev cX7_init : ByteArray := prog_9_method_1_code
def yX7_init : MethodName := ⟨RX7, "<init>", "()V"⟩
abbrev cX7_length : ByteArray := prog_9_method_2_code
def yX7_length : MethodName := ⟨RX7, "length", "()I"⟩
abbrev cX7_empty : ByteArray := prog_9_method_3_code
def yX7_empty : MethodName := ⟨RX7, "empty", "()I"⟩
abbrev cX7_append : ByteArray := prog_9_method_4_code
def yX7_append : MethodName := ⟨RX7, "append", "(IJ)I"⟩
abbrev cX7_byteAt : ByteArray := prog_9_method_5_code
def yX7_byteAt : MethodName := ⟨RX7, "byteAt", "(I)I"⟩
def RX8 : String := "ThrownMarks"
def TX8 : u_T := fun k => match k with
  | 0 => ("ThrownMarks", "now", "LThrownMarks$Card;", true)
  | 1 => ("ThrownMarks", "draft", "LThrownMarks$Card;", true)
  | 2 => ("ThrownMarks", "text", "LThrownMarks$Text;", true)
  | 3 => ("ThrownMarks", "schemes", "[LThrownMarks$Scheme;", true)
  | 4 => ("ThrownMarks", "spare", "LThrownMarks$Scheme;", true)
  | 5 => ("ThrownMarks", "today", "LThrownMarks$Standing;", true)
  | 6 => ("ThrownMarks", "trial", "LThrownMarks$Standing;", true)
  | 7 => ("ThrownMarks", "reach", "LThrownMarks$Reach;", true)
  | 8 => ("ThrownMarks", "kept", "LThrownMarks$Past;", true)
  | _ => ("ThrownMarks", "minds", "LThrownMarks$Minds;", true)
def tyX8 : Nat → FieldType := fun k => match k with
  | 0 => .object "ThrownMarks$Card"
  | 1 => .object "ThrownMarks$Card"
  | 2 => .object "ThrownMarks$Text"
  | 3 => .array (.object "ThrownMarks$Scheme")
  | 4 => .object "ThrownMarks$Scheme"
  | 5 => .object "ThrownMarks$Standing"
  | 6 => .object "ThrownMarks$Standing"
  | 7 => .object "ThrownMarks$Reach"
  | 8 => .object "ThrownMarks$Past"
  | _ => .object "ThrownMarks$Minds"
abbrev wsX80 : List Cond := u_ws RX8 TX8 10
theorem nmX8 : ∀ a, a < 10 → ∀ b, b < 10 → a ≠ b → (TX8 a).2.1 ≠ (TX8 b).2.1 := by decide +kernel
theorem tyX8_ok : ∀ k, k < 10 → parseFieldDescriptor (TX8 k).2.2.1 = some (tyX8 k) := by decide +kernel
abbrev cX8_init : ByteArray := prog_1_method_1_code
def yX8_init : MethodName := ⟨RX8, "<init>", "()V"⟩
abbrev cX8_panel : ByteArray := prog_1_method_2_code
def yX8_panel : MethodName := ⟨RX8, "panel", "(II)I"⟩
abbrev cX8_land : ByteArray := prog_1_method_3_code
def yX8_land : MethodName := ⟨RX8, "land", "(ZII)I"⟩
abbrev cX8_mark : ByteArray := prog_1_method_4_code
def yX8_mark : MethodName := ⟨RX8, "mark", "(III)I"⟩
abbrev cX8_card : ByteArray := prog_1_method_5_code
def yX8_card : MethodName := ⟨RX8, "card", "(II)I"⟩
abbrev cX8_lose : ByteArray := prog_1_method_6_code
def yX8_lose : MethodName := ⟨RX8, "lose", "(IZ)I"⟩
abbrev cX8_at : ByteArray := prog_1_method_7_code
def yX8_at : MethodName := ⟨RX8, "at", "(II)I"⟩
abbrev cX8_write : ByteArray := prog_1_method_8_code
def yX8_write : MethodName := ⟨RX8, "write", "(IJ)I"⟩
abbrev cX8_wipe : ByteArray := prog_1_method_9_code
def yX8_wipe : MethodName := ⟨RX8, "wipe", "()I"⟩
abbrev cX8_fault : ByteArray := prog_1_method_10_code
def yX8_fault : MethodName := ⟨RX8, "fault", "()I"⟩
abbrev cX8_rule : ByteArray := prog_1_method_11_code
def yX8_rule : MethodName := ⟨RX8, "rule", "(I)I"⟩
abbrev cX8_part : ByteArray := prog_1_method_12_code
def yX8_part : MethodName := ⟨RX8, "part", "(II)I"⟩
abbrev cX8_worth : ByteArray := prog_1_method_13_code
def yX8_worth : MethodName := ⟨RX8, "worth", "(III)I"⟩
abbrev cX8_place : ByteArray := prog_1_method_14_code
def yX8_place : MethodName := ⟨RX8, "place", "(II)I"⟩
abbrev cX8_order : ByteArray := prog_1_method_15_code
def yX8_order : MethodName := ⟨RX8, "order", "(II)I"⟩
abbrev cX8_first : ByteArray := prog_1_method_16_code
def yX8_first : MethodName := ⟨RX8, "first", "(I)I"⟩
abbrev cX8_apart : ByteArray := prog_1_method_17_code
def yX8_apart : MethodName := ⟨RX8, "apart", "(II)I"⟩
abbrev cX8_could : ByteArray := prog_1_method_18_code
def yX8_could : MethodName := ⟨RX8, "could", "(III)I"⟩
abbrev cX8_best : ByteArray := prog_1_method_19_code
def yX8_best : MethodName := ⟨RX8, "best", "(III)I"⟩
abbrev cX8_bends : ByteArray := prog_1_method_20_code
def yX8_bends : MethodName := ⟨RX8, "bends", "(II)I"⟩
abbrev cX8_bent : ByteArray := prog_1_method_21_code
def yX8_bent : MethodName := ⟨RX8, "bent", "(I)I"⟩
abbrev cX8_strike : ByteArray := prog_1_method_22_code
def yX8_strike : MethodName := ⟨RX8, "strike", "()I"⟩
abbrev cX8_move : ByteArray := prog_1_method_23_code
def yX8_move : MethodName := ⟨RX8, "move", "(IIII)I"⟩
abbrev cX8_bloc : ByteArray := prog_1_method_24_code
def yX8_bloc : MethodName := ⟨RX8, "bloc", "(III)I"⟩
abbrev cX8_few : ByteArray := prog_1_method_25_code
def yX8_few : MethodName := ⟨RX8, "few", "(III)I"⟩
abbrev cX8_drawn : ByteArray := prog_1_method_26_code
def yX8_drawn : MethodName := ⟨RX8, "drawn", "(III)I"⟩
abbrev cX8_leftOut : ByteArray := prog_1_method_27_code
def yX8_leftOut : MethodName := ⟨RX8, "leftOut", "(I)I"⟩
abbrev cX8_turns : ByteArray := prog_1_method_28_code
def yX8_turns : MethodName := ⟨RX8, "turns", "(IIII)I"⟩
abbrev cX8_thirds : ByteArray := prog_1_method_29_code
def yX8_thirds : MethodName := ⟨RX8, "thirds", "(I)I"⟩
abbrev cX8_keep : ByteArray := prog_1_method_30_code
def yX8_keep : MethodName := ⟨RX8, "keep", "()I"⟩
abbrev cX8_forget : ByteArray := prog_1_method_31_code
def yX8_forget : MethodName := ⟨RX8, "forget", "()I"⟩
abbrev cX8_lean : ByteArray := prog_1_method_32_code
def yX8_lean : MethodName := ⟨RX8, "lean", "(I)I"⟩
abbrev cX8_seldom : ByteArray := prog_1_method_33_code
def yX8_seldom : MethodName := ⟨RX8, "seldom", "(I)I"⟩
abbrev cX8_leaner : ByteArray := prog_1_method_34_code
def yX8_leaner : MethodName := ⟨RX8, "leaner", "()I"⟩
abbrev cX8_again : ByteArray := prog_1_method_35_code
def yX8_again : MethodName := ⟨RX8, "again", "(I)I"⟩
abbrev cX8_minded : ByteArray := prog_1_method_36_code
def yX8_minded : MethodName := ⟨RX8, "minded", "(III)I"⟩
abbrev cX8_rest : ByteArray := prog_1_method_37_code
def yX8_rest : MethodName := ⟨RX8, "rest", "(II)I"⟩
abbrev cX8_rests : ByteArray := prog_1_method_38_code
def yX8_rests : MethodName := ⟨RX8, "rests", "(IZ)I"⟩
abbrev cX8_count : ByteArray := prog_1_method_39_code
def yX8_count : MethodName := ⟨RX8, "count", "(I)I"⟩
abbrev cX8_isRule : ByteArray := prog_1_method_40_code
def yX8_isRule : MethodName := ⟨RX8, "isRule", "(I)Z"⟩
abbrev cX8_isMark : ByteArray := prog_1_method_41_code
def yX8_isMark : MethodName := ⟨RX8, "isMark", "(I)Z"⟩
abbrev cX8_isJudgeSet : ByteArray := prog_1_method_42_code
def yX8_isJudgeSet : MethodName := ⟨RX8, "isJudgeSet", "(I)Z"⟩
abbrev cX8_benders : ByteArray := prog_1_method_43_code
def yX8_benders : MethodName := ⟨RX8, "benders", "(LThrownMarks$Scheme;)I"⟩
abbrev cX8_bettersOwn : ByteArray := prog_1_method_44_code
def yX8_bettersOwn : MethodName := ⟨RX8, "bettersOwn", "(I)Z"⟩
abbrev cX8_placeByBloc : ByteArray := prog_1_method_45_code
def yX8_placeByBloc : MethodName := ⟨RX8, "placeByBloc", "(LThrownMarks$Scheme;II)I"⟩
abbrev cX8_doesTurn : ByteArray := prog_1_method_46_code
def yX8_doesTurn : MethodName := ⟨RX8, "doesTurn", "(LThrownMarks$Scheme;III)Z"⟩
abbrev cX8_noteMind : ByteArray := prog_1_method_47_code
def yX8_noteMind : MethodName := ⟨RX8, "noteMind", "(LThrownMarks$Scheme;I)V"⟩
abbrev cX8_pointsFor : ByteArray := prog_1_method_48_code
def yX8_pointsFor : MethodName := ⟨RX8, "pointsFor", "(I)I"⟩
def RX9 : String := "ThrownMarksModel"
def TX9 : u_T := fun k => match k with
  | 0 => ("ThrownMarksModel", "thrown", "I", false)
  | 1 => ("ThrownMarksModel", "judges", "I", false)
  | 2 => ("ThrownMarksModel", "skaters", "I", false)
  | 3 => ("ThrownMarksModel", "landOf", "[I", true)
  | 4 => ("ThrownMarksModel", "landFor", "[I", true)
  | 5 => ("ThrownMarksModel", "marks", "[I", true)
  | 6 => ("ThrownMarksModel", "isLost", "[Z", true)
  | 7 => ("ThrownMarksModel", "now", "[I", true)
  | 8 => ("ThrownMarksModel", "counts", "[Z", true)
  | 9 => ("ThrownMarksModel", "text", "[I", true)
  | 10 => ("ThrownMarksModel", "textSize", "I", false)
  | 11 => ("ThrownMarksModel", "readMany", "I", false)
  | 12 => ("ThrownMarksModel", "readLetter", "[I", true)
  | 13 => ("ThrownMarksModel", "readStrike", "[I", true)
  | 14 => ("ThrownMarksModel", "readFigure", "[I", true)
  | 15 => ("ThrownMarksModel", "ruleMany", "[I", true)
  | 16 => ("ThrownMarksModel", "letter", "[I", true)
  | 17 => ("ThrownMarksModel", "strike", "[I", true)
  | 18 => ("ThrownMarksModel", "figure", "[I", true)
  | 19 => ("ThrownMarksModel", "worths", "[I", true)
  | 20 => ("ThrownMarksModel", "row", "[I", true)
  | 21 => ("ThrownMarksModel", "places", "[I", true)
  | 22 => ("ThrownMarksModel", "pastMany", "I", false)
  | 23 => ("ThrownMarksModel", "pastJudges", "[I", true)
  | 24 => ("ThrownMarksModel", "pastSkaters", "[I", true)
  | 25 => ("ThrownMarksModel", "pastOf", "[I", true)
  | 26 => ("ThrownMarksModel", "pastFor", "[I", true)
  | 27 => ("ThrownMarksModel", "pastMarks", "[I", true)
  | _ => ("ThrownMarksModel", "pastLost", "[Z", true)
def tyX9 : Nat → FieldType := fun k => match k with
  | 0 => .int
  | 1 => .int
  | 2 => .int
  | 3 => .array .int
  | 4 => .array .int
  | 5 => .array .int
  | 6 => .array .boolean
  | 7 => .array .int
  | 8 => .array .boolean
  | 9 => .array .int
  | 10 => .int
  | 11 => .int
  | 12 => .array .int
  | 13 => .array .int
  | 14 => .array .int
  | 15 => .array .int
  | 16 => .array .int
  | 17 => .array .int
  | 18 => .array .int
  | 19 => .array .int
  | 20 => .array .int
  | 21 => .array .int
  | 22 => .int
  | 23 => .array .int
  | 24 => .array .int
  | 25 => .array .int
  | 26 => .array .int
  | 27 => .array .int
  | _ => .array .boolean
abbrev wsX90 : List Cond := u_ws RX9 TX9 29
theorem nmX9 : ∀ a, a < 29 → ∀ b, b < 29 → a ≠ b → (TX9 a).2.1 ≠ (TX9 b).2.1 := by decide +kernel
theorem tyX9_ok : ∀ k, k < 29 → parseFieldDescriptor (TX9 k).2.2.1 = some (tyX9 k) := by decide +kernel
abbrev cX9_init : ByteArray := prog_11_method_1_code
def yX9_init : MethodName := ⟨RX9, "<init>", "()V"⟩
abbrev cX9_in : ByteArray := prog_11_method_3_code
def yX9_in : MethodName := ⟨RX9, "in", "(JJJ)Z"⟩
abbrev cX9_noJudge : ByteArray := prog_11_method_4_code
def yX9_noJudge : MethodName := ⟨RX9, "noJudge", "(I)Z"⟩
abbrev cX9_noSkater : ByteArray := prog_11_method_5_code
def yX9_noSkater : MethodName := ⟨RX9, "noSkater", "(I)Z"⟩
abbrev cX9_noRule : ByteArray := prog_11_method_6_code
def yX9_noRule : MethodName := ⟨RX9, "noRule", "(I)Z"⟩
abbrev cX9_noSet : ByteArray := prog_11_method_7_code
def yX9_noSet : MethodName := ⟨RX9, "noSet", "(I)Z"⟩
abbrev cX9_cards : ByteArray := prog_11_method_8_code
def yX9_cards : MethodName := ⟨RX9, "cards", "()I"⟩
abbrev cX9_panel : ByteArray := prog_11_method_9_code
def yX9_panel : MethodName := ⟨RX9, "panel", "(II)I"⟩
abbrev cX9_land : ByteArray := prog_11_method_10_code
def yX9_land : MethodName := ⟨RX9, "land", "(ZII)I"⟩
abbrev cX9_mark : ByteArray := prog_11_method_11_code
def yX9_mark : MethodName := ⟨RX9, "mark", "(III)I"⟩
abbrev cX9_card : ByteArray := prog_11_method_12_code
def yX9_card : MethodName := ⟨RX9, "card", "(II)I"⟩
abbrev cX9_lose : ByteArray := prog_11_method_13_code
def yX9_lose : MethodName := ⟨RX9, "lose", "(IZ)I"⟩
abbrev cX9_at : ByteArray := prog_11_method_14_code
def yX9_at : MethodName := ⟨RX9, "at", "(II)I"⟩
abbrev cX9_write : ByteArray := prog_11_method_15_code
def yX9_write : MethodName := ⟨RX9, "write", "(IJ)I"⟩
abbrev cX9_wipe : ByteArray := prog_11_method_16_code
def yX9_wipe : MethodName := ⟨RX9, "wipe", "()I"⟩
abbrev cX9_isFigure : ByteArray := prog_11_method_17_code
def yX9_isFigure : MethodName := ⟨RX9, "isFigure", "(II)Z"⟩
abbrev cX9_read : ByteArray := prog_11_method_18_code
def yX9_read : MethodName := ⟨RX9, "read", "()I"⟩
abbrev cX9_fault : ByteArray := prog_11_method_19_code
def yX9_fault : MethodName := ⟨RX9, "fault", "()I"⟩
abbrev cX9_rule : ByteArray := prog_11_method_20_code
def yX9_rule : MethodName := ⟨RX9, "rule", "(I)I"⟩
abbrev cX9_part : ByteArray := prog_11_method_21_code
def yX9_part : MethodName := ⟨RX9, "part", "(II)I"⟩
abbrev cX9_take : ByteArray := prog_11_method_22_code
def yX9_take : MethodName := ⟨RX9, "take", "()V"⟩
abbrev cX9_sort : ByteArray := prog_11_method_23_code
def yX9_sort : MethodName := ⟨RX9, "sort", "(I)I"⟩
abbrev cX9_struck : ByteArray := prog_11_method_24_code
def yX9_struck : MethodName := ⟨RX9, "struck", "(II)I"⟩
abbrev cX9_middle : ByteArray := prog_11_method_25_code
def yX9_middle : MethodName := ⟨RX9, "middle", "(I)I"⟩
abbrev cX9_ranks : ByteArray := prog_11_method_26_code
def yX9_ranks : MethodName := ⟨RX9, "ranks", "(I)I"⟩
abbrev cX9_pairs : ByteArray := prog_11_method_27_code
def yX9_pairs : MethodName := ⟨RX9, "pairs", "(I)I"⟩
abbrev cX9_weighed : ByteArray := prog_11_method_28_code
def yX9_weighed : MethodName := ⟨RX9, "weighed", "(II)I"⟩
abbrev cX9_worthOf : ByteArray := prog_11_method_29_code
def yX9_worthOf : MethodName := ⟨RX9, "worthOf", "(III)I"⟩
abbrev cX9_lay : ByteArray := prog_11_method_30_code
def yX9_lay : MethodName := ⟨RX9, "lay", "(I)V"⟩
abbrev cX9_by : ByteArray := prog_11_method_31_code
def yX9_by : MethodName := ⟨RX9, "by", "(III)I"⟩
abbrev cX9_placeOf : ByteArray := prog_11_method_32_code
def yX9_placeOf : MethodName := ⟨RX9, "placeOf", "(II)I"⟩
abbrev cX9_firsts : ByteArray := prog_11_method_33_code
def yX9_firsts : MethodName := ⟨RX9, "firsts", "(I)I"⟩
abbrev cX9_worth : ByteArray := prog_11_method_34_code
def yX9_worth : MethodName := ⟨RX9, "worth", "(III)I"⟩
abbrev cX9_place : ByteArray := prog_11_method_35_code
def yX9_place : MethodName := ⟨RX9, "place", "(II)I"⟩
abbrev cX9_order : ByteArray := prog_11_method_36_code
def yX9_order : MethodName := ⟨RX9, "order", "(II)I"⟩
abbrev cX9_first : ByteArray := prog_11_method_37_code
def yX9_first : MethodName := ⟨RX9, "first", "(I)I"⟩
abbrev cX9_apart : ByteArray := prog_11_method_38_code
def yX9_apart : MethodName := ⟨RX9, "apart", "(II)I"⟩
abbrev cX9_give : ByteArray := prog_11_method_39_code
def yX9_give : MethodName := ⟨RX9, "give", "(II)V"⟩
abbrev cX9_findBest : ByteArray := prog_11_method_40_code
def yX9_findBest : MethodName := ⟨RX9, "findBest", "(IIIZ)I"⟩
abbrev cX9_could : ByteArray := prog_11_method_41_code
def yX9_could : MethodName := ⟨RX9, "could", "(III)I"⟩
abbrev cX9_best : ByteArray := prog_11_method_42_code
def yX9_best : MethodName := ⟨RX9, "best", "(III)I"⟩
abbrev cX9_isBent : ByteArray := prog_11_method_43_code
def yX9_isBent : MethodName := ⟨RX9, "isBent", "(II)Z"⟩
abbrev cX9_bends : ByteArray := prog_11_method_44_code
def yX9_bends : MethodName := ⟨RX9, "bends", "(II)I"⟩
abbrev cX9_allBent : ByteArray := prog_11_method_45_code
def yX9_allBent : MethodName := ⟨RX9, "allBent", "(I)I"⟩
abbrev cX9_bent : ByteArray := prog_11_method_46_code
def yX9_bent : MethodName := ⟨RX9, "bent", "(I)I"⟩
abbrev cX9_many : ByteArray := prog_11_method_47_code
def yX9_many : MethodName := ⟨RX9, "many", "(I)I"⟩
abbrev cX9_strike : ByteArray := prog_11_method_48_code
def yX9_strike : MethodName := ⟨RX9, "strike", "()I"⟩
abbrev cX9_move : ByteArray := prog_11_method_49_code
def yX9_move : MethodName := ⟨RX9, "move", "(IIII)I"⟩
abbrev cX9_placeBy : ByteArray := prog_11_method_50_code
def yX9_placeBy : MethodName := ⟨RX9, "placeBy", "(III)I"⟩
abbrev cX9_bloc : ByteArray := prog_11_method_51_code
def yX9_bloc : MethodName := ⟨RX9, "bloc", "(III)I"⟩
abbrev cX9_few : ByteArray := prog_11_method_52_code
def yX9_few : MethodName := ⟨RX9, "few", "(III)I"⟩
abbrev cX9_drawn : ByteArray := prog_11_method_53_code
def yX9_drawn : MethodName := ⟨RX9, "drawn", "(III)I"⟩
abbrev cX9_leftOut : ByteArray := prog_11_method_54_code
def yX9_leftOut : MethodName := ⟨RX9, "leftOut", "(I)I"⟩
abbrev cX9_isTurned : ByteArray := prog_11_method_55_code
def yX9_isTurned : MethodName := ⟨RX9, "isTurned", "(IIII)Z"⟩
abbrev cX9_turns : ByteArray := prog_11_method_56_code
def yX9_turns : MethodName := ⟨RX9, "turns", "(IIII)I"⟩
abbrev cX9_thirds : ByteArray := prog_11_method_57_code
def yX9_thirds : MethodName := ⟨RX9, "thirds", "(I)I"⟩
abbrev cX9_keep : ByteArray := prog_11_method_58_code
def yX9_keep : MethodName := ⟨RX9, "keep", "()I"⟩
abbrev cX9_forget : ByteArray := prog_11_method_59_code
def yX9_forget : MethodName := ⟨RX9, "forget", "()I"⟩
abbrev cX9_stood : ByteArray := prog_11_method_60_code
def yX9_stood : MethodName := ⟨RX9, "stood", "(II)Z"⟩
abbrev cX9_leanIn : ByteArray := prog_11_method_61_code
def yX9_leanIn : MethodName := ⟨RX9, "leanIn", "(III)I"⟩
abbrev cX9_leanOf : ByteArray := prog_11_method_62_code
def yX9_leanOf : MethodName := ⟨RX9, "leanOf", "(I)I"⟩
abbrev cX9_lean : ByteArray := prog_11_method_63_code
def yX9_lean : MethodName := ⟨RX9, "lean", "(I)I"⟩
abbrev cX9_seldom : ByteArray := prog_11_method_64_code
def yX9_seldom : MethodName := ⟨RX9, "seldom", "(I)I"⟩
abbrev cX9_leaner : ByteArray := prog_11_method_65_code
def yX9_leaner : MethodName := ⟨RX9, "leaner", "()I"⟩
abbrev cX9_again : ByteArray := prog_11_method_66_code
def yX9_again : MethodName := ⟨RX9, "again", "(I)I"⟩
abbrev cX9_mind : ByteArray := prog_11_method_67_code
def yX9_mind : MethodName := ⟨RX9, "mind", "(I)V"⟩
abbrev cX9_leastOf : ByteArray := prog_11_method_68_code
def yX9_leastOf : MethodName := ⟨RX9, "leastOf", "(III)I"⟩
abbrev cX9_isAtRest : ByteArray := prog_11_method_69_code
def yX9_isAtRest : MethodName := ⟨RX9, "isAtRest", "(II)Z"⟩
abbrev cX9_minded : ByteArray := prog_11_method_70_code
def yX9_minded : MethodName := ⟨RX9, "minded", "(III)I"⟩
abbrev cX9_rest : ByteArray := prog_11_method_71_code
def yX9_rest : MethodName := ⟨RX9, "rest", "(II)I"⟩
abbrev cX9_rests : ByteArray := prog_11_method_72_code
def yX9_rests : MethodName := ⟨RX9, "rests", "(IZ)I"⟩
abbrev cX9_count : ByteArray := prog_11_method_73_code
def yX9_count : MethodName := ⟨RX9, "count", "(I)I"⟩
def RJ6 : String := "java/lang/Integer"
def TJ6 : u_T := fun k => match k with
  | _ => ("", "", "", false)
def tyJ6 : Nat → FieldType := fun k => match k with
  | _ => .int
abbrev wsJ60 : List Cond := u_ws RJ6 TJ6 0
theorem nmJ6 : ∀ a, a < 0 → ∀ b, b < 0 → a ≠ b → (TJ6 a).2.1 ≠ (TJ6 b).2.1 := by decide +kernel
theorem tyJ6_ok : ∀ k, k < 0 → parseFieldDescriptor (TJ6 k).2.2.1 = some (tyJ6 k) := by decide +kernel
abbrev cJ6_bitCount_0f7a4 : ByteArray := prog_12_method_49_code
def yJ6_bitCount_0f7a4 : MethodName := ⟨RJ6, "bitCount", "(I)I"⟩
def RJ9 : String := "java/lang/Math"
def TJ9 : u_T := fun k => match k with
  | _ => ("", "", "", false)
def tyJ9 : Nat → FieldType := fun k => match k with
  | _ => .int
abbrev wsJ90 : List Cond := u_ws RJ9 TJ9 0
theorem nmJ9 : ∀ a, a < 0 → ∀ b, b < 0 → a ≠ b → (TJ9 a).2.1 ≠ (TJ9 b).2.1 := by decide +kernel
theorem tyJ9_ok : ∀ k, k < 0 → parseFieldDescriptor (TJ9 k).2.2.1 = some (tyJ9 k) := by decide +kernel
abbrev cJ9_min_7cf53 : ByteArray := prog_13_method_69_code
def yJ9_min_7cf53 : MethodName := ⟨RJ9, "min", "(II)I"⟩
def RJ10 : String := "java/lang/System"
def TJ10 : u_T := fun k => match k with
  | _ => ("", "", "", false)
def tyJ10 : Nat → FieldType := fun k => match k with
  | _ => .int
abbrev wsJ100 : List Cond := u_ws RJ10 TJ10 0
theorem nmJ10 : ∀ a, a < 0 → ∀ b, b < 0 → a ≠ b → (TJ10 a).2.1 ≠ (TJ10 b).2.1 := by decide +kernel
theorem tyJ10_ok : ∀ k, k < 0 → parseFieldDescriptor (TJ10 k).2.2.1 = some (tyJ10 k) := by decide +kernel
def RL : String := "ThrownMarksLaw"
abbrev cL_law : ByteArray := code
def yL_law : MethodName := ⟨RL, "law", "([I)Z"⟩
abbrev vwCl : List vw_C := [(RX0, TX0, 6), (RX1, TX1, 1), (RX2, TX2, 2), (RX3, TX3, 8), (RX4, TX4, 1), (RX5, TX5, 5), (RX6, TX6, 4), (RX7, TX7, 2), (RX8, TX8, 10), (RX9, TX9, 29)]
end
section
abbrev q_Ent : Type := Nat × Nat × Instr × Nat × Nat × Nat × Nat
noncomputable def kd_X0_init : List q_Ent := [
  (0, 1, .aload_n 0, 0, 0, 0, 0),
  (1, 3, .invokespecial 3, 0, 1, 6, 82),
  (4, 1, .aload_n 0, 0, 0, 0, 0),
  (5, 2, .bipush 28, 0, 0, 0, 0),
  (7, 2, .newarray .int, 0, 0, 0, 0),
  (9, 3, .putfield 9, 0, 0, 83, 1),
  (12, 1, .aload_n 0, 0, 0, 0, 0),
  (13, 2, .bipush 7, 0, 0, 0, 0),
  (15, 2, .newarray .int, 0, 0, 0, 0),
  (17, 3, .putfield 15, 0, 1, 84, 1),
  (20, 1, .aload_n 0, 0, 0, 0, 0),
  (21, 1, .iconst 4, 0, 0, 0, 0),
  (22, 2, .newarray .int, 0, 0, 0, 0),
  (24, 3, .putfield 18, 0, 2, 85, 1),
  (27, 1, .return_, 0, 0, 0, 0)]
noncomputable def kd_X0_begin : List q_Ent := [
  (0, 1, .aload_n 0, 0, 0, 0, 0),
  (1, 1, .iload_n 1, 0, 0, 0, 0),
  (2, 3, .putfield 21, 0, 3, 86, 0),
  (5, 1, .aload_n 0, 0, 0, 0, 0),
  (6, 1, .iload_n 2, 0, 0, 0, 0),
  (7, 3, .putfield 25, 0, 4, 87, 0),
  (10, 1, .aload_n 0, 0, 0, 0, 0),
  (11, 1, .iconst 0, 0, 0, 0, 0),
  (12, 3, .putfield 28, 0, 5, 88, 0),
  (15, 1, .iconst 0, 0, 0, 0, 0),
  (16, 1, .istore_n 3, 0, 0, 0, 0),
  (17, 1, .iload_n 3, 0, 0, 0, 0),
  (18, 1, .aload_n 0, 0, 0, 0, 0),
  (19, 3, .getfield 9, 0, 0, 83, 1),
  (22, 1, .arraylength, 0, 0, 0, 0),
  (23, 3, .if_icmp .ge 16, 23, 0, 0, 0),
  (26, 1, .aload_n 0, 0, 0, 0, 0),
  (27, 3, .getfield 9, 0, 0, 83, 1),
  (30, 1, .iload_n 3, 0, 0, 0, 0),
  (31, 1, .iconst 0, 0, 0, 0, 0),
  (32, 1, .iastore, 0, 0, 0, 0),
  (33, 3, .iinc 3 1, 0, 0, 0, 0),
  (36, 3, .goto (-19), 11, 0, 0, 0),
  (39, 1, .iconst 0, 0, 0, 0, 0),
  (40, 1, .istore_n 3, 0, 0, 0, 0),
  (41, 1, .iload_n 3, 0, 0, 0, 0),
  (42, 1, .aload_n 0, 0, 0, 0, 0),
  (43, 3, .getfield 15, 0, 1, 84, 1),
  (46, 1, .arraylength, 0, 0, 0, 0),
  (47, 3, .if_icmp .ge 16, 37, 0, 0, 0),
  (50, 1, .aload_n 0, 0, 0, 0, 0),
  (51, 3, .getfield 15, 0, 1, 84, 1),
  (54, 1, .iload_n 3, 0, 0, 0, 0),
  (55, 1, .iconst 0, 0, 0, 0, 0),
  (56, 1, .iastore, 0, 0, 0, 0),
  (57, 3, .iinc 3 1, 0, 0, 0, 0),
  (60, 3, .goto (-19), 25, 0, 0, 0),
  (63, 1, .iconst 0, 0, 0, 0, 0),
  (64, 1, .istore_n 3, 0, 0, 0, 0),
  (65, 1, .iload_n 3, 0, 0, 0, 0),
  (66, 1, .aload_n 0, 0, 0, 0, 0),
  (67, 3, .getfield 18, 0, 2, 85, 1),
  (70, 1, .arraylength, 0, 0, 0, 0),
  (71, 3, .if_icmp .ge 16, 51, 0, 0, 0),
  (74, 1, .aload_n 0, 0, 0, 0, 0),
  (75, 3, .getfield 18, 0, 2, 85, 1),
  (78, 1, .iload_n 3, 0, 0, 0, 0),
  (79, 1, .iconst 0, 0, 0, 0, 0),
  (80, 1, .iastore, 0, 0, 0, 0),
  (81, 3, .iinc 3 1, 0, 0, 0, 0),
  (84, 3, .goto (-19), 39, 0, 0, 0),
  (87, 1, .return_, 0, 0, 0, 0)]
noncomputable def kd_X0_copyFrom : List q_Ent := [
  (0, 1, .aload_n 0, 0, 0, 0, 0),
  (1, 1, .aload_n 1, 0, 0, 0, 0),
  (2, 3, .getfield 21, 0, 3, 86, 0),
  (5, 3, .putfield 21, 0, 3, 86, 0),
  (8, 1, .aload_n 0, 0, 0, 0, 0),
  (9, 1, .aload_n 1, 0, 0, 0, 0),
  (10, 3, .getfield 25, 0, 4, 87, 0),
  (13, 3, .putfield 25, 0, 4, 87, 0),
  (16, 1, .aload_n 0, 0, 0, 0, 0),
  (17, 1, .aload_n 1, 0, 0, 0, 0),
  (18, 3, .getfield 28, 0, 5, 88, 0),
  (21, 3, .putfield 28, 0, 5, 88, 0),
  (24, 1, .aload_n 1, 0, 0, 0, 0),
  (25, 3, .getfield 9, 0, 0, 83, 1),
  (28, 1, .iconst 0, 0, 0, 0, 0),
  (29, 1, .aload_n 0, 0, 0, 0, 0),
  (30, 3, .getfield 9, 0, 0, 83, 1),
  (33, 1, .iconst 0, 0, 0, 0, 0),
  (34, 1, .aload_n 0, 0, 0, 0, 0),
  (35, 3, .getfield 9, 0, 0, 83, 1),
  (38, 1, .arraylength, 0, 0, 0, 0),
  (39, 3, .invokestatic 31, 0, 5, 7, 529),
  (42, 1, .aload_n 1, 0, 0, 0, 0),
  (43, 3, .getfield 15, 0, 1, 84, 1),
  (46, 1, .iconst 0, 0, 0, 0, 0),
  (47, 1, .aload_n 0, 0, 0, 0, 0),
  (48, 3, .getfield 15, 0, 1, 84, 1),
  (51, 1, .iconst 0, 0, 0, 0, 0),
  (52, 1, .aload_n 0, 0, 0, 0, 0),
  (53, 3, .getfield 15, 0, 1, 84, 1),
  (56, 1, .arraylength, 0, 0, 0, 0),
  (57, 3, .invokestatic 31, 0, 5, 7, 529),
  (60, 1, .aload_n 1, 0, 0, 0, 0),
  (61, 3, .getfield 18, 0, 2, 85, 1),
  (64, 1, .iconst 0, 0, 0, 0, 0),
  (65, 1, .aload_n 0, 0, 0, 0, 0),
  (66, 3, .getfield 18, 0, 2, 85, 1),
  (69, 1, .iconst 0, 0, 0, 0, 0),
  (70, 1, .aload_n 0, 0, 0, 0, 0),
  (71, 3, .getfield 18, 0, 2, 85, 1),
  (74, 1, .arraylength, 0, 0, 0, 0),
  (75, 3, .invokestatic 31, 0, 5, 7, 529),
  (78, 1, .return_, 0, 0, 0, 0)]
noncomputable def kd_X0_judges : List q_Ent := [
  (0, 1, .aload_n 0, 0, 0, 0, 0),
  (1, 3, .getfield 21, 0, 3, 86, 0),
  (4, 1, .ireturn, 0, 0, 0, 0)]
noncomputable def kd_X0_skaters : List q_Ent := [
  (0, 1, .aload_n 0, 0, 0, 0, 0),
  (1, 3, .getfield 25, 0, 4, 87, 0),
  (4, 1, .ireturn, 0, 0, 0, 0)]
noncomputable def kd_X0_size : List q_Ent := [
  (0, 1, .aload_n 0, 0, 0, 0, 0),
  (1, 3, .getfield 21, 0, 3, 86, 0),
  (4, 1, .aload_n 0, 0, 0, 0, 0),
  (5, 3, .getfield 25, 0, 4, 87, 0),
  (8, 1, .imul, 0, 0, 0, 0),
  (9, 1, .ireturn, 0, 0, 0, 0)]
noncomputable def kd_X0_judgeSets : List q_Ent := [
  (0, 1, .iconst 1, 0, 0, 0, 0),
  (1, 1, .aload_n 0, 0, 0, 0, 0),
  (2, 3, .getfield 21, 0, 3, 86, 0),
  (5, 1, .ishl, 0, 0, 0, 0),
  (6, 1, .ireturn, 0, 0, 0, 0)]
noncomputable def kd_X0_rows : List q_Ent := [
  (0, 1, .iconst 1, 0, 0, 0, 0),
  (1, 1, .istore_n 1, 0, 0, 0, 0),
  (2, 1, .iconst 0, 0, 0, 0, 0),
  (3, 1, .istore_n 2, 0, 0, 0, 0),
  (4, 1, .iload_n 2, 0, 0, 0, 0),
  (5, 1, .aload_n 0, 0, 0, 0, 0),
  (6, 3, .getfield 25, 0, 4, 87, 0),
  (9, 3, .if_icmp .ge 14, 14, 0, 0, 0),
  (12, 1, .iload_n 1, 0, 0, 0, 0),
  (13, 2, .bipush 6, 0, 0, 0, 0),
  (15, 1, .imul, 0, 0, 0, 0),
  (16, 1, .istore_n 1, 0, 0, 0, 0),
  (17, 3, .iinc 2 1, 0, 0, 0, 0),
  (20, 3, .goto (-16), 4, 0, 0, 0),
  (23, 1, .iload_n 1, 0, 0, 0, 0),
  (24, 1, .ireturn, 0, 0, 0, 0)]
noncomputable def kd_X0_hasJudge : List q_Ent := [
  (0, 1, .iload_n 1, 0, 0, 0, 0),
  (1, 3, .ifCond .lt 15, 8, 0, 0, 0),
  (4, 1, .iload_n 1, 0, 0, 0, 0),
  (5, 1, .aload_n 0, 0, 0, 0, 0),
  (6, 3, .getfield 21, 0, 3, 86, 0),
  (9, 3, .if_icmp .ge 7, 8, 0, 0, 0),
  (12, 1, .iconst 1, 0, 0, 0, 0),
  (13, 3, .goto 4, 9, 0, 0, 0),
  (16, 1, .iconst 0, 0, 0, 0, 0),
  (17, 1, .ireturn, 0, 0, 0, 0)]
noncomputable def kd_X0_hasSkater : List q_Ent := [
  (0, 1, .iload_n 1, 0, 0, 0, 0),
  (1, 3, .ifCond .lt 15, 8, 0, 0, 0),
  (4, 1, .iload_n 1, 0, 0, 0, 0),
  (5, 1, .aload_n 0, 0, 0, 0, 0),
  (6, 3, .getfield 25, 0, 4, 87, 0),
  (9, 3, .if_icmp .ge 7, 8, 0, 0, 0),
  (12, 1, .iconst 1, 0, 0, 0, 0),
  (13, 3, .goto 4, 9, 0, 0, 0),
  (16, 1, .iconst 0, 0, 0, 0, 0),
  (17, 1, .ireturn, 0, 0, 0, 0)]
noncomputable def kd_X0_markOf : List q_Ent := [
  (0, 1, .aload_n 0, 0, 0, 0, 0),
  (1, 3, .getfield 9, 0, 0, 83, 1),
  (4, 1, .iload_n 1, 0, 0, 0, 0),
  (5, 1, .iconst 4, 0, 0, 0, 0),
  (6, 1, .imul, 0, 0, 0, 0),
  (7, 1, .iload_n 2, 0, 0, 0, 0),
  (8, 1, .iadd, 0, 0, 0, 0),
  (9, 1, .iaload, 0, 0, 0, 0),
  (10, 1, .ireturn, 0, 0, 0, 0)]
noncomputable def kd_X0_give : List q_Ent := [
  (0, 1, .aload_n 0, 0, 0, 0, 0),
  (1, 3, .getfield 9, 0, 0, 83, 1),
  (4, 1, .iload_n 1, 0, 0, 0, 0),
  (5, 1, .iconst 4, 0, 0, 0, 0),
  (6, 1, .imul, 0, 0, 0, 0),
  (7, 1, .iload_n 2, 0, 0, 0, 0),
  (8, 1, .iadd, 0, 0, 0, 0),
  (9, 1, .iload_n 3, 0, 0, 0, 0),
  (10, 1, .iastore, 0, 0, 0, 0),
  (11, 1, .return_, 0, 0, 0, 0)]
noncomputable def kd_X0_rowOf : List q_Ent := [
  (0, 1, .iconst 0, 0, 0, 0, 0),
  (1, 1, .istore_n 2, 0, 0, 0, 0),
  (2, 1, .iconst 0, 0, 0, 0, 0),
  (3, 1, .istore_n 3, 0, 0, 0, 0),
  (4, 1, .iload_n 3, 0, 0, 0, 0),
  (5, 1, .aload_n 0, 0, 0, 0, 0),
  (6, 3, .getfield 25, 0, 4, 87, 0),
  (9, 3, .if_icmp .ge 21, 19, 0, 0, 0),
  (12, 1, .iload_n 2, 0, 0, 0, 0),
  (13, 2, .bipush 6, 0, 0, 0, 0),
  (15, 1, .imul, 0, 0, 0, 0),
  (16, 1, .aload_n 0, 0, 0, 0, 0),
  (17, 1, .iload_n 1, 0, 0, 0, 0),
  (18, 1, .iload_n 3, 0, 0, 0, 0),
  (19, 3, .invokevirtual 37, 10, 3, 0, 321),
  (22, 1, .iadd, 0, 0, 0, 0),
  (23, 1, .istore_n 2, 0, 0, 0, 0),
  (24, 3, .iinc 3 1, 0, 0, 0, 0),
  (27, 3, .goto (-23), 4, 0, 0, 0),
  (30, 1, .iload_n 2, 0, 0, 0, 0),
  (31, 1, .ireturn, 0, 0, 0, 0)]
noncomputable def kd_X0_giveRow : List q_Ent := [
  (0, 1, .iload_n 2, 0, 0, 0, 0),
  (1, 1, .istore_n 3, 0, 0, 0, 0),
  (2, 1, .aload_n 0, 0, 0, 0, 0),
  (3, 3, .getfield 25, 0, 4, 87, 0),
  (6, 1, .iconst 1, 0, 0, 0, 0),
  (7, 1, .isub, 0, 0, 0, 0),
  (8, 2, .istore 4, 0, 0, 0, 0),
  (10, 2, .iload 4, 0, 0, 0, 0),
  (12, 3, .ifCond .lt 25, 22, 0, 0, 0),
  (15, 1, .aload_n 0, 0, 0, 0, 0),
  (16, 1, .iload_n 1, 0, 0, 0, 0),
  (17, 2, .iload 4, 0, 0, 0, 0),
  (19, 1, .iload_n 3, 0, 0, 0, 0),
  (20, 2, .bipush 6, 0, 0, 0, 0),
  (22, 1, .irem, 0, 0, 0, 0),
  (23, 3, .invokevirtual 41, 11, 4, 0, 326),
  (26, 1, .iload_n 3, 0, 0, 0, 0),
  (27, 2, .bipush 6, 0, 0, 0, 0),
  (29, 1, .idiv, 0, 0, 0, 0),
  (30, 1, .istore_n 3, 0, 0, 0, 0),
  (31, 3, .iinc 4 (-1), 0, 0, 0, 0),
  (34, 3, .goto (-24), 7, 0, 0, 0),
  (37, 1, .return_, 0, 0, 0, 0)]
noncomputable def kd_X0_counts : List q_Ent := [
  (0, 1, .iload_n 1, 0, 0, 0, 0),
  (1, 3, .ifCond .lt 26, 15, 0, 0, 0),
  (4, 1, .iload_n 1, 0, 0, 0, 0),
  (5, 1, .aload_n 0, 0, 0, 0, 0),
  (6, 3, .getfield 21, 0, 3, 86, 0),
  (9, 3, .if_icmp .ge 18, 15, 0, 0, 0),
  (12, 1, .aload_n 0, 0, 0, 0, 0),
  (13, 3, .getfield 28, 0, 5, 88, 0),
  (16, 1, .iconst 1, 0, 0, 0, 0),
  (17, 1, .iload_n 1, 0, 0, 0, 0),
  (18, 1, .ishl, 0, 0, 0, 0),
  (19, 1, .iand, 0, 0, 0, 0),
  (20, 3, .ifCond .ne 7, 15, 0, 0, 0),
  (23, 1, .iconst 1, 0, 0, 0, 0),
  (24, 3, .goto 4, 16, 0, 0, 0),
  (27, 1, .iconst 0, 0, 0, 0, 0),
  (28, 1, .ireturn, 0, 0, 0, 0)]
noncomputable def kd_X0_counting : List q_Ent := [
  (0, 1, .aload_n 0, 0, 0, 0, 0),
  (1, 3, .invokevirtual 45, 6, 1, 0, 651),
  (4, 1, .iconst 1, 0, 0, 0, 0),
  (5, 1, .isub, 0, 0, 0, 0),
  (6, 1, .aload_n 0, 0, 0, 0, 0),
  (7, 3, .getfield 28, 0, 5, 88, 0),
  (10, 1, .iconst (-1), 0, 0, 0, 0),
  (11, 1, .ixor, 0, 0, 0, 0),
  (12, 1, .iand, 0, 0, 0, 0),
  (13, 1, .ireturn, 0, 0, 0, 0)]
noncomputable def kd_X0_setLost : List q_Ent := [
  (0, 1, .iload_n 2, 0, 0, 0, 0),
  (1, 3, .ifCond .eq 18, 11, 0, 0, 0),
  (4, 1, .aload_n 0, 0, 0, 0, 0),
  (5, 1, .dup, 0, 0, 0, 0),
  (6, 3, .getfield 28, 0, 5, 88, 0),
  (9, 1, .iconst 1, 0, 0, 0, 0),
  (10, 1, .iload_n 1, 0, 0, 0, 0),
  (11, 1, .ishl, 0, 0, 0, 0),
  (12, 1, .ior, 0, 0, 0, 0),
  (13, 3, .putfield 28, 0, 5, 88, 0),
  (16, 3, .goto 17, 21, 0, 0, 0),
  (19, 1, .aload_n 0, 0, 0, 0, 0),
  (20, 1, .dup, 0, 0, 0, 0),
  (21, 3, .getfield 28, 0, 5, 88, 0),
  (24, 1, .iconst 1, 0, 0, 0, 0),
  (25, 1, .iload_n 1, 0, 0, 0, 0),
  (26, 1, .ishl, 0, 0, 0, 0),
  (27, 1, .iconst (-1), 0, 0, 0, 0),
  (28, 1, .ixor, 0, 0, 0, 0),
  (29, 1, .iand, 0, 0, 0, 0),
  (30, 3, .putfield 28, 0, 5, 88, 0),
  (33, 1, .return_, 0, 0, 0, 0)]
noncomputable def kd_X0_loseAllBut : List q_Ent := [
  (0, 1, .aload_n 0, 0, 0, 0, 0),
  (1, 1, .dup, 0, 0, 0, 0),
  (2, 3, .getfield 28, 0, 5, 88, 0),
  (5, 1, .aload_n 0, 0, 0, 0, 0),
  (6, 3, .invokevirtual 45, 6, 1, 0, 651),
  (9, 1, .iconst 1, 0, 0, 0, 0),
  (10, 1, .isub, 0, 0, 0, 0),
  (11, 1, .iload_n 1, 0, 0, 0, 0),
  (12, 1, .iconst (-1), 0, 0, 0, 0),
  (13, 1, .ixor, 0, 0, 0, 0),
  (14, 1, .iand, 0, 0, 0, 0),
  (15, 1, .ior, 0, 0, 0, 0),
  (16, 3, .putfield 28, 0, 5, 88, 0),
  (19, 1, .return_, 0, 0, 0, 0)]
noncomputable def kd_X0_judgeLand : List q_Ent := [
  (0, 1, .aload_n 0, 0, 0, 0, 0),
  (1, 3, .getfield 15, 0, 1, 84, 1),
  (4, 1, .iload_n 1, 0, 0, 0, 0),
  (5, 1, .iaload, 0, 0, 0, 0),
  (6, 1, .ireturn, 0, 0, 0, 0)]
noncomputable def kd_X0_skaterLand : List q_Ent := [
  (0, 1, .aload_n 0, 0, 0, 0, 0),
  (1, 3, .getfield 18, 0, 2, 85, 1),
  (4, 1, .iload_n 1, 0, 0, 0, 0),
  (5, 1, .iaload, 0, 0, 0, 0),
  (6, 1, .ireturn, 0, 0, 0, 0)]
noncomputable def kd_X0_ofOneLand : List q_Ent := [
  (0, 1, .aload_n 0, 0, 0, 0, 0),
  (1, 3, .getfield 15, 0, 1, 84, 1),
  (4, 1, .iload_n 1, 0, 0, 0, 0),
  (5, 1, .iaload, 0, 0, 0, 0),
  (6, 1, .aload_n 0, 0, 0, 0, 0),
  (7, 3, .getfield 18, 0, 2, 85, 1),
  (10, 1, .iload_n 2, 0, 0, 0, 0),
  (11, 1, .iaload, 0, 0, 0, 0),
  (12, 3, .if_icmp .ne 7, 11, 0, 0, 0),
  (15, 1, .iconst 1, 0, 0, 0, 0),
  (16, 3, .goto 4, 12, 0, 0, 0),
  (19, 1, .iconst 0, 0, 0, 0, 0),
  (20, 1, .ireturn, 0, 0, 0, 0)]
noncomputable def kd_X0_moveJudge : List q_Ent := [
  (0, 1, .aload_n 0, 0, 0, 0, 0),
  (1, 3, .getfield 15, 0, 1, 84, 1),
  (4, 1, .iload_n 1, 0, 0, 0, 0),
  (5, 1, .iaload, 0, 0, 0, 0),
  (6, 1, .istore_n 3, 0, 0, 0, 0),
  (7, 1, .aload_n 0, 0, 0, 0, 0),
  (8, 3, .getfield 15, 0, 1, 84, 1),
  (11, 1, .iload_n 1, 0, 0, 0, 0),
  (12, 1, .iload_n 2, 0, 0, 0, 0),
  (13, 1, .iastore, 0, 0, 0, 0),
  (14, 1, .iload_n 3, 0, 0, 0, 0),
  (15, 1, .ireturn, 0, 0, 0, 0)]
noncomputable def kd_X0_moveSkater : List q_Ent := [
  (0, 1, .aload_n 0, 0, 0, 0, 0),
  (1, 3, .getfield 18, 0, 2, 85, 1),
  (4, 1, .iload_n 1, 0, 0, 0, 0),
  (5, 1, .iaload, 0, 0, 0, 0),
  (6, 1, .istore_n 3, 0, 0, 0, 0),
  (7, 1, .aload_n 0, 0, 0, 0, 0),
  (8, 3, .getfield 18, 0, 2, 85, 1),
  (11, 1, .iload_n 1, 0, 0, 0, 0),
  (12, 1, .iload_n 2, 0, 0, 0, 0),
  (13, 1, .iastore, 0, 0, 0, 0),
  (14, 1, .iload_n 3, 0, 0, 0, 0),
  (15, 1, .ireturn, 0, 0, 0, 0)]
noncomputable def kd_X0_favour : List q_Ent := [
  (0, 1, .aload_n 0, 0, 0, 0, 0),
  (1, 1, .dup, 0, 0, 0, 0),
  (2, 3, .getfield 28, 0, 5, 88, 0),
  (5, 1, .iload_n 1, 0, 0, 0, 0),
  (6, 1, .iconst (-1), 0, 0, 0, 0),
  (7, 1, .ixor, 0, 0, 0, 0),
  (8, 1, .iand, 0, 0, 0, 0),
  (9, 3, .putfield 28, 0, 5, 88, 0),
  (12, 1, .iconst 0, 0, 0, 0, 0),
  (13, 1, .istore_n 3, 0, 0, 0, 0),
  (14, 1, .iload_n 3, 0, 0, 0, 0),
  (15, 1, .aload_n 0, 0, 0, 0, 0),
  (16, 3, .getfield 21, 0, 3, 86, 0),
  (19, 3, .if_icmp .ge 53, 40, 0, 0, 0),
  (22, 1, .iload_n 1, 0, 0, 0, 0),
  (23, 1, .iconst 1, 0, 0, 0, 0),
  (24, 1, .iload_n 3, 0, 0, 0, 0),
  (25, 1, .ishl, 0, 0, 0, 0),
  (26, 1, .iand, 0, 0, 0, 0),
  (27, 3, .ifCond .eq 39, 38, 0, 0, 0),
  (30, 1, .iconst 0, 0, 0, 0, 0),
  (31, 2, .istore 4, 0, 0, 0, 0),
  (33, 2, .iload 4, 0, 0, 0, 0),
  (35, 1, .aload_n 0, 0, 0, 0, 0),
  (36, 3, .getfield 25, 0, 4, 87, 0),
  (39, 3, .if_icmp .ge 27, 38, 0, 0, 0),
  (42, 1, .aload_n 0, 0, 0, 0, 0),
  (43, 1, .iload_n 3, 0, 0, 0, 0),
  (44, 2, .iload 4, 0, 0, 0, 0),
  (46, 2, .iload 4, 0, 0, 0, 0),
  (48, 1, .iload_n 2, 0, 0, 0, 0),
  (49, 3, .if_icmp .ne 7, 34, 0, 0, 0),
  (52, 1, .iconst 5, 0, 0, 0, 0),
  (53, 3, .goto 4, 35, 0, 0, 0),
  (56, 1, .iconst 0, 0, 0, 0, 0),
  (57, 3, .invokevirtual 41, 11, 4, 0, 326),
  (60, 3, .iinc 4 1, 0, 0, 0, 0),
  (63, 3, .goto (-30), 22, 0, 0, 0),
  (66, 3, .iinc 3 1, 0, 0, 0, 0),
  (69, 3, .goto (-55), 10, 0, 0, 0),
  (72, 1, .return_, 0, 0, 0, 0)]
noncomputable def kd_X0_leanAll : List q_Ent := [
  (0, 1, .iconst 0, 0, 0, 0, 0),
  (1, 1, .istore_n 2, 0, 0, 0, 0),
  (2, 1, .iload_n 2, 0, 0, 0, 0),
  (3, 1, .aload_n 0, 0, 0, 0, 0),
  (4, 3, .getfield 21, 0, 3, 86, 0),
  (7, 3, .if_icmp .ge 53, 34, 0, 0, 0),
  (10, 1, .iload_n 1, 0, 0, 0, 0),
  (11, 1, .iconst 1, 0, 0, 0, 0),
  (12, 1, .iload_n 2, 0, 0, 0, 0),
  (13, 1, .ishl, 0, 0, 0, 0),
  (14, 1, .iand, 0, 0, 0, 0),
  (15, 3, .ifCond .eq 39, 32, 0, 0, 0),
  (18, 1, .iconst 0, 0, 0, 0, 0),
  (19, 1, .istore_n 3, 0, 0, 0, 0),
  (20, 1, .iload_n 3, 0, 0, 0, 0),
  (21, 1, .aload_n 0, 0, 0, 0, 0),
  (22, 3, .getfield 25, 0, 4, 87, 0),
  (25, 3, .if_icmp .ge 29, 32, 0, 0, 0),
  (28, 1, .aload_n 0, 0, 0, 0, 0),
  (29, 1, .iload_n 2, 0, 0, 0, 0),
  (30, 1, .iload_n 3, 0, 0, 0, 0),
  (31, 1, .aload_n 0, 0, 0, 0, 0),
  (32, 1, .iload_n 2, 0, 0, 0, 0),
  (33, 1, .iload_n 3, 0, 0, 0, 0),
  (34, 3, .invokevirtual 49, 20, 3, 0, 758),
  (37, 3, .ifCond .eq 7, 28, 0, 0, 0),
  (40, 1, .iconst 5, 0, 0, 0, 0),
  (41, 3, .goto 4, 29, 0, 0, 0),
  (44, 1, .iconst 0, 0, 0, 0, 0),
  (45, 3, .invokevirtual 41, 11, 4, 0, 326),
  (48, 3, .iinc 3 1, 0, 0, 0, 0),
  (51, 3, .goto (-31), 14, 0, 0, 0),
  (54, 3, .iinc 2 1, 0, 0, 0, 0),
  (57, 3, .goto (-55), 2, 0, 0, 0),
  (60, 1, .return_, 0, 0, 0, 0)]
noncomputable def kd_J6_bitCount_0f7a4 : List q_Ent := [
  (0, 1, .iload_n 0, 0, 0, 0, 0),
  (1, 1, .iload_n 0, 0, 0, 0, 0),
  (2, 1, .iconst 1, 0, 0, 0, 0),
  (3, 1, .iushr, 0, 0, 0, 0),
  (4, 3, .ldc_w 265, 1431655765, 0, 611, 0),
  (7, 1, .iand, 0, 0, 0, 0),
  (8, 1, .isub, 0, 0, 0, 0),
  (9, 1, .istore_n 0, 0, 0, 0, 0),
  (10, 1, .iload_n 0, 0, 0, 0, 0),
  (11, 3, .ldc_w 266, 858993459, 0, 612, 0),
  (14, 1, .iand, 0, 0, 0, 0),
  (15, 1, .iload_n 0, 0, 0, 0, 0),
  (16, 1, .iconst 2, 0, 0, 0, 0),
  (17, 1, .iushr, 0, 0, 0, 0),
  (18, 3, .ldc_w 266, 858993459, 0, 612, 0),
  (21, 1, .iand, 0, 0, 0, 0),
  (22, 1, .iadd, 0, 0, 0, 0),
  (23, 1, .istore_n 0, 0, 0, 0, 0),
  (24, 1, .iload_n 0, 0, 0, 0, 0),
  (25, 1, .iload_n 0, 0, 0, 0, 0),
  (26, 1, .iconst 4, 0, 0, 0, 0),
  (27, 1, .iushr, 0, 0, 0, 0),
  (28, 1, .iadd, 0, 0, 0, 0),
  (29, 3, .ldc_w 267, 252645135, 0, 613, 0),
  (32, 1, .iand, 0, 0, 0, 0),
  (33, 1, .istore_n 0, 0, 0, 0, 0),
  (34, 1, .iload_n 0, 0, 0, 0, 0),
  (35, 1, .iload_n 0, 0, 0, 0, 0),
  (36, 2, .bipush 8, 0, 0, 0, 0),
  (38, 1, .iushr, 0, 0, 0, 0),
  (39, 1, .iadd, 0, 0, 0, 0),
  (40, 1, .istore_n 0, 0, 0, 0, 0),
  (41, 1, .iload_n 0, 0, 0, 0, 0),
  (42, 1, .iload_n 0, 0, 0, 0, 0),
  (43, 2, .bipush 16, 0, 0, 0, 0),
  (45, 1, .iushr, 0, 0, 0, 0),
  (46, 1, .iadd, 0, 0, 0, 0),
  (47, 1, .istore_n 0, 0, 0, 0, 0),
  (48, 1, .iload_n 0, 0, 0, 0, 0),
  (49, 2, .bipush 63, 0, 0, 0, 0),
  (51, 1, .iand, 0, 0, 0, 0),
  (52, 1, .ireturn, 0, 0, 0, 0)]
noncomputable def kd_X0_marksBut : List q_Ent := [
  (0, 1, .iconst 0, 0, 0, 0, 0),
  (1, 1, .istore_n 3, 0, 0, 0, 0),
  (2, 1, .iconst 0, 0, 0, 0, 0),
  (3, 2, .istore 4, 0, 0, 0, 0),
  (5, 2, .iload 4, 0, 0, 0, 0),
  (7, 1, .aload_n 0, 0, 0, 0, 0),
  (8, 3, .getfield 21, 0, 3, 86, 0),
  (11, 3, .if_icmp .ge 34, 24, 0, 0, 0),
  (14, 2, .iload 4, 0, 0, 0, 0),
  (16, 1, .iload_n 1, 0, 0, 0, 0),
  (17, 3, .if_icmp .eq 22, 22, 0, 0, 0),
  (20, 1, .aload_n 0, 0, 0, 0, 0),
  (21, 2, .iload 4, 0, 0, 0, 0),
  (23, 3, .invokevirtual 65, 14, 2, 0, 716),
  (26, 3, .ifCond .eq 13, 22, 0, 0, 0),
  (29, 1, .iload_n 3, 0, 0, 0, 0),
  (30, 1, .aload_n 0, 0, 0, 0, 0),
  (31, 2, .iload 4, 0, 0, 0, 0),
  (33, 1, .iload_n 2, 0, 0, 0, 0),
  (34, 3, .invokevirtual 37, 10, 3, 0, 321),
  (37, 1, .iadd, 0, 0, 0, 0),
  (38, 1, .istore_n 3, 0, 0, 0, 0),
  (39, 3, .iinc 4 1, 0, 0, 0, 0),
  (42, 3, .goto (-37), 4, 0, 0, 0),
  (45, 1, .iload_n 3, 0, 0, 0, 0),
  (46, 1, .ireturn, 0, 0, 0, 0)]
noncomputable def kd_X0_leanFor : List q_Ent := [
  (0, 1, .aload_n 0, 0, 0, 0, 0),
  (1, 3, .invokevirtual 53, 15, 1, 0, 710),
  (4, 3, .invokestatic 56, 25, 1, 1, 711),
  (7, 1, .iconst 1, 0, 0, 0, 0),
  (8, 1, .isub, 0, 0, 0, 0),
  (9, 1, .istore_n 3, 0, 0, 0, 0),
  (10, 1, .iconst 0, 0, 0, 0, 0),
  (11, 2, .istore 4, 0, 0, 0, 0),
  (13, 1, .iconst 0, 0, 0, 0, 0),
  (14, 2, .istore 5, 0, 0, 0, 0),
  (16, 2, .iload 5, 0, 0, 0, 0),
  (18, 1, .aload_n 0, 0, 0, 0, 0),
  (19, 3, .getfield 25, 0, 4, 87, 0),
  (22, 3, .if_icmp .ge 42, 36, 0, 0, 0),
  (25, 1, .aload_n 0, 0, 0, 0, 0),
  (26, 3, .getfield 18, 0, 2, 85, 1),
  (29, 2, .iload 5, 0, 0, 0, 0),
  (31, 1, .iaload, 0, 0, 0, 0),
  (32, 1, .iload_n 2, 0, 0, 0, 0),
  (33, 3, .if_icmp .ne 25, 34, 0, 0, 0),
  (36, 2, .iload 4, 0, 0, 0, 0),
  (38, 1, .aload_n 0, 0, 0, 0, 0),
  (39, 1, .iload_n 1, 0, 0, 0, 0),
  (40, 2, .iload 5, 0, 0, 0, 0),
  (42, 3, .invokevirtual 37, 10, 3, 0, 321),
  (45, 1, .iload_n 3, 0, 0, 0, 0),
  (46, 1, .imul, 0, 0, 0, 0),
  (47, 1, .aload_n 0, 0, 0, 0, 0),
  (48, 1, .iload_n 1, 0, 0, 0, 0),
  (49, 2, .iload 5, 0, 0, 0, 0),
  (51, 3, .invokevirtual 62, 26, 3, 0, 712),
  (54, 1, .isub, 0, 0, 0, 0),
  (55, 1, .iadd, 0, 0, 0, 0),
  (56, 2, .istore 4, 0, 0, 0, 0),
  (58, 3, .iinc 5 1, 0, 0, 0, 0),
  (61, 3, .goto (-45), 10, 0, 0, 0),
  (64, 2, .iload 4, 0, 0, 0, 0),
  (66, 1, .ireturn, 0, 0, 0, 0)]
noncomputable def kd_X1_init : List q_Ent := [
  (0, 1, .aload_n 0, 0, 0, 0, 0),
  (1, 3, .invokespecial 3, 0, 1, 6, 225),
  (4, 1, .aload_n 0, 0, 0, 0, 0),
  (5, 3, .sipush 512, 0, 0, 0, 0),
  (8, 2, .newarray .int, 0, 0, 0, 0),
  (10, 3, .putfield 9, 1, 0, 226, 1),
  (13, 1, .return_, 0, 0, 0, 0)]
noncomputable def kd_X6_worthOf : List q_Ent := [
  (0, 1, .aload_n 0, 0, 0, 0, 0),
  (1, 3, .getfield 18, 6, 1, 156, 1),
  (4, 1, .iload_n 1, 0, 0, 0, 0),
  (5, 1, .iconst 4, 0, 0, 0, 0),
  (6, 1, .imul, 0, 0, 0, 0),
  (7, 1, .iload_n 2, 0, 0, 0, 0),
  (8, 1, .iadd, 0, 0, 0, 0),
  (9, 1, .iaload, 0, 0, 0, 0),
  (10, 1, .ireturn, 0, 0, 0, 0)]
noncomputable def kd_X6_ahead : List q_Ent := [
  (0, 1, .iconst 0, 0, 0, 0, 0),
  (1, 1, .istore_n 3, 0, 0, 0, 0),
  (2, 1, .iload_n 3, 0, 0, 0, 0),
  (3, 1, .aload_n 0, 0, 0, 0, 0),
  (4, 3, .getfield 28, 6, 2, 157, 0),
  (7, 3, .if_icmp .ge 45, 30, 0, 0, 0),
  (10, 1, .aload_n 0, 0, 0, 0, 0),
  (11, 1, .iload_n 3, 0, 0, 0, 0),
  (12, 1, .iload_n 1, 0, 0, 0, 0),
  (13, 3, .invokevirtual 42, 29, 3, 0, 497),
  (16, 1, .aload_n 0, 0, 0, 0, 0),
  (17, 1, .iload_n 3, 0, 0, 0, 0),
  (18, 1, .iload_n 2, 0, 0, 0, 0),
  (19, 3, .invokevirtual 42, 29, 3, 0, 497),
  (22, 3, .if_icmp .eq 24, 28, 0, 0, 0),
  (25, 1, .aload_n 0, 0, 0, 0, 0),
  (26, 1, .iload_n 3, 0, 0, 0, 0),
  (27, 1, .iload_n 1, 0, 0, 0, 0),
  (28, 3, .invokevirtual 42, 29, 3, 0, 497),
  (31, 1, .aload_n 0, 0, 0, 0, 0),
  (32, 1, .iload_n 3, 0, 0, 0, 0),
  (33, 1, .iload_n 2, 0, 0, 0, 0),
  (34, 3, .invokevirtual 42, 29, 3, 0, 497),
  (37, 3, .if_icmp .le 7, 26, 0, 0, 0),
  (40, 1, .iconst 1, 0, 0, 0, 0),
  (41, 3, .goto 4, 27, 0, 0, 0),
  (44, 1, .iconst 0, 0, 0, 0, 0),
  (45, 1, .ireturn, 0, 0, 0, 0),
  (46, 3, .iinc 3 1, 0, 0, 0, 0),
  (49, 3, .goto (-47), 2, 0, 0, 0),
  (52, 1, .iconst 0, 0, 0, 0, 0),
  (53, 1, .ireturn, 0, 0, 0, 0)]
noncomputable def kd_X6_placeOf : List q_Ent := [
  (0, 1, .iconst 1, 0, 0, 0, 0),
  (1, 1, .istore_n 2, 0, 0, 0, 0),
  (2, 1, .iconst 0, 0, 0, 0, 0),
  (3, 1, .istore_n 3, 0, 0, 0, 0),
  (4, 1, .iload_n 3, 0, 0, 0, 0),
  (5, 1, .aload_n 0, 0, 0, 0, 0),
  (6, 3, .getfield 36, 6, 3, 158, 0),
  (9, 3, .if_icmp .ge 21, 16, 0, 0, 0),
  (12, 1, .aload_n 0, 0, 0, 0, 0),
  (13, 1, .iload_n 3, 0, 0, 0, 0),
  (14, 1, .iload_n 1, 0, 0, 0, 0),
  (15, 3, .invokevirtual 46, 30, 3, 0, 493),
  (18, 3, .ifCond .eq 6, 14, 0, 0, 0),
  (21, 3, .iinc 2 1, 0, 0, 0, 0),
  (24, 3, .iinc 3 1, 0, 0, 0, 0),
  (27, 3, .goto (-23), 4, 0, 0, 0),
  (30, 1, .iload_n 2, 0, 0, 0, 0),
  (31, 1, .ireturn, 0, 0, 0, 0)]
noncomputable def kd_X1_note : List q_Ent := [
  (0, 1, .iconst 0, 0, 0, 0, 0),
  (1, 2, .istore 4, 0, 0, 0, 0),
  (3, 2, .iload 4, 0, 0, 0, 0),
  (5, 1, .iconst 4, 0, 0, 0, 0),
  (6, 3, .if_icmp .ge 81, 43, 0, 0, 0),
  (9, 1, .iconst 0, 0, 0, 0, 0),
  (10, 2, .istore 5, 0, 0, 0, 0),
  (12, 1, .iconst 0, 0, 0, 0, 0),
  (13, 2, .istore 6, 0, 0, 0, 0),
  (15, 2, .iload 6, 0, 0, 0, 0),
  (17, 1, .aload_n 2, 0, 0, 0, 0),
  (18, 3, .invokevirtual 15, 4, 1, 0, 771),
  (21, 3, .if_icmp .ge 47, 32, 0, 0, 0),
  (24, 1, .aload_n 2, 0, 0, 0, 0),
  (25, 2, .iload 6, 0, 0, 0, 0),
  (27, 3, .invokevirtual 21, 19, 2, 0, 772),
  (30, 2, .iload 4, 0, 0, 0, 0),
  (32, 3, .if_icmp .ne 30, 30, 0, 0, 0),
  (35, 1, .aload_n 3, 0, 0, 0, 0),
  (36, 2, .iload 6, 0, 0, 0, 0),
  (38, 3, .invokevirtual 25, 31, 2, 0, 776),
  (41, 2, .istore 7, 0, 0, 0, 0),
  (43, 2, .iload 5, 0, 0, 0, 0),
  (45, 3, .ifCond .ne 8, 26, 0, 0, 0),
  (48, 2, .iload 7, 0, 0, 0, 0),
  (50, 3, .goto 10, 29, 0, 0, 0),
  (53, 2, .iload 5, 0, 0, 0, 0),
  (55, 2, .iload 7, 0, 0, 0, 0),
  (57, 3, .invokestatic 30, 0, 2, 8, 777),
  (60, 2, .istore 5, 0, 0, 0, 0),
  (62, 3, .iinc 6 1, 0, 0, 0, 0),
  (65, 3, .goto (-50), 9, 0, 0, 0),
  (68, 1, .aload_n 0, 0, 0, 0, 0),
  (69, 3, .getfield 9, 1, 0, 226, 1),
  (72, 1, .iload_n 1, 0, 0, 0, 0),
  (73, 1, .iconst 4, 0, 0, 0, 0),
  (74, 1, .imul, 0, 0, 0, 0),
  (75, 2, .iload 4, 0, 0, 0, 0),
  (77, 1, .iadd, 0, 0, 0, 0),
  (78, 2, .iload 5, 0, 0, 0, 0),
  (80, 1, .iastore, 0, 0, 0, 0),
  (81, 3, .iinc 4 1, 0, 0, 0, 0),
  (84, 3, .goto (-81), 2, 0, 0, 0),
  (87, 1, .return_, 0, 0, 0, 0)]
noncomputable def kd_X1_wouldChange : List q_Ent := [
  (0, 1, .aload_n 0, 0, 0, 0, 0),
  (1, 3, .getfield 9, 1, 0, 226, 1),
  (4, 1, .iload_n 1, 0, 0, 0, 0),
  (5, 1, .iload_n 2, 0, 0, 0, 0),
  (6, 1, .ixor, 0, 0, 0, 0),
  (7, 1, .iconst 4, 0, 0, 0, 0),
  (8, 1, .imul, 0, 0, 0, 0),
  (9, 1, .iload_n 3, 0, 0, 0, 0),
  (10, 1, .iadd, 0, 0, 0, 0),
  (11, 1, .iaload, 0, 0, 0, 0),
  (12, 1, .aload_n 0, 0, 0, 0, 0),
  (13, 3, .getfield 9, 1, 0, 226, 1),
  (16, 1, .iload_n 1, 0, 0, 0, 0),
  (17, 1, .iconst 4, 0, 0, 0, 0),
  (18, 1, .imul, 0, 0, 0, 0),
  (19, 1, .iload_n 3, 0, 0, 0, 0),
  (20, 1, .iadd, 0, 0, 0, 0),
  (21, 1, .iaload, 0, 0, 0, 0),
  (22, 3, .if_icmp .ge 7, 21, 0, 0, 0),
  (25, 1, .iconst 1, 0, 0, 0, 0),
  (26, 3, .goto 4, 22, 0, 0, 0),
  (29, 1, .iconst 0, 0, 0, 0, 0),
  (30, 1, .ireturn, 0, 0, 0, 0)]
noncomputable def kd_X1_atRest : List q_Ent := [
  (0, 1, .iconst 0, 0, 0, 0, 0),
  (1, 1, .istore_n 3, 0, 0, 0, 0),
  (2, 1, .iload_n 3, 0, 0, 0, 0),
  (3, 1, .aload_n 1, 0, 0, 0, 0),
  (4, 3, .invokevirtual 36, 3, 1, 0, 784),
  (7, 3, .if_icmp .ge 35, 24, 0, 0, 0),
  (10, 1, .aload_n 1, 0, 0, 0, 0),
  (11, 1, .iload_n 3, 0, 0, 0, 0),
  (12, 3, .invokevirtual 39, 14, 2, 0, 785),
  (15, 3, .ifCond .eq 21, 22, 0, 0, 0),
  (18, 1, .aload_n 0, 0, 0, 0, 0),
  (19, 1, .iload_n 2, 0, 0, 0, 0),
  (20, 1, .iconst 1, 0, 0, 0, 0),
  (21, 1, .iload_n 3, 0, 0, 0, 0),
  (22, 1, .ishl, 0, 0, 0, 0),
  (23, 1, .aload_n 1, 0, 0, 0, 0),
  (24, 1, .iload_n 3, 0, 0, 0, 0),
  (25, 3, .invokevirtual 43, 18, 2, 0, 786),
  (28, 3, .invokevirtual 46, 33, 4, 0, 787),
  (31, 3, .ifCond .eq 5, 22, 0, 0, 0),
  (34, 1, .iconst 0, 0, 0, 0, 0),
  (35, 1, .ireturn, 0, 0, 0, 0),
  (36, 3, .iinc 3 1, 0, 0, 0, 0),
  (39, 3, .goto (-37), 2, 0, 0, 0),
  (42, 1, .iconst 1, 0, 0, 0, 0),
  (43, 1, .ireturn, 0, 0, 0, 0)]
noncomputable def kd_X2_init : List q_Ent := [
  (0, 1, .aload_n 0, 0, 0, 0, 0),
  (1, 3, .invokespecial 3, 0, 1, 6, 209),
  (4, 1, .aload_n 0, 0, 0, 0, 0),
  (5, 2, .bipush 8, 0, 0, 0, 0),
  (7, 3, .anewarray 9, 0, 0, 210, 0),
  (10, 3, .putfield 11, 2, 0, 213, 1),
  (13, 1, .iconst 0, 0, 0, 0, 0),
  (14, 1, .istore_n 1, 0, 0, 0, 0),
  (15, 1, .iload_n 1, 0, 0, 0, 0),
  (16, 2, .bipush 8, 0, 0, 0, 0),
  (18, 3, .if_icmp .ge 22, 20, 0, 0, 0),
  (21, 1, .aload_n 0, 0, 0, 0, 0),
  (22, 3, .getfield 11, 2, 0, 213, 1),
  (25, 1, .iload_n 1, 0, 0, 0, 0),
  (26, 3, .new 9, 0, 0, 210, 0),
  (29, 1, .dup, 0, 0, 0, 0),
  (30, 3, .invokespecial 17, 0, 1, 5, 212),
  (33, 1, .aastore, 0, 0, 0, 0),
  (34, 3, .iinc 1 1, 0, 0, 0, 0),
  (37, 3, .goto (-22), 8, 0, 0, 0),
  (40, 1, .return_, 0, 0, 0, 0)]
noncomputable def kd_X2_size : List q_Ent := [
  (0, 1, .aload_n 0, 0, 0, 0, 0),
  (1, 3, .getfield 18, 2, 1, 214, 0),
  (4, 1, .ireturn, 0, 0, 0, 0)]
noncomputable def kd_X2_hasRoom : List q_Ent := [
  (0, 1, .aload_n 0, 0, 0, 0, 0),
  (1, 3, .getfield 18, 2, 1, 214, 0),
  (4, 2, .bipush 8, 0, 0, 0, 0),
  (6, 3, .if_icmp .ge 7, 6, 0, 0, 0),
  (9, 1, .iconst 1, 0, 0, 0, 0),
  (10, 3, .goto 4, 7, 0, 0, 0),
  (13, 1, .iconst 0, 0, 0, 0, 0),
  (14, 1, .ireturn, 0, 0, 0, 0)]
noncomputable def kd_X2_add : List q_Ent := [
  (0, 1, .aload_n 0, 0, 0, 0, 0),
  (1, 3, .getfield 11, 2, 0, 213, 1),
  (4, 1, .aload_n 0, 0, 0, 0, 0),
  (5, 3, .getfield 18, 2, 1, 214, 0),
  (8, 1, .aaload, 0, 0, 0, 0),
  (9, 1, .aload_n 1, 0, 0, 0, 0),
  (10, 3, .invokevirtual 22, 2, 2, 0, 684),
  (13, 1, .aload_n 0, 0, 0, 0, 0),
  (14, 1, .dup, 0, 0, 0, 0),
  (15, 3, .getfield 18, 2, 1, 214, 0),
  (18, 1, .iconst 1, 0, 0, 0, 0),
  (19, 1, .iadd, 0, 0, 0, 0),
  (20, 3, .putfield 18, 2, 1, 214, 0),
  (23, 1, .aload_n 0, 0, 0, 0, 0),
  (24, 3, .getfield 18, 2, 1, 214, 0),
  (27, 1, .ireturn, 0, 0, 0, 0)]
noncomputable def kd_X2_empty : List q_Ent := [
  (0, 1, .aload_n 0, 0, 0, 0, 0),
  (1, 3, .getfield 18, 2, 1, 214, 0),
  (4, 1, .istore_n 1, 0, 0, 0, 0),
  (5, 1, .aload_n 0, 0, 0, 0, 0),
  (6, 1, .iconst 0, 0, 0, 0, 0),
  (7, 3, .putfield 18, 2, 1, 214, 0),
  (10, 1, .iload_n 1, 0, 0, 0, 0),
  (11, 1, .ireturn, 0, 0, 0, 0)]
noncomputable def kd_X2_cardAt : List q_Ent := [
  (0, 1, .aload_n 0, 0, 0, 0, 0),
  (1, 3, .getfield 11, 2, 0, 213, 1),
  (4, 1, .iload_n 1, 0, 0, 0, 0),
  (5, 1, .aaload, 0, 0, 0, 0),
  (6, 1, .areturn, 0, 0, 0, 0)]
noncomputable def kd_X2_leanOf : List q_Ent := [
  (0, 1, .iconst 0, 0, 0, 0, 0),
  (1, 1, .istore_n 2, 0, 0, 0, 0),
  (2, 1, .iconst 0, 0, 0, 0, 0),
  (3, 1, .istore_n 3, 0, 0, 0, 0),
  (4, 1, .iload_n 3, 0, 0, 0, 0),
  (5, 1, .aload_n 0, 0, 0, 0, 0),
  (6, 3, .getfield 18, 2, 1, 214, 0),
  (9, 3, .if_icmp .ge 45, 32, 0, 0, 0),
  (12, 1, .aload_n 0, 0, 0, 0, 0),
  (13, 3, .getfield 11, 2, 0, 213, 1),
  (16, 1, .iload_n 3, 0, 0, 0, 0),
  (17, 1, .aaload, 0, 0, 0, 0),
  (18, 1, .iload_n 1, 0, 0, 0, 0),
  (19, 3, .invokevirtual 26, 14, 2, 0, 701),
  (22, 3, .ifCond .eq 26, 30, 0, 0, 0),
  (25, 1, .iload_n 2, 0, 0, 0, 0),
  (26, 1, .aload_n 0, 0, 0, 0, 0),
  (27, 3, .getfield 11, 2, 0, 213, 1),
  (30, 1, .iload_n 3, 0, 0, 0, 0),
  (31, 1, .aaload, 0, 0, 0, 0),
  (32, 1, .iload_n 1, 0, 0, 0, 0),
  (33, 1, .aload_n 0, 0, 0, 0, 0),
  (34, 3, .getfield 11, 2, 0, 213, 1),
  (37, 1, .iload_n 3, 0, 0, 0, 0),
  (38, 1, .aaload, 0, 0, 0, 0),
  (39, 1, .iload_n 1, 0, 0, 0, 0),
  (40, 3, .invokevirtual 30, 18, 2, 0, 702),
  (43, 3, .invokevirtual 34, 27, 3, 0, 706),
  (46, 1, .iadd, 0, 0, 0, 0),
  (47, 1, .istore_n 2, 0, 0, 0, 0),
  (48, 3, .iinc 3 1, 0, 0, 0, 0),
  (51, 3, .goto (-47), 4, 0, 0, 0),
  (54, 1, .iload_n 2, 0, 0, 0, 0),
  (55, 1, .ireturn, 0, 0, 0, 0)]
noncomputable def kd_X2_standsBeside : List q_Ent := [
  (0, 1, .iconst 0, 0, 0, 0, 0),
  (1, 1, .istore_n 3, 0, 0, 0, 0),
  (2, 1, .iload_n 3, 0, 0, 0, 0),
  (3, 1, .aload_n 0, 0, 0, 0, 0),
  (4, 3, .getfield 18, 2, 1, 214, 0),
  (7, 3, .if_icmp .ge 37, 24, 0, 0, 0),
  (10, 1, .aload_n 0, 0, 0, 0, 0),
  (11, 3, .getfield 11, 2, 0, 213, 1),
  (14, 1, .iload_n 3, 0, 0, 0, 0),
  (15, 1, .aaload, 0, 0, 0, 0),
  (16, 1, .iload_n 1, 0, 0, 0, 0),
  (17, 3, .invokevirtual 26, 14, 2, 0, 701),
  (20, 3, .ifCond .eq 18, 22, 0, 0, 0),
  (23, 1, .aload_n 0, 0, 0, 0, 0),
  (24, 3, .getfield 11, 2, 0, 213, 1),
  (27, 1, .iload_n 3, 0, 0, 0, 0),
  (28, 1, .aaload, 0, 0, 0, 0),
  (29, 1, .iload_n 2, 0, 0, 0, 0),
  (30, 3, .invokevirtual 26, 14, 2, 0, 701),
  (33, 3, .ifCond .eq 5, 22, 0, 0, 0),
  (36, 1, .iconst 1, 0, 0, 0, 0),
  (37, 1, .ireturn, 0, 0, 0, 0),
  (38, 3, .iinc 3 1, 0, 0, 0, 0),
  (41, 3, .goto (-39), 2, 0, 0, 0),
  (44, 1, .iconst 0, 0, 0, 0, 0),
  (45, 1, .ireturn, 0, 0, 0, 0)]
noncomputable def kd_X2_leanInPlaceOf : List q_Ent := [
  (0, 1, .iconst 0, 0, 0, 0, 0),
  (1, 1, .istore_n 3, 0, 0, 0, 0),
  (2, 1, .iconst 0, 0, 0, 0, 0),
  (3, 2, .istore 4, 0, 0, 0, 0),
  (5, 2, .iload 4, 0, 0, 0, 0),
  (7, 1, .aload_n 0, 0, 0, 0, 0),
  (8, 3, .getfield 18, 2, 1, 214, 0),
  (11, 3, .if_icmp .ge 62, 39, 0, 0, 0),
  (14, 1, .aload_n 0, 0, 0, 0, 0),
  (15, 3, .getfield 11, 2, 0, 213, 1),
  (18, 2, .iload 4, 0, 0, 0, 0),
  (20, 1, .aaload, 0, 0, 0, 0),
  (21, 1, .iload_n 1, 0, 0, 0, 0),
  (22, 3, .invokevirtual 26, 14, 2, 0, 701),
  (25, 3, .ifCond .eq 42, 37, 0, 0, 0),
  (28, 1, .aload_n 0, 0, 0, 0, 0),
  (29, 3, .getfield 11, 2, 0, 213, 1),
  (32, 2, .iload 4, 0, 0, 0, 0),
  (34, 1, .aaload, 0, 0, 0, 0),
  (35, 1, .iload_n 2, 0, 0, 0, 0),
  (36, 3, .invokevirtual 26, 14, 2, 0, 701),
  (39, 3, .ifCond .eq 28, 37, 0, 0, 0),
  (42, 1, .iload_n 3, 0, 0, 0, 0),
  (43, 1, .aload_n 0, 0, 0, 0, 0),
  (44, 3, .getfield 11, 2, 0, 213, 1),
  (47, 2, .iload 4, 0, 0, 0, 0),
  (49, 1, .aaload, 0, 0, 0, 0),
  (50, 1, .iload_n 2, 0, 0, 0, 0),
  (51, 1, .aload_n 0, 0, 0, 0, 0),
  (52, 3, .getfield 11, 2, 0, 213, 1),
  (55, 2, .iload 4, 0, 0, 0, 0),
  (57, 1, .aaload, 0, 0, 0, 0),
  (58, 1, .iload_n 1, 0, 0, 0, 0),
  (59, 3, .invokevirtual 30, 18, 2, 0, 702),
  (62, 3, .invokevirtual 34, 27, 3, 0, 706),
  (65, 1, .iadd, 0, 0, 0, 0),
  (66, 1, .istore_n 3, 0, 0, 0, 0),
  (67, 3, .iinc 4 1, 0, 0, 0, 0),
  (70, 3, .goto (-65), 4, 0, 0, 0),
  (73, 1, .iload_n 3, 0, 0, 0, 0),
  (74, 1, .ireturn, 0, 0, 0, 0)]
noncomputable def kd_X2_asMuch : List q_Ent := [
  (0, 1, .aload_n 0, 0, 0, 0, 0),
  (1, 1, .iload_n 1, 0, 0, 0, 0),
  (2, 3, .invokevirtual 38, 41, 2, 0, 725),
  (5, 1, .istore_n 2, 0, 0, 0, 0),
  (6, 1, .iconst 0, 0, 0, 0, 0),
  (7, 1, .istore_n 3, 0, 0, 0, 0),
  (8, 1, .iconst 0, 0, 0, 0, 0),
  (9, 2, .istore 4, 0, 0, 0, 0),
  (11, 2, .iload 4, 0, 0, 0, 0),
  (13, 2, .bipush 7, 0, 0, 0, 0),
  (15, 3, .if_icmp .ge 33, 25, 0, 0, 0),
  (18, 1, .aload_n 0, 0, 0, 0, 0),
  (19, 1, .iload_n 1, 0, 0, 0, 0),
  (20, 2, .iload 4, 0, 0, 0, 0),
  (22, 3, .invokevirtual 41, 42, 3, 0, 726),
  (25, 3, .ifCond .eq 17, 23, 0, 0, 0),
  (28, 1, .aload_n 0, 0, 0, 0, 0),
  (29, 1, .iload_n 1, 0, 0, 0, 0),
  (30, 2, .iload 4, 0, 0, 0, 0),
  (32, 3, .invokevirtual 45, 43, 3, 0, 730),
  (35, 1, .iload_n 2, 0, 0, 0, 0),
  (36, 3, .if_icmp .lt 6, 23, 0, 0, 0),
  (39, 3, .iinc 3 1, 0, 0, 0, 0),
  (42, 3, .iinc 4 1, 0, 0, 0, 0),
  (45, 3, .goto (-34), 8, 0, 0, 0),
  (48, 1, .iload_n 3, 0, 0, 0, 0),
  (49, 1, .ireturn, 0, 0, 0, 0)]
noncomputable def kd_X4_init : List q_Ent := [
  (0, 1, .aload_n 0, 0, 0, 0, 0),
  (1, 3, .invokespecial 3, 0, 1, 6, 150),
  (4, 1, .aload_n 0, 0, 0, 0, 0),
  (5, 2, .bipush 7, 0, 0, 0, 0),
  (7, 2, .newarray .int, 0, 0, 0, 0),
  (9, 3, .putfield 9, 4, 0, 151, 1),
  (12, 1, .return_, 0, 0, 0, 0)]
noncomputable def kd_X3_init : List q_Ent := [
  (0, 1, .aload_n 0, 0, 0, 0, 0),
  (1, 3, .invokespecial 3, 0, 1, 6, 173),
  (4, 1, .aload_n 0, 0, 0, 0, 0),
  (5, 3, .new 9, 4, 0, 174, 0),
  (8, 1, .dup, 0, 0, 0, 0),
  (9, 3, .invokespecial 11, 45, 1, 5, 175),
  (12, 3, .putfield 12, 3, 0, 178, 1),
  (15, 1, .aload_n 0, 0, 0, 0, 0),
  (16, 3, .new 18, 0, 0, 176, 0),
  (19, 1, .dup, 0, 0, 0, 0),
  (20, 3, .invokespecial 20, 0, 1, 5, 177),
  (23, 3, .putfield 21, 3, 1, 179, 1),
  (26, 1, .aload_n 0, 0, 0, 0, 0),
  (27, 2, .bipush 72, 0, 0, 0, 0),
  (29, 2, .newarray .int, 0, 0, 0, 0),
  (31, 3, .putfield 25, 3, 2, 180, 1),
  (34, 1, .aload_n 0, 0, 0, 0, 0),
  (35, 3, .sipush 144, 0, 0, 0, 0),
  (38, 2, .newarray .int, 0, 0, 0, 0),
  (40, 3, .putfield 29, 3, 3, 181, 1),
  (43, 1, .aload_n 0, 0, 0, 0, 0),
  (44, 1, .iconst 3, 0, 0, 0, 0),
  (45, 2, .newarray .boolean, 1, 0, 0, 0),
  (47, 3, .putfield 32, 3, 4, 182, 1),
  (50, 1, .aload_n 0, 0, 0, 0, 0),
  (51, 1, .iconst 4, 0, 0, 0, 0),
  (52, 2, .newarray .int, 0, 0, 0, 0),
  (54, 3, .putfield 36, 3, 5, 183, 1),
  (57, 1, .return_, 0, 0, 0, 0)]
noncomputable def kd_X5_parts : List q_Ent := [
  (0, 1, .aload_n 0, 0, 0, 0, 0),
  (1, 3, .getfield 21, 5, 3, 126, 0),
  (4, 1, .ireturn, 0, 0, 0, 0)]
noncomputable def kd_X5_kindOf : List q_Ent := [
  (0, 1, .aload_n 0, 0, 0, 0, 0),
  (1, 3, .getfield 9, 5, 0, 123, 1),
  (4, 1, .iload_n 1, 0, 0, 0, 0),
  (5, 1, .iaload, 0, 0, 0, 0),
  (6, 1, .ireturn, 0, 0, 0, 0)]
noncomputable def kd_X8_pointsFor : List q_Ent := [
  (0, 1, .iload_n 0, 0, 0, 0, 0),
  (1, 3, .ifCond .le 7, 4, 0, 0, 0),
  (4, 1, .iconst 2, 0, 0, 0, 0),
  (5, 3, .goto 12, 9, 0, 0, 0),
  (8, 1, .iload_n 0, 0, 0, 0, 0),
  (9, 3, .ifCond .ne 7, 8, 0, 0, 0),
  (12, 1, .iconst 1, 0, 0, 0, 0),
  (13, 3, .goto 4, 9, 0, 0, 0),
  (16, 1, .iconst 0, 0, 0, 0, 0),
  (17, 1, .ireturn, 0, 0, 0, 0)]
noncomputable def kd_X4_ranks : List q_Ent := [
  (0, 1, .iconst 0, 0, 0, 0, 0),
  (1, 1, .istore_n 3, 0, 0, 0, 0),
  (2, 1, .iconst 0, 0, 0, 0, 0),
  (3, 2, .istore 4, 0, 0, 0, 0),
  (5, 2, .iload 4, 0, 0, 0, 0),
  (7, 1, .aload_n 1, 0, 0, 0, 0),
  (8, 3, .invokevirtual 45, 3, 1, 0, 446),
  (11, 3, .if_icmp .ge 64, 38, 0, 0, 0),
  (14, 1, .iconst 0, 0, 0, 0, 0),
  (15, 2, .istore 5, 0, 0, 0, 0),
  (17, 2, .iload 5, 0, 0, 0, 0),
  (19, 1, .aload_n 1, 0, 0, 0, 0),
  (20, 3, .invokevirtual 61, 4, 1, 0, 461),
  (23, 3, .if_icmp .ge 46, 36, 0, 0, 0),
  (26, 1, .aload_n 1, 0, 0, 0, 0),
  (27, 2, .iload 4, 0, 0, 0, 0),
  (29, 3, .invokevirtual 51, 14, 2, 0, 447),
  (32, 3, .ifCond .eq 37, 36, 0, 0, 0),
  (35, 2, .iload 5, 0, 0, 0, 0),
  (37, 1, .iload_n 2, 0, 0, 0, 0),
  (38, 3, .if_icmp .eq 25, 34, 0, 0, 0),
  (41, 1, .iload_n 3, 0, 0, 0, 0),
  (42, 1, .aload_n 1, 0, 0, 0, 0),
  (43, 2, .iload 4, 0, 0, 0, 0),
  (45, 1, .iload_n 2, 0, 0, 0, 0),
  (46, 3, .invokevirtual 55, 10, 3, 0, 448),
  (49, 1, .aload_n 1, 0, 0, 0, 0),
  (50, 2, .iload 4, 0, 0, 0, 0),
  (52, 2, .iload 5, 0, 0, 0, 0),
  (54, 3, .invokevirtual 55, 10, 3, 0, 448),
  (57, 1, .isub, 0, 0, 0, 0),
  (58, 3, .invokestatic 58, 49, 1, 4, 462),
  (61, 1, .iadd, 0, 0, 0, 0),
  (62, 1, .istore_n 3, 0, 0, 0, 0),
  (63, 3, .iinc 5 1, 0, 0, 0, 0),
  (66, 3, .goto (-49), 10, 0, 0, 0),
  (69, 3, .iinc 4 1, 0, 0, 0, 0),
  (72, 3, .goto (-67), 4, 0, 0, 0),
  (75, 1, .iload_n 3, 0, 0, 0, 0),
  (76, 1, .ireturn, 0, 0, 0, 0)]
noncomputable def kd_X3_aloneAt : List q_Ent := [
  (0, 1, .iload_n 0, 0, 0, 0, 0),
  (1, 1, .iconst 4, 0, 0, 0, 0),
  (2, 1, .imul, 0, 0, 0, 0),
  (3, 1, .iload_n 1, 0, 0, 0, 0),
  (4, 1, .iadd, 0, 0, 0, 0),
  (5, 2, .bipush 6, 0, 0, 0, 0),
  (7, 1, .imul, 0, 0, 0, 0),
  (8, 1, .iload_n 2, 0, 0, 0, 0),
  (9, 1, .iadd, 0, 0, 0, 0),
  (10, 1, .ireturn, 0, 0, 0, 0)]
noncomputable def kd_X4_leadOf : List q_Ent := [
  (0, 1, .iconst 0, 0, 0, 0, 0),
  (1, 2, .istore 4, 0, 0, 0, 0),
  (3, 1, .iconst 0, 0, 0, 0, 0),
  (4, 2, .istore 5, 0, 0, 0, 0),
  (6, 2, .iload 5, 0, 0, 0, 0),
  (8, 1, .aload_n 1, 0, 0, 0, 0),
  (9, 3, .invokevirtual 45, 3, 1, 0, 446),
  (12, 3, .if_icmp .ge 43, 29, 0, 0, 0),
  (15, 1, .aload_n 1, 0, 0, 0, 0),
  (16, 2, .iload 5, 0, 0, 0, 0),
  (18, 3, .invokevirtual 51, 14, 2, 0, 447),
  (21, 3, .ifCond .eq 28, 27, 0, 0, 0),
  (24, 2, .iload 4, 0, 0, 0, 0),
  (26, 1, .aload_n 1, 0, 0, 0, 0),
  (27, 2, .iload 5, 0, 0, 0, 0),
  (29, 1, .iload_n 2, 0, 0, 0, 0),
  (30, 3, .invokevirtual 55, 10, 3, 0, 448),
  (33, 1, .aload_n 1, 0, 0, 0, 0),
  (34, 2, .iload 5, 0, 0, 0, 0),
  (36, 1, .iload_n 3, 0, 0, 0, 0),
  (37, 3, .invokevirtual 55, 10, 3, 0, 448),
  (40, 1, .isub, 0, 0, 0, 0),
  (41, 3, .invokestatic 58, 49, 1, 4, 462),
  (44, 1, .iconst 1, 0, 0, 0, 0),
  (45, 1, .isub, 0, 0, 0, 0),
  (46, 1, .iadd, 0, 0, 0, 0),
  (47, 2, .istore 4, 0, 0, 0, 0),
  (49, 3, .iinc 5 1, 0, 0, 0, 0),
  (52, 3, .goto (-46), 4, 0, 0, 0),
  (55, 2, .iload 4, 0, 0, 0, 0),
  (57, 1, .ireturn, 0, 0, 0, 0)]
noncomputable def kd_X3_besideAt : List q_Ent := [
  (0, 1, .iload_n 0, 0, 0, 0, 0),
  (1, 1, .iconst 4, 0, 0, 0, 0),
  (2, 1, .imul, 0, 0, 0, 0),
  (3, 1, .iload_n 1, 0, 0, 0, 0),
  (4, 1, .iadd, 0, 0, 0, 0),
  (5, 1, .iconst 4, 0, 0, 0, 0),
  (6, 1, .imul, 0, 0, 0, 0),
  (7, 1, .iload_n 2, 0, 0, 0, 0),
  (8, 1, .iadd, 0, 0, 0, 0),
  (9, 1, .iconst 3, 0, 0, 0, 0),
  (10, 1, .imul, 0, 0, 0, 0),
  (11, 1, .iload_n 3, 0, 0, 0, 0),
  (12, 1, .iadd, 0, 0, 0, 0),
  (13, 1, .ireturn, 0, 0, 0, 0)]
noncomputable def kd_X3_layBeside : List q_Ent := [
  (0, 1, .iconst 0, 0, 0, 0, 0),
  (1, 1, .istore_n 3, 0, 0, 0, 0),
  (2, 1, .iload_n 3, 0, 0, 0, 0),
  (3, 1, .aload_n 0, 0, 0, 0, 0),
  (4, 3, .getfield 55, 3, 7, 185, 0),
  (7, 3, .if_icmp .ge 142, 75, 0, 0, 0),
  (10, 1, .iload_n 2, 0, 0, 0, 0),
  (11, 3, .ifCond .eq 18, 15, 0, 0, 0),
  (14, 1, .aload_n 0, 0, 0, 0, 0),
  (15, 3, .getfield 12, 3, 0, 178, 1),
  (18, 1, .aload_n 0, 0, 0, 0, 0),
  (19, 3, .getfield 21, 3, 1, 179, 1),
  (22, 1, .iload_n 3, 0, 0, 0, 0),
  (23, 3, .invokevirtual 80, 50, 3, 0, 540),
  (26, 3, .goto 4, 16, 0, 0, 0),
  (29, 1, .iconst 0, 0, 0, 0, 0),
  (30, 2, .istore 4, 0, 0, 0, 0),
  (32, 1, .iconst 0, 0, 0, 0, 0),
  (33, 2, .istore 5, 0, 0, 0, 0),
  (35, 2, .iload 5, 0, 0, 0, 0),
  (37, 2, .bipush 6, 0, 0, 0, 0),
  (39, 3, .if_icmp .ge 23, 32, 0, 0, 0),
  (42, 1, .aload_n 0, 0, 0, 0, 0),
  (43, 3, .getfield 25, 3, 2, 180, 1),
  (46, 1, .iload_n 1, 0, 0, 0, 0),
  (47, 1, .iload_n 3, 0, 0, 0, 0),
  (48, 2, .iload 5, 0, 0, 0, 0),
  (50, 3, .invokestatic 72, 51, 3, 1, 541),
  (53, 2, .iload 4, 0, 0, 0, 0),
  (55, 1, .iastore, 0, 0, 0, 0),
  (56, 3, .iinc 5 1, 0, 0, 0, 0),
  (59, 3, .goto (-24), 19, 0, 0, 0),
  (62, 1, .iconst 0, 0, 0, 0, 0),
  (63, 2, .istore 5, 0, 0, 0, 0),
  (65, 2, .iload 5, 0, 0, 0, 0),
  (67, 1, .aload_n 0, 0, 0, 0, 0),
  (68, 3, .getfield 55, 3, 7, 185, 0),
  (71, 3, .if_icmp .ge 72, 73, 0, 0, 0),
  (74, 1, .iload_n 2, 0, 0, 0, 0),
  (75, 3, .ifCond .eq 7, 42, 0, 0, 0),
  (78, 1, .iconst 0, 0, 0, 0, 0),
  (79, 3, .goto 17, 49, 0, 0, 0),
  (82, 1, .aload_n 0, 0, 0, 0, 0),
  (83, 3, .getfield 12, 3, 0, 178, 1),
  (86, 1, .aload_n 0, 0, 0, 0, 0),
  (87, 3, .getfield 21, 3, 1, 179, 1),
  (90, 1, .iload_n 3, 0, 0, 0, 0),
  (91, 2, .iload 5, 0, 0, 0, 0),
  (93, 3, .invokevirtual 84, 52, 4, 0, 544),
  (96, 2, .istore 6, 0, 0, 0, 0),
  (98, 1, .iconst 0, 0, 0, 0, 0),
  (99, 2, .istore 7, 0, 0, 0, 0),
  (101, 2, .iload 7, 0, 0, 0, 0),
  (103, 1, .iconst 3, 0, 0, 0, 0),
  (104, 3, .if_icmp .ge 33, 71, 0, 0, 0),
  (107, 1, .aload_n 0, 0, 0, 0, 0),
  (108, 3, .getfield 29, 3, 3, 181, 1),
  (111, 1, .iload_n 1, 0, 0, 0, 0),
  (112, 1, .iload_n 3, 0, 0, 0, 0),
  (113, 2, .iload 5, 0, 0, 0, 0),
  (115, 2, .iload 7, 0, 0, 0, 0),
  (117, 3, .invokestatic 88, 53, 4, 1, 545),
  (120, 2, .iload 6, 0, 0, 0, 0),
  (122, 2, .iload 7, 0, 0, 0, 0),
  (124, 1, .iadd, 0, 0, 0, 0),
  (125, 1, .iconst 1, 0, 0, 0, 0),
  (126, 1, .isub, 0, 0, 0, 0),
  (127, 3, .invokestatic 92, 49, 1, 4, 548),
  (130, 1, .iastore, 0, 0, 0, 0),
  (131, 3, .iinc 7 1, 0, 0, 0, 0),
  (134, 3, .goto (-33), 52, 0, 0, 0),
  (137, 3, .iinc 5 1, 0, 0, 0, 0),
  (140, 3, .goto (-75), 34, 0, 0, 0),
  (143, 3, .iinc 3 1, 0, 0, 0, 0),
  (146, 3, .goto (-144), 2, 0, 0, 0),
  (149, 1, .return_, 0, 0, 0, 0)]
noncomputable def kd_X5_strikeOf : List q_Ent := [
  (0, 1, .aload_n 0, 0, 0, 0, 0),
  (1, 3, .getfield 15, 5, 1, 124, 1),
  (4, 1, .iload_n 1, 0, 0, 0, 0),
  (5, 1, .iaload, 0, 0, 0, 0),
  (6, 1, .ireturn, 0, 0, 0, 0)]
noncomputable def kd_X4_sortMarks : List q_Ent := [
  (0, 1, .iconst 0, 0, 0, 0, 0),
  (1, 1, .istore_n 3, 0, 0, 0, 0),
  (2, 1, .iconst 0, 0, 0, 0, 0),
  (3, 2, .istore 4, 0, 0, 0, 0),
  (5, 2, .iload 4, 0, 0, 0, 0),
  (7, 1, .aload_n 1, 0, 0, 0, 0),
  (8, 3, .invokevirtual 45, 3, 1, 0, 446),
  (11, 3, .if_icmp .ge 83, 49, 0, 0, 0),
  (14, 1, .aload_n 1, 0, 0, 0, 0),
  (15, 2, .iload 4, 0, 0, 0, 0),
  (17, 3, .invokevirtual 51, 14, 2, 0, 447),
  (20, 3, .ifCond .eq 68, 47, 0, 0, 0),
  (23, 1, .aload_n 1, 0, 0, 0, 0),
  (24, 2, .iload 4, 0, 0, 0, 0),
  (26, 1, .iload_n 2, 0, 0, 0, 0),
  (27, 3, .invokevirtual 55, 10, 3, 0, 448),
  (30, 2, .istore 5, 0, 0, 0, 0),
  (32, 1, .iload_n 3, 0, 0, 0, 0),
  (33, 2, .istore 6, 0, 0, 0, 0),
  (35, 2, .iload 6, 0, 0, 0, 0),
  (37, 3, .ifCond .le 39, 41, 0, 0, 0),
  (40, 1, .aload_n 0, 0, 0, 0, 0),
  (41, 3, .getfield 9, 4, 0, 151, 1),
  (44, 2, .iload 6, 0, 0, 0, 0),
  (46, 1, .iconst 1, 0, 0, 0, 0),
  (47, 1, .isub, 0, 0, 0, 0),
  (48, 1, .iaload, 0, 0, 0, 0),
  (49, 2, .iload 5, 0, 0, 0, 0),
  (51, 3, .if_icmp .le 25, 41, 0, 0, 0),
  (54, 1, .aload_n 0, 0, 0, 0, 0),
  (55, 3, .getfield 9, 4, 0, 151, 1),
  (58, 2, .iload 6, 0, 0, 0, 0),
  (60, 1, .aload_n 0, 0, 0, 0, 0),
  (61, 3, .getfield 9, 4, 0, 151, 1),
  (64, 2, .iload 6, 0, 0, 0, 0),
  (66, 1, .iconst 1, 0, 0, 0, 0),
  (67, 1, .isub, 0, 0, 0, 0),
  (68, 1, .iaload, 0, 0, 0, 0),
  (69, 1, .iastore, 0, 0, 0, 0),
  (70, 3, .iinc 6 (-1), 0, 0, 0, 0),
  (73, 3, .goto (-38), 19, 0, 0, 0),
  (76, 1, .aload_n 0, 0, 0, 0, 0),
  (77, 3, .getfield 9, 4, 0, 151, 1),
  (80, 2, .iload 6, 0, 0, 0, 0),
  (82, 2, .iload 5, 0, 0, 0, 0),
  (84, 1, .iastore, 0, 0, 0, 0),
  (85, 3, .iinc 3 1, 0, 0, 0, 0),
  (88, 3, .iinc 4 1, 0, 0, 0, 0),
  (91, 3, .goto (-86), 4, 0, 0, 0),
  (94, 1, .iload_n 3, 0, 0, 0, 0),
  (95, 1, .ireturn, 0, 0, 0, 0)]
noncomputable def kd_X4_sumWithout : List q_Ent := [
  (0, 1, .iconst 0, 0, 0, 0, 0),
  (1, 1, .istore_n 3, 0, 0, 0, 0),
  (2, 1, .iload_n 1, 0, 0, 0, 0),
  (3, 2, .istore 4, 0, 0, 0, 0),
  (5, 2, .iload 4, 0, 0, 0, 0),
  (7, 1, .iload_n 2, 0, 0, 0, 0),
  (8, 1, .iload_n 1, 0, 0, 0, 0),
  (9, 1, .isub, 0, 0, 0, 0),
  (10, 3, .if_icmp .ge 19, 18, 0, 0, 0),
  (13, 1, .iload_n 3, 0, 0, 0, 0),
  (14, 1, .aload_n 0, 0, 0, 0, 0),
  (15, 3, .getfield 9, 4, 0, 151, 1),
  (18, 2, .iload 4, 0, 0, 0, 0),
  (20, 1, .iaload, 0, 0, 0, 0),
  (21, 1, .iadd, 0, 0, 0, 0),
  (22, 1, .istore_n 3, 0, 0, 0, 0),
  (23, 3, .iinc 4 1, 0, 0, 0, 0),
  (26, 3, .goto (-21), 4, 0, 0, 0),
  (29, 1, .iload_n 3, 0, 0, 0, 0),
  (30, 1, .ireturn, 0, 0, 0, 0)]
noncomputable def kd_X4_middleOf : List q_Ent := [
  (0, 1, .iload_n 1, 0, 0, 0, 0),
  (1, 3, .ifCond .ne 7, 4, 0, 0, 0),
  (4, 1, .iconst 0, 0, 0, 0, 0),
  (5, 3, .goto 22, 19, 0, 0, 0),
  (8, 1, .aload_n 0, 0, 0, 0, 0),
  (9, 3, .getfield 9, 4, 0, 151, 1),
  (12, 1, .iload_n 1, 0, 0, 0, 0),
  (13, 1, .iconst 1, 0, 0, 0, 0),
  (14, 1, .isub, 0, 0, 0, 0),
  (15, 1, .iconst 2, 0, 0, 0, 0),
  (16, 1, .idiv, 0, 0, 0, 0),
  (17, 1, .iaload, 0, 0, 0, 0),
  (18, 1, .aload_n 0, 0, 0, 0, 0),
  (19, 3, .getfield 9, 4, 0, 151, 1),
  (22, 1, .iload_n 1, 0, 0, 0, 0),
  (23, 1, .iconst 2, 0, 0, 0, 0),
  (24, 1, .idiv, 0, 0, 0, 0),
  (25, 1, .iaload, 0, 0, 0, 0),
  (26, 1, .iadd, 0, 0, 0, 0),
  (27, 1, .ireturn, 0, 0, 0, 0)]
noncomputable def kd_X4_pairs : List q_Ent := [
  (0, 1, .iconst 0, 0, 0, 0, 0),
  (1, 1, .istore_n 3, 0, 0, 0, 0),
  (2, 1, .iconst 0, 0, 0, 0, 0),
  (3, 2, .istore 4, 0, 0, 0, 0),
  (5, 2, .iload 4, 0, 0, 0, 0),
  (7, 1, .aload_n 1, 0, 0, 0, 0),
  (8, 3, .invokevirtual 61, 4, 1, 0, 461),
  (11, 3, .if_icmp .ge 29, 22, 0, 0, 0),
  (14, 2, .iload 4, 0, 0, 0, 0),
  (16, 1, .iload_n 2, 0, 0, 0, 0),
  (17, 3, .if_icmp .eq 17, 20, 0, 0, 0),
  (20, 1, .iload_n 3, 0, 0, 0, 0),
  (21, 1, .aload_n 0, 0, 0, 0, 0),
  (22, 1, .aload_n 1, 0, 0, 0, 0),
  (23, 1, .iload_n 2, 0, 0, 0, 0),
  (24, 2, .iload 4, 0, 0, 0, 0),
  (26, 3, .invokevirtual 64, 52, 4, 0, 469),
  (29, 3, .invokestatic 58, 49, 1, 4, 462),
  (32, 1, .iadd, 0, 0, 0, 0),
  (33, 1, .istore_n 3, 0, 0, 0, 0),
  (34, 3, .iinc 4 1, 0, 0, 0, 0),
  (37, 3, .goto (-32), 4, 0, 0, 0),
  (40, 1, .iload_n 3, 0, 0, 0, 0),
  (41, 1, .ireturn, 0, 0, 0, 0)]
noncomputable def kd_X5_figureOf : List q_Ent := [
  (0, 1, .aload_n 0, 0, 0, 0, 0),
  (1, 3, .getfield 18, 5, 2, 125, 1),
  (4, 1, .iload_n 1, 0, 0, 0, 0),
  (5, 2, .bipush 7, 0, 0, 0, 0),
  (7, 1, .imul, 0, 0, 0, 0),
  (8, 1, .iload_n 2, 0, 0, 0, 0),
  (9, 1, .iadd, 0, 0, 0, 0),
  (10, 1, .iaload, 0, 0, 0, 0),
  (11, 1, .ireturn, 0, 0, 0, 0)]
noncomputable def kd_X4_weighted : List q_Ent := [
  (0, 1, .iconst 0, 0, 0, 0, 0),
  (1, 2, .istore 5, 0, 0, 0, 0),
  (3, 1, .iconst 0, 0, 0, 0, 0),
  (4, 2, .istore 6, 0, 0, 0, 0),
  (6, 2, .iload 6, 0, 0, 0, 0),
  (8, 1, .aload_n 3, 0, 0, 0, 0),
  (9, 3, .invokevirtual 45, 3, 1, 0, 446),
  (12, 3, .if_icmp .ge 39, 26, 0, 0, 0),
  (15, 1, .aload_n 3, 0, 0, 0, 0),
  (16, 2, .iload 6, 0, 0, 0, 0),
  (18, 3, .invokevirtual 51, 14, 2, 0, 447),
  (21, 3, .ifCond .eq 24, 24, 0, 0, 0),
  (24, 2, .iload 5, 0, 0, 0, 0),
  (26, 1, .aload_n 3, 0, 0, 0, 0),
  (27, 2, .iload 6, 0, 0, 0, 0),
  (29, 2, .iload 4, 0, 0, 0, 0),
  (31, 3, .invokevirtual 55, 10, 3, 0, 448),
  (34, 1, .aload_n 1, 0, 0, 0, 0),
  (35, 1, .iload_n 2, 0, 0, 0, 0),
  (36, 2, .iload 6, 0, 0, 0, 0),
  (38, 3, .invokevirtual 68, 60, 3, 0, 477),
  (41, 1, .imul, 0, 0, 0, 0),
  (42, 1, .iadd, 0, 0, 0, 0),
  (43, 2, .istore 5, 0, 0, 0, 0),
  (45, 3, .iinc 6 1, 0, 0, 0, 0),
  (48, 3, .goto (-42), 4, 0, 0, 0),
  (51, 2, .iload 5, 0, 0, 0, 0),
  (53, 1, .ireturn, 0, 0, 0, 0)]
noncomputable def kd_X4_weigh : List q_Ent := [
  (0, 1, .aload_n 1, 0, 0, 0, 0),
  (1, 1, .iload_n 2, 0, 0, 0, 0),
  (2, 3, .invokevirtual 15, 48, 2, 0, 437),
  (5, 31, .tableswitch 76 0 3 #[31, 48, 60, 68], 0, 0, 0, 0),
  (36, 1, .aload_n 0, 0, 0, 0, 0),
  (37, 1, .aload_n 1, 0, 0, 0, 0),
  (38, 1, .iload_n 2, 0, 0, 0, 0),
  (39, 3, .invokevirtual 21, 55, 2, 0, 438),
  (42, 1, .aload_n 0, 0, 0, 0, 0),
  (43, 1, .aload_n 3, 0, 0, 0, 0),
  (44, 2, .iload 4, 0, 0, 0, 0),
  (46, 3, .invokevirtual 24, 56, 3, 0, 442),
  (49, 3, .invokevirtual 28, 57, 3, 0, 449),
  (52, 1, .ireturn, 0, 0, 0, 0),
  (53, 1, .aload_n 0, 0, 0, 0, 0),
  (54, 1, .aload_n 0, 0, 0, 0, 0),
  (55, 1, .aload_n 3, 0, 0, 0, 0),
  (56, 2, .iload 4, 0, 0, 0, 0),
  (58, 3, .invokevirtual 24, 56, 3, 0, 442),
  (61, 3, .invokevirtual 32, 58, 2, 0, 453),
  (64, 1, .ireturn, 0, 0, 0, 0),
  (65, 1, .aload_n 0, 0, 0, 0, 0),
  (66, 1, .aload_n 3, 0, 0, 0, 0),
  (67, 2, .iload 4, 0, 0, 0, 0),
  (69, 3, .invokevirtual 35, 50, 3, 0, 457),
  (72, 1, .ireturn, 0, 0, 0, 0),
  (73, 1, .aload_n 0, 0, 0, 0, 0),
  (74, 1, .aload_n 3, 0, 0, 0, 0),
  (75, 2, .iload 4, 0, 0, 0, 0),
  (77, 3, .invokevirtual 38, 59, 3, 0, 465),
  (80, 1, .ireturn, 0, 0, 0, 0),
  (81, 1, .aload_n 0, 0, 0, 0, 0),
  (82, 1, .aload_n 1, 0, 0, 0, 0),
  (83, 1, .iload_n 2, 0, 0, 0, 0),
  (84, 1, .aload_n 3, 0, 0, 0, 0),
  (85, 2, .iload 4, 0, 0, 0, 0),
  (87, 3, .invokevirtual 41, 61, 5, 0, 473),
  (90, 1, .ireturn, 0, 0, 0, 0)]
noncomputable def kd_X3_open : List q_Ent := [
  (0, 1, .aload_n 0, 0, 0, 0, 0),
  (1, 3, .getfield 21, 3, 1, 179, 1),
  (4, 1, .aload_n 2, 0, 0, 0, 0),
  (5, 3, .invokevirtual 39, 2, 2, 0, 525),
  (8, 1, .aload_n 0, 0, 0, 0, 0),
  (9, 1, .aload_n 1, 0, 0, 0, 0),
  (10, 3, .invokevirtual 43, 47, 1, 0, 532),
  (13, 3, .putfield 49, 3, 6, 184, 0),
  (16, 1, .aload_n 0, 0, 0, 0, 0),
  (17, 1, .aload_n 2, 0, 0, 0, 0),
  (18, 3, .invokevirtual 52, 4, 1, 0, 533),
  (21, 3, .putfield 55, 3, 7, 185, 0),
  (24, 1, .iconst 0, 0, 0, 0, 0),
  (25, 2, .istore 4, 0, 0, 0, 0),
  (27, 2, .iload 4, 0, 0, 0, 0),
  (29, 1, .aload_n 0, 0, 0, 0, 0),
  (30, 3, .getfield 49, 3, 6, 184, 0),
  (33, 3, .if_icmp .ge 162, 96, 0, 0, 0),
  (36, 1, .aload_n 1, 0, 0, 0, 0),
  (37, 2, .iload 4, 0, 0, 0, 0),
  (39, 3, .invokevirtual 57, 48, 2, 0, 534),
  (42, 2, .istore 5, 0, 0, 0, 0),
  (44, 1, .aload_n 0, 0, 0, 0, 0),
  (45, 3, .getfield 32, 3, 4, 182, 1),
  (48, 2, .iload 4, 0, 0, 0, 0),
  (50, 2, .iload 5, 0, 0, 0, 0),
  (52, 1, .iconst 2, 0, 0, 0, 0),
  (53, 3, .if_icmp .eq 9, 31, 0, 0, 0),
  (56, 2, .iload 5, 0, 0, 0, 0),
  (58, 1, .iconst 3, 0, 0, 0, 0),
  (59, 3, .if_icmp .ne 7, 33, 0, 0, 0),
  (62, 1, .iconst 1, 0, 0, 0, 0),
  (63, 3, .goto 4, 34, 0, 0, 0),
  (66, 1, .iconst 0, 0, 0, 0, 0),
  (67, 1, .bastore, 0, 0, 0, 0),
  (68, 1, .aload_n 0, 0, 0, 0, 0),
  (69, 3, .getfield 21, 3, 1, 179, 1),
  (72, 1, .iload_n 3, 0, 0, 0, 0),
  (73, 1, .aload_n 0, 0, 0, 0, 0),
  (74, 3, .getfield 32, 3, 4, 182, 1),
  (77, 2, .iload 4, 0, 0, 0, 0),
  (79, 1, .baload, 0, 0, 0, 0),
  (80, 3, .invokevirtual 61, 16, 3, 0, 535),
  (83, 1, .aload_n 0, 0, 0, 0, 0),
  (84, 3, .getfield 32, 3, 4, 182, 1),
  (87, 2, .iload 4, 0, 0, 0, 0),
  (89, 1, .baload, 0, 0, 0, 0),
  (90, 3, .ifCond .eq 23, 58, 0, 0, 0),
  (93, 1, .aload_n 0, 0, 0, 0, 0),
  (94, 2, .iload 4, 0, 0, 0, 0),
  (96, 2, .iload 5, 0, 0, 0, 0),
  (98, 1, .iconst 2, 0, 0, 0, 0),
  (99, 3, .if_icmp .ne 7, 55, 0, 0, 0),
  (102, 1, .iconst 1, 0, 0, 0, 0),
  (103, 3, .goto 4, 56, 0, 0, 0),
  (106, 1, .iconst 0, 0, 0, 0, 0),
  (107, 3, .invokevirtual 65, 54, 3, 0, 536),
  (110, 3, .goto 79, 94, 0, 0, 0),
  (113, 1, .iconst 0, 0, 0, 0, 0),
  (114, 2, .istore 6, 0, 0, 0, 0),
  (116, 2, .iload 6, 0, 0, 0, 0),
  (118, 1, .aload_n 0, 0, 0, 0, 0),
  (119, 3, .getfield 55, 3, 7, 185, 0),
  (122, 3, .if_icmp .ge 67, 94, 0, 0, 0),
  (125, 1, .iconst 0, 0, 0, 0, 0),
  (126, 2, .istore 7, 0, 0, 0, 0),
  (128, 2, .iload 7, 0, 0, 0, 0),
  (130, 2, .bipush 6, 0, 0, 0, 0),
  (132, 3, .if_icmp .ge 51, 92, 0, 0, 0),
  (135, 1, .aload_n 0, 0, 0, 0, 0),
  (136, 3, .getfield 21, 3, 1, 179, 1),
  (139, 1, .iload_n 3, 0, 0, 0, 0),
  (140, 2, .iload 6, 0, 0, 0, 0),
  (142, 2, .iload 7, 0, 0, 0, 0),
  (144, 3, .invokevirtual 68, 11, 4, 0, 549),
  (147, 1, .aload_n 0, 0, 0, 0, 0),
  (148, 3, .getfield 25, 3, 2, 180, 1),
  (151, 2, .iload 4, 0, 0, 0, 0),
  (153, 2, .iload 6, 0, 0, 0, 0),
  (155, 2, .iload 7, 0, 0, 0, 0),
  (157, 3, .invokestatic 72, 51, 3, 1, 541),
  (160, 1, .aload_n 0, 0, 0, 0, 0),
  (161, 3, .getfield 12, 3, 0, 178, 1),
  (164, 1, .aload_n 1, 0, 0, 0, 0),
  (165, 2, .iload 4, 0, 0, 0, 0),
  (167, 1, .aload_n 0, 0, 0, 0, 0),
  (168, 3, .getfield 21, 3, 1, 179, 1),
  (171, 2, .iload 6, 0, 0, 0, 0),
  (173, 3, .invokevirtual 76, 62, 5, 0, 550),
  (176, 1, .iastore, 0, 0, 0, 0),
  (177, 3, .iinc 7 1, 0, 0, 0, 0),
  (180, 3, .goto (-52), 66, 0, 0, 0),
  (183, 3, .iinc 6 1, 0, 0, 0, 0),
  (186, 3, .goto (-70), 60, 0, 0, 0),
  (189, 3, .iinc 4 1, 0, 0, 0, 0),
  (192, 3, .goto (-165), 14, 0, 0, 0),
  (195, 1, .return_, 0, 0, 0, 0)]
noncomputable def kd_X3_giveAll : List q_Ent := [
  (0, 1, .iload_n 1, 0, 0, 0, 0),
  (1, 1, .istore_n 2, 0, 0, 0, 0),
  (2, 1, .aload_n 0, 0, 0, 0, 0),
  (3, 3, .getfield 55, 3, 7, 185, 0),
  (6, 1, .iconst 1, 0, 0, 0, 0),
  (7, 1, .isub, 0, 0, 0, 0),
  (8, 1, .istore_n 3, 0, 0, 0, 0),
  (9, 1, .iload_n 3, 0, 0, 0, 0),
  (10, 3, .ifCond .lt 24, 22, 0, 0, 0),
  (13, 1, .aload_n 0, 0, 0, 0, 0),
  (14, 3, .getfield 36, 3, 5, 183, 1),
  (17, 1, .iload_n 3, 0, 0, 0, 0),
  (18, 1, .iload_n 2, 0, 0, 0, 0),
  (19, 2, .bipush 6, 0, 0, 0, 0),
  (21, 1, .irem, 0, 0, 0, 0),
  (22, 1, .iastore, 0, 0, 0, 0),
  (23, 1, .iload_n 2, 0, 0, 0, 0),
  (24, 2, .bipush 6, 0, 0, 0, 0),
  (26, 1, .idiv, 0, 0, 0, 0),
  (27, 1, .istore_n 2, 0, 0, 0, 0),
  (28, 3, .iinc 3 (-1), 0, 0, 0, 0),
  (31, 3, .goto (-22), 7, 0, 0, 0),
  (34, 1, .return_, 0, 0, 0, 0)]
noncomputable def kd_X3_worthNow : List q_Ent := [
  (0, 1, .aload_n 0, 0, 0, 0, 0),
  (1, 3, .getfield 25, 3, 2, 180, 1),
  (4, 1, .iload_n 1, 0, 0, 0, 0),
  (5, 1, .iload_n 2, 0, 0, 0, 0),
  (6, 1, .aload_n 0, 0, 0, 0, 0),
  (7, 3, .getfield 36, 3, 5, 183, 1),
  (10, 1, .iload_n 2, 0, 0, 0, 0),
  (11, 1, .iaload, 0, 0, 0, 0),
  (12, 3, .invokestatic 72, 51, 3, 1, 541),
  (15, 1, .iaload, 0, 0, 0, 0),
  (16, 1, .istore_n 3, 0, 0, 0, 0),
  (17, 1, .aload_n 0, 0, 0, 0, 0),
  (18, 3, .getfield 32, 3, 4, 182, 1),
  (21, 1, .iload_n 1, 0, 0, 0, 0),
  (22, 1, .baload, 0, 0, 0, 0),
  (23, 3, .ifCond .eq 63, 49, 0, 0, 0),
  (26, 1, .iconst 0, 0, 0, 0, 0),
  (27, 2, .istore 4, 0, 0, 0, 0),
  (29, 2, .iload 4, 0, 0, 0, 0),
  (31, 1, .aload_n 0, 0, 0, 0, 0),
  (32, 3, .getfield 55, 3, 7, 185, 0),
  (35, 3, .if_icmp .ge 51, 49, 0, 0, 0),
  (38, 2, .iload 4, 0, 0, 0, 0),
  (40, 1, .iload_n 2, 0, 0, 0, 0),
  (41, 3, .if_icmp .eq 39, 47, 0, 0, 0),
  (44, 1, .aload_n 0, 0, 0, 0, 0),
  (45, 3, .getfield 36, 3, 5, 183, 1),
  (48, 1, .iload_n 2, 0, 0, 0, 0),
  (49, 1, .iaload, 0, 0, 0, 0),
  (50, 1, .aload_n 0, 0, 0, 0, 0),
  (51, 3, .getfield 36, 3, 5, 183, 1),
  (54, 2, .iload 4, 0, 0, 0, 0),
  (56, 1, .iaload, 0, 0, 0, 0),
  (57, 1, .isub, 0, 0, 0, 0),
  (58, 3, .invokestatic 92, 49, 1, 4, 548),
  (61, 2, .istore 5, 0, 0, 0, 0),
  (63, 1, .iload_n 3, 0, 0, 0, 0),
  (64, 1, .aload_n 0, 0, 0, 0, 0),
  (65, 3, .getfield 29, 3, 3, 181, 1),
  (68, 1, .iload_n 1, 0, 0, 0, 0),
  (69, 1, .iload_n 2, 0, 0, 0, 0),
  (70, 2, .iload 4, 0, 0, 0, 0),
  (72, 2, .iload 5, 0, 0, 0, 0),
  (74, 3, .invokestatic 88, 53, 4, 1, 545),
  (77, 1, .iaload, 0, 0, 0, 0),
  (78, 1, .iadd, 0, 0, 0, 0),
  (79, 1, .istore_n 3, 0, 0, 0, 0),
  (80, 3, .iinc 4 1, 0, 0, 0, 0),
  (83, 3, .goto (-54), 18, 0, 0, 0),
  (86, 1, .iload_n 3, 0, 0, 0, 0),
  (87, 1, .ireturn, 0, 0, 0, 0)]
noncomputable def kd_X3_placeNow : List q_Ent := [
  (0, 1, .iconst 1, 0, 0, 0, 0),
  (1, 1, .istore_n 2, 0, 0, 0, 0),
  (2, 1, .iconst 0, 0, 0, 0, 0),
  (3, 1, .istore_n 3, 0, 0, 0, 0),
  (4, 1, .iload_n 3, 0, 0, 0, 0),
  (5, 1, .aload_n 0, 0, 0, 0, 0),
  (6, 3, .getfield 55, 3, 7, 185, 0),
  (9, 3, .if_icmp .ge 60, 35, 0, 0, 0),
  (12, 1, .iconst 0, 0, 0, 0, 0),
  (13, 2, .istore 4, 0, 0, 0, 0),
  (15, 1, .iconst 0, 0, 0, 0, 0),
  (16, 2, .istore 5, 0, 0, 0, 0),
  (18, 2, .iload 5, 0, 0, 0, 0),
  (20, 1, .aload_n 0, 0, 0, 0, 0),
  (21, 3, .getfield 49, 3, 6, 184, 0),
  (24, 3, .if_icmp .ge 31, 30, 0, 0, 0),
  (27, 2, .iload 4, 0, 0, 0, 0),
  (29, 3, .ifCond .ne 26, 30, 0, 0, 0),
  (32, 1, .aload_n 0, 0, 0, 0, 0),
  (33, 2, .iload 5, 0, 0, 0, 0),
  (35, 1, .iload_n 3, 0, 0, 0, 0),
  (36, 3, .invokevirtual 108, 65, 3, 0, 564),
  (39, 1, .aload_n 0, 0, 0, 0, 0),
  (40, 2, .iload 5, 0, 0, 0, 0),
  (42, 1, .iload_n 1, 0, 0, 0, 0),
  (43, 3, .invokevirtual 108, 65, 3, 0, 564),
  (46, 1, .isub, 0, 0, 0, 0),
  (47, 2, .istore 4, 0, 0, 0, 0),
  (49, 3, .iinc 5 1, 0, 0, 0, 0),
  (52, 3, .goto (-34), 12, 0, 0, 0),
  (55, 2, .iload 4, 0, 0, 0, 0),
  (57, 3, .ifCond .le 6, 33, 0, 0, 0),
  (60, 3, .iinc 2 1, 0, 0, 0, 0),
  (63, 3, .iinc 3 1, 0, 0, 0, 0),
  (66, 3, .goto (-62), 4, 0, 0, 0),
  (69, 1, .iload_n 2, 0, 0, 0, 0),
  (70, 1, .ireturn, 0, 0, 0, 0)]
noncomputable def kd_X3_giveNext : List q_Ent := [
  (0, 1, .aload_n 0, 0, 0, 0, 0),
  (1, 3, .getfield 55, 3, 7, 185, 0),
  (4, 1, .iconst 1, 0, 0, 0, 0),
  (5, 1, .isub, 0, 0, 0, 0),
  (6, 1, .istore_n 1, 0, 0, 0, 0),
  (7, 1, .iload_n 1, 0, 0, 0, 0),
  (8, 3, .ifCond .lt 37, 29, 0, 0, 0),
  (11, 1, .aload_n 0, 0, 0, 0, 0),
  (12, 3, .getfield 36, 3, 5, 183, 1),
  (15, 1, .iload_n 1, 0, 0, 0, 0),
  (16, 1, .iaload, 0, 0, 0, 0),
  (17, 1, .iconst 5, 0, 0, 0, 0),
  (18, 3, .if_icmp .ge 14, 22, 0, 0, 0),
  (21, 1, .aload_n 0, 0, 0, 0, 0),
  (22, 3, .getfield 36, 3, 5, 183, 1),
  (25, 1, .iload_n 1, 0, 0, 0, 0),
  (26, 1, .dup2, 0, 0, 0, 0),
  (27, 1, .iaload, 0, 0, 0, 0),
  (28, 1, .iconst 1, 0, 0, 0, 0),
  (29, 1, .iadd, 0, 0, 0, 0),
  (30, 1, .iastore, 0, 0, 0, 0),
  (31, 1, .return_, 0, 0, 0, 0),
  (32, 1, .aload_n 0, 0, 0, 0, 0),
  (33, 3, .getfield 36, 3, 5, 183, 1),
  (36, 1, .iload_n 1, 0, 0, 0, 0),
  (37, 1, .iconst 0, 0, 0, 0, 0),
  (38, 1, .iastore, 0, 0, 0, 0),
  (39, 3, .iinc 1 (-1), 0, 0, 0, 0),
  (42, 3, .goto (-35), 5, 0, 0, 0),
  (45, 1, .return_, 0, 0, 0, 0)]
noncomputable def kd_X3_bestRow : List q_Ent := [
  (0, 1, .aload_n 0, 0, 0, 0, 0),
  (1, 3, .getfield 21, 3, 1, 179, 1),
  (4, 3, .invokevirtual 95, 7, 1, 0, 555),
  (7, 1, .istore_n 3, 0, 0, 0, 0),
  (8, 1, .iconst 0, 0, 0, 0, 0),
  (9, 2, .istore 4, 0, 0, 0, 0),
  (11, 1, .iconst 5, 0, 0, 0, 0),
  (12, 2, .istore 5, 0, 0, 0, 0),
  (14, 1, .aload_n 0, 0, 0, 0, 0),
  (15, 1, .iconst 0, 0, 0, 0, 0),
  (16, 3, .invokevirtual 98, 64, 2, 0, 556),
  (19, 1, .iconst 0, 0, 0, 0, 0),
  (20, 2, .istore 6, 0, 0, 0, 0),
  (22, 2, .iload 6, 0, 0, 0, 0),
  (24, 1, .iload_n 3, 0, 0, 0, 0),
  (25, 3, .if_icmp .ge 41, 34, 0, 0, 0),
  (28, 2, .iload 5, 0, 0, 0, 0),
  (30, 1, .iload_n 2, 0, 0, 0, 0),
  (31, 3, .if_icmp .le 35, 34, 0, 0, 0),
  (34, 1, .aload_n 0, 0, 0, 0, 0),
  (35, 1, .iload_n 1, 0, 0, 0, 0),
  (36, 3, .invokevirtual 102, 66, 2, 0, 560),
  (39, 2, .istore 7, 0, 0, 0, 0),
  (41, 2, .iload 7, 0, 0, 0, 0),
  (43, 2, .iload 5, 0, 0, 0, 0),
  (45, 3, .if_icmp .ge 11, 30, 0, 0, 0),
  (48, 2, .iload 7, 0, 0, 0, 0),
  (50, 2, .istore 5, 0, 0, 0, 0),
  (52, 2, .iload 6, 0, 0, 0, 0),
  (54, 2, .istore 4, 0, 0, 0, 0),
  (56, 1, .aload_n 0, 0, 0, 0, 0),
  (57, 3, .invokevirtual 105, 67, 1, 0, 568),
  (60, 3, .iinc 6 1, 0, 0, 0, 0),
  (63, 3, .goto (-41), 13, 0, 0, 0),
  (66, 2, .iload 4, 0, 0, 0, 0),
  (68, 1, .ireturn, 0, 0, 0, 0)]
noncomputable def kd_X3_placeBy : List q_Ent := [
  (0, 1, .aload_n 0, 0, 0, 0, 0),
  (1, 1, .iload_n 1, 0, 0, 0, 0),
  (2, 3, .invokevirtual 98, 64, 2, 0, 556),
  (5, 1, .aload_n 0, 0, 0, 0, 0),
  (6, 1, .iload_n 2, 0, 0, 0, 0),
  (7, 3, .invokevirtual 102, 66, 2, 0, 560),
  (10, 1, .ireturn, 0, 0, 0, 0)]
noncomputable def kd_X5_init : List q_Ent := [
  (0, 1, .aload_n 0, 0, 0, 0, 0),
  (1, 3, .invokespecial 3, 0, 1, 6, 122),
  (4, 1, .aload_n 0, 0, 0, 0, 0),
  (5, 1, .iconst 3, 0, 0, 0, 0),
  (6, 2, .newarray .int, 0, 0, 0, 0),
  (8, 3, .putfield 9, 5, 0, 123, 1),
  (11, 1, .aload_n 0, 0, 0, 0, 0),
  (12, 1, .iconst 3, 0, 0, 0, 0),
  (13, 2, .newarray .int, 0, 0, 0, 0),
  (15, 3, .putfield 15, 5, 1, 124, 1),
  (18, 1, .aload_n 0, 0, 0, 0, 0),
  (19, 2, .bipush 21, 0, 0, 0, 0),
  (21, 2, .newarray .int, 0, 0, 0, 0),
  (23, 3, .putfield 18, 5, 2, 125, 1),
  (26, 1, .aload_n 0, 0, 0, 0, 0),
  (27, 1, .iconst 1, 0, 0, 0, 0),
  (28, 3, .putfield 21, 5, 3, 126, 0),
  (31, 1, .return_, 0, 0, 0, 0)]
noncomputable def kd_X5_hasPart : List q_Ent := [
  (0, 1, .iload_n 1, 0, 0, 0, 0),
  (1, 3, .ifCond .lt 15, 8, 0, 0, 0),
  (4, 1, .iload_n 1, 0, 0, 0, 0),
  (5, 1, .aload_n 0, 0, 0, 0, 0),
  (6, 3, .getfield 21, 5, 3, 126, 0),
  (9, 3, .if_icmp .ge 7, 8, 0, 0, 0),
  (12, 1, .iconst 1, 0, 0, 0, 0),
  (13, 3, .goto 4, 9, 0, 0, 0),
  (16, 1, .iconst 0, 0, 0, 0, 0),
  (17, 1, .ireturn, 0, 0, 0, 0)]
noncomputable def kd_X5_strikeAlone : List q_Ent := [
  (0, 1, .aload_n 0, 0, 0, 0, 0),
  (1, 1, .iconst 1, 0, 0, 0, 0),
  (2, 3, .putfield 21, 5, 3, 126, 0),
  (5, 1, .aload_n 0, 0, 0, 0, 0),
  (6, 3, .getfield 9, 5, 0, 123, 1),
  (9, 1, .iconst 0, 0, 0, 0, 0),
  (10, 1, .iconst 0, 0, 0, 0, 0),
  (11, 1, .iastore, 0, 0, 0, 0),
  (12, 1, .aload_n 0, 0, 0, 0, 0),
  (13, 3, .getfield 15, 5, 1, 124, 1),
  (16, 1, .iconst 0, 0, 0, 0, 0),
  (17, 1, .iload_n 1, 0, 0, 0, 0),
  (18, 1, .iastore, 0, 0, 0, 0),
  (19, 1, .return_, 0, 0, 0, 0)]
noncomputable def kd_X7_byteAt : List q_Ent := [
  (0, 1, .iload_n 1, 0, 0, 0, 0),
  (1, 3, .ifCond .lt 20, 11, 0, 0, 0),
  (4, 1, .iload_n 1, 0, 0, 0, 0),
  (5, 1, .aload_n 0, 0, 0, 0, 0),
  (6, 3, .getfield 15, 7, 1, 110, 0),
  (9, 3, .if_icmp .ge 12, 11, 0, 0, 0),
  (12, 1, .aload_n 0, 0, 0, 0, 0),
  (13, 3, .getfield 9, 7, 0, 109, 1),
  (16, 1, .iload_n 1, 0, 0, 0, 0),
  (17, 1, .iaload, 0, 0, 0, 0),
  (18, 3, .goto 5, 12, 0, 0, 0),
  (21, 2, .bipush (-9), 0, 0, 0, 0),
  (23, 1, .ireturn, 0, 0, 0, 0)]
noncomputable def kd_X5_kindBy : List q_Ent := [
  (0, 1, .iload_n 0, 0, 0, 0, 0),
  (1, 59, .tableswitch 69 77 87 #[61, 69, 69, 65, 69, 63, 59, 69, 69, 69, 67], 0, 0, 0, 0),
  (60, 1, .iconst 0, 0, 0, 0, 0),
  (61, 1, .ireturn, 0, 0, 0, 0),
  (62, 1, .iconst 1, 0, 0, 0, 0),
  (63, 1, .ireturn, 0, 0, 0, 0),
  (64, 1, .iconst 2, 0, 0, 0, 0),
  (65, 1, .ireturn, 0, 0, 0, 0),
  (66, 1, .iconst 3, 0, 0, 0, 0),
  (67, 1, .ireturn, 0, 0, 0, 0),
  (68, 1, .iconst 4, 0, 0, 0, 0),
  (69, 1, .ireturn, 0, 0, 0, 0),
  (70, 2, .bipush (-9), 0, 0, 0, 0),
  (72, 1, .ireturn, 0, 0, 0, 0)]
noncomputable def kd_X5_readStrike : List q_Ent := [
  (0, 1, .aload_n 1, 0, 0, 0, 0),
  (1, 1, .aload_n 0, 0, 0, 0, 0),
  (2, 3, .getfield 25, 5, 4, 127, 0),
  (5, 3, .invokevirtual 32, 73, 2, 0, 380),
  (8, 2, .bipush 48, 0, 0, 0, 0),
  (10, 1, .isub, 0, 0, 0, 0),
  (11, 1, .istore_n 2, 0, 0, 0, 0),
  (12, 1, .iload_n 2, 0, 0, 0, 0),
  (13, 3, .ifCond .lt 8, 12, 0, 0, 0),
  (16, 1, .iload_n 2, 0, 0, 0, 0),
  (17, 1, .iconst 4, 0, 0, 0, 0),
  (18, 3, .if_icmp .lt 5, 14, 0, 0, 0),
  (21, 1, .iconst 0, 0, 0, 0, 0),
  (22, 1, .ireturn, 0, 0, 0, 0),
  (23, 1, .aload_n 0, 0, 0, 0, 0),
  (24, 3, .getfield 15, 5, 1, 124, 1),
  (27, 1, .aload_n 0, 0, 0, 0, 0),
  (28, 3, .getfield 21, 5, 3, 126, 0),
  (31, 1, .iload_n 2, 0, 0, 0, 0),
  (32, 1, .iastore, 0, 0, 0, 0),
  (33, 1, .aload_n 0, 0, 0, 0, 0),
  (34, 1, .dup, 0, 0, 0, 0),
  (35, 3, .getfield 25, 5, 4, 127, 0),
  (38, 1, .iconst 1, 0, 0, 0, 0),
  (39, 1, .iadd, 0, 0, 0, 0),
  (40, 3, .putfield 25, 5, 4, 127, 0),
  (43, 1, .iconst 1, 0, 0, 0, 0),
  (44, 1, .ireturn, 0, 0, 0, 0)]
noncomputable def kd_X5_readFigures : List q_Ent := [
  (0, 1, .iconst 0, 0, 0, 0, 0),
  (1, 1, .istore_n 3, 0, 0, 0, 0),
  (2, 1, .iload_n 3, 0, 0, 0, 0),
  (3, 2, .bipush 7, 0, 0, 0, 0),
  (5, 3, .if_icmp .ge 24, 17, 0, 0, 0),
  (8, 1, .aload_n 0, 0, 0, 0, 0),
  (9, 3, .getfield 18, 5, 2, 125, 1),
  (12, 1, .aload_n 0, 0, 0, 0, 0),
  (13, 3, .getfield 21, 5, 3, 126, 0),
  (16, 2, .bipush 7, 0, 0, 0, 0),
  (18, 1, .imul, 0, 0, 0, 0),
  (19, 1, .iload_n 3, 0, 0, 0, 0),
  (20, 1, .iadd, 0, 0, 0, 0),
  (21, 1, .iconst 0, 0, 0, 0, 0),
  (22, 1, .iastore, 0, 0, 0, 0),
  (23, 3, .iinc 3 1, 0, 0, 0, 0),
  (26, 3, .goto (-24), 2, 0, 0, 0),
  (29, 1, .iconst 0, 0, 0, 0, 0),
  (30, 1, .istore_n 3, 0, 0, 0, 0),
  (31, 1, .iload_n 3, 0, 0, 0, 0),
  (32, 1, .iload_n 2, 0, 0, 0, 0),
  (33, 3, .if_icmp .ge 62, 54, 0, 0, 0),
  (36, 1, .aload_n 1, 0, 0, 0, 0),
  (37, 1, .aload_n 0, 0, 0, 0, 0),
  (38, 3, .getfield 25, 5, 4, 127, 0),
  (41, 3, .invokevirtual 32, 73, 2, 0, 380),
  (44, 2, .bipush 48, 0, 0, 0, 0),
  (46, 1, .isub, 0, 0, 0, 0),
  (47, 2, .istore 4, 0, 0, 0, 0),
  (49, 2, .iload 4, 0, 0, 0, 0),
  (51, 3, .ifCond .lt 10, 34, 0, 0, 0),
  (54, 2, .iload 4, 0, 0, 0, 0),
  (56, 2, .bipush 9, 0, 0, 0, 0),
  (58, 3, .if_icmp .le 5, 36, 0, 0, 0),
  (61, 1, .iconst 0, 0, 0, 0, 0),
  (62, 1, .ireturn, 0, 0, 0, 0),
  (63, 1, .aload_n 0, 0, 0, 0, 0),
  (64, 3, .getfield 18, 5, 2, 125, 1),
  (67, 1, .aload_n 0, 0, 0, 0, 0),
  (68, 3, .getfield 21, 5, 3, 126, 0),
  (71, 2, .bipush 7, 0, 0, 0, 0),
  (73, 1, .imul, 0, 0, 0, 0),
  (74, 1, .iload_n 3, 0, 0, 0, 0),
  (75, 1, .iadd, 0, 0, 0, 0),
  (76, 2, .iload 4, 0, 0, 0, 0),
  (78, 1, .iastore, 0, 0, 0, 0),
  (79, 1, .aload_n 0, 0, 0, 0, 0),
  (80, 1, .dup, 0, 0, 0, 0),
  (81, 3, .getfield 25, 5, 4, 127, 0),
  (84, 1, .iconst 1, 0, 0, 0, 0),
  (85, 1, .iadd, 0, 0, 0, 0),
  (86, 3, .putfield 25, 5, 4, 127, 0),
  (89, 3, .iinc 3 1, 0, 0, 0, 0),
  (92, 3, .goto (-61), 19, 0, 0, 0),
  (95, 1, .iconst 1, 0, 0, 0, 0),
  (96, 1, .ireturn, 0, 0, 0, 0)]
noncomputable def kd_X5_readPart : List q_Ent := [
  (0, 1, .aload_n 0, 0, 0, 0, 0),
  (1, 3, .getfield 9, 5, 0, 123, 1),
  (4, 1, .aload_n 0, 0, 0, 0, 0),
  (5, 3, .getfield 21, 5, 3, 126, 0),
  (8, 1, .aload_n 1, 0, 0, 0, 0),
  (9, 1, .aload_n 0, 0, 0, 0, 0),
  (10, 3, .getfield 25, 5, 4, 127, 0),
  (13, 3, .invokevirtual 32, 73, 2, 0, 380),
  (16, 3, .invokestatic 42, 74, 1, 1, 384),
  (19, 1, .iastore, 0, 0, 0, 0),
  (20, 1, .aload_n 0, 0, 0, 0, 0),
  (21, 3, .getfield 9, 5, 0, 123, 1),
  (24, 1, .aload_n 0, 0, 0, 0, 0),
  (25, 3, .getfield 21, 5, 3, 126, 0),
  (28, 1, .iaload, 0, 0, 0, 0),
  (29, 2, .bipush (-9), 0, 0, 0, 0),
  (31, 3, .if_icmp .ne 5, 19, 0, 0, 0),
  (34, 1, .iconst 0, 0, 0, 0, 0),
  (35, 1, .ireturn, 0, 0, 0, 0),
  (36, 1, .aload_n 0, 0, 0, 0, 0),
  (37, 1, .dup, 0, 0, 0, 0),
  (38, 3, .getfield 25, 5, 4, 127, 0),
  (41, 1, .iconst 1, 0, 0, 0, 0),
  (42, 1, .iadd, 0, 0, 0, 0),
  (43, 3, .putfield 25, 5, 4, 127, 0),
  (46, 1, .aload_n 0, 0, 0, 0, 0),
  (47, 3, .getfield 9, 5, 0, 123, 1),
  (50, 1, .aload_n 0, 0, 0, 0, 0),
  (51, 3, .getfield 21, 5, 3, 126, 0),
  (54, 1, .iaload, 0, 0, 0, 0),
  (55, 25, .lookupswitch 38 #[(0, 25), (4, 31)], 0, 0, 0, 0),
  (80, 1, .aload_n 0, 0, 0, 0, 0),
  (81, 1, .aload_n 1, 0, 0, 0, 0),
  (82, 3, .invokevirtual 45, 75, 2, 0, 387),
  (85, 1, .ireturn, 0, 0, 0, 0),
  (86, 1, .aload_n 0, 0, 0, 0, 0),
  (87, 1, .aload_n 1, 0, 0, 0, 0),
  (88, 1, .iload_n 2, 0, 0, 0, 0),
  (89, 3, .invokevirtual 49, 76, 3, 0, 391),
  (92, 1, .ireturn, 0, 0, 0, 0),
  (93, 1, .iconst 1, 0, 0, 0, 0),
  (94, 1, .ireturn, 0, 0, 0, 0)]
noncomputable def kd_X7_length : List q_Ent := [
  (0, 1, .aload_n 0, 0, 0, 0, 0),
  (1, 3, .getfield 15, 7, 1, 110, 0),
  (4, 1, .ireturn, 0, 0, 0, 0)]
noncomputable def kd_X5_read : List q_Ent := [
  (0, 1, .aload_n 0, 0, 0, 0, 0),
  (1, 1, .iconst 0, 0, 0, 0, 0),
  (2, 3, .putfield 25, 5, 4, 127, 0),
  (5, 1, .aload_n 0, 0, 0, 0, 0),
  (6, 1, .iconst 0, 0, 0, 0, 0),
  (7, 3, .putfield 21, 5, 3, 126, 0),
  (10, 1, .aload_n 0, 0, 0, 0, 0),
  (11, 3, .getfield 21, 5, 3, 126, 0),
  (14, 1, .iconst 3, 0, 0, 0, 0),
  (15, 3, .if_icmp .ge 56, 38, 0, 0, 0),
  (18, 1, .aload_n 0, 0, 0, 0, 0),
  (19, 1, .aload_n 1, 0, 0, 0, 0),
  (20, 1, .iload_n 2, 0, 0, 0, 0),
  (21, 3, .invokevirtual 28, 77, 3, 0, 376),
  (24, 3, .ifCond .ne 8, 18, 0, 0, 0),
  (27, 1, .aload_n 0, 0, 0, 0, 0),
  (28, 3, .getfield 25, 5, 4, 127, 0),
  (31, 1, .ireturn, 0, 0, 0, 0),
  (32, 1, .aload_n 1, 0, 0, 0, 0),
  (33, 1, .aload_n 0, 0, 0, 0, 0),
  (34, 3, .getfield 25, 5, 4, 127, 0),
  (37, 3, .invokevirtual 32, 73, 2, 0, 380),
  (40, 2, .bipush 47, 0, 0, 0, 0),
  (42, 3, .if_icmp .eq 6, 25, 0, 0, 0),
  (45, 3, .goto 26, 38, 0, 0, 0),
  (48, 1, .aload_n 0, 0, 0, 0, 0),
  (49, 1, .dup, 0, 0, 0, 0),
  (50, 3, .getfield 25, 5, 4, 127, 0),
  (53, 1, .iconst 1, 0, 0, 0, 0),
  (54, 1, .iadd, 0, 0, 0, 0),
  (55, 3, .putfield 25, 5, 4, 127, 0),
  (58, 1, .aload_n 0, 0, 0, 0, 0),
  (59, 1, .dup, 0, 0, 0, 0),
  (60, 3, .getfield 21, 5, 3, 126, 0),
  (63, 1, .iconst 1, 0, 0, 0, 0),
  (64, 1, .iadd, 0, 0, 0, 0),
  (65, 3, .putfield 21, 5, 3, 126, 0),
  (68, 3, .goto (-58), 6, 0, 0, 0),
  (71, 1, .aload_n 0, 0, 0, 0, 0),
  (72, 3, .getfield 21, 5, 3, 126, 0),
  (75, 1, .iconst 3, 0, 0, 0, 0),
  (76, 3, .if_icmp .ne 10, 47, 0, 0, 0),
  (79, 1, .aload_n 0, 0, 0, 0, 0),
  (80, 3, .getfield 25, 5, 4, 127, 0),
  (83, 1, .iconst 1, 0, 0, 0, 0),
  (84, 1, .isub, 0, 0, 0, 0),
  (85, 1, .ireturn, 0, 0, 0, 0),
  (86, 1, .aload_n 0, 0, 0, 0, 0),
  (87, 1, .dup, 0, 0, 0, 0),
  (88, 3, .getfield 21, 5, 3, 126, 0),
  (91, 1, .iconst 1, 0, 0, 0, 0),
  (92, 1, .iadd, 0, 0, 0, 0),
  (93, 3, .putfield 21, 5, 3, 126, 0),
  (96, 1, .aload_n 0, 0, 0, 0, 0),
  (97, 3, .getfield 25, 5, 4, 127, 0),
  (100, 1, .aload_n 1, 0, 0, 0, 0),
  (101, 3, .invokevirtual 38, 78, 1, 0, 395),
  (104, 3, .if_icmp .ne 8, 60, 0, 0, 0),
  (107, 2, .bipush (-9), 0, 0, 0, 0),
  (109, 3, .goto 7, 62, 0, 0, 0),
  (112, 1, .aload_n 0, 0, 0, 0, 0),
  (113, 3, .getfield 25, 5, 4, 127, 0),
  (116, 1, .ireturn, 0, 0, 0, 0)]
noncomputable def kd_X6_init : List q_Ent := [
  (0, 1, .aload_n 0, 0, 0, 0, 0),
  (1, 3, .invokespecial 3, 0, 1, 6, 144),
  (4, 1, .aload_n 0, 0, 0, 0, 0),
  (5, 3, .new 9, 4, 0, 145, 0),
  (8, 1, .dup, 0, 0, 0, 0),
  (9, 3, .invokespecial 11, 45, 1, 5, 147),
  (12, 3, .putfield 12, 6, 0, 155, 1),
  (15, 1, .aload_n 0, 0, 0, 0, 0),
  (16, 2, .bipush 12, 0, 0, 0, 0),
  (18, 2, .newarray .int, 0, 0, 0, 0),
  (20, 3, .putfield 18, 6, 1, 156, 1),
  (23, 1, .return_, 0, 0, 0, 0)]
noncomputable def kd_X6_take : List q_Ent := [
  (0, 1, .aload_n 0, 0, 0, 0, 0),
  (1, 1, .aload_n 1, 0, 0, 0, 0),
  (2, 3, .invokevirtual 22, 47, 1, 0, 428),
  (5, 3, .putfield 28, 6, 2, 157, 0),
  (8, 1, .aload_n 0, 0, 0, 0, 0),
  (9, 1, .aload_n 2, 0, 0, 0, 0),
  (10, 3, .invokevirtual 31, 4, 1, 0, 429),
  (13, 3, .putfield 36, 6, 3, 158, 0),
  (16, 1, .iconst 0, 0, 0, 0, 0),
  (17, 1, .istore_n 3, 0, 0, 0, 0),
  (18, 1, .iload_n 3, 0, 0, 0, 0),
  (19, 1, .aload_n 0, 0, 0, 0, 0),
  (20, 3, .getfield 28, 6, 2, 157, 0),
  (23, 3, .if_icmp .ge 50, 39, 0, 0, 0),
  (26, 1, .iconst 0, 0, 0, 0, 0),
  (27, 2, .istore 4, 0, 0, 0, 0),
  (29, 2, .iload 4, 0, 0, 0, 0),
  (31, 1, .aload_n 0, 0, 0, 0, 0),
  (32, 3, .getfield 36, 6, 3, 158, 0),
  (35, 3, .if_icmp .ge 32, 37, 0, 0, 0),
  (38, 1, .aload_n 0, 0, 0, 0, 0),
  (39, 3, .getfield 18, 6, 1, 156, 1),
  (42, 1, .iload_n 3, 0, 0, 0, 0),
  (43, 1, .iconst 4, 0, 0, 0, 0),
  (44, 1, .imul, 0, 0, 0, 0),
  (45, 2, .iload 4, 0, 0, 0, 0),
  (47, 1, .iadd, 0, 0, 0, 0),
  (48, 1, .aload_n 0, 0, 0, 0, 0),
  (49, 3, .getfield 12, 6, 0, 155, 1),
  (52, 1, .aload_n 1, 0, 0, 0, 0),
  (53, 1, .iload_n 3, 0, 0, 0, 0),
  (54, 1, .aload_n 2, 0, 0, 0, 0),
  (55, 2, .iload 4, 0, 0, 0, 0),
  (57, 3, .invokevirtual 38, 62, 5, 0, 433),
  (60, 1, .iastore, 0, 0, 0, 0),
  (61, 3, .iinc 4 1, 0, 0, 0, 0),
  (64, 3, .goto (-35), 16, 0, 0, 0),
  (67, 3, .iinc 3 1, 0, 0, 0, 0),
  (70, 3, .goto (-52), 10, 0, 0, 0),
  (73, 1, .return_, 0, 0, 0, 0)]
noncomputable def kd_X6_leaders : List q_Ent := [
  (0, 1, .iconst 0, 0, 0, 0, 0),
  (1, 1, .istore_n 1, 0, 0, 0, 0),
  (2, 1, .iconst 0, 0, 0, 0, 0),
  (3, 1, .istore_n 2, 0, 0, 0, 0),
  (4, 1, .iload_n 2, 0, 0, 0, 0),
  (5, 1, .aload_n 0, 0, 0, 0, 0),
  (6, 3, .getfield 36, 6, 3, 158, 0),
  (9, 3, .if_icmp .ge 24, 21, 0, 0, 0),
  (12, 1, .aload_n 0, 0, 0, 0, 0),
  (13, 1, .iload_n 2, 0, 0, 0, 0),
  (14, 3, .invokevirtual 50, 31, 2, 0, 511),
  (17, 1, .iconst 1, 0, 0, 0, 0),
  (18, 3, .if_icmp .ne 9, 19, 0, 0, 0),
  (21, 1, .iload_n 1, 0, 0, 0, 0),
  (22, 1, .iconst 1, 0, 0, 0, 0),
  (23, 1, .iload_n 2, 0, 0, 0, 0),
  (24, 1, .ishl, 0, 0, 0, 0),
  (25, 1, .ior, 0, 0, 0, 0),
  (26, 1, .istore_n 1, 0, 0, 0, 0),
  (27, 3, .iinc 2 1, 0, 0, 0, 0),
  (30, 3, .goto (-26), 4, 0, 0, 0),
  (33, 1, .iload_n 1, 0, 0, 0, 0),
  (34, 1, .ireturn, 0, 0, 0, 0)]
noncomputable def kd_X7_init : List q_Ent := [
  (0, 1, .aload_n 0, 0, 0, 0, 0),
  (1, 3, .invokespecial 3, 0, 1, 6, 108),
  (4, 1, .aload_n 0, 0, 0, 0, 0),
  (5, 2, .bipush 16, 0, 0, 0, 0),
  (7, 2, .newarray .int, 0, 0, 0, 0),
  (9, 3, .putfield 9, 7, 0, 109, 1),
  (12, 1, .return_, 0, 0, 0, 0)]
noncomputable def kd_X7_empty : List q_Ent := [
  (0, 1, .aload_n 0, 0, 0, 0, 0),
  (1, 3, .getfield 15, 7, 1, 110, 0),
  (4, 1, .istore_n 1, 0, 0, 0, 0),
  (5, 1, .aload_n 0, 0, 0, 0, 0),
  (6, 1, .iconst 0, 0, 0, 0, 0),
  (7, 3, .putfield 15, 7, 1, 110, 0),
  (10, 1, .iload_n 1, 0, 0, 0, 0),
  (11, 1, .ireturn, 0, 0, 0, 0)]
noncomputable def kd_X7_append : List q_Ent := [
  (0, 1, .iload_n 1, 0, 0, 0, 0),
  (1, 1, .iconst 1, 0, 0, 0, 0),
  (2, 1, .isub, 0, 0, 0, 0),
  (3, 2, .istore 4, 0, 0, 0, 0),
  (5, 2, .iload 4, 0, 0, 0, 0),
  (7, 3, .ifCond .lt 49, 31, 0, 0, 0),
  (10, 1, .aload_n 0, 0, 0, 0, 0),
  (11, 3, .getfield 15, 7, 1, 110, 0),
  (14, 2, .bipush 16, 0, 0, 0, 0),
  (16, 3, .if_icmp .ge 40, 31, 0, 0, 0),
  (19, 1, .aload_n 0, 0, 0, 0, 0),
  (20, 3, .getfield 9, 7, 0, 109, 1),
  (23, 1, .aload_n 0, 0, 0, 0, 0),
  (24, 3, .getfield 15, 7, 1, 110, 0),
  (27, 1, .lload_n 2, 0, 0, 0, 0),
  (28, 2, .bipush 8, 0, 0, 0, 0),
  (30, 2, .iload 4, 0, 0, 0, 0),
  (32, 1, .imul, 0, 0, 0, 0),
  (33, 1, .lushr, 0, 0, 0, 0),
  (34, 3, .ldc2_w 19, 255, 0, 355, 0),
  (37, 1, .land, 0, 0, 0, 0),
  (38, 1, .l2i, 0, 0, 0, 0),
  (39, 1, .iastore, 0, 0, 0, 0),
  (40, 1, .aload_n 0, 0, 0, 0, 0),
  (41, 1, .dup, 0, 0, 0, 0),
  (42, 3, .getfield 15, 7, 1, 110, 0),
  (45, 1, .iconst 1, 0, 0, 0, 0),
  (46, 1, .iadd, 0, 0, 0, 0),
  (47, 3, .putfield 15, 7, 1, 110, 0),
  (50, 3, .iinc 4 (-1), 0, 0, 0, 0),
  (53, 3, .goto (-48), 4, 0, 0, 0),
  (56, 1, .aload_n 0, 0, 0, 0, 0),
  (57, 3, .getfield 15, 7, 1, 110, 0),
  (60, 1, .ireturn, 0, 0, 0, 0)]
noncomputable def kd_X8_init : List q_Ent := [
  (0, 1, .aload_n 0, 0, 0, 0, 0),
  (1, 3, .invokespecial 1, 0, 1, 6, 74),
  (4, 1, .aload_n 0, 0, 0, 0, 0),
  (5, 3, .new 7, 0, 0, 77, 0),
  (8, 1, .dup, 0, 0, 0, 0),
  (9, 3, .invokespecial 9, 0, 1, 5, 79),
  (12, 3, .putfield 10, 8, 0, 234, 1),
  (15, 1, .aload_n 0, 0, 0, 0, 0),
  (16, 3, .new 7, 0, 0, 77, 0),
  (19, 1, .dup, 0, 0, 0, 0),
  (20, 3, .invokespecial 9, 0, 1, 5, 79),
  (23, 3, .putfield 16, 8, 1, 235, 1),
  (26, 1, .aload_n 0, 0, 0, 0, 0),
  (27, 3, .new 19, 7, 0, 103, 0),
  (30, 1, .dup, 0, 0, 0, 0),
  (31, 3, .invokespecial 21, 83, 1, 5, 105),
  (34, 3, .putfield 22, 8, 2, 236, 1),
  (37, 1, .aload_n 0, 0, 0, 0, 0),
  (38, 1, .iconst 3, 0, 0, 0, 0),
  (39, 3, .anewarray 26, 5, 0, 116, 0),
  (42, 3, .putfield 28, 8, 3, 237, 1),
  (45, 1, .aload_n 0, 0, 0, 0, 0),
  (46, 3, .new 26, 5, 0, 116, 0),
  (49, 1, .dup, 0, 0, 0, 0),
  (50, 3, .invokespecial 32, 70, 1, 2, 119),
  (53, 3, .putfield 33, 8, 4, 238, 1),
  (56, 1, .aload_n 0, 0, 0, 0, 0),
  (57, 3, .new 37, 6, 0, 139, 0),
  (60, 1, .dup, 0, 0, 0, 0),
  (61, 3, .invokespecial 39, 80, 1, 5, 141),
  (64, 3, .putfield 40, 8, 5, 239, 1),
  (67, 1, .aload_n 0, 0, 0, 0, 0),
  (68, 3, .new 37, 6, 0, 139, 0),
  (71, 1, .dup, 0, 0, 0, 0),
  (72, 3, .invokespecial 39, 80, 1, 5, 141),
  (75, 3, .putfield 44, 8, 6, 240, 1),
  (78, 1, .aload_n 0, 0, 0, 0, 0),
  (79, 3, .new 47, 3, 0, 168, 0),
  (82, 1, .dup, 0, 0, 0, 0),
  (83, 3, .invokespecial 49, 46, 1, 5, 170),
  (86, 3, .putfield 50, 8, 7, 241, 1),
  (89, 1, .aload_n 0, 0, 0, 0, 0),
  (90, 3, .new 54, 2, 0, 204, 0),
  (93, 1, .dup, 0, 0, 0, 0),
  (94, 3, .invokespecial 56, 35, 1, 2, 206),
  (97, 3, .putfield 57, 8, 8, 242, 1),
  (100, 1, .aload_n 0, 0, 0, 0, 0),
  (101, 3, .new 61, 1, 0, 220, 0),
  (104, 1, .dup, 0, 0, 0, 0),
  (105, 3, .invokespecial 63, 28, 1, 5, 222),
  (108, 3, .putfield 64, 8, 9, 243, 1),
  (111, 1, .aload_n 0, 0, 0, 0, 0),
  (112, 3, .getfield 10, 8, 0, 234, 1),
  (115, 1, .iconst 5, 0, 0, 0, 0),
  (116, 1, .iconst 3, 0, 0, 0, 0),
  (117, 3, .invokevirtual 68, 1, 3, 0, 230),
  (120, 1, .aload_n 0, 0, 0, 0, 0),
  (121, 3, .getfield 16, 8, 1, 235, 1),
  (124, 1, .iconst 5, 0, 0, 0, 0),
  (125, 1, .iconst 3, 0, 0, 0, 0),
  (126, 3, .invokevirtual 68, 1, 3, 0, 230),
  (129, 1, .iconst 0, 0, 0, 0, 0),
  (130, 1, .istore_n 1, 0, 0, 0, 0),
  (131, 1, .iload_n 1, 0, 0, 0, 0),
  (132, 1, .iconst 3, 0, 0, 0, 0),
  (133, 3, .if_icmp .ge 22, 75, 0, 0, 0),
  (136, 1, .aload_n 0, 0, 0, 0, 0),
  (137, 3, .getfield 28, 8, 3, 237, 1),
  (140, 1, .iload_n 1, 0, 0, 0, 0),
  (141, 3, .new 26, 5, 0, 116, 0),
  (144, 1, .dup, 0, 0, 0, 0),
  (145, 3, .invokespecial 32, 70, 1, 2, 119),
  (148, 1, .aastore, 0, 0, 0, 0),
  (149, 3, .iinc 1 1, 0, 0, 0, 0),
  (152, 3, .goto (-21), 63, 0, 0, 0),
  (155, 1, .return_, 0, 0, 0, 0)]
noncomputable def kd_X8_panel : List q_Ent := [
  (0, 1, .iload_n 1, 0, 0, 0, 0),
  (1, 1, .iconst 1, 0, 0, 0, 0),
  (2, 3, .if_icmp .lt 19, 12, 0, 0, 0),
  (5, 1, .iload_n 1, 0, 0, 0, 0),
  (6, 2, .bipush 7, 0, 0, 0, 0),
  (8, 3, .if_icmp .gt 13, 12, 0, 0, 0),
  (11, 1, .iload_n 2, 0, 0, 0, 0),
  (12, 1, .iconst 1, 0, 0, 0, 0),
  (13, 3, .if_icmp .lt 8, 12, 0, 0, 0),
  (16, 1, .iload_n 2, 0, 0, 0, 0),
  (17, 1, .iconst 4, 0, 0, 0, 0),
  (18, 3, .if_icmp .le 6, 14, 0, 0, 0),
  (21, 2, .bipush (-2), 0, 0, 0, 0),
  (23, 1, .ireturn, 0, 0, 0, 0),
  (24, 1, .aload_n 0, 0, 0, 0, 0),
  (25, 3, .getfield 10, 8, 0, 234, 1),
  (28, 1, .iload_n 1, 0, 0, 0, 0),
  (29, 1, .iload_n 2, 0, 0, 0, 0),
  (30, 3, .invokevirtual 68, 1, 3, 0, 230),
  (33, 1, .aload_n 0, 0, 0, 0, 0),
  (34, 3, .getfield 10, 8, 0, 234, 1),
  (37, 3, .invokevirtual 72, 5, 1, 0, 269),
  (40, 1, .ireturn, 0, 0, 0, 0)]
noncomputable def kd_X8_land : List q_Ent := [
  (0, 1, .iload_n 1, 0, 0, 0, 0),
  (1, 3, .ifCond .eq 17, 8, 0, 0, 0),
  (4, 1, .aload_n 0, 0, 0, 0, 0),
  (5, 3, .getfield 10, 8, 0, 234, 1),
  (8, 1, .iload_n 2, 0, 0, 0, 0),
  (9, 3, .invokevirtual 76, 9, 2, 0, 277),
  (12, 3, .ifCond .ne 19, 15, 0, 0, 0),
  (15, 3, .goto 14, 13, 0, 0, 0),
  (18, 1, .aload_n 0, 0, 0, 0, 0),
  (19, 3, .getfield 10, 8, 0, 234, 1),
  (22, 1, .iload_n 2, 0, 0, 0, 0),
  (23, 3, .invokevirtual 80, 8, 2, 0, 281),
  (26, 3, .ifCond .ne 5, 15, 0, 0, 0),
  (29, 1, .iconst (-1), 0, 0, 0, 0),
  (30, 1, .ireturn, 0, 0, 0, 0),
  (31, 1, .iload_n 3, 0, 0, 0, 0),
  (32, 3, .ifCond .lt 8, 20, 0, 0, 0),
  (35, 1, .iload_n 3, 0, 0, 0, 0),
  (36, 1, .iconst 4, 0, 0, 0, 0),
  (37, 3, .if_icmp .lt 6, 22, 0, 0, 0),
  (40, 2, .bipush (-2), 0, 0, 0, 0),
  (42, 1, .ireturn, 0, 0, 0, 0),
  (43, 1, .iload_n 1, 0, 0, 0, 0),
  (44, 3, .ifCond .eq 15, 30, 0, 0, 0),
  (47, 1, .aload_n 0, 0, 0, 0, 0),
  (48, 3, .getfield 10, 8, 0, 234, 1),
  (51, 1, .iload_n 2, 0, 0, 0, 0),
  (52, 1, .iload_n 3, 0, 0, 0, 0),
  (53, 3, .invokevirtual 83, 22, 3, 0, 285),
  (56, 3, .goto 12, 35, 0, 0, 0),
  (59, 1, .aload_n 0, 0, 0, 0, 0),
  (60, 3, .getfield 10, 8, 0, 234, 1),
  (63, 1, .iload_n 2, 0, 0, 0, 0),
  (64, 1, .iload_n 3, 0, 0, 0, 0),
  (65, 3, .invokevirtual 87, 21, 3, 0, 289),
  (68, 1, .ireturn, 0, 0, 0, 0)]
noncomputable def kd_X8_isMark : List q_Ent := [
  (0, 1, .iload_n 1, 0, 0, 0, 0),
  (1, 3, .ifCond .lt 12, 7, 0, 0, 0),
  (4, 1, .iload_n 1, 0, 0, 0, 0),
  (5, 1, .iconst 5, 0, 0, 0, 0),
  (6, 3, .if_icmp .gt 7, 7, 0, 0, 0),
  (9, 1, .iconst 1, 0, 0, 0, 0),
  (10, 3, .goto 4, 8, 0, 0, 0),
  (13, 1, .iconst 0, 0, 0, 0, 0),
  (14, 1, .ireturn, 0, 0, 0, 0)]
noncomputable def kd_X8_mark : List q_Ent := [
  (0, 1, .aload_n 0, 0, 0, 0, 0),
  (1, 3, .getfield 10, 8, 0, 234, 1),
  (4, 1, .iload_n 1, 0, 0, 0, 0),
  (5, 3, .invokevirtual 80, 8, 2, 0, 281),
  (8, 3, .ifCond .eq 14, 10, 0, 0, 0),
  (11, 1, .aload_n 0, 0, 0, 0, 0),
  (12, 3, .getfield 10, 8, 0, 234, 1),
  (15, 1, .iload_n 2, 0, 0, 0, 0),
  (16, 3, .invokevirtual 76, 9, 2, 0, 277),
  (19, 3, .ifCond .ne 5, 12, 0, 0, 0),
  (22, 1, .iconst (-1), 0, 0, 0, 0),
  (23, 1, .ireturn, 0, 0, 0, 0),
  (24, 1, .aload_n 0, 0, 0, 0, 0),
  (25, 1, .iload_n 3, 0, 0, 0, 0),
  (26, 3, .invokevirtual 90, 89, 2, 0, 297),
  (29, 3, .ifCond .ne 6, 18, 0, 0, 0),
  (32, 2, .bipush (-2), 0, 0, 0, 0),
  (34, 1, .ireturn, 0, 0, 0, 0),
  (35, 1, .aload_n 0, 0, 0, 0, 0),
  (36, 3, .getfield 10, 8, 0, 234, 1),
  (39, 1, .iload_n 1, 0, 0, 0, 0),
  (40, 1, .iload_n 2, 0, 0, 0, 0),
  (41, 3, .invokevirtual 93, 10, 3, 0, 301),
  (44, 2, .istore 4, 0, 0, 0, 0),
  (46, 1, .aload_n 0, 0, 0, 0, 0),
  (47, 3, .getfield 10, 8, 0, 234, 1),
  (50, 1, .iload_n 1, 0, 0, 0, 0),
  (51, 1, .iload_n 2, 0, 0, 0, 0),
  (52, 1, .iload_n 3, 0, 0, 0, 0),
  (53, 3, .invokevirtual 96, 11, 4, 0, 305),
  (56, 2, .iload 4, 0, 0, 0, 0),
  (58, 1, .ireturn, 0, 0, 0, 0)]
noncomputable def kd_X8_card : List q_Ent := [
  (0, 1, .aload_n 0, 0, 0, 0, 0),
  (1, 3, .getfield 10, 8, 0, 234, 1),
  (4, 1, .iload_n 1, 0, 0, 0, 0),
  (5, 3, .invokevirtual 80, 8, 2, 0, 281),
  (8, 3, .ifCond .ne 5, 7, 0, 0, 0),
  (11, 1, .iconst (-1), 0, 0, 0, 0),
  (12, 1, .ireturn, 0, 0, 0, 0),
  (13, 1, .iload_n 2, 0, 0, 0, 0),
  (14, 3, .ifCond .lt 14, 14, 0, 0, 0),
  (17, 1, .iload_n 2, 0, 0, 0, 0),
  (18, 1, .aload_n 0, 0, 0, 0, 0),
  (19, 3, .getfield 10, 8, 0, 234, 1),
  (22, 3, .invokevirtual 100, 7, 1, 0, 313),
  (25, 3, .if_icmp .lt 6, 16, 0, 0, 0),
  (28, 2, .bipush (-2), 0, 0, 0, 0),
  (30, 1, .ireturn, 0, 0, 0, 0),
  (31, 1, .aload_n 0, 0, 0, 0, 0),
  (32, 3, .getfield 10, 8, 0, 234, 1),
  (35, 1, .iload_n 1, 0, 0, 0, 0),
  (36, 3, .invokevirtual 103, 12, 2, 0, 317),
  (39, 1, .istore_n 3, 0, 0, 0, 0),
  (40, 1, .aload_n 0, 0, 0, 0, 0),
  (41, 3, .getfield 10, 8, 0, 234, 1),
  (44, 1, .iload_n 1, 0, 0, 0, 0),
  (45, 1, .iload_n 2, 0, 0, 0, 0),
  (46, 3, .invokevirtual 107, 13, 3, 0, 322),
  (49, 1, .iload_n 3, 0, 0, 0, 0),
  (50, 1, .ireturn, 0, 0, 0, 0)]
noncomputable def kd_X8_lose : List q_Ent := [
  (0, 1, .aload_n 0, 0, 0, 0, 0),
  (1, 3, .getfield 10, 8, 0, 234, 1),
  (4, 1, .iload_n 1, 0, 0, 0, 0),
  (5, 3, .invokevirtual 80, 8, 2, 0, 281),
  (8, 3, .ifCond .ne 5, 7, 0, 0, 0),
  (11, 1, .iconst (-1), 0, 0, 0, 0),
  (12, 1, .ireturn, 0, 0, 0, 0),
  (13, 1, .aload_n 0, 0, 0, 0, 0),
  (14, 3, .getfield 10, 8, 0, 234, 1),
  (17, 1, .iload_n 1, 0, 0, 0, 0),
  (18, 3, .invokevirtual 110, 14, 2, 0, 331),
  (21, 3, .ifCond .eq 7, 14, 0, 0, 0),
  (24, 1, .iconst 0, 0, 0, 0, 0),
  (25, 3, .goto 4, 15, 0, 0, 0),
  (28, 1, .iconst 1, 0, 0, 0, 0),
  (29, 1, .istore_n 3, 0, 0, 0, 0),
  (30, 1, .aload_n 0, 0, 0, 0, 0),
  (31, 3, .getfield 10, 8, 0, 234, 1),
  (34, 1, .iload_n 1, 0, 0, 0, 0),
  (35, 1, .iload_n 2, 0, 0, 0, 0),
  (36, 3, .invokevirtual 113, 16, 3, 0, 335),
  (39, 1, .iload_n 3, 0, 0, 0, 0),
  (40, 1, .ireturn, 0, 0, 0, 0)]
noncomputable def kd_X8_at : List q_Ent := [
  (0, 1, .aload_n 0, 0, 0, 0, 0),
  (1, 3, .getfield 10, 8, 0, 234, 1),
  (4, 1, .iload_n 1, 0, 0, 0, 0),
  (5, 3, .invokevirtual 80, 8, 2, 0, 281),
  (8, 3, .ifCond .eq 14, 10, 0, 0, 0),
  (11, 1, .aload_n 0, 0, 0, 0, 0),
  (12, 3, .getfield 10, 8, 0, 234, 1),
  (15, 1, .iload_n 2, 0, 0, 0, 0),
  (16, 3, .invokevirtual 76, 9, 2, 0, 277),
  (19, 3, .ifCond .ne 5, 12, 0, 0, 0),
  (22, 1, .iconst (-1), 0, 0, 0, 0),
  (23, 1, .ireturn, 0, 0, 0, 0),
  (24, 1, .aload_n 0, 0, 0, 0, 0),
  (25, 3, .getfield 10, 8, 0, 234, 1),
  (28, 1, .iload_n 1, 0, 0, 0, 0),
  (29, 1, .iload_n 2, 0, 0, 0, 0),
  (30, 3, .invokevirtual 93, 10, 3, 0, 301),
  (33, 1, .ireturn, 0, 0, 0, 0)]
noncomputable def kd_X8_write : List q_Ent := [
  (0, 1, .iload_n 1, 0, 0, 0, 0),
  (1, 1, .iconst 1, 0, 0, 0, 0),
  (2, 3, .if_icmp .lt 9, 6, 0, 0, 0),
  (5, 1, .iload_n 1, 0, 0, 0, 0),
  (6, 2, .bipush 8, 0, 0, 0, 0),
  (8, 3, .if_icmp .le 6, 8, 0, 0, 0),
  (11, 2, .bipush (-2), 0, 0, 0, 0),
  (13, 1, .ireturn, 0, 0, 0, 0),
  (14, 1, .aload_n 0, 0, 0, 0, 0),
  (15, 3, .getfield 22, 8, 2, 236, 1),
  (18, 3, .invokevirtual 117, 78, 1, 0, 347),
  (21, 1, .iload_n 1, 0, 0, 0, 0),
  (22, 1, .iadd, 0, 0, 0, 0),
  (23, 2, .bipush 16, 0, 0, 0, 0),
  (25, 3, .if_icmp .le 6, 17, 0, 0, 0),
  (28, 2, .bipush (-4), 0, 0, 0, 0),
  (30, 1, .ireturn, 0, 0, 0, 0),
  (31, 1, .aload_n 0, 0, 0, 0, 0),
  (32, 3, .getfield 22, 8, 2, 236, 1),
  (35, 1, .iload_n 1, 0, 0, 0, 0),
  (36, 1, .lload_n 2, 0, 0, 0, 0),
  (37, 3, .invokevirtual 120, 85, 3, 0, 351),
  (40, 1, .ireturn, 0, 0, 0, 0)]
noncomputable def kd_X8_wipe : List q_Ent := [
  (0, 1, .aload_n 0, 0, 0, 0, 0),
  (1, 3, .getfield 22, 8, 2, 236, 1),
  (4, 3, .invokevirtual 124, 84, 1, 0, 360),
  (7, 1, .ireturn, 0, 0, 0, 0)]
noncomputable def kd_X8_fault : List q_Ent := [
  (0, 1, .aload_n 0, 0, 0, 0, 0),
  (1, 3, .getfield 33, 8, 4, 238, 1),
  (4, 1, .aload_n 0, 0, 0, 0, 0),
  (5, 3, .getfield 22, 8, 2, 236, 1),
  (8, 1, .aload_n 0, 0, 0, 0, 0),
  (9, 3, .getfield 10, 8, 0, 234, 1),
  (12, 3, .invokevirtual 127, 3, 1, 0, 368),
  (15, 3, .invokevirtual 130, 79, 3, 0, 372),
  (18, 1, .ireturn, 0, 0, 0, 0)]
noncomputable def kd_X8_isRule : List q_Ent := [
  (0, 1, .iload_n 1, 0, 0, 0, 0),
  (1, 3, .ifCond .lt 12, 7, 0, 0, 0),
  (4, 1, .iload_n 1, 0, 0, 0, 0),
  (5, 1, .iconst 3, 0, 0, 0, 0),
  (6, 3, .if_icmp .ge 7, 7, 0, 0, 0),
  (9, 1, .iconst 1, 0, 0, 0, 0),
  (10, 3, .goto 4, 8, 0, 0, 0),
  (13, 1, .iconst 0, 0, 0, 0, 0),
  (14, 1, .ireturn, 0, 0, 0, 0)]
noncomputable def kd_X8_rule : List q_Ent := [
  (0, 1, .aload_n 0, 0, 0, 0, 0),
  (1, 1, .iload_n 1, 0, 0, 0, 0),
  (2, 3, .invokevirtual 134, 97, 2, 0, 400),
  (5, 3, .ifCond .ne 5, 6, 0, 0, 0),
  (8, 1, .iconst (-1), 0, 0, 0, 0),
  (9, 1, .ireturn, 0, 0, 0, 0),
  (10, 1, .aload_n 0, 0, 0, 0, 0),
  (11, 3, .getfield 33, 8, 4, 238, 1),
  (14, 1, .aload_n 0, 0, 0, 0, 0),
  (15, 3, .getfield 22, 8, 2, 236, 1),
  (18, 1, .aload_n 0, 0, 0, 0, 0),
  (19, 3, .getfield 10, 8, 0, 234, 1),
  (22, 3, .invokevirtual 127, 3, 1, 0, 368),
  (25, 3, .invokevirtual 130, 79, 3, 0, 372),
  (28, 2, .bipush (-9), 0, 0, 0, 0),
  (30, 3, .if_icmp .eq 6, 18, 0, 0, 0),
  (33, 2, .bipush (-3), 0, 0, 0, 0),
  (35, 1, .ireturn, 0, 0, 0, 0),
  (36, 1, .aload_n 0, 0, 0, 0, 0),
  (37, 3, .getfield 28, 8, 3, 237, 1),
  (40, 1, .iload_n 1, 0, 0, 0, 0),
  (41, 1, .aaload, 0, 0, 0, 0),
  (42, 1, .aload_n 0, 0, 0, 0, 0),
  (43, 3, .getfield 22, 8, 2, 236, 1),
  (46, 1, .aload_n 0, 0, 0, 0, 0),
  (47, 3, .getfield 10, 8, 0, 234, 1),
  (50, 3, .invokevirtual 127, 3, 1, 0, 368),
  (53, 3, .invokevirtual 130, 79, 3, 0, 372),
  (56, 1, .pop, 0, 0, 0, 0),
  (57, 1, .aload_n 0, 0, 0, 0, 0),
  (58, 3, .getfield 28, 8, 3, 237, 1),
  (61, 1, .iload_n 1, 0, 0, 0, 0),
  (62, 1, .aaload, 0, 0, 0, 0),
  (63, 3, .invokevirtual 137, 47, 1, 0, 404),
  (66, 1, .ireturn, 0, 0, 0, 0)]
noncomputable def kd_X8_part : List q_Ent := [
  (0, 1, .aload_n 0, 0, 0, 0, 0),
  (1, 1, .iload_n 1, 0, 0, 0, 0),
  (2, 3, .invokevirtual 134, 97, 2, 0, 400),
  (5, 3, .ifCond .ne 5, 6, 0, 0, 0),
  (8, 1, .iconst (-1), 0, 0, 0, 0),
  (9, 1, .ireturn, 0, 0, 0, 0),
  (10, 1, .aload_n 0, 0, 0, 0, 0),
  (11, 3, .getfield 28, 8, 3, 237, 1),
  (14, 1, .iload_n 1, 0, 0, 0, 0),
  (15, 1, .aaload, 0, 0, 0, 0),
  (16, 1, .iload_n 2, 0, 0, 0, 0),
  (17, 3, .invokevirtual 140, 71, 2, 0, 412),
  (20, 3, .ifCond .eq 16, 20, 0, 0, 0),
  (23, 1, .aload_n 0, 0, 0, 0, 0),
  (24, 3, .getfield 28, 8, 3, 237, 1),
  (27, 1, .iload_n 1, 0, 0, 0, 0),
  (28, 1, .aaload, 0, 0, 0, 0),
  (29, 1, .iload_n 2, 0, 0, 0, 0),
  (30, 3, .invokevirtual 143, 48, 2, 0, 416),
  (33, 3, .goto 5, 21, 0, 0, 0),
  (36, 2, .bipush (-9), 0, 0, 0, 0),
  (38, 1, .ireturn, 0, 0, 0, 0)]
noncomputable def kd_X8_worth : List q_Ent := [
  (0, 1, .aload_n 0, 0, 0, 0, 0),
  (1, 1, .iload_n 1, 0, 0, 0, 0),
  (2, 3, .invokevirtual 134, 97, 2, 0, 400),
  (5, 3, .ifCond .eq 14, 9, 0, 0, 0),
  (8, 1, .aload_n 0, 0, 0, 0, 0),
  (9, 3, .getfield 10, 8, 0, 234, 1),
  (12, 1, .iload_n 2, 0, 0, 0, 0),
  (13, 3, .invokevirtual 76, 9, 2, 0, 277),
  (16, 3, .ifCond .ne 5, 11, 0, 0, 0),
  (19, 1, .iconst (-1), 0, 0, 0, 0),
  (20, 1, .ireturn, 0, 0, 0, 0),
  (21, 1, .aload_n 0, 0, 0, 0, 0),
  (22, 3, .getfield 28, 8, 3, 237, 1),
  (25, 1, .iload_n 1, 0, 0, 0, 0),
  (26, 1, .aaload, 0, 0, 0, 0),
  (27, 1, .iload_n 3, 0, 0, 0, 0),
  (28, 3, .invokevirtual 140, 71, 2, 0, 412),
  (31, 3, .ifCond .ne 6, 20, 0, 0, 0),
  (34, 2, .bipush (-2), 0, 0, 0, 0),
  (36, 1, .ireturn, 0, 0, 0, 0),
  (37, 1, .aload_n 0, 0, 0, 0, 0),
  (38, 3, .getfield 40, 8, 5, 239, 1),
  (41, 1, .aload_n 0, 0, 0, 0, 0),
  (42, 3, .getfield 28, 8, 3, 237, 1),
  (45, 1, .iload_n 1, 0, 0, 0, 0),
  (46, 1, .aaload, 0, 0, 0, 0),
  (47, 1, .aload_n 0, 0, 0, 0, 0),
  (48, 3, .getfield 10, 8, 0, 234, 1),
  (51, 3, .invokevirtual 146, 81, 3, 0, 424),
  (54, 1, .aload_n 0, 0, 0, 0, 0),
  (55, 3, .getfield 40, 8, 5, 239, 1),
  (58, 1, .iload_n 3, 0, 0, 0, 0),
  (59, 1, .iload_n 2, 0, 0, 0, 0),
  (60, 3, .invokevirtual 150, 29, 3, 0, 481),
  (63, 1, .ireturn, 0, 0, 0, 0)]
noncomputable def kd_X8_place : List q_Ent := [
  (0, 1, .aload_n 0, 0, 0, 0, 0),
  (1, 1, .iload_n 1, 0, 0, 0, 0),
  (2, 3, .invokevirtual 134, 97, 2, 0, 400),
  (5, 3, .ifCond .eq 14, 9, 0, 0, 0),
  (8, 1, .aload_n 0, 0, 0, 0, 0),
  (9, 3, .getfield 10, 8, 0, 234, 1),
  (12, 1, .iload_n 2, 0, 0, 0, 0),
  (13, 3, .invokevirtual 76, 9, 2, 0, 277),
  (16, 3, .ifCond .ne 5, 11, 0, 0, 0),
  (19, 1, .iconst (-1), 0, 0, 0, 0),
  (20, 1, .ireturn, 0, 0, 0, 0),
  (21, 1, .aload_n 0, 0, 0, 0, 0),
  (22, 3, .getfield 40, 8, 5, 239, 1),
  (25, 1, .aload_n 0, 0, 0, 0, 0),
  (26, 3, .getfield 28, 8, 3, 237, 1),
  (29, 1, .iload_n 1, 0, 0, 0, 0),
  (30, 1, .aaload, 0, 0, 0, 0),
  (31, 1, .aload_n 0, 0, 0, 0, 0),
  (32, 3, .getfield 10, 8, 0, 234, 1),
  (35, 3, .invokevirtual 146, 81, 3, 0, 424),
  (38, 1, .aload_n 0, 0, 0, 0, 0),
  (39, 3, .getfield 40, 8, 5, 239, 1),
  (42, 1, .iload_n 2, 0, 0, 0, 0),
  (43, 3, .invokevirtual 153, 31, 2, 0, 489),
  (46, 1, .ireturn, 0, 0, 0, 0)]
noncomputable def kd_X8_order : List q_Ent := [
  (0, 1, .aload_n 0, 0, 0, 0, 0),
  (1, 1, .iload_n 1, 0, 0, 0, 0),
  (2, 3, .invokevirtual 134, 97, 2, 0, 400),
  (5, 3, .ifCond .ne 5, 6, 0, 0, 0),
  (8, 1, .iconst (-1), 0, 0, 0, 0),
  (9, 1, .ireturn, 0, 0, 0, 0),
  (10, 1, .aload_n 0, 0, 0, 0, 0),
  (11, 3, .getfield 40, 8, 5, 239, 1),
  (14, 1, .aload_n 0, 0, 0, 0, 0),
  (15, 3, .getfield 28, 8, 3, 237, 1),
  (18, 1, .iload_n 1, 0, 0, 0, 0),
  (19, 1, .aaload, 0, 0, 0, 0),
  (20, 1, .aload_n 0, 0, 0, 0, 0),
  (21, 3, .getfield 10, 8, 0, 234, 1),
  (24, 3, .invokevirtual 146, 81, 3, 0, 424),
  (27, 1, .iconst 0, 0, 0, 0, 0),
  (28, 1, .istore_n 3, 0, 0, 0, 0),
  (29, 1, .iconst 1, 0, 0, 0, 0),
  (30, 2, .istore 4, 0, 0, 0, 0),
  (32, 2, .iload 4, 0, 0, 0, 0),
  (34, 1, .aload_n 0, 0, 0, 0, 0),
  (35, 3, .getfield 10, 8, 0, 234, 1),
  (38, 3, .invokevirtual 156, 4, 1, 0, 502),
  (41, 3, .if_icmp .gt 55, 47, 0, 0, 0),
  (44, 1, .iconst 0, 0, 0, 0, 0),
  (45, 2, .istore 5, 0, 0, 0, 0),
  (47, 2, .iload 5, 0, 0, 0, 0),
  (49, 1, .aload_n 0, 0, 0, 0, 0),
  (50, 3, .getfield 10, 8, 0, 234, 1),
  (53, 3, .invokevirtual 156, 4, 1, 0, 502),
  (56, 3, .if_icmp .ge 34, 45, 0, 0, 0),
  (59, 1, .aload_n 0, 0, 0, 0, 0),
  (60, 3, .getfield 40, 8, 5, 239, 1),
  (63, 2, .iload 5, 0, 0, 0, 0),
  (65, 3, .invokevirtual 153, 31, 2, 0, 489),
  (68, 2, .iload 4, 0, 0, 0, 0),
  (70, 3, .if_icmp .ne 14, 43, 0, 0, 0),
  (73, 1, .iload_n 3, 0, 0, 0, 0),
  (74, 1, .iload_n 2, 0, 0, 0, 0),
  (75, 3, .if_icmp .ne 6, 42, 0, 0, 0),
  (78, 2, .iload 5, 0, 0, 0, 0),
  (80, 1, .ireturn, 0, 0, 0, 0),
  (81, 3, .iinc 3 1, 0, 0, 0, 0),
  (84, 3, .iinc 5 1, 0, 0, 0, 0),
  (87, 3, .goto (-40), 26, 0, 0, 0),
  (90, 3, .iinc 4 1, 0, 0, 0, 0),
  (93, 3, .goto (-61), 19, 0, 0, 0),
  (96, 2, .bipush (-9), 0, 0, 0, 0),
  (98, 1, .ireturn, 0, 0, 0, 0)]
noncomputable def kd_X8_first : List q_Ent := [
  (0, 1, .aload_n 0, 0, 0, 0, 0),
  (1, 1, .iload_n 1, 0, 0, 0, 0),
  (2, 3, .invokevirtual 134, 97, 2, 0, 400),
  (5, 3, .ifCond .ne 5, 6, 0, 0, 0),
  (8, 1, .iconst (-1), 0, 0, 0, 0),
  (9, 1, .ireturn, 0, 0, 0, 0),
  (10, 1, .aload_n 0, 0, 0, 0, 0),
  (11, 3, .getfield 40, 8, 5, 239, 1),
  (14, 1, .aload_n 0, 0, 0, 0, 0),
  (15, 3, .getfield 28, 8, 3, 237, 1),
  (18, 1, .iload_n 1, 0, 0, 0, 0),
  (19, 1, .aaload, 0, 0, 0, 0),
  (20, 1, .aload_n 0, 0, 0, 0, 0),
  (21, 3, .getfield 10, 8, 0, 234, 1),
  (24, 3, .invokevirtual 146, 81, 3, 0, 424),
  (27, 1, .aload_n 0, 0, 0, 0, 0),
  (28, 3, .getfield 40, 8, 5, 239, 1),
  (31, 3, .invokevirtual 159, 82, 1, 0, 507),
  (34, 1, .ireturn, 0, 0, 0, 0)]
noncomputable def kd_X8_apart : List q_Ent := [
  (0, 1, .aload_n 0, 0, 0, 0, 0),
  (1, 1, .iload_n 1, 0, 0, 0, 0),
  (2, 3, .invokevirtual 134, 97, 2, 0, 400),
  (5, 3, .ifCond .eq 11, 8, 0, 0, 0),
  (8, 1, .aload_n 0, 0, 0, 0, 0),
  (9, 1, .iload_n 2, 0, 0, 0, 0),
  (10, 3, .invokevirtual 134, 97, 2, 0, 400),
  (13, 3, .ifCond .ne 5, 10, 0, 0, 0),
  (16, 1, .iconst (-1), 0, 0, 0, 0),
  (17, 1, .ireturn, 0, 0, 0, 0),
  (18, 1, .aload_n 0, 0, 0, 0, 0),
  (19, 3, .getfield 40, 8, 5, 239, 1),
  (22, 1, .aload_n 0, 0, 0, 0, 0),
  (23, 3, .getfield 28, 8, 3, 237, 1),
  (26, 1, .iload_n 1, 0, 0, 0, 0),
  (27, 1, .aaload, 0, 0, 0, 0),
  (28, 1, .aload_n 0, 0, 0, 0, 0),
  (29, 3, .getfield 10, 8, 0, 234, 1),
  (32, 3, .invokevirtual 146, 81, 3, 0, 424),
  (35, 1, .aload_n 0, 0, 0, 0, 0),
  (36, 3, .getfield 44, 8, 6, 240, 1),
  (39, 1, .aload_n 0, 0, 0, 0, 0),
  (40, 3, .getfield 28, 8, 3, 237, 1),
  (43, 1, .iload_n 2, 0, 0, 0, 0),
  (44, 1, .aaload, 0, 0, 0, 0),
  (45, 1, .aload_n 0, 0, 0, 0, 0),
  (46, 3, .getfield 10, 8, 0, 234, 1),
  (49, 3, .invokevirtual 146, 81, 3, 0, 424),
  (52, 1, .iconst 0, 0, 0, 0, 0),
  (53, 1, .istore_n 3, 0, 0, 0, 0),
  (54, 1, .iconst 0, 0, 0, 0, 0),
  (55, 2, .istore 4, 0, 0, 0, 0),
  (57, 2, .iload 4, 0, 0, 0, 0),
  (59, 1, .aload_n 0, 0, 0, 0, 0),
  (60, 3, .getfield 10, 8, 0, 234, 1),
  (63, 3, .invokevirtual 156, 4, 1, 0, 502),
  (66, 3, .if_icmp .ge 86, 73, 0, 0, 0),
  (69, 2, .iload 4, 0, 0, 0, 0),
  (71, 1, .iconst 1, 0, 0, 0, 0),
  (72, 1, .iadd, 0, 0, 0, 0),
  (73, 2, .istore 5, 0, 0, 0, 0),
  (75, 2, .iload 5, 0, 0, 0, 0),
  (77, 1, .aload_n 0, 0, 0, 0, 0),
  (78, 3, .getfield 10, 8, 0, 234, 1),
  (81, 3, .invokevirtual 156, 4, 1, 0, 502),
  (84, 3, .if_icmp .ge 62, 71, 0, 0, 0),
  (87, 1, .aload_n 0, 0, 0, 0, 0),
  (88, 3, .getfield 40, 8, 5, 239, 1),
  (91, 2, .iload 4, 0, 0, 0, 0),
  (93, 2, .iload 5, 0, 0, 0, 0),
  (95, 3, .invokevirtual 162, 30, 3, 0, 516),
  (98, 1, .aload_n 0, 0, 0, 0, 0),
  (99, 3, .getfield 44, 8, 6, 240, 1),
  (102, 2, .iload 4, 0, 0, 0, 0),
  (104, 2, .iload 5, 0, 0, 0, 0),
  (106, 3, .invokevirtual 162, 30, 3, 0, 516),
  (109, 3, .if_icmp .ne 28, 68, 0, 0, 0),
  (112, 1, .aload_n 0, 0, 0, 0, 0),
  (113, 3, .getfield 40, 8, 5, 239, 1),
  (116, 2, .iload 5, 0, 0, 0, 0),
  (118, 2, .iload 4, 0, 0, 0, 0),
  (120, 3, .invokevirtual 162, 30, 3, 0, 516),
  (123, 1, .aload_n 0, 0, 0, 0, 0),
  (124, 3, .getfield 44, 8, 6, 240, 1),
  (127, 2, .iload 5, 0, 0, 0, 0),
  (129, 2, .iload 4, 0, 0, 0, 0),
  (131, 3, .invokevirtual 162, 30, 3, 0, 516),
  (134, 3, .if_icmp .eq 6, 69, 0, 0, 0),
  (137, 3, .iinc 3 1, 0, 0, 0, 0),
  (140, 3, .iinc 5 1, 0, 0, 0, 0),
  (143, 3, .goto (-68), 41, 0, 0, 0),
  (146, 3, .iinc 4 1, 0, 0, 0, 0),
  (149, 3, .goto (-92), 32, 0, 0, 0),
  (152, 1, .iload_n 3, 0, 0, 0, 0),
  (153, 1, .ireturn, 0, 0, 0, 0)]
noncomputable def kd_X8_could : List q_Ent := [
  (0, 1, .aload_n 0, 0, 0, 0, 0),
  (1, 1, .iload_n 1, 0, 0, 0, 0),
  (2, 3, .invokevirtual 134, 97, 2, 0, 400),
  (5, 3, .ifCond .eq 25, 14, 0, 0, 0),
  (8, 1, .aload_n 0, 0, 0, 0, 0),
  (9, 3, .getfield 10, 8, 0, 234, 1),
  (12, 1, .iload_n 2, 0, 0, 0, 0),
  (13, 3, .invokevirtual 80, 8, 2, 0, 281),
  (16, 3, .ifCond .eq 14, 14, 0, 0, 0),
  (19, 1, .aload_n 0, 0, 0, 0, 0),
  (20, 3, .getfield 10, 8, 0, 234, 1),
  (23, 1, .iload_n 3, 0, 0, 0, 0),
  (24, 3, .invokevirtual 76, 9, 2, 0, 277),
  (27, 3, .ifCond .ne 5, 16, 0, 0, 0),
  (30, 1, .iconst (-1), 0, 0, 0, 0),
  (31, 1, .ireturn, 0, 0, 0, 0),
  (32, 1, .aload_n 0, 0, 0, 0, 0),
  (33, 3, .getfield 50, 8, 7, 241, 1),
  (36, 1, .aload_n 0, 0, 0, 0, 0),
  (37, 3, .getfield 28, 8, 3, 237, 1),
  (40, 1, .iload_n 1, 0, 0, 0, 0),
  (41, 1, .aaload, 0, 0, 0, 0),
  (42, 1, .aload_n 0, 0, 0, 0, 0),
  (43, 3, .getfield 10, 8, 0, 234, 1),
  (46, 1, .iload_n 2, 0, 0, 0, 0),
  (47, 3, .invokevirtual 166, 63, 4, 0, 521),
  (50, 1, .aload_n 0, 0, 0, 0, 0),
  (51, 3, .getfield 50, 8, 7, 241, 1),
  (54, 1, .aload_n 0, 0, 0, 0, 0),
  (55, 3, .getfield 50, 8, 7, 241, 1),
  (58, 1, .iload_n 3, 0, 0, 0, 0),
  (59, 1, .iconst 1, 0, 0, 0, 0),
  (60, 3, .invokevirtual 170, 68, 3, 0, 551),
  (63, 1, .iload_n 3, 0, 0, 0, 0),
  (64, 3, .invokevirtual 173, 69, 3, 0, 572),
  (67, 1, .ireturn, 0, 0, 0, 0)]
noncomputable def kd_X8_best : List q_Ent := [
  (0, 1, .aload_n 0, 0, 0, 0, 0),
  (1, 1, .iload_n 1, 0, 0, 0, 0),
  (2, 3, .invokevirtual 134, 97, 2, 0, 400),
  (5, 3, .ifCond .eq 25, 14, 0, 0, 0),
  (8, 1, .aload_n 0, 0, 0, 0, 0),
  (9, 3, .getfield 10, 8, 0, 234, 1),
  (12, 1, .iload_n 2, 0, 0, 0, 0),
  (13, 3, .invokevirtual 80, 8, 2, 0, 281),
  (16, 3, .ifCond .eq 14, 14, 0, 0, 0),
  (19, 1, .aload_n 0, 0, 0, 0, 0),
  (20, 3, .getfield 10, 8, 0, 234, 1),
  (23, 1, .iload_n 3, 0, 0, 0, 0),
  (24, 3, .invokevirtual 76, 9, 2, 0, 277),
  (27, 3, .ifCond .ne 5, 16, 0, 0, 0),
  (30, 1, .iconst (-1), 0, 0, 0, 0),
  (31, 1, .ireturn, 0, 0, 0, 0),
  (32, 1, .aload_n 0, 0, 0, 0, 0),
  (33, 3, .getfield 50, 8, 7, 241, 1),
  (36, 1, .aload_n 0, 0, 0, 0, 0),
  (37, 3, .getfield 28, 8, 3, 237, 1),
  (40, 1, .iload_n 1, 0, 0, 0, 0),
  (41, 1, .aaload, 0, 0, 0, 0),
  (42, 1, .aload_n 0, 0, 0, 0, 0),
  (43, 3, .getfield 10, 8, 0, 234, 1),
  (46, 1, .iload_n 2, 0, 0, 0, 0),
  (47, 3, .invokevirtual 166, 63, 4, 0, 521),
  (50, 1, .aload_n 0, 0, 0, 0, 0),
  (51, 3, .getfield 50, 8, 7, 241, 1),
  (54, 1, .iload_n 3, 0, 0, 0, 0),
  (55, 1, .iconst 1, 0, 0, 0, 0),
  (56, 3, .invokevirtual 170, 68, 3, 0, 551),
  (59, 1, .ireturn, 0, 0, 0, 0)]
noncomputable def kd_X8_bettersOwn : List q_Ent := [
  (0, 1, .iconst 0, 0, 0, 0, 0),
  (1, 1, .istore_n 2, 0, 0, 0, 0),
  (2, 1, .iload_n 2, 0, 0, 0, 0),
  (3, 1, .aload_n 0, 0, 0, 0, 0),
  (4, 3, .getfield 10, 8, 0, 234, 1),
  (7, 3, .invokevirtual 156, 4, 1, 0, 502),
  (10, 3, .if_icmp .ge 60, 38, 0, 0, 0),
  (13, 1, .aload_n 0, 0, 0, 0, 0),
  (14, 3, .getfield 40, 8, 5, 239, 1),
  (17, 1, .iload_n 2, 0, 0, 0, 0),
  (18, 3, .invokevirtual 153, 31, 2, 0, 489),
  (21, 1, .istore_n 3, 0, 0, 0, 0),
  (22, 1, .iload_n 3, 0, 0, 0, 0),
  (23, 1, .iconst 1, 0, 0, 0, 0),
  (24, 3, .if_icmp .le 40, 36, 0, 0, 0),
  (27, 1, .aload_n 0, 0, 0, 0, 0),
  (28, 3, .getfield 10, 8, 0, 234, 1),
  (31, 1, .iload_n 1, 0, 0, 0, 0),
  (32, 1, .iload_n 2, 0, 0, 0, 0),
  (33, 3, .invokevirtual 247, 20, 3, 0, 588),
  (36, 3, .ifCond .eq 28, 36, 0, 0, 0),
  (39, 1, .aload_n 0, 0, 0, 0, 0),
  (40, 3, .getfield 50, 8, 7, 241, 1),
  (43, 1, .aload_n 0, 0, 0, 0, 0),
  (44, 3, .getfield 50, 8, 7, 241, 1),
  (47, 1, .iload_n 2, 0, 0, 0, 0),
  (48, 1, .iload_n 3, 0, 0, 0, 0),
  (49, 1, .iconst 1, 0, 0, 0, 0),
  (50, 1, .isub, 0, 0, 0, 0),
  (51, 3, .invokevirtual 170, 68, 3, 0, 551),
  (54, 1, .iload_n 2, 0, 0, 0, 0),
  (55, 3, .invokevirtual 173, 69, 3, 0, 572),
  (58, 1, .iload_n 3, 0, 0, 0, 0),
  (59, 3, .if_icmp .ge 5, 36, 0, 0, 0),
  (62, 1, .iconst 1, 0, 0, 0, 0),
  (63, 1, .ireturn, 0, 0, 0, 0),
  (64, 3, .iinc 2 1, 0, 0, 0, 0),
  (67, 3, .goto (-65), 2, 0, 0, 0),
  (70, 1, .iconst 0, 0, 0, 0, 0),
  (71, 1, .ireturn, 0, 0, 0, 0)]
noncomputable def kd_X8_bends : List q_Ent := [
  (0, 1, .aload_n 0, 0, 0, 0, 0),
  (1, 1, .iload_n 1, 0, 0, 0, 0),
  (2, 3, .invokevirtual 134, 97, 2, 0, 400),
  (5, 3, .ifCond .eq 14, 9, 0, 0, 0),
  (8, 1, .aload_n 0, 0, 0, 0, 0),
  (9, 3, .getfield 10, 8, 0, 234, 1),
  (12, 1, .iload_n 2, 0, 0, 0, 0),
  (13, 3, .invokevirtual 80, 8, 2, 0, 281),
  (16, 3, .ifCond .ne 5, 11, 0, 0, 0),
  (19, 1, .iconst (-1), 0, 0, 0, 0),
  (20, 1, .ireturn, 0, 0, 0, 0),
  (21, 1, .aload_n 0, 0, 0, 0, 0),
  (22, 3, .getfield 40, 8, 5, 239, 1),
  (25, 1, .aload_n 0, 0, 0, 0, 0),
  (26, 3, .getfield 28, 8, 3, 237, 1),
  (29, 1, .iload_n 1, 0, 0, 0, 0),
  (30, 1, .aaload, 0, 0, 0, 0),
  (31, 1, .aload_n 0, 0, 0, 0, 0),
  (32, 3, .getfield 10, 8, 0, 234, 1),
  (35, 3, .invokevirtual 146, 81, 3, 0, 424),
  (38, 1, .aload_n 0, 0, 0, 0, 0),
  (39, 3, .getfield 50, 8, 7, 241, 1),
  (42, 1, .aload_n 0, 0, 0, 0, 0),
  (43, 3, .getfield 28, 8, 3, 237, 1),
  (46, 1, .iload_n 1, 0, 0, 0, 0),
  (47, 1, .aaload, 0, 0, 0, 0),
  (48, 1, .aload_n 0, 0, 0, 0, 0),
  (49, 3, .getfield 10, 8, 0, 234, 1),
  (52, 1, .iload_n 2, 0, 0, 0, 0),
  (53, 3, .invokevirtual 166, 63, 4, 0, 521),
  (56, 1, .aload_n 0, 0, 0, 0, 0),
  (57, 1, .iload_n 2, 0, 0, 0, 0),
  (58, 3, .invokevirtual 176, 107, 2, 0, 584),
  (61, 3, .ifCond .eq 7, 36, 0, 0, 0),
  (64, 1, .iconst 1, 0, 0, 0, 0),
  (65, 3, .goto 4, 37, 0, 0, 0),
  (68, 1, .iconst 0, 0, 0, 0, 0),
  (69, 1, .ireturn, 0, 0, 0, 0)]
noncomputable def kd_X8_benders : List q_Ent := [
  (0, 1, .aload_n 0, 0, 0, 0, 0),
  (1, 3, .getfield 40, 8, 5, 239, 1),
  (4, 1, .aload_n 1, 0, 0, 0, 0),
  (5, 1, .aload_n 0, 0, 0, 0, 0),
  (6, 3, .getfield 10, 8, 0, 234, 1),
  (9, 3, .invokevirtual 146, 81, 3, 0, 424),
  (12, 1, .iconst 0, 0, 0, 0, 0),
  (13, 1, .istore_n 2, 0, 0, 0, 0),
  (14, 1, .iconst 0, 0, 0, 0, 0),
  (15, 1, .istore_n 3, 0, 0, 0, 0),
  (16, 1, .iload_n 3, 0, 0, 0, 0),
  (17, 1, .aload_n 0, 0, 0, 0, 0),
  (18, 3, .getfield 10, 8, 0, 234, 1),
  (21, 3, .invokevirtual 127, 3, 1, 0, 368),
  (24, 3, .if_icmp .ge 36, 34, 0, 0, 0),
  (27, 1, .aload_n 0, 0, 0, 0, 0),
  (28, 3, .getfield 50, 8, 7, 241, 1),
  (31, 1, .aload_n 1, 0, 0, 0, 0),
  (32, 1, .aload_n 0, 0, 0, 0, 0),
  (33, 3, .getfield 10, 8, 0, 234, 1),
  (36, 1, .iload_n 3, 0, 0, 0, 0),
  (37, 3, .invokevirtual 166, 63, 4, 0, 521),
  (40, 1, .aload_n 0, 0, 0, 0, 0),
  (41, 1, .iload_n 3, 0, 0, 0, 0),
  (42, 3, .invokevirtual 176, 107, 2, 0, 584),
  (45, 3, .ifCond .eq 9, 32, 0, 0, 0),
  (48, 1, .iload_n 2, 0, 0, 0, 0),
  (49, 1, .iconst 1, 0, 0, 0, 0),
  (50, 1, .iload_n 3, 0, 0, 0, 0),
  (51, 1, .ishl, 0, 0, 0, 0),
  (52, 1, .ior, 0, 0, 0, 0),
  (53, 1, .istore_n 2, 0, 0, 0, 0),
  (54, 3, .iinc 3 1, 0, 0, 0, 0),
  (57, 3, .goto (-41), 10, 0, 0, 0),
  (60, 1, .iload_n 2, 0, 0, 0, 0),
  (61, 1, .ireturn, 0, 0, 0, 0)]
noncomputable def kd_X8_bent : List q_Ent := [
  (0, 1, .aload_n 0, 0, 0, 0, 0),
  (1, 1, .iload_n 1, 0, 0, 0, 0),
  (2, 3, .invokevirtual 134, 97, 2, 0, 400),
  (5, 3, .ifCond .ne 5, 6, 0, 0, 0),
  (8, 1, .iconst (-1), 0, 0, 0, 0),
  (9, 1, .ireturn, 0, 0, 0, 0),
  (10, 1, .aload_n 0, 0, 0, 0, 0),
  (11, 1, .aload_n 0, 0, 0, 0, 0),
  (12, 3, .getfield 28, 8, 3, 237, 1),
  (15, 1, .iload_n 1, 0, 0, 0, 0),
  (16, 1, .aaload, 0, 0, 0, 0),
  (17, 3, .invokevirtual 179, 109, 2, 0, 596),
  (20, 1, .ireturn, 0, 0, 0, 0)]
noncomputable def kd_X8_strike : List q_Ent := [
  (0, 1, .iconst 0, 0, 0, 0, 0),
  (1, 1, .istore_n 1, 0, 0, 0, 0),
  (2, 2, .bipush 8, 0, 0, 0, 0),
  (4, 1, .istore_n 2, 0, 0, 0, 0),
  (5, 1, .iconst 0, 0, 0, 0, 0),
  (6, 1, .istore_n 3, 0, 0, 0, 0),
  (7, 1, .iload_n 3, 0, 0, 0, 0),
  (8, 1, .iconst 4, 0, 0, 0, 0),
  (9, 3, .if_icmp .ge 41, 28, 0, 0, 0),
  (12, 1, .aload_n 0, 0, 0, 0, 0),
  (13, 3, .getfield 33, 8, 4, 238, 1),
  (16, 1, .iload_n 3, 0, 0, 0, 0),
  (17, 3, .invokevirtual 183, 72, 2, 0, 604),
  (20, 1, .aload_n 0, 0, 0, 0, 0),
  (21, 1, .aload_n 0, 0, 0, 0, 0),
  (22, 3, .getfield 33, 8, 4, 238, 1),
  (25, 3, .invokevirtual 179, 109, 2, 0, 596),
  (28, 3, .invokestatic 187, 25, 1, 1, 608),
  (31, 2, .istore 4, 0, 0, 0, 0),
  (33, 2, .iload 4, 0, 0, 0, 0),
  (35, 1, .iload_n 2, 0, 0, 0, 0),
  (36, 3, .if_icmp .ge 8, 26, 0, 0, 0),
  (39, 2, .iload 4, 0, 0, 0, 0),
  (41, 1, .istore_n 2, 0, 0, 0, 0),
  (42, 1, .iload_n 3, 0, 0, 0, 0),
  (43, 1, .istore_n 1, 0, 0, 0, 0),
  (44, 3, .iinc 3 1, 0, 0, 0, 0),
  (47, 3, .goto (-40), 6, 0, 0, 0),
  (50, 1, .iload_n 1, 0, 0, 0, 0),
  (51, 1, .ireturn, 0, 0, 0, 0)]
noncomputable def kd_X8_move : List q_Ent := [
  (0, 1, .aload_n 0, 0, 0, 0, 0),
  (1, 1, .iload_n 1, 0, 0, 0, 0),
  (2, 3, .invokevirtual 134, 97, 2, 0, 400),
  (5, 3, .ifCond .eq 25, 14, 0, 0, 0),
  (8, 1, .aload_n 0, 0, 0, 0, 0),
  (9, 3, .getfield 10, 8, 0, 234, 1),
  (12, 1, .iload_n 2, 0, 0, 0, 0),
  (13, 3, .invokevirtual 80, 8, 2, 0, 281),
  (16, 3, .ifCond .eq 14, 14, 0, 0, 0),
  (19, 1, .aload_n 0, 0, 0, 0, 0),
  (20, 3, .getfield 10, 8, 0, 234, 1),
  (23, 1, .iload_n 3, 0, 0, 0, 0),
  (24, 3, .invokevirtual 76, 9, 2, 0, 277),
  (27, 3, .ifCond .ne 5, 16, 0, 0, 0),
  (30, 1, .iconst (-1), 0, 0, 0, 0),
  (31, 1, .ireturn, 0, 0, 0, 0),
  (32, 1, .aload_n 0, 0, 0, 0, 0),
  (33, 2, .iload 4, 0, 0, 0, 0),
  (35, 3, .invokevirtual 90, 89, 2, 0, 297),
  (38, 3, .ifCond .ne 6, 22, 0, 0, 0),
  (41, 2, .bipush (-2), 0, 0, 0, 0),
  (43, 1, .ireturn, 0, 0, 0, 0),
  (44, 1, .aload_n 0, 0, 0, 0, 0),
  (45, 3, .getfield 40, 8, 5, 239, 1),
  (48, 1, .aload_n 0, 0, 0, 0, 0),
  (49, 3, .getfield 28, 8, 3, 237, 1),
  (52, 1, .iload_n 1, 0, 0, 0, 0),
  (53, 1, .aaload, 0, 0, 0, 0),
  (54, 1, .aload_n 0, 0, 0, 0, 0),
  (55, 3, .getfield 10, 8, 0, 234, 1),
  (58, 3, .invokevirtual 146, 81, 3, 0, 424),
  (61, 1, .aload_n 0, 0, 0, 0, 0),
  (62, 3, .getfield 16, 8, 1, 235, 1),
  (65, 1, .aload_n 0, 0, 0, 0, 0),
  (66, 3, .getfield 10, 8, 0, 234, 1),
  (69, 3, .invokevirtual 192, 2, 2, 0, 618),
  (72, 1, .aload_n 0, 0, 0, 0, 0),
  (73, 3, .getfield 16, 8, 1, 235, 1),
  (76, 1, .iload_n 2, 0, 0, 0, 0),
  (77, 1, .iload_n 3, 0, 0, 0, 0),
  (78, 2, .iload 4, 0, 0, 0, 0),
  (80, 3, .invokevirtual 96, 11, 4, 0, 305),
  (83, 1, .aload_n 0, 0, 0, 0, 0),
  (84, 3, .getfield 44, 8, 6, 240, 1),
  (87, 1, .aload_n 0, 0, 0, 0, 0),
  (88, 3, .getfield 28, 8, 3, 237, 1),
  (91, 1, .iload_n 1, 0, 0, 0, 0),
  (92, 1, .aaload, 0, 0, 0, 0),
  (93, 1, .aload_n 0, 0, 0, 0, 0),
  (94, 3, .getfield 16, 8, 1, 235, 1),
  (97, 3, .invokevirtual 146, 81, 3, 0, 424),
  (100, 1, .aload_n 0, 0, 0, 0, 0),
  (101, 3, .getfield 40, 8, 5, 239, 1),
  (104, 1, .iload_n 3, 0, 0, 0, 0),
  (105, 3, .invokevirtual 153, 31, 2, 0, 489),
  (108, 1, .aload_n 0, 0, 0, 0, 0),
  (109, 3, .getfield 44, 8, 6, 240, 1),
  (112, 1, .iload_n 3, 0, 0, 0, 0),
  (113, 3, .invokevirtual 153, 31, 2, 0, 489),
  (116, 1, .isub, 0, 0, 0, 0),
  (117, 2, .bipush 10, 0, 0, 0, 0),
  (119, 1, .iadd, 0, 0, 0, 0),
  (120, 1, .ireturn, 0, 0, 0, 0)]
noncomputable def kd_X8_isJudgeSet : List q_Ent := [
  (0, 1, .iload_n 1, 0, 0, 0, 0),
  (1, 3, .ifCond .lt 18, 9, 0, 0, 0),
  (4, 1, .iload_n 1, 0, 0, 0, 0),
  (5, 1, .aload_n 0, 0, 0, 0, 0),
  (6, 3, .getfield 10, 8, 0, 234, 1),
  (9, 3, .invokevirtual 203, 6, 1, 0, 627),
  (12, 3, .if_icmp .ge 7, 9, 0, 0, 0),
  (15, 1, .iconst 1, 0, 0, 0, 0),
  (16, 3, .goto 4, 10, 0, 0, 0),
  (19, 1, .iconst 0, 0, 0, 0, 0),
  (20, 1, .ireturn, 0, 0, 0, 0)]
noncomputable def kd_X8_placeByBloc : List q_Ent := [
  (0, 1, .aload_n 0, 0, 0, 0, 0),
  (1, 3, .getfield 16, 8, 1, 235, 1),
  (4, 1, .aload_n 0, 0, 0, 0, 0),
  (5, 3, .getfield 10, 8, 0, 234, 1),
  (8, 3, .invokevirtual 192, 2, 2, 0, 618),
  (11, 1, .aload_n 0, 0, 0, 0, 0),
  (12, 3, .getfield 16, 8, 1, 235, 1),
  (15, 1, .iload_n 2, 0, 0, 0, 0),
  (16, 1, .iload_n 3, 0, 0, 0, 0),
  (17, 3, .invokevirtual 250, 23, 3, 0, 635),
  (20, 1, .aload_n 0, 0, 0, 0, 0),
  (21, 3, .getfield 44, 8, 6, 240, 1),
  (24, 1, .aload_n 1, 0, 0, 0, 0),
  (25, 1, .aload_n 0, 0, 0, 0, 0),
  (26, 3, .getfield 16, 8, 1, 235, 1),
  (29, 3, .invokevirtual 146, 81, 3, 0, 424),
  (32, 1, .aload_n 0, 0, 0, 0, 0),
  (33, 3, .getfield 44, 8, 6, 240, 1),
  (36, 1, .iload_n 3, 0, 0, 0, 0),
  (37, 3, .invokevirtual 153, 31, 2, 0, 489),
  (40, 1, .ireturn, 0, 0, 0, 0)]
noncomputable def kd_X8_bloc : List q_Ent := [
  (0, 1, .aload_n 0, 0, 0, 0, 0),
  (1, 1, .iload_n 1, 0, 0, 0, 0),
  (2, 3, .invokevirtual 134, 97, 2, 0, 400),
  (5, 3, .ifCond .eq 14, 9, 0, 0, 0),
  (8, 1, .aload_n 0, 0, 0, 0, 0),
  (9, 3, .getfield 10, 8, 0, 234, 1),
  (12, 1, .iload_n 3, 0, 0, 0, 0),
  (13, 3, .invokevirtual 76, 9, 2, 0, 277),
  (16, 3, .ifCond .ne 5, 11, 0, 0, 0),
  (19, 1, .iconst (-1), 0, 0, 0, 0),
  (20, 1, .ireturn, 0, 0, 0, 0),
  (21, 1, .aload_n 0, 0, 0, 0, 0),
  (22, 1, .iload_n 2, 0, 0, 0, 0),
  (23, 3, .invokevirtual 196, 113, 2, 0, 623),
  (26, 3, .ifCond .ne 6, 17, 0, 0, 0),
  (29, 2, .bipush (-2), 0, 0, 0, 0),
  (31, 1, .ireturn, 0, 0, 0, 0),
  (32, 1, .aload_n 0, 0, 0, 0, 0),
  (33, 1, .aload_n 0, 0, 0, 0, 0),
  (34, 3, .getfield 28, 8, 3, 237, 1),
  (37, 1, .iload_n 1, 0, 0, 0, 0),
  (38, 1, .aaload, 0, 0, 0, 0),
  (39, 1, .iload_n 2, 0, 0, 0, 0),
  (40, 1, .iload_n 3, 0, 0, 0, 0),
  (41, 3, .invokevirtual 199, 114, 4, 0, 631),
  (44, 1, .ireturn, 0, 0, 0, 0)]
noncomputable def kd_X8_few : List q_Ent := [
  (0, 1, .aload_n 0, 0, 0, 0, 0),
  (1, 1, .iload_n 1, 0, 0, 0, 0),
  (2, 3, .invokevirtual 134, 97, 2, 0, 400),
  (5, 3, .ifCond .eq 14, 9, 0, 0, 0),
  (8, 1, .aload_n 0, 0, 0, 0, 0),
  (9, 3, .getfield 10, 8, 0, 234, 1),
  (12, 1, .iload_n 2, 0, 0, 0, 0),
  (13, 3, .invokevirtual 76, 9, 2, 0, 277),
  (16, 3, .ifCond .ne 5, 11, 0, 0, 0),
  (19, 1, .iconst (-1), 0, 0, 0, 0),
  (20, 1, .ireturn, 0, 0, 0, 0),
  (21, 1, .iload_n 3, 0, 0, 0, 0),
  (22, 1, .iconst 1, 0, 0, 0, 0),
  (23, 3, .if_icmp .lt 8, 17, 0, 0, 0),
  (26, 1, .iload_n 3, 0, 0, 0, 0),
  (27, 1, .iconst 4, 0, 0, 0, 0),
  (28, 3, .if_icmp .le 6, 19, 0, 0, 0),
  (31, 2, .bipush (-2), 0, 0, 0, 0),
  (33, 1, .ireturn, 0, 0, 0, 0),
  (34, 2, .bipush (-9), 0, 0, 0, 0),
  (36, 2, .istore 4, 0, 0, 0, 0),
  (38, 2, .bipush 8, 0, 0, 0, 0),
  (40, 2, .istore 5, 0, 0, 0, 0),
  (42, 1, .iconst 0, 0, 0, 0, 0),
  (43, 2, .istore 6, 0, 0, 0, 0),
  (45, 2, .iload 6, 0, 0, 0, 0),
  (47, 1, .aload_n 0, 0, 0, 0, 0),
  (48, 3, .getfield 10, 8, 0, 234, 1),
  (51, 3, .invokevirtual 203, 6, 1, 0, 627),
  (54, 3, .if_icmp .ge 48, 52, 0, 0, 0),
  (57, 2, .iload 6, 0, 0, 0, 0),
  (59, 3, .invokestatic 187, 25, 1, 1, 608),
  (62, 2, .istore 7, 0, 0, 0, 0),
  (64, 2, .iload 7, 0, 0, 0, 0),
  (66, 2, .iload 5, 0, 0, 0, 0),
  (68, 3, .if_icmp .ge 28, 50, 0, 0, 0),
  (71, 1, .aload_n 0, 0, 0, 0, 0),
  (72, 1, .aload_n 0, 0, 0, 0, 0),
  (73, 3, .getfield 28, 8, 3, 237, 1),
  (76, 1, .iload_n 1, 0, 0, 0, 0),
  (77, 1, .aaload, 0, 0, 0, 0),
  (78, 2, .iload 6, 0, 0, 0, 0),
  (80, 1, .iload_n 2, 0, 0, 0, 0),
  (81, 3, .invokevirtual 199, 114, 4, 0, 631),
  (84, 1, .iload_n 3, 0, 0, 0, 0),
  (85, 3, .if_icmp .gt 11, 50, 0, 0, 0),
  (88, 2, .iload 7, 0, 0, 0, 0),
  (90, 2, .istore 5, 0, 0, 0, 0),
  (92, 2, .iload 6, 0, 0, 0, 0),
  (94, 2, .istore 4, 0, 0, 0, 0),
  (96, 3, .iinc 6 1, 0, 0, 0, 0),
  (99, 3, .goto (-54), 25, 0, 0, 0),
  (102, 2, .iload 4, 0, 0, 0, 0),
  (104, 1, .ireturn, 0, 0, 0, 0)]
noncomputable def kd_X8_drawn : List q_Ent := [
  (0, 1, .aload_n 0, 0, 0, 0, 0),
  (1, 1, .iload_n 1, 0, 0, 0, 0),
  (2, 3, .invokevirtual 134, 97, 2, 0, 400),
  (5, 3, .ifCond .eq 14, 9, 0, 0, 0),
  (8, 1, .aload_n 0, 0, 0, 0, 0),
  (9, 3, .getfield 10, 8, 0, 234, 1),
  (12, 1, .iload_n 2, 0, 0, 0, 0),
  (13, 3, .invokevirtual 76, 9, 2, 0, 277),
  (16, 3, .ifCond .ne 5, 11, 0, 0, 0),
  (19, 1, .iconst (-1), 0, 0, 0, 0),
  (20, 1, .ireturn, 0, 0, 0, 0),
  (21, 1, .iload_n 3, 0, 0, 0, 0),
  (22, 1, .iconst 1, 0, 0, 0, 0),
  (23, 3, .if_icmp .lt 14, 19, 0, 0, 0),
  (26, 1, .iload_n 3, 0, 0, 0, 0),
  (27, 1, .aload_n 0, 0, 0, 0, 0),
  (28, 3, .getfield 10, 8, 0, 234, 1),
  (31, 3, .invokevirtual 127, 3, 1, 0, 368),
  (34, 3, .if_icmp .le 6, 21, 0, 0, 0),
  (37, 2, .bipush (-2), 0, 0, 0, 0),
  (39, 1, .ireturn, 0, 0, 0, 0),
  (40, 1, .iconst 0, 0, 0, 0, 0),
  (41, 2, .istore 4, 0, 0, 0, 0),
  (43, 1, .aload_n 0, 0, 0, 0, 0),
  (44, 3, .getfield 10, 8, 0, 234, 1),
  (47, 3, .invokevirtual 206, 15, 1, 0, 647),
  (50, 2, .istore 5, 0, 0, 0, 0),
  (52, 1, .iconst 0, 0, 0, 0, 0),
  (53, 2, .istore 6, 0, 0, 0, 0),
  (55, 2, .iload 6, 0, 0, 0, 0),
  (57, 1, .aload_n 0, 0, 0, 0, 0),
  (58, 3, .getfield 10, 8, 0, 234, 1),
  (61, 3, .invokevirtual 203, 6, 1, 0, 627),
  (64, 3, .if_icmp .ge 81, 72, 0, 0, 0),
  (67, 2, .iload 6, 0, 0, 0, 0),
  (69, 2, .iload 5, 0, 0, 0, 0),
  (71, 1, .iconst (-1), 0, 0, 0, 0),
  (72, 1, .ixor, 0, 0, 0, 0),
  (73, 1, .iand, 0, 0, 0, 0),
  (74, 3, .ifCond .ne 65, 70, 0, 0, 0),
  (77, 2, .iload 6, 0, 0, 0, 0),
  (79, 3, .invokestatic 187, 25, 1, 1, 608),
  (82, 1, .iload_n 3, 0, 0, 0, 0),
  (83, 3, .if_icmp .ne 56, 70, 0, 0, 0),
  (86, 1, .aload_n 0, 0, 0, 0, 0),
  (87, 3, .getfield 16, 8, 1, 235, 1),
  (90, 1, .aload_n 0, 0, 0, 0, 0),
  (91, 3, .getfield 10, 8, 0, 234, 1),
  (94, 3, .invokevirtual 192, 2, 2, 0, 618),
  (97, 1, .aload_n 0, 0, 0, 0, 0),
  (98, 3, .getfield 16, 8, 1, 235, 1),
  (101, 2, .iload 6, 0, 0, 0, 0),
  (103, 3, .invokevirtual 209, 17, 2, 0, 652),
  (106, 1, .aload_n 0, 0, 0, 0, 0),
  (107, 3, .getfield 44, 8, 6, 240, 1),
  (110, 1, .aload_n 0, 0, 0, 0, 0),
  (111, 3, .getfield 28, 8, 3, 237, 1),
  (114, 1, .iload_n 1, 0, 0, 0, 0),
  (115, 1, .aaload, 0, 0, 0, 0),
  (116, 1, .aload_n 0, 0, 0, 0, 0),
  (117, 3, .getfield 16, 8, 1, 235, 1),
  (120, 3, .invokevirtual 146, 81, 3, 0, 424),
  (123, 1, .aload_n 0, 0, 0, 0, 0),
  (124, 3, .getfield 44, 8, 6, 240, 1),
  (127, 3, .invokevirtual 159, 82, 1, 0, 507),
  (130, 1, .iconst 1, 0, 0, 0, 0),
  (131, 1, .iload_n 2, 0, 0, 0, 0),
  (132, 1, .ishl, 0, 0, 0, 0),
  (133, 3, .if_icmp .ne 6, 70, 0, 0, 0),
  (136, 3, .iinc 4 1, 0, 0, 0, 0),
  (139, 3, .iinc 6 1, 0, 0, 0, 0),
  (142, 3, .goto (-87), 29, 0, 0, 0),
  (145, 2, .iload 4, 0, 0, 0, 0),
  (147, 1, .ireturn, 0, 0, 0, 0)]
noncomputable def kd_X8_leftOut : List q_Ent := [
  (0, 1, .aload_n 0, 0, 0, 0, 0),
  (1, 1, .iload_n 1, 0, 0, 0, 0),
  (2, 3, .invokevirtual 134, 97, 2, 0, 400),
  (5, 3, .ifCond .ne 5, 6, 0, 0, 0),
  (8, 1, .iconst (-1), 0, 0, 0, 0),
  (9, 1, .ireturn, 0, 0, 0, 0),
  (10, 1, .aload_n 0, 0, 0, 0, 0),
  (11, 3, .getfield 40, 8, 5, 239, 1),
  (14, 1, .aload_n 0, 0, 0, 0, 0),
  (15, 3, .getfield 28, 8, 3, 237, 1),
  (18, 1, .iload_n 1, 0, 0, 0, 0),
  (19, 1, .aaload, 0, 0, 0, 0),
  (20, 1, .aload_n 0, 0, 0, 0, 0),
  (21, 3, .getfield 10, 8, 0, 234, 1),
  (24, 3, .invokevirtual 146, 81, 3, 0, 424),
  (27, 1, .iconst 0, 0, 0, 0, 0),
  (28, 1, .istore_n 2, 0, 0, 0, 0),
  (29, 1, .iconst 0, 0, 0, 0, 0),
  (30, 1, .istore_n 3, 0, 0, 0, 0),
  (31, 1, .iload_n 3, 0, 0, 0, 0),
  (32, 1, .aload_n 0, 0, 0, 0, 0),
  (33, 3, .getfield 10, 8, 0, 234, 1),
  (36, 3, .invokevirtual 127, 3, 1, 0, 368),
  (39, 3, .if_icmp .ge 77, 58, 0, 0, 0),
  (42, 1, .aload_n 0, 0, 0, 0, 0),
  (43, 3, .getfield 10, 8, 0, 234, 1),
  (46, 1, .iload_n 3, 0, 0, 0, 0),
  (47, 3, .invokevirtual 110, 14, 2, 0, 331),
  (50, 3, .ifCond .eq 60, 56, 0, 0, 0),
  (53, 1, .aload_n 0, 0, 0, 0, 0),
  (54, 3, .getfield 16, 8, 1, 235, 1),
  (57, 1, .aload_n 0, 0, 0, 0, 0),
  (58, 3, .getfield 10, 8, 0, 234, 1),
  (61, 3, .invokevirtual 192, 2, 2, 0, 618),
  (64, 1, .aload_n 0, 0, 0, 0, 0),
  (65, 3, .getfield 16, 8, 1, 235, 1),
  (68, 1, .iload_n 3, 0, 0, 0, 0),
  (69, 1, .iconst 1, 0, 0, 0, 0),
  (70, 3, .invokevirtual 113, 16, 3, 0, 335),
  (73, 1, .aload_n 0, 0, 0, 0, 0),
  (74, 3, .getfield 44, 8, 6, 240, 1),
  (77, 1, .aload_n 0, 0, 0, 0, 0),
  (78, 3, .getfield 28, 8, 3, 237, 1),
  (81, 1, .iload_n 1, 0, 0, 0, 0),
  (82, 1, .aaload, 0, 0, 0, 0),
  (83, 1, .aload_n 0, 0, 0, 0, 0),
  (84, 3, .getfield 16, 8, 1, 235, 1),
  (87, 3, .invokevirtual 146, 81, 3, 0, 424),
  (90, 1, .aload_n 0, 0, 0, 0, 0),
  (91, 3, .getfield 44, 8, 6, 240, 1),
  (94, 3, .invokevirtual 159, 82, 1, 0, 507),
  (97, 1, .aload_n 0, 0, 0, 0, 0),
  (98, 3, .getfield 40, 8, 5, 239, 1),
  (101, 3, .invokevirtual 159, 82, 1, 0, 507),
  (104, 3, .if_icmp .eq 6, 56, 0, 0, 0),
  (107, 3, .iinc 2 1, 0, 0, 0, 0),
  (110, 3, .iinc 3 1, 0, 0, 0, 0),
  (113, 3, .goto (-82), 19, 0, 0, 0),
  (116, 1, .iload_n 2, 0, 0, 0, 0),
  (117, 1, .ireturn, 0, 0, 0, 0)]
noncomputable def kd_X8_doesTurn : List q_Ent := [
  (0, 1, .aload_n 0, 0, 0, 0, 0),
  (1, 3, .getfield 16, 8, 1, 235, 1),
  (4, 1, .aload_n 0, 0, 0, 0, 0),
  (5, 3, .getfield 10, 8, 0, 234, 1),
  (8, 3, .invokevirtual 192, 2, 2, 0, 618),
  (11, 1, .iconst 0, 0, 0, 0, 0),
  (12, 2, .istore 5, 0, 0, 0, 0),
  (14, 2, .iload 5, 0, 0, 0, 0),
  (16, 1, .aload_n 0, 0, 0, 0, 0),
  (17, 3, .getfield 10, 8, 0, 234, 1),
  (20, 3, .invokevirtual 127, 3, 1, 0, 368),
  (23, 3, .if_icmp .ge 98, 56, 0, 0, 0),
  (26, 1, .aload_n 0, 0, 0, 0, 0),
  (27, 3, .getfield 10, 8, 0, 234, 1),
  (30, 2, .iload 5, 0, 0, 0, 0),
  (32, 3, .invokevirtual 110, 14, 2, 0, 331),
  (35, 3, .ifCond .eq 80, 54, 0, 0, 0),
  (38, 1, .iconst 0, 0, 0, 0, 0),
  (39, 2, .istore 6, 0, 0, 0, 0),
  (41, 2, .iload 6, 0, 0, 0, 0),
  (43, 2, .bipush 6, 0, 0, 0, 0),
  (45, 3, .if_icmp .ge 48, 44, 0, 0, 0),
  (48, 1, .aload_n 0, 0, 0, 0, 0),
  (49, 3, .getfield 16, 8, 1, 235, 1),
  (52, 2, .iload 5, 0, 0, 0, 0),
  (54, 2, .iload 4, 0, 0, 0, 0),
  (56, 2, .iload 6, 0, 0, 0, 0),
  (58, 3, .invokevirtual 96, 11, 4, 0, 305),
  (61, 1, .aload_n 0, 0, 0, 0, 0),
  (62, 3, .getfield 44, 8, 6, 240, 1),
  (65, 1, .aload_n 1, 0, 0, 0, 0),
  (66, 1, .aload_n 0, 0, 0, 0, 0),
  (67, 3, .getfield 16, 8, 1, 235, 1),
  (70, 3, .invokevirtual 146, 81, 3, 0, 424),
  (73, 1, .aload_n 0, 0, 0, 0, 0),
  (74, 3, .getfield 44, 8, 6, 240, 1),
  (77, 1, .iload_n 2, 0, 0, 0, 0),
  (78, 1, .iload_n 3, 0, 0, 0, 0),
  (79, 3, .invokevirtual 162, 30, 3, 0, 516),
  (82, 3, .ifCond .ne 5, 42, 0, 0, 0),
  (85, 1, .iconst 1, 0, 0, 0, 0),
  (86, 1, .ireturn, 0, 0, 0, 0),
  (87, 3, .iinc 6 1, 0, 0, 0, 0),
  (90, 3, .goto (-49), 19, 0, 0, 0),
  (93, 1, .aload_n 0, 0, 0, 0, 0),
  (94, 3, .getfield 16, 8, 1, 235, 1),
  (97, 2, .iload 5, 0, 0, 0, 0),
  (99, 2, .iload 4, 0, 0, 0, 0),
  (101, 1, .aload_n 0, 0, 0, 0, 0),
  (102, 3, .getfield 10, 8, 0, 234, 1),
  (105, 2, .iload 5, 0, 0, 0, 0),
  (107, 2, .iload 4, 0, 0, 0, 0),
  (109, 3, .invokevirtual 93, 10, 3, 0, 301),
  (112, 3, .invokevirtual 96, 11, 4, 0, 305),
  (115, 3, .iinc 5 1, 0, 0, 0, 0),
  (118, 3, .goto (-104), 7, 0, 0, 0),
  (121, 1, .iconst 0, 0, 0, 0, 0),
  (122, 1, .ireturn, 0, 0, 0, 0)]
noncomputable def kd_X8_turns : List q_Ent := [
  (0, 1, .aload_n 0, 0, 0, 0, 0),
  (1, 1, .iload_n 1, 0, 0, 0, 0),
  (2, 3, .invokevirtual 134, 97, 2, 0, 400),
  (5, 3, .ifCond .eq 37, 19, 0, 0, 0),
  (8, 1, .aload_n 0, 0, 0, 0, 0),
  (9, 3, .getfield 10, 8, 0, 234, 1),
  (12, 1, .iload_n 2, 0, 0, 0, 0),
  (13, 3, .invokevirtual 76, 9, 2, 0, 277),
  (16, 3, .ifCond .eq 26, 19, 0, 0, 0),
  (19, 1, .aload_n 0, 0, 0, 0, 0),
  (20, 3, .getfield 10, 8, 0, 234, 1),
  (23, 1, .iload_n 3, 0, 0, 0, 0),
  (24, 3, .invokevirtual 76, 9, 2, 0, 277),
  (27, 3, .ifCond .eq 15, 19, 0, 0, 0),
  (30, 1, .aload_n 0, 0, 0, 0, 0),
  (31, 3, .getfield 10, 8, 0, 234, 1),
  (34, 2, .iload 4, 0, 0, 0, 0),
  (36, 3, .invokevirtual 76, 9, 2, 0, 277),
  (39, 3, .ifCond .ne 5, 21, 0, 0, 0),
  (42, 1, .iconst (-1), 0, 0, 0, 0),
  (43, 1, .ireturn, 0, 0, 0, 0),
  (44, 1, .iload_n 2, 0, 0, 0, 0),
  (45, 1, .iload_n 3, 0, 0, 0, 0),
  (46, 3, .if_icmp .eq 15, 30, 0, 0, 0),
  (49, 1, .iload_n 2, 0, 0, 0, 0),
  (50, 2, .iload 4, 0, 0, 0, 0),
  (52, 3, .if_icmp .eq 9, 30, 0, 0, 0),
  (55, 1, .iload_n 3, 0, 0, 0, 0),
  (56, 2, .iload 4, 0, 0, 0, 0),
  (58, 3, .if_icmp .ne 6, 32, 0, 0, 0),
  (61, 2, .bipush (-2), 0, 0, 0, 0),
  (63, 1, .ireturn, 0, 0, 0, 0),
  (64, 1, .aload_n 0, 0, 0, 0, 0),
  (65, 3, .getfield 40, 8, 5, 239, 1),
  (68, 1, .aload_n 0, 0, 0, 0, 0),
  (69, 3, .getfield 28, 8, 3, 237, 1),
  (72, 1, .iload_n 1, 0, 0, 0, 0),
  (73, 1, .aaload, 0, 0, 0, 0),
  (74, 1, .aload_n 0, 0, 0, 0, 0),
  (75, 3, .getfield 10, 8, 0, 234, 1),
  (78, 3, .invokevirtual 146, 81, 3, 0, 424),
  (81, 1, .aload_n 0, 0, 0, 0, 0),
  (82, 3, .getfield 40, 8, 5, 239, 1),
  (85, 1, .iload_n 2, 0, 0, 0, 0),
  (86, 1, .iload_n 3, 0, 0, 0, 0),
  (87, 3, .invokevirtual 162, 30, 3, 0, 516),
  (90, 3, .ifCond .ne 6, 49, 0, 0, 0),
  (93, 2, .bipush (-3), 0, 0, 0, 0),
  (95, 1, .ireturn, 0, 0, 0, 0),
  (96, 1, .aload_n 0, 0, 0, 0, 0),
  (97, 1, .aload_n 0, 0, 0, 0, 0),
  (98, 3, .getfield 28, 8, 3, 237, 1),
  (101, 1, .iload_n 1, 0, 0, 0, 0),
  (102, 1, .aaload, 0, 0, 0, 0),
  (103, 1, .iload_n 2, 0, 0, 0, 0),
  (104, 1, .iload_n 3, 0, 0, 0, 0),
  (105, 2, .iload 4, 0, 0, 0, 0),
  (107, 3, .invokevirtual 212, 119, 5, 0, 664),
  (110, 3, .ifCond .eq 7, 61, 0, 0, 0),
  (113, 1, .iconst 1, 0, 0, 0, 0),
  (114, 3, .goto 4, 62, 0, 0, 0),
  (117, 1, .iconst 0, 0, 0, 0, 0),
  (118, 1, .ireturn, 0, 0, 0, 0)]
noncomputable def kd_X8_thirds : List q_Ent := [
  (0, 1, .aload_n 0, 0, 0, 0, 0),
  (1, 1, .iload_n 1, 0, 0, 0, 0),
  (2, 3, .invokevirtual 134, 97, 2, 0, 400),
  (5, 3, .ifCond .ne 5, 6, 0, 0, 0),
  (8, 1, .iconst (-1), 0, 0, 0, 0),
  (9, 1, .ireturn, 0, 0, 0, 0),
  (10, 1, .aload_n 0, 0, 0, 0, 0),
  (11, 3, .getfield 40, 8, 5, 239, 1),
  (14, 1, .aload_n 0, 0, 0, 0, 0),
  (15, 3, .getfield 28, 8, 3, 237, 1),
  (18, 1, .iload_n 1, 0, 0, 0, 0),
  (19, 1, .aaload, 0, 0, 0, 0),
  (20, 1, .aload_n 0, 0, 0, 0, 0),
  (21, 3, .getfield 10, 8, 0, 234, 1),
  (24, 3, .invokevirtual 146, 81, 3, 0, 424),
  (27, 1, .iconst 0, 0, 0, 0, 0),
  (28, 1, .istore_n 2, 0, 0, 0, 0),
  (29, 1, .iconst 0, 0, 0, 0, 0),
  (30, 1, .istore_n 3, 0, 0, 0, 0),
  (31, 1, .iload_n 3, 0, 0, 0, 0),
  (32, 1, .aload_n 0, 0, 0, 0, 0),
  (33, 3, .getfield 10, 8, 0, 234, 1),
  (36, 3, .invokevirtual 156, 4, 1, 0, 502),
  (39, 3, .if_icmp .ge 98, 67, 0, 0, 0),
  (42, 1, .iconst 0, 0, 0, 0, 0),
  (43, 2, .istore 4, 0, 0, 0, 0),
  (45, 2, .iload 4, 0, 0, 0, 0),
  (47, 1, .aload_n 0, 0, 0, 0, 0),
  (48, 3, .getfield 10, 8, 0, 234, 1),
  (51, 3, .invokevirtual 156, 4, 1, 0, 502),
  (54, 3, .if_icmp .ge 77, 65, 0, 0, 0),
  (57, 1, .iconst 0, 0, 0, 0, 0),
  (58, 2, .istore 5, 0, 0, 0, 0),
  (60, 2, .iload 5, 0, 0, 0, 0),
  (62, 1, .aload_n 0, 0, 0, 0, 0),
  (63, 3, .getfield 10, 8, 0, 234, 1),
  (66, 3, .invokevirtual 156, 4, 1, 0, 502),
  (69, 3, .if_icmp .ge 56, 63, 0, 0, 0),
  (72, 1, .aload_n 0, 0, 0, 0, 0),
  (73, 3, .getfield 40, 8, 5, 239, 1),
  (76, 1, .iload_n 3, 0, 0, 0, 0),
  (77, 2, .iload 4, 0, 0, 0, 0),
  (79, 3, .invokevirtual 162, 30, 3, 0, 516),
  (82, 3, .ifCond .eq 43, 63, 0, 0, 0),
  (85, 2, .iload 5, 0, 0, 0, 0),
  (87, 1, .iload_n 3, 0, 0, 0, 0),
  (88, 3, .if_icmp .eq 31, 61, 0, 0, 0),
  (91, 2, .iload 5, 0, 0, 0, 0),
  (93, 2, .iload 4, 0, 0, 0, 0),
  (95, 3, .if_icmp .eq 24, 61, 0, 0, 0),
  (98, 1, .aload_n 0, 0, 0, 0, 0),
  (99, 1, .aload_n 0, 0, 0, 0, 0),
  (100, 3, .getfield 28, 8, 3, 237, 1),
  (103, 1, .iload_n 1, 0, 0, 0, 0),
  (104, 1, .aaload, 0, 0, 0, 0),
  (105, 1, .iload_n 3, 0, 0, 0, 0),
  (106, 2, .iload 4, 0, 0, 0, 0),
  (108, 2, .iload 5, 0, 0, 0, 0),
  (110, 3, .invokevirtual 212, 119, 5, 0, 664),
  (113, 3, .ifCond .eq 6, 61, 0, 0, 0),
  (116, 3, .iinc 2 1, 0, 0, 0, 0),
  (119, 3, .iinc 5 1, 0, 0, 0, 0),
  (122, 3, .goto (-62), 33, 0, 0, 0),
  (125, 3, .iinc 4 1, 0, 0, 0, 0),
  (128, 3, .goto (-83), 26, 0, 0, 0),
  (131, 3, .iinc 3 1, 0, 0, 0, 0),
  (134, 3, .goto (-103), 19, 0, 0, 0),
  (137, 1, .iload_n 2, 0, 0, 0, 0),
  (138, 1, .ireturn, 0, 0, 0, 0)]
noncomputable def kd_X8_keep : List q_Ent := [
  (0, 1, .aload_n 0, 0, 0, 0, 0),
  (1, 3, .getfield 57, 8, 8, 242, 1),
  (4, 3, .invokevirtual 216, 37, 1, 0, 676),
  (7, 3, .ifCond .eq 17, 10, 0, 0, 0),
  (10, 1, .aload_n 0, 0, 0, 0, 0),
  (11, 3, .getfield 57, 8, 8, 242, 1),
  (14, 1, .aload_n 0, 0, 0, 0, 0),
  (15, 3, .getfield 10, 8, 0, 234, 1),
  (18, 3, .invokevirtual 220, 38, 2, 0, 680),
  (21, 3, .goto 5, 11, 0, 0, 0),
  (24, 2, .bipush (-4), 0, 0, 0, 0),
  (26, 1, .ireturn, 0, 0, 0, 0)]
noncomputable def kd_X8_forget : List q_Ent := [
  (0, 1, .aload_n 0, 0, 0, 0, 0),
  (1, 3, .getfield 57, 8, 8, 242, 1),
  (4, 3, .invokevirtual 224, 39, 1, 0, 689),
  (7, 1, .ireturn, 0, 0, 0, 0)]
noncomputable def kd_X8_lean : List q_Ent := [
  (0, 1, .iload_n 1, 0, 0, 0, 0),
  (1, 3, .ifCond .lt 9, 5, 0, 0, 0),
  (4, 1, .iload_n 1, 0, 0, 0, 0),
  (5, 2, .bipush 7, 0, 0, 0, 0),
  (7, 3, .if_icmp .lt 5, 7, 0, 0, 0),
  (10, 1, .iconst (-1), 0, 0, 0, 0),
  (11, 1, .ireturn, 0, 0, 0, 0),
  (12, 1, .aload_n 0, 0, 0, 0, 0),
  (13, 3, .getfield 57, 8, 8, 242, 1),
  (16, 1, .iload_n 1, 0, 0, 0, 0),
  (17, 3, .invokevirtual 225, 41, 2, 0, 697),
  (20, 1, .ireturn, 0, 0, 0, 0)]
noncomputable def kd_X8_seldom : List q_Ent := [
  (0, 1, .iload_n 1, 0, 0, 0, 0),
  (1, 3, .ifCond .lt 9, 5, 0, 0, 0),
  (4, 1, .iload_n 1, 0, 0, 0, 0),
  (5, 2, .bipush 7, 0, 0, 0, 0),
  (7, 3, .if_icmp .lt 5, 7, 0, 0, 0),
  (10, 1, .iconst (-1), 0, 0, 0, 0),
  (11, 1, .ireturn, 0, 0, 0, 0),
  (12, 1, .aload_n 0, 0, 0, 0, 0),
  (13, 3, .getfield 57, 8, 8, 242, 1),
  (16, 1, .iload_n 1, 0, 0, 0, 0),
  (17, 3, .invokevirtual 228, 44, 2, 0, 721),
  (20, 1, .ireturn, 0, 0, 0, 0)]
noncomputable def kd_X8_leaner : List q_Ent := [
  (0, 1, .aload_n 0, 0, 0, 0, 0),
  (1, 3, .getfield 57, 8, 8, 242, 1),
  (4, 3, .invokevirtual 231, 36, 1, 0, 738),
  (7, 3, .ifCond .ne 6, 6, 0, 0, 0),
  (10, 2, .bipush (-9), 0, 0, 0, 0),
  (12, 1, .ireturn, 0, 0, 0, 0),
  (13, 1, .iconst 0, 0, 0, 0, 0),
  (14, 1, .istore_n 1, 0, 0, 0, 0),
  (15, 1, .iconst 1, 0, 0, 0, 0),
  (16, 1, .istore_n 2, 0, 0, 0, 0),
  (17, 1, .iload_n 2, 0, 0, 0, 0),
  (18, 2, .bipush 7, 0, 0, 0, 0),
  (20, 3, .if_icmp .ge 30, 26, 0, 0, 0),
  (23, 1, .aload_n 0, 0, 0, 0, 0),
  (24, 3, .getfield 57, 8, 8, 242, 1),
  (27, 1, .iload_n 2, 0, 0, 0, 0),
  (28, 3, .invokevirtual 225, 41, 2, 0, 697),
  (31, 1, .aload_n 0, 0, 0, 0, 0),
  (32, 3, .getfield 57, 8, 8, 242, 1),
  (35, 1, .iload_n 1, 0, 0, 0, 0),
  (36, 3, .invokevirtual 225, 41, 2, 0, 697),
  (39, 3, .if_icmp .le 5, 24, 0, 0, 0),
  (42, 1, .iload_n 2, 0, 0, 0, 0),
  (43, 1, .istore_n 1, 0, 0, 0, 0),
  (44, 3, .iinc 2 1, 0, 0, 0, 0),
  (47, 3, .goto (-30), 10, 0, 0, 0),
  (50, 1, .iload_n 1, 0, 0, 0, 0),
  (51, 1, .ireturn, 0, 0, 0, 0)]
noncomputable def kd_X8_again : List q_Ent := [
  (0, 1, .iload_n 1, 0, 0, 0, 0),
  (1, 3, .ifCond .lt 14, 7, 0, 0, 0),
  (4, 1, .iload_n 1, 0, 0, 0, 0),
  (5, 1, .aload_n 0, 0, 0, 0, 0),
  (6, 3, .getfield 57, 8, 8, 242, 1),
  (9, 3, .invokevirtual 231, 36, 1, 0, 738),
  (12, 3, .if_icmp .lt 5, 9, 0, 0, 0),
  (15, 1, .iconst (-1), 0, 0, 0, 0),
  (16, 1, .ireturn, 0, 0, 0, 0),
  (17, 1, .aload_n 0, 0, 0, 0, 0),
  (18, 3, .getfield 10, 8, 0, 234, 1),
  (21, 1, .aload_n 0, 0, 0, 0, 0),
  (22, 3, .getfield 57, 8, 8, 242, 1),
  (25, 1, .iload_n 1, 0, 0, 0, 0),
  (26, 3, .invokevirtual 232, 40, 2, 0, 746),
  (29, 3, .invokevirtual 192, 2, 2, 0, 618),
  (32, 1, .aload_n 0, 0, 0, 0, 0),
  (33, 3, .getfield 10, 8, 0, 234, 1),
  (36, 3, .invokevirtual 72, 5, 1, 0, 269),
  (39, 1, .ireturn, 0, 0, 0, 0)]
noncomputable def kd_X8_minded : List q_Ent := [
  (0, 1, .aload_n 0, 0, 0, 0, 0),
  (1, 1, .iload_n 1, 0, 0, 0, 0),
  (2, 3, .invokevirtual 134, 97, 2, 0, 400),
  (5, 3, .ifCond .eq 14, 9, 0, 0, 0),
  (8, 1, .aload_n 0, 0, 0, 0, 0),
  (9, 3, .getfield 10, 8, 0, 234, 1),
  (12, 1, .iload_n 3, 0, 0, 0, 0),
  (13, 3, .invokevirtual 76, 9, 2, 0, 277),
  (16, 3, .ifCond .ne 5, 11, 0, 0, 0),
  (19, 1, .iconst (-1), 0, 0, 0, 0),
  (20, 1, .ireturn, 0, 0, 0, 0),
  (21, 1, .aload_n 0, 0, 0, 0, 0),
  (22, 1, .iload_n 2, 0, 0, 0, 0),
  (23, 3, .invokevirtual 196, 113, 2, 0, 623),
  (26, 3, .ifCond .ne 6, 17, 0, 0, 0),
  (29, 2, .bipush (-2), 0, 0, 0, 0),
  (31, 1, .ireturn, 0, 0, 0, 0),
  (32, 1, .aload_n 0, 0, 0, 0, 0),
  (33, 3, .getfield 16, 8, 1, 235, 1),
  (36, 1, .aload_n 0, 0, 0, 0, 0),
  (37, 3, .getfield 10, 8, 0, 234, 1),
  (40, 3, .invokevirtual 192, 2, 2, 0, 618),
  (43, 1, .aload_n 0, 0, 0, 0, 0),
  (44, 3, .getfield 16, 8, 1, 235, 1),
  (47, 1, .iload_n 2, 0, 0, 0, 0),
  (48, 3, .invokevirtual 236, 24, 2, 0, 754),
  (51, 1, .aload_n 0, 0, 0, 0, 0),
  (52, 3, .getfield 44, 8, 6, 240, 1),
  (55, 1, .aload_n 0, 0, 0, 0, 0),
  (56, 3, .getfield 28, 8, 3, 237, 1),
  (59, 1, .iload_n 1, 0, 0, 0, 0),
  (60, 1, .aaload, 0, 0, 0, 0),
  (61, 1, .aload_n 0, 0, 0, 0, 0),
  (62, 3, .getfield 16, 8, 1, 235, 1),
  (65, 3, .invokevirtual 146, 81, 3, 0, 424),
  (68, 1, .aload_n 0, 0, 0, 0, 0),
  (69, 3, .getfield 44, 8, 6, 240, 1),
  (72, 1, .iload_n 3, 0, 0, 0, 0),
  (73, 3, .invokevirtual 153, 31, 2, 0, 489),
  (76, 1, .ireturn, 0, 0, 0, 0)]
noncomputable def kd_X8_noteMind : List q_Ent := [
  (0, 1, .aload_n 0, 0, 0, 0, 0),
  (1, 3, .getfield 16, 8, 1, 235, 1),
  (4, 1, .aload_n 0, 0, 0, 0, 0),
  (5, 3, .getfield 10, 8, 0, 234, 1),
  (8, 3, .invokevirtual 192, 2, 2, 0, 618),
  (11, 1, .aload_n 0, 0, 0, 0, 0),
  (12, 3, .getfield 16, 8, 1, 235, 1),
  (15, 1, .iload_n 2, 0, 0, 0, 0),
  (16, 3, .invokevirtual 236, 24, 2, 0, 754),
  (19, 1, .aload_n 0, 0, 0, 0, 0),
  (20, 3, .getfield 44, 8, 6, 240, 1),
  (23, 1, .aload_n 1, 0, 0, 0, 0),
  (24, 1, .aload_n 0, 0, 0, 0, 0),
  (25, 3, .getfield 16, 8, 1, 235, 1),
  (28, 3, .invokevirtual 146, 81, 3, 0, 424),
  (31, 1, .aload_n 0, 0, 0, 0, 0),
  (32, 3, .getfield 64, 8, 9, 243, 1),
  (35, 1, .iload_n 2, 0, 0, 0, 0),
  (36, 1, .aload_n 0, 0, 0, 0, 0),
  (37, 3, .getfield 16, 8, 1, 235, 1),
  (40, 1, .aload_n 0, 0, 0, 0, 0),
  (41, 3, .getfield 44, 8, 6, 240, 1),
  (44, 3, .invokevirtual 253, 32, 4, 0, 767),
  (47, 1, .return_, 0, 0, 0, 0)]
noncomputable def kd_X8_rest : List q_Ent := [
  (0, 1, .aload_n 0, 0, 0, 0, 0),
  (1, 1, .iload_n 1, 0, 0, 0, 0),
  (2, 3, .invokevirtual 134, 97, 2, 0, 400),
  (5, 3, .ifCond .ne 5, 6, 0, 0, 0),
  (8, 1, .iconst (-1), 0, 0, 0, 0),
  (9, 1, .ireturn, 0, 0, 0, 0),
  (10, 1, .aload_n 0, 0, 0, 0, 0),
  (11, 1, .iload_n 2, 0, 0, 0, 0),
  (12, 3, .invokevirtual 196, 113, 2, 0, 623),
  (15, 3, .ifCond .ne 6, 12, 0, 0, 0),
  (18, 2, .bipush (-2), 0, 0, 0, 0),
  (20, 1, .ireturn, 0, 0, 0, 0),
  (21, 1, .aload_n 0, 0, 0, 0, 0),
  (22, 1, .aload_n 0, 0, 0, 0, 0),
  (23, 3, .getfield 28, 8, 3, 237, 1),
  (26, 1, .iload_n 1, 0, 0, 0, 0),
  (27, 1, .aaload, 0, 0, 0, 0),
  (28, 1, .iload_n 2, 0, 0, 0, 0),
  (29, 3, .invokevirtual 239, 129, 3, 0, 763),
  (32, 1, .iconst 0, 0, 0, 0, 0),
  (33, 1, .istore_n 3, 0, 0, 0, 0),
  (34, 1, .iload_n 3, 0, 0, 0, 0),
  (35, 1, .aload_n 0, 0, 0, 0, 0),
  (36, 3, .getfield 10, 8, 0, 234, 1),
  (39, 3, .invokevirtual 127, 3, 1, 0, 368),
  (42, 3, .if_icmp .ge 24, 39, 0, 0, 0),
  (45, 1, .aload_n 0, 0, 0, 0, 0),
  (46, 1, .aload_n 0, 0, 0, 0, 0),
  (47, 3, .getfield 28, 8, 3, 237, 1),
  (50, 1, .iload_n 1, 0, 0, 0, 0),
  (51, 1, .aaload, 0, 0, 0, 0),
  (52, 1, .iload_n 2, 0, 0, 0, 0),
  (53, 1, .iconst 1, 0, 0, 0, 0),
  (54, 1, .iload_n 3, 0, 0, 0, 0),
  (55, 1, .ishl, 0, 0, 0, 0),
  (56, 1, .ixor, 0, 0, 0, 0),
  (57, 3, .invokevirtual 239, 129, 3, 0, 763),
  (60, 3, .iinc 3 1, 0, 0, 0, 0),
  (63, 3, .goto (-29), 21, 0, 0, 0),
  (66, 1, .aload_n 0, 0, 0, 0, 0),
  (67, 3, .getfield 64, 8, 9, 243, 1),
  (70, 1, .aload_n 0, 0, 0, 0, 0),
  (71, 3, .getfield 10, 8, 0, 234, 1),
  (74, 1, .iload_n 2, 0, 0, 0, 0),
  (75, 3, .invokevirtual 243, 34, 3, 0, 780),
  (78, 3, .ifCond .eq 7, 48, 0, 0, 0),
  (81, 1, .iconst 1, 0, 0, 0, 0),
  (82, 3, .goto 4, 49, 0, 0, 0),
  (85, 1, .iconst 0, 0, 0, 0, 0),
  (86, 1, .ireturn, 0, 0, 0, 0)]
noncomputable def kd_X8_rests : List q_Ent := [
  (0, 1, .aload_n 0, 0, 0, 0, 0),
  (1, 1, .iload_n 1, 0, 0, 0, 0),
  (2, 3, .invokevirtual 134, 97, 2, 0, 400),
  (5, 3, .ifCond .ne 5, 6, 0, 0, 0),
  (8, 1, .iconst (-1), 0, 0, 0, 0),
  (9, 1, .ireturn, 0, 0, 0, 0),
  (10, 1, .iconst 0, 0, 0, 0, 0),
  (11, 1, .istore_n 3, 0, 0, 0, 0),
  (12, 1, .iload_n 3, 0, 0, 0, 0),
  (13, 1, .aload_n 0, 0, 0, 0, 0),
  (14, 3, .getfield 10, 8, 0, 234, 1),
  (17, 3, .invokevirtual 203, 6, 1, 0, 627),
  (20, 3, .if_icmp .ge 20, 22, 0, 0, 0),
  (23, 1, .aload_n 0, 0, 0, 0, 0),
  (24, 1, .aload_n 0, 0, 0, 0, 0),
  (25, 3, .getfield 28, 8, 3, 237, 1),
  (28, 1, .iload_n 1, 0, 0, 0, 0),
  (29, 1, .aaload, 0, 0, 0, 0),
  (30, 1, .iload_n 3, 0, 0, 0, 0),
  (31, 3, .invokevirtual 239, 129, 3, 0, 763),
  (34, 3, .iinc 3 1, 0, 0, 0, 0),
  (37, 3, .goto (-25), 8, 0, 0, 0),
  (40, 1, .iconst 0, 0, 0, 0, 0),
  (41, 1, .istore_n 3, 0, 0, 0, 0),
  (42, 1, .iconst 0, 0, 0, 0, 0),
  (43, 2, .istore 4, 0, 0, 0, 0),
  (45, 2, .iload 4, 0, 0, 0, 0),
  (47, 1, .aload_n 0, 0, 0, 0, 0),
  (48, 3, .getfield 10, 8, 0, 234, 1),
  (51, 3, .invokevirtual 203, 6, 1, 0, 627),
  (54, 3, .if_icmp .ge 35, 45, 0, 0, 0),
  (57, 1, .aload_n 0, 0, 0, 0, 0),
  (58, 3, .getfield 64, 8, 9, 243, 1),
  (61, 1, .aload_n 0, 0, 0, 0, 0),
  (62, 3, .getfield 10, 8, 0, 234, 1),
  (65, 2, .iload 4, 0, 0, 0, 0),
  (67, 3, .invokevirtual 243, 34, 3, 0, 780),
  (70, 3, .ifCond .eq 13, 43, 0, 0, 0),
  (73, 1, .iload_n 2, 0, 0, 0, 0),
  (74, 3, .ifCond .eq 6, 42, 0, 0, 0),
  (77, 2, .iload 4, 0, 0, 0, 0),
  (79, 1, .ireturn, 0, 0, 0, 0),
  (80, 3, .iinc 3 1, 0, 0, 0, 0),
  (83, 3, .iinc 4 1, 0, 0, 0, 0),
  (86, 3, .goto (-41), 26, 0, 0, 0),
  (89, 1, .iload_n 2, 0, 0, 0, 0),
  (90, 3, .ifCond .eq 8, 49, 0, 0, 0),
  (93, 2, .bipush (-9), 0, 0, 0, 0),
  (95, 3, .goto 4, 50, 0, 0, 0),
  (98, 1, .iload_n 3, 0, 0, 0, 0),
  (99, 1, .ireturn, 0, 0, 0, 0)]
noncomputable def kd_X8_count : List q_Ent := [
  (0, 1, .iload_n 1, 0, 0, 0, 0),
  (1, 35, .tableswitch 78 0 4 #[35, 43, 51, 62, 70], 0, 0, 0, 0),
  (36, 1, .aload_n 0, 0, 0, 0, 0),
  (37, 3, .getfield 10, 8, 0, 234, 1),
  (40, 3, .invokevirtual 127, 3, 1, 0, 368),
  (43, 1, .ireturn, 0, 0, 0, 0),
  (44, 1, .aload_n 0, 0, 0, 0, 0),
  (45, 3, .getfield 10, 8, 0, 234, 1),
  (48, 3, .invokevirtual 156, 4, 1, 0, 502),
  (51, 1, .ireturn, 0, 0, 0, 0),
  (52, 1, .aload_n 0, 0, 0, 0, 0),
  (53, 3, .getfield 10, 8, 0, 234, 1),
  (56, 3, .invokevirtual 206, 15, 1, 0, 647),
  (59, 3, .invokestatic 187, 25, 1, 1, 608),
  (62, 1, .ireturn, 0, 0, 0, 0),
  (63, 1, .aload_n 0, 0, 0, 0, 0),
  (64, 3, .getfield 22, 8, 2, 236, 1),
  (67, 3, .invokevirtual 117, 78, 1, 0, 347),
  (70, 1, .ireturn, 0, 0, 0, 0),
  (71, 1, .aload_n 0, 0, 0, 0, 0),
  (72, 3, .getfield 57, 8, 8, 242, 1),
  (75, 3, .invokevirtual 231, 36, 1, 0, 738),
  (78, 1, .ireturn, 0, 0, 0, 0),
  (79, 2, .bipush (-2), 0, 0, 0, 0),
  (81, 1, .ireturn, 0, 0, 0, 0)]
noncomputable def kd_X9_init : List q_Ent := [
  (0, 1, .aload_n 0, 0, 0, 0, 0),
  (1, 3, .invokespecial 1, 0, 1, 6, 804),
  (4, 1, .aload_n 0, 0, 0, 0, 0),
  (5, 1, .iconst 5, 0, 0, 0, 0),
  (6, 3, .putfield 7, 9, 1, 806, 0),
  (9, 1, .aload_n 0, 0, 0, 0, 0),
  (10, 1, .iconst 3, 0, 0, 0, 0),
  (11, 3, .putfield 13, 9, 2, 807, 0),
  (14, 1, .aload_n 0, 0, 0, 0, 0),
  (15, 2, .bipush 7, 0, 0, 0, 0),
  (17, 2, .newarray .int, 0, 0, 0, 0),
  (19, 3, .putfield 16, 9, 3, 808, 1),
  (22, 1, .aload_n 0, 0, 0, 0, 0),
  (23, 1, .iconst 4, 0, 0, 0, 0),
  (24, 2, .newarray .int, 0, 0, 0, 0),
  (26, 3, .putfield 20, 9, 4, 809, 1),
  (29, 1, .aload_n 0, 0, 0, 0, 0),
  (30, 2, .bipush 28, 0, 0, 0, 0),
  (32, 2, .newarray .int, 0, 0, 0, 0),
  (34, 3, .putfield 23, 9, 5, 810, 1),
  (37, 1, .aload_n 0, 0, 0, 0, 0),
  (38, 2, .bipush 7, 0, 0, 0, 0),
  (40, 2, .newarray .boolean, 1, 0, 0, 0),
  (42, 3, .putfield 26, 9, 6, 811, 1),
  (45, 1, .aload_n 0, 0, 0, 0, 0),
  (46, 2, .bipush 28, 0, 0, 0, 0),
  (48, 2, .newarray .int, 0, 0, 0, 0),
  (50, 3, .putfield 30, 9, 7, 812, 1),
  (53, 1, .aload_n 0, 0, 0, 0, 0),
  (54, 2, .bipush 7, 0, 0, 0, 0),
  (56, 2, .newarray .boolean, 1, 0, 0, 0),
  (58, 3, .putfield 33, 9, 8, 813, 1),
  (61, 1, .aload_n 0, 0, 0, 0, 0),
  (62, 2, .bipush 16, 0, 0, 0, 0),
  (64, 2, .newarray .int, 0, 0, 0, 0),
  (66, 3, .putfield 36, 9, 9, 814, 1),
  (69, 1, .aload_n 0, 0, 0, 0, 0),
  (70, 1, .iconst 3, 0, 0, 0, 0),
  (71, 2, .newarray .int, 0, 0, 0, 0),
  (73, 3, .putfield 39, 9, 12, 817, 1),
  (76, 1, .aload_n 0, 0, 0, 0, 0),
  (77, 1, .iconst 3, 0, 0, 0, 0),
  (78, 2, .newarray .int, 0, 0, 0, 0),
  (80, 3, .putfield 42, 9, 13, 818, 1),
  (83, 1, .aload_n 0, 0, 0, 0, 0),
  (84, 2, .bipush 21, 0, 0, 0, 0),
  (86, 2, .newarray .int, 0, 0, 0, 0),
  (88, 3, .putfield 45, 9, 14, 819, 1),
  (91, 1, .aload_n 0, 0, 0, 0, 0),
  (92, 1, .iconst 4, 0, 0, 0, 0),
  (93, 2, .newarray .int, 0, 0, 0, 0),
  (95, 3, .putfield 48, 9, 15, 820, 1),
  (98, 1, .aload_n 0, 0, 0, 0, 0),
  (99, 2, .bipush 12, 0, 0, 0, 0),
  (101, 2, .newarray .int, 0, 0, 0, 0),
  (103, 3, .putfield 51, 9, 16, 821, 1),
  (106, 1, .aload_n 0, 0, 0, 0, 0),
  (107, 2, .bipush 12, 0, 0, 0, 0),
  (109, 2, .newarray .int, 0, 0, 0, 0),
  (111, 3, .putfield 54, 9, 17, 822, 1),
  (114, 1, .aload_n 0, 0, 0, 0, 0),
  (115, 2, .bipush 84, 0, 0, 0, 0),
  (117, 2, .newarray .int, 0, 0, 0, 0),
  (119, 3, .putfield 57, 9, 18, 823, 1),
  (122, 1, .aload_n 0, 0, 0, 0, 0),
  (123, 2, .bipush 12, 0, 0, 0, 0),
  (125, 2, .newarray .int, 0, 0, 0, 0),
  (127, 3, .putfield 60, 9, 19, 824, 1),
  (130, 1, .aload_n 0, 0, 0, 0, 0),
  (131, 2, .bipush 7, 0, 0, 0, 0),
  (133, 2, .newarray .int, 0, 0, 0, 0),
  (135, 3, .putfield 63, 9, 20, 825, 1),
  (138, 1, .aload_n 0, 0, 0, 0, 0),
  (139, 1, .iconst 4, 0, 0, 0, 0),
  (140, 2, .newarray .int, 0, 0, 0, 0),
  (142, 3, .putfield 66, 9, 21, 826, 1),
  (145, 1, .aload_n 0, 0, 0, 0, 0),
  (146, 2, .bipush 8, 0, 0, 0, 0),
  (148, 2, .newarray .int, 0, 0, 0, 0),
  (150, 3, .putfield 69, 9, 23, 828, 1),
  (153, 1, .aload_n 0, 0, 0, 0, 0),
  (154, 2, .bipush 8, 0, 0, 0, 0),
  (156, 2, .newarray .int, 0, 0, 0, 0),
  (158, 3, .putfield 72, 9, 24, 829, 1),
  (161, 1, .aload_n 0, 0, 0, 0, 0),
  (162, 2, .bipush 56, 0, 0, 0, 0),
  (164, 2, .newarray .int, 0, 0, 0, 0),
  (166, 3, .putfield 75, 9, 25, 830, 1),
  (169, 1, .aload_n 0, 0, 0, 0, 0),
  (170, 2, .bipush 32, 0, 0, 0, 0),
  (172, 2, .newarray .int, 0, 0, 0, 0),
  (174, 3, .putfield 78, 9, 26, 831, 1),
  (177, 1, .aload_n 0, 0, 0, 0, 0),
  (178, 3, .sipush 224, 0, 0, 0, 0),
  (181, 2, .newarray .int, 0, 0, 0, 0),
  (183, 3, .putfield 81, 9, 27, 832, 1),
  (186, 1, .aload_n 0, 0, 0, 0, 0),
  (187, 2, .bipush 56, 0, 0, 0, 0),
  (189, 2, .newarray .boolean, 1, 0, 0, 0),
  (191, 3, .putfield 84, 9, 28, 833, 1),
  (194, 1, .iconst 0, 0, 0, 0, 0),
  (195, 1, .istore_n 1, 0, 0, 0, 0),
  (196, 1, .iload_n 1, 0, 0, 0, 0),
  (197, 1, .iconst 4, 0, 0, 0, 0),
  (198, 3, .if_icmp .ge 16, 112, 0, 0, 0),
  (201, 1, .aload_n 0, 0, 0, 0, 0),
  (202, 3, .getfield 48, 9, 15, 820, 1),
  (205, 1, .iload_n 1, 0, 0, 0, 0),
  (206, 1, .iconst 1, 0, 0, 0, 0),
  (207, 1, .iastore, 0, 0, 0, 0),
  (208, 3, .iinc 1 1, 0, 0, 0, 0),
  (211, 3, .goto (-15), 102, 0, 0, 0),
  (214, 1, .return_, 0, 0, 0, 0)]
noncomputable def kd_X9_in : List q_Ent := [
  (0, 1, .lload_n 0, 0, 0, 0, 0),
  (1, 1, .lload_n 2, 0, 0, 0, 0),
  (2, 1, .lcmp, 0, 0, 0, 0),
  (3, 3, .ifCond .lt 14, 10, 0, 0, 0),
  (6, 1, .lload_n 0, 0, 0, 0, 0),
  (7, 2, .lload 4, 0, 0, 0, 0),
  (9, 1, .lcmp, 0, 0, 0, 0),
  (10, 3, .ifCond .gt 7, 10, 0, 0, 0),
  (13, 1, .iconst 1, 0, 0, 0, 0),
  (14, 3, .goto 4, 11, 0, 0, 0),
  (17, 1, .iconst 0, 0, 0, 0, 0),
  (18, 1, .ireturn, 0, 0, 0, 0)]
noncomputable def kd_X9_noJudge : List q_Ent := [
  (0, 1, .iload_n 1, 0, 0, 0, 0),
  (1, 1, .i2l, 0, 0, 0, 0),
  (2, 1, .lconst 0, 0, 0, 0, 0),
  (3, 1, .aload_n 0, 0, 0, 0, 0),
  (4, 3, .getfield 7, 9, 1, 806, 0),
  (7, 1, .iconst 1, 0, 0, 0, 0),
  (8, 1, .isub, 0, 0, 0, 0),
  (9, 1, .i2l, 0, 0, 0, 0),
  (10, 3, .invokestatic 90, 134, 3, 1, 898),
  (13, 3, .ifCond .ne 7, 12, 0, 0, 0),
  (16, 1, .iconst 1, 0, 0, 0, 0),
  (17, 3, .goto 4, 13, 0, 0, 0),
  (20, 1, .iconst 0, 0, 0, 0, 0),
  (21, 1, .ireturn, 0, 0, 0, 0)]
noncomputable def kd_X9_noSkater : List q_Ent := [
  (0, 1, .iload_n 1, 0, 0, 0, 0),
  (1, 1, .i2l, 0, 0, 0, 0),
  (2, 1, .lconst 0, 0, 0, 0, 0),
  (3, 1, .aload_n 0, 0, 0, 0, 0),
  (4, 3, .getfield 13, 9, 2, 807, 0),
  (7, 1, .iconst 1, 0, 0, 0, 0),
  (8, 1, .isub, 0, 0, 0, 0),
  (9, 1, .i2l, 0, 0, 0, 0),
  (10, 3, .invokestatic 90, 134, 3, 1, 898),
  (13, 3, .ifCond .ne 7, 12, 0, 0, 0),
  (16, 1, .iconst 1, 0, 0, 0, 0),
  (17, 3, .goto 4, 13, 0, 0, 0),
  (20, 1, .iconst 0, 0, 0, 0, 0),
  (21, 1, .ireturn, 0, 0, 0, 0)]
noncomputable def kd_X9_noRule : List q_Ent := [
  (0, 1, .iload_n 0, 0, 0, 0, 0),
  (1, 1, .i2l, 0, 0, 0, 0),
  (2, 1, .lconst 0, 0, 0, 0, 0),
  (3, 3, .ldc2_w 94, 2, 0, 965, 0),
  (6, 3, .invokestatic 90, 134, 3, 1, 898),
  (9, 3, .ifCond .ne 7, 8, 0, 0, 0),
  (12, 1, .iconst 1, 0, 0, 0, 0),
  (13, 3, .goto 4, 9, 0, 0, 0),
  (16, 1, .iconst 0, 0, 0, 0, 0),
  (17, 1, .ireturn, 0, 0, 0, 0)]
noncomputable def kd_X9_noSet : List q_Ent := [
  (0, 1, .iload_n 1, 0, 0, 0, 0),
  (1, 1, .i2l, 0, 0, 0, 0),
  (2, 1, .lconst 0, 0, 0, 0, 0),
  (3, 1, .iconst 1, 0, 0, 0, 0),
  (4, 1, .aload_n 0, 0, 0, 0, 0),
  (5, 3, .getfield 7, 9, 1, 806, 0),
  (8, 1, .ishl, 0, 0, 0, 0),
  (9, 1, .iconst 1, 0, 0, 0, 0),
  (10, 1, .isub, 0, 0, 0, 0),
  (11, 1, .i2l, 0, 0, 0, 0),
  (12, 3, .invokestatic 90, 134, 3, 1, 898),
  (15, 3, .ifCond .ne 7, 14, 0, 0, 0),
  (18, 1, .iconst 1, 0, 0, 0, 0),
  (19, 3, .goto 4, 15, 0, 0, 0),
  (22, 1, .iconst 0, 0, 0, 0, 0),
  (23, 1, .ireturn, 0, 0, 0, 0)]
noncomputable def kd_X9_cards : List q_Ent := [
  (0, 1, .iconst 1, 0, 0, 0, 0),
  (1, 1, .istore_n 1, 0, 0, 0, 0),
  (2, 1, .iconst 0, 0, 0, 0, 0),
  (3, 1, .istore_n 2, 0, 0, 0, 0),
  (4, 1, .iload_n 2, 0, 0, 0, 0),
  (5, 1, .aload_n 0, 0, 0, 0, 0),
  (6, 3, .getfield 13, 9, 2, 807, 0),
  (9, 3, .if_icmp .ge 14, 14, 0, 0, 0),
  (12, 1, .iload_n 1, 0, 0, 0, 0),
  (13, 2, .bipush 6, 0, 0, 0, 0),
  (15, 1, .imul, 0, 0, 0, 0),
  (16, 1, .istore_n 1, 0, 0, 0, 0),
  (17, 3, .iinc 2 1, 0, 0, 0, 0),
  (20, 3, .goto (-16), 4, 0, 0, 0),
  (23, 1, .iload_n 1, 0, 0, 0, 0),
  (24, 1, .ireturn, 0, 0, 0, 0)]
noncomputable def kd_X9_panel : List q_Ent := [
  (0, 1, .aload_n 0, 0, 0, 0, 0),
  (1, 1, .iconst 0, 0, 0, 0, 0),
  (2, 3, .putfield 87, 9, 0, 805, 0),
  (5, 1, .iload_n 1, 0, 0, 0, 0),
  (6, 1, .i2l, 0, 0, 0, 0),
  (7, 1, .lconst 1, 0, 0, 0, 0),
  (8, 3, .ldc2_w 96, 7, 0, 897, 0),
  (11, 3, .invokestatic 90, 134, 3, 1, 898),
  (14, 3, .ifCond .eq 15, 15, 0, 0, 0),
  (17, 1, .iload_n 2, 0, 0, 0, 0),
  (18, 1, .i2l, 0, 0, 0, 0),
  (19, 1, .lconst 1, 0, 0, 0, 0),
  (20, 3, .ldc2_w 98, 4, 0, 901, 0),
  (23, 3, .invokestatic 90, 134, 3, 1, 898),
  (26, 3, .ifCond .ne 6, 17, 0, 0, 0),
  (29, 2, .bipush (-2), 0, 0, 0, 0),
  (31, 1, .ireturn, 0, 0, 0, 0),
  (32, 1, .aload_n 0, 0, 0, 0, 0),
  (33, 1, .iload_n 1, 0, 0, 0, 0),
  (34, 3, .putfield 7, 9, 1, 806, 0),
  (37, 1, .aload_n 0, 0, 0, 0, 0),
  (38, 1, .iload_n 2, 0, 0, 0, 0),
  (39, 3, .putfield 13, 9, 2, 807, 0),
  (42, 1, .iconst 0, 0, 0, 0, 0),
  (43, 1, .istore_n 3, 0, 0, 0, 0),
  (44, 1, .iload_n 3, 0, 0, 0, 0),
  (45, 2, .bipush 7, 0, 0, 0, 0),
  (47, 3, .if_icmp .ge 23, 40, 0, 0, 0),
  (50, 1, .aload_n 0, 0, 0, 0, 0),
  (51, 3, .getfield 16, 9, 3, 808, 1),
  (54, 1, .iload_n 3, 0, 0, 0, 0),
  (55, 1, .iconst 0, 0, 0, 0, 0),
  (56, 1, .iastore, 0, 0, 0, 0),
  (57, 1, .aload_n 0, 0, 0, 0, 0),
  (58, 3, .getfield 26, 9, 6, 811, 1),
  (61, 1, .iload_n 3, 0, 0, 0, 0),
  (62, 1, .iconst 0, 0, 0, 0, 0),
  (63, 1, .bastore, 0, 0, 0, 0),
  (64, 3, .iinc 3 1, 0, 0, 0, 0),
  (67, 3, .goto (-23), 25, 0, 0, 0),
  (70, 1, .iconst 0, 0, 0, 0, 0),
  (71, 1, .istore_n 3, 0, 0, 0, 0),
  (72, 1, .iload_n 3, 0, 0, 0, 0),
  (73, 1, .iconst 4, 0, 0, 0, 0),
  (74, 3, .if_icmp .ge 16, 52, 0, 0, 0),
  (77, 1, .aload_n 0, 0, 0, 0, 0),
  (78, 3, .getfield 20, 9, 4, 809, 1),
  (81, 1, .iload_n 3, 0, 0, 0, 0),
  (82, 1, .iconst 0, 0, 0, 0, 0),
  (83, 1, .iastore, 0, 0, 0, 0),
  (84, 3, .iinc 3 1, 0, 0, 0, 0),
  (87, 3, .goto (-15), 42, 0, 0, 0),
  (90, 1, .iconst 0, 0, 0, 0, 0),
  (91, 1, .istore_n 3, 0, 0, 0, 0),
  (92, 1, .iload_n 3, 0, 0, 0, 0),
  (93, 2, .bipush 28, 0, 0, 0, 0),
  (95, 3, .if_icmp .ge 16, 64, 0, 0, 0),
  (98, 1, .aload_n 0, 0, 0, 0, 0),
  (99, 3, .getfield 23, 9, 5, 810, 1),
  (102, 1, .iload_n 3, 0, 0, 0, 0),
  (103, 1, .iconst 0, 0, 0, 0, 0),
  (104, 1, .iastore, 0, 0, 0, 0),
  (105, 3, .iinc 3 1, 0, 0, 0, 0),
  (108, 3, .goto (-16), 54, 0, 0, 0),
  (111, 1, .iload_n 1, 0, 0, 0, 0),
  (112, 1, .iload_n 2, 0, 0, 0, 0),
  (113, 1, .imul, 0, 0, 0, 0),
  (114, 1, .ireturn, 0, 0, 0, 0)]
noncomputable def kd_X9_land : List q_Ent := [
  (0, 1, .aload_n 0, 0, 0, 0, 0),
  (1, 1, .iconst 0, 0, 0, 0, 0),
  (2, 3, .putfield 87, 9, 0, 805, 0),
  (5, 1, .iload_n 1, 0, 0, 0, 0),
  (6, 3, .ifCond .eq 14, 10, 0, 0, 0),
  (9, 1, .aload_n 0, 0, 0, 0, 0),
  (10, 1, .iload_n 2, 0, 0, 0, 0),
  (11, 3, .invokevirtual 100, 136, 2, 0, 906),
  (14, 3, .ifCond .eq 16, 16, 0, 0, 0),
  (17, 3, .goto 11, 14, 0, 0, 0),
  (20, 1, .aload_n 0, 0, 0, 0, 0),
  (21, 1, .iload_n 2, 0, 0, 0, 0),
  (22, 3, .invokevirtual 104, 135, 2, 0, 910),
  (25, 3, .ifCond .eq 5, 16, 0, 0, 0),
  (28, 1, .iconst (-1), 0, 0, 0, 0),
  (29, 1, .ireturn, 0, 0, 0, 0),
  (30, 1, .iload_n 3, 0, 0, 0, 0),
  (31, 1, .i2l, 0, 0, 0, 0),
  (32, 1, .lconst 0, 0, 0, 0, 0),
  (33, 3, .ldc2_w 107, 3, 0, 914, 0),
  (36, 3, .invokestatic 90, 134, 3, 1, 898),
  (39, 3, .ifCond .ne 6, 24, 0, 0, 0),
  (42, 2, .bipush (-2), 0, 0, 0, 0),
  (44, 1, .ireturn, 0, 0, 0, 0),
  (45, 1, .iload_n 1, 0, 0, 0, 0),
  (46, 3, .ifCond .eq 12, 31, 0, 0, 0),
  (49, 1, .aload_n 0, 0, 0, 0, 0),
  (50, 3, .getfield 20, 9, 4, 809, 1),
  (53, 1, .iload_n 2, 0, 0, 0, 0),
  (54, 1, .iaload, 0, 0, 0, 0),
  (55, 3, .goto 9, 35, 0, 0, 0),
  (58, 1, .aload_n 0, 0, 0, 0, 0),
  (59, 3, .getfield 16, 9, 3, 808, 1),
  (62, 1, .iload_n 2, 0, 0, 0, 0),
  (63, 1, .iaload, 0, 0, 0, 0),
  (64, 2, .istore 4, 0, 0, 0, 0),
  (66, 1, .iload_n 1, 0, 0, 0, 0),
  (67, 3, .ifCond .eq 13, 44, 0, 0, 0),
  (70, 1, .aload_n 0, 0, 0, 0, 0),
  (71, 3, .getfield 20, 9, 4, 809, 1),
  (74, 1, .iload_n 2, 0, 0, 0, 0),
  (75, 1, .iload_n 3, 0, 0, 0, 0),
  (76, 1, .iastore, 0, 0, 0, 0),
  (77, 3, .goto 10, 49, 0, 0, 0),
  (80, 1, .aload_n 0, 0, 0, 0, 0),
  (81, 3, .getfield 16, 9, 3, 808, 1),
  (84, 1, .iload_n 2, 0, 0, 0, 0),
  (85, 1, .iload_n 3, 0, 0, 0, 0),
  (86, 1, .iastore, 0, 0, 0, 0),
  (87, 2, .iload 4, 0, 0, 0, 0),
  (89, 1, .ireturn, 0, 0, 0, 0)]
noncomputable def kd_X9_mark : List q_Ent := [
  (0, 1, .aload_n 0, 0, 0, 0, 0),
  (1, 1, .iconst 0, 0, 0, 0, 0),
  (2, 3, .putfield 87, 9, 0, 805, 0),
  (5, 1, .aload_n 0, 0, 0, 0, 0),
  (6, 1, .iload_n 1, 0, 0, 0, 0),
  (7, 3, .invokevirtual 104, 135, 2, 0, 910),
  (10, 3, .ifCond .ne 11, 11, 0, 0, 0),
  (13, 1, .aload_n 0, 0, 0, 0, 0),
  (14, 1, .iload_n 2, 0, 0, 0, 0),
  (15, 3, .invokevirtual 100, 136, 2, 0, 906),
  (18, 3, .ifCond .eq 5, 13, 0, 0, 0),
  (21, 1, .iconst (-1), 0, 0, 0, 0),
  (22, 1, .ireturn, 0, 0, 0, 0),
  (23, 1, .iload_n 3, 0, 0, 0, 0),
  (24, 1, .i2l, 0, 0, 0, 0),
  (25, 1, .lconst 0, 0, 0, 0, 0),
  (26, 3, .ldc2_w 109, 5, 0, 919, 0),
  (29, 3, .invokestatic 90, 134, 3, 1, 898),
  (32, 3, .ifCond .ne 6, 21, 0, 0, 0),
  (35, 2, .bipush (-2), 0, 0, 0, 0),
  (37, 1, .ireturn, 0, 0, 0, 0),
  (38, 1, .aload_n 0, 0, 0, 0, 0),
  (39, 3, .getfield 23, 9, 5, 810, 1),
  (42, 1, .iconst 4, 0, 0, 0, 0),
  (43, 1, .iload_n 1, 0, 0, 0, 0),
  (44, 1, .imul, 0, 0, 0, 0),
  (45, 1, .iload_n 2, 0, 0, 0, 0),
  (46, 1, .iadd, 0, 0, 0, 0),
  (47, 1, .iaload, 0, 0, 0, 0),
  (48, 2, .istore 4, 0, 0, 0, 0),
  (50, 1, .aload_n 0, 0, 0, 0, 0),
  (51, 3, .getfield 23, 9, 5, 810, 1),
  (54, 1, .iconst 4, 0, 0, 0, 0),
  (55, 1, .iload_n 1, 0, 0, 0, 0),
  (56, 1, .imul, 0, 0, 0, 0),
  (57, 1, .iload_n 2, 0, 0, 0, 0),
  (58, 1, .iadd, 0, 0, 0, 0),
  (59, 1, .iload_n 3, 0, 0, 0, 0),
  (60, 1, .iastore, 0, 0, 0, 0),
  (61, 2, .iload 4, 0, 0, 0, 0),
  (63, 1, .ireturn, 0, 0, 0, 0)]
noncomputable def kd_X9_card : List q_Ent := [
  (0, 1, .aload_n 0, 0, 0, 0, 0),
  (1, 1, .iconst 0, 0, 0, 0, 0),
  (2, 3, .putfield 87, 9, 0, 805, 0),
  (5, 1, .aload_n 0, 0, 0, 0, 0),
  (6, 1, .iload_n 1, 0, 0, 0, 0),
  (7, 3, .invokevirtual 104, 135, 2, 0, 910),
  (10, 3, .ifCond .eq 5, 9, 0, 0, 0),
  (13, 1, .iconst (-1), 0, 0, 0, 0),
  (14, 1, .ireturn, 0, 0, 0, 0),
  (15, 1, .iload_n 2, 0, 0, 0, 0),
  (16, 1, .i2l, 0, 0, 0, 0),
  (17, 1, .lconst 0, 0, 0, 0, 0),
  (18, 1, .aload_n 0, 0, 0, 0, 0),
  (19, 3, .invokevirtual 111, 139, 1, 0, 924),
  (22, 1, .iconst 1, 0, 0, 0, 0),
  (23, 1, .isub, 0, 0, 0, 0),
  (24, 1, .i2l, 0, 0, 0, 0),
  (25, 3, .invokestatic 90, 134, 3, 1, 898),
  (28, 3, .ifCond .ne 6, 21, 0, 0, 0),
  (31, 2, .bipush (-2), 0, 0, 0, 0),
  (33, 1, .ireturn, 0, 0, 0, 0),
  (34, 1, .iconst 0, 0, 0, 0, 0),
  (35, 1, .istore_n 3, 0, 0, 0, 0),
  (36, 1, .iconst 0, 0, 0, 0, 0),
  (37, 2, .istore 4, 0, 0, 0, 0),
  (39, 2, .iload 4, 0, 0, 0, 0),
  (41, 1, .aload_n 0, 0, 0, 0, 0),
  (42, 3, .getfield 13, 9, 2, 807, 0),
  (45, 3, .if_icmp .ge 26, 44, 0, 0, 0),
  (48, 2, .bipush 6, 0, 0, 0, 0),
  (50, 1, .iload_n 3, 0, 0, 0, 0),
  (51, 1, .imul, 0, 0, 0, 0),
  (52, 1, .aload_n 0, 0, 0, 0, 0),
  (53, 3, .getfield 23, 9, 5, 810, 1),
  (56, 1, .iconst 4, 0, 0, 0, 0),
  (57, 1, .iload_n 1, 0, 0, 0, 0),
  (58, 1, .imul, 0, 0, 0, 0),
  (59, 2, .iload 4, 0, 0, 0, 0),
  (61, 1, .iadd, 0, 0, 0, 0),
  (62, 1, .iaload, 0, 0, 0, 0),
  (63, 1, .iadd, 0, 0, 0, 0),
  (64, 1, .istore_n 3, 0, 0, 0, 0),
  (65, 3, .iinc 4 1, 0, 0, 0, 0),
  (68, 3, .goto (-29), 25, 0, 0, 0),
  (71, 1, .iload_n 2, 0, 0, 0, 0),
  (72, 2, .istore 4, 0, 0, 0, 0),
  (74, 1, .aload_n 0, 0, 0, 0, 0),
  (75, 3, .getfield 13, 9, 2, 807, 0),
  (78, 1, .iconst 1, 0, 0, 0, 0),
  (79, 1, .isub, 0, 0, 0, 0),
  (80, 2, .istore 5, 0, 0, 0, 0),
  (82, 2, .iload 5, 0, 0, 0, 0),
  (84, 3, .ifCond .lt 32, 70, 0, 0, 0),
  (87, 1, .aload_n 0, 0, 0, 0, 0),
  (88, 3, .getfield 23, 9, 5, 810, 1),
  (91, 1, .iconst 4, 0, 0, 0, 0),
  (92, 1, .iload_n 1, 0, 0, 0, 0),
  (93, 1, .imul, 0, 0, 0, 0),
  (94, 2, .iload 5, 0, 0, 0, 0),
  (96, 1, .iadd, 0, 0, 0, 0),
  (97, 2, .iload 4, 0, 0, 0, 0),
  (99, 2, .bipush 6, 0, 0, 0, 0),
  (101, 1, .irem, 0, 0, 0, 0),
  (102, 1, .iastore, 0, 0, 0, 0),
  (103, 2, .iload 4, 0, 0, 0, 0),
  (105, 2, .bipush 6, 0, 0, 0, 0),
  (107, 1, .idiv, 0, 0, 0, 0),
  (108, 2, .istore 4, 0, 0, 0, 0),
  (110, 3, .iinc 5 (-1), 0, 0, 0, 0),
  (113, 3, .goto (-31), 51, 0, 0, 0),
  (116, 1, .iload_n 3, 0, 0, 0, 0),
  (117, 1, .ireturn, 0, 0, 0, 0)]
noncomputable def kd_X9_lose : List q_Ent := [
  (0, 1, .aload_n 0, 0, 0, 0, 0),
  (1, 1, .iconst 0, 0, 0, 0, 0),
  (2, 3, .putfield 87, 9, 0, 805, 0),
  (5, 1, .aload_n 0, 0, 0, 0, 0),
  (6, 1, .iload_n 1, 0, 0, 0, 0),
  (7, 3, .invokevirtual 104, 135, 2, 0, 910),
  (10, 3, .ifCond .eq 5, 9, 0, 0, 0),
  (13, 1, .iconst (-1), 0, 0, 0, 0),
  (14, 1, .ireturn, 0, 0, 0, 0),
  (15, 1, .aload_n 0, 0, 0, 0, 0),
  (16, 3, .getfield 26, 9, 6, 811, 1),
  (19, 1, .iload_n 1, 0, 0, 0, 0),
  (20, 1, .baload, 0, 0, 0, 0),
  (21, 3, .ifCond .eq 7, 16, 0, 0, 0),
  (24, 1, .iconst 1, 0, 0, 0, 0),
  (25, 3, .goto 4, 17, 0, 0, 0),
  (28, 1, .iconst 0, 0, 0, 0, 0),
  (29, 1, .istore_n 3, 0, 0, 0, 0),
  (30, 1, .aload_n 0, 0, 0, 0, 0),
  (31, 3, .getfield 26, 9, 6, 811, 1),
  (34, 1, .iload_n 1, 0, 0, 0, 0),
  (35, 1, .iload_n 2, 0, 0, 0, 0),
  (36, 1, .bastore, 0, 0, 0, 0),
  (37, 1, .iload_n 3, 0, 0, 0, 0),
  (38, 1, .ireturn, 0, 0, 0, 0)]
noncomputable def kd_X9_at : List q_Ent := [
  (0, 1, .aload_n 0, 0, 0, 0, 0),
  (1, 1, .iconst 0, 0, 0, 0, 0),
  (2, 3, .putfield 87, 9, 0, 805, 0),
  (5, 1, .aload_n 0, 0, 0, 0, 0),
  (6, 1, .iload_n 1, 0, 0, 0, 0),
  (7, 3, .invokevirtual 104, 135, 2, 0, 910),
  (10, 3, .ifCond .ne 11, 11, 0, 0, 0),
  (13, 1, .aload_n 0, 0, 0, 0, 0),
  (14, 1, .iload_n 2, 0, 0, 0, 0),
  (15, 3, .invokevirtual 100, 136, 2, 0, 906),
  (18, 3, .ifCond .eq 7, 13, 0, 0, 0),
  (21, 1, .iconst (-1), 0, 0, 0, 0),
  (22, 3, .goto 13, 21, 0, 0, 0),
  (25, 1, .aload_n 0, 0, 0, 0, 0),
  (26, 3, .getfield 23, 9, 5, 810, 1),
  (29, 1, .iconst 4, 0, 0, 0, 0),
  (30, 1, .iload_n 1, 0, 0, 0, 0),
  (31, 1, .imul, 0, 0, 0, 0),
  (32, 1, .iload_n 2, 0, 0, 0, 0),
  (33, 1, .iadd, 0, 0, 0, 0),
  (34, 1, .iaload, 0, 0, 0, 0),
  (35, 1, .ireturn, 0, 0, 0, 0)]
noncomputable def kd_X9_write : List q_Ent := [
  (0, 1, .aload_n 0, 0, 0, 0, 0),
  (1, 1, .iconst 0, 0, 0, 0, 0),
  (2, 3, .putfield 87, 9, 0, 805, 0),
  (5, 1, .iload_n 1, 0, 0, 0, 0),
  (6, 1, .i2l, 0, 0, 0, 0),
  (7, 1, .lconst 1, 0, 0, 0, 0),
  (8, 3, .ldc2_w 115, 8, 0, 940, 0),
  (11, 3, .invokestatic 90, 134, 3, 1, 898),
  (14, 3, .ifCond .ne 6, 11, 0, 0, 0),
  (17, 2, .bipush (-2), 0, 0, 0, 0),
  (19, 1, .ireturn, 0, 0, 0, 0),
  (20, 1, .aload_n 0, 0, 0, 0, 0),
  (21, 3, .getfield 117, 9, 10, 815, 0),
  (24, 1, .iload_n 1, 0, 0, 0, 0),
  (25, 1, .iadd, 0, 0, 0, 0),
  (26, 2, .bipush 16, 0, 0, 0, 0),
  (28, 3, .if_icmp .le 6, 19, 0, 0, 0),
  (31, 2, .bipush (-4), 0, 0, 0, 0),
  (33, 1, .ireturn, 0, 0, 0, 0),
  (34, 1, .iload_n 1, 0, 0, 0, 0),
  (35, 1, .iconst 1, 0, 0, 0, 0),
  (36, 1, .isub, 0, 0, 0, 0),
  (37, 2, .istore 4, 0, 0, 0, 0),
  (39, 2, .iload 4, 0, 0, 0, 0),
  (41, 3, .ifCond .lt 40, 46, 0, 0, 0),
  (44, 1, .aload_n 0, 0, 0, 0, 0),
  (45, 3, .getfield 36, 9, 9, 814, 1),
  (48, 1, .aload_n 0, 0, 0, 0, 0),
  (49, 3, .getfield 117, 9, 10, 815, 0),
  (52, 1, .lload_n 2, 0, 0, 0, 0),
  (53, 2, .bipush 8, 0, 0, 0, 0),
  (55, 2, .iload 4, 0, 0, 0, 0),
  (57, 1, .imul, 0, 0, 0, 0),
  (58, 1, .lshr, 0, 0, 0, 0),
  (59, 1, .l2i, 0, 0, 0, 0),
  (60, 3, .sipush 255, 0, 0, 0, 0),
  (63, 1, .iand, 0, 0, 0, 0),
  (64, 1, .iastore, 0, 0, 0, 0),
  (65, 1, .aload_n 0, 0, 0, 0, 0),
  (66, 1, .dup, 0, 0, 0, 0),
  (67, 3, .getfield 117, 9, 10, 815, 0),
  (70, 1, .iconst 1, 0, 0, 0, 0),
  (71, 1, .iadd, 0, 0, 0, 0),
  (72, 3, .putfield 117, 9, 10, 815, 0),
  (75, 3, .iinc 4 (-1), 0, 0, 0, 0),
  (78, 3, .goto (-39), 23, 0, 0, 0),
  (81, 1, .aload_n 0, 0, 0, 0, 0),
  (82, 3, .getfield 117, 9, 10, 815, 0),
  (85, 1, .ireturn, 0, 0, 0, 0)]
noncomputable def kd_X9_wipe : List q_Ent := [
  (0, 1, .aload_n 0, 0, 0, 0, 0),
  (1, 1, .iconst 0, 0, 0, 0, 0),
  (2, 3, .putfield 87, 9, 0, 805, 0),
  (5, 1, .aload_n 0, 0, 0, 0, 0),
  (6, 3, .getfield 117, 9, 10, 815, 0),
  (9, 1, .istore_n 1, 0, 0, 0, 0),
  (10, 1, .aload_n 0, 0, 0, 0, 0),
  (11, 1, .iconst 0, 0, 0, 0, 0),
  (12, 3, .putfield 117, 9, 10, 815, 0),
  (15, 1, .iload_n 1, 0, 0, 0, 0),
  (16, 1, .ireturn, 0, 0, 0, 0)]
noncomputable def kd_X9_isFigure : List q_Ent := [
  (0, 1, .iload_n 1, 0, 0, 0, 0),
  (1, 1, .aload_n 0, 0, 0, 0, 0),
  (2, 3, .getfield 117, 9, 10, 815, 0),
  (5, 3, .if_icmp .ge 28, 18, 0, 0, 0),
  (8, 1, .aload_n 0, 0, 0, 0, 0),
  (9, 3, .getfield 36, 9, 9, 814, 1),
  (12, 1, .iload_n 1, 0, 0, 0, 0),
  (13, 1, .iaload, 0, 0, 0, 0),
  (14, 1, .i2l, 0, 0, 0, 0),
  (15, 3, .ldc2_w 120, 48, 0, 957, 0),
  (18, 2, .bipush 48, 0, 0, 0, 0),
  (20, 1, .iload_n 2, 0, 0, 0, 0),
  (21, 1, .iadd, 0, 0, 0, 0),
  (22, 1, .i2l, 0, 0, 0, 0),
  (23, 3, .invokestatic 90, 134, 3, 1, 898),
  (26, 3, .ifCond .eq 7, 18, 0, 0, 0),
  (29, 1, .iconst 1, 0, 0, 0, 0),
  (30, 3, .goto 4, 19, 0, 0, 0),
  (33, 1, .iconst 0, 0, 0, 0, 0),
  (34, 1, .ireturn, 0, 0, 0, 0)]
noncomputable def kd_X9_read : List q_Ent := [
  (0, 1, .aload_n 0, 0, 0, 0, 0),
  (1, 1, .iconst 0, 0, 0, 0, 0),
  (2, 3, .putfield 122, 9, 11, 816, 0),
  (5, 1, .iconst 0, 0, 0, 0, 0),
  (6, 1, .istore_n 1, 0, 0, 0, 0),
  (7, 1, .iconst 1, 0, 0, 0, 0),
  (8, 1, .istore_n 2, 0, 0, 0, 0),
  (9, 1, .iload_n 2, 0, 0, 0, 0),
  (10, 3, .ifCond .eq 296, 169, 0, 0, 0),
  (13, 1, .iload_n 1, 0, 0, 0, 0),
  (14, 1, .aload_n 0, 0, 0, 0, 0),
  (15, 3, .getfield 117, 9, 10, 815, 0),
  (18, 3, .if_icmp .ne 5, 15, 0, 0, 0),
  (21, 1, .iload_n 1, 0, 0, 0, 0),
  (22, 1, .ireturn, 0, 0, 0, 0),
  (23, 1, .aload_n 0, 0, 0, 0, 0),
  (24, 3, .getfield 36, 9, 9, 814, 1),
  (27, 1, .iload_n 1, 0, 0, 0, 0),
  (28, 1, .iaload, 0, 0, 0, 0),
  (29, 1, .istore_n 3, 0, 0, 0, 0),
  (30, 1, .iload_n 3, 0, 0, 0, 0),
  (31, 2, .bipush 83, 0, 0, 0, 0),
  (33, 3, .if_icmp .ne 7, 25, 0, 0, 0),
  (36, 1, .iconst 0, 0, 0, 0, 0),
  (37, 3, .goto 45, 46, 0, 0, 0),
  (40, 1, .iload_n 3, 0, 0, 0, 0),
  (41, 2, .bipush 77, 0, 0, 0, 0),
  (43, 3, .if_icmp .ne 7, 30, 0, 0, 0),
  (46, 1, .iconst 1, 0, 0, 0, 0),
  (47, 3, .goto 35, 46, 0, 0, 0),
  (50, 1, .iload_n 3, 0, 0, 0, 0),
  (51, 2, .bipush 82, 0, 0, 0, 0),
  (53, 3, .if_icmp .ne 7, 35, 0, 0, 0),
  (56, 1, .iconst 2, 0, 0, 0, 0),
  (57, 3, .goto 25, 46, 0, 0, 0),
  (60, 1, .iload_n 3, 0, 0, 0, 0),
  (61, 2, .bipush 80, 0, 0, 0, 0),
  (63, 3, .if_icmp .ne 7, 40, 0, 0, 0),
  (66, 1, .iconst 3, 0, 0, 0, 0),
  (67, 3, .goto 15, 46, 0, 0, 0),
  (70, 1, .iload_n 3, 0, 0, 0, 0),
  (71, 2, .bipush 87, 0, 0, 0, 0),
  (73, 3, .if_icmp .ne 7, 45, 0, 0, 0),
  (76, 1, .iconst 4, 0, 0, 0, 0),
  (77, 3, .goto 5, 46, 0, 0, 0),
  (80, 2, .bipush (-9), 0, 0, 0, 0),
  (82, 2, .istore 4, 0, 0, 0, 0),
  (84, 2, .iload 4, 0, 0, 0, 0),
  (86, 2, .bipush (-9), 0, 0, 0, 0),
  (88, 3, .if_icmp .ne 5, 52, 0, 0, 0),
  (91, 1, .iload_n 1, 0, 0, 0, 0),
  (92, 1, .ireturn, 0, 0, 0, 0),
  (93, 1, .aload_n 0, 0, 0, 0, 0),
  (94, 3, .getfield 39, 9, 12, 817, 1),
  (97, 1, .aload_n 0, 0, 0, 0, 0),
  (98, 3, .getfield 122, 9, 11, 816, 0),
  (101, 2, .iload 4, 0, 0, 0, 0),
  (103, 1, .iastore, 0, 0, 0, 0),
  (104, 3, .iinc 1 1, 0, 0, 0, 0),
  (107, 2, .iload 4, 0, 0, 0, 0),
  (109, 3, .ifCond .ne 35, 80, 0, 0, 0),
  (112, 1, .aload_n 0, 0, 0, 0, 0),
  (113, 1, .iload_n 1, 0, 0, 0, 0),
  (114, 1, .iconst 3, 0, 0, 0, 0),
  (115, 3, .invokevirtual 125, 148, 3, 0, 953),
  (118, 3, .ifCond .ne 5, 68, 0, 0, 0),
  (121, 1, .iload_n 1, 0, 0, 0, 0),
  (122, 1, .ireturn, 0, 0, 0, 0),
  (123, 1, .aload_n 0, 0, 0, 0, 0),
  (124, 3, .getfield 42, 9, 13, 818, 1),
  (127, 1, .aload_n 0, 0, 0, 0, 0),
  (128, 3, .getfield 122, 9, 11, 816, 0),
  (131, 1, .aload_n 0, 0, 0, 0, 0),
  (132, 3, .getfield 36, 9, 9, 814, 1),
  (135, 1, .iload_n 1, 0, 0, 0, 0),
  (136, 1, .iaload, 0, 0, 0, 0),
  (137, 2, .bipush 48, 0, 0, 0, 0),
  (139, 1, .isub, 0, 0, 0, 0),
  (140, 1, .iastore, 0, 0, 0, 0),
  (141, 3, .iinc 1 1, 0, 0, 0, 0),
  (144, 1, .iconst 0, 0, 0, 0, 0),
  (145, 2, .istore 5, 0, 0, 0, 0),
  (147, 2, .iload 5, 0, 0, 0, 0),
  (149, 1, .aload_n 0, 0, 0, 0, 0),
  (150, 3, .getfield 7, 9, 1, 806, 0),
  (153, 3, .if_icmp .ge 54, 114, 0, 0, 0),
  (156, 2, .iload 4, 0, 0, 0, 0),
  (158, 1, .iconst 4, 0, 0, 0, 0),
  (159, 3, .if_icmp .ne 48, 114, 0, 0, 0),
  (162, 1, .aload_n 0, 0, 0, 0, 0),
  (163, 1, .iload_n 1, 0, 0, 0, 0),
  (164, 2, .bipush 9, 0, 0, 0, 0),
  (166, 3, .invokevirtual 125, 148, 3, 0, 953),
  (169, 3, .ifCond .ne 5, 96, 0, 0, 0),
  (172, 1, .iload_n 1, 0, 0, 0, 0),
  (173, 1, .ireturn, 0, 0, 0, 0),
  (174, 1, .aload_n 0, 0, 0, 0, 0),
  (175, 3, .getfield 45, 9, 14, 819, 1),
  (178, 2, .bipush 7, 0, 0, 0, 0),
  (180, 1, .aload_n 0, 0, 0, 0, 0),
  (181, 3, .getfield 122, 9, 11, 816, 0),
  (184, 1, .imul, 0, 0, 0, 0),
  (185, 2, .iload 5, 0, 0, 0, 0),
  (187, 1, .iadd, 0, 0, 0, 0),
  (188, 1, .aload_n 0, 0, 0, 0, 0),
  (189, 3, .getfield 36, 9, 9, 814, 1),
  (192, 1, .iload_n 1, 0, 0, 0, 0),
  (193, 1, .iaload, 0, 0, 0, 0),
  (194, 2, .bipush 48, 0, 0, 0, 0),
  (196, 1, .isub, 0, 0, 0, 0),
  (197, 1, .iastore, 0, 0, 0, 0),
  (198, 3, .iinc 1 1, 0, 0, 0, 0),
  (201, 3, .iinc 5 1, 0, 0, 0, 0),
  (204, 3, .goto (-57), 82, 0, 0, 0),
  (207, 1, .aload_n 0, 0, 0, 0, 0),
  (208, 3, .getfield 7, 9, 1, 806, 0),
  (211, 2, .istore 5, 0, 0, 0, 0),
  (213, 2, .iload 5, 0, 0, 0, 0),
  (215, 2, .bipush 7, 0, 0, 0, 0),
  (217, 3, .if_icmp .ge 25, 132, 0, 0, 0),
  (220, 1, .aload_n 0, 0, 0, 0, 0),
  (221, 3, .getfield 45, 9, 14, 819, 1),
  (224, 2, .bipush 7, 0, 0, 0, 0),
  (226, 1, .aload_n 0, 0, 0, 0, 0),
  (227, 3, .getfield 122, 9, 11, 816, 0),
  (230, 1, .imul, 0, 0, 0, 0),
  (231, 2, .iload 5, 0, 0, 0, 0),
  (233, 1, .iadd, 0, 0, 0, 0),
  (234, 1, .iconst 0, 0, 0, 0, 0),
  (235, 1, .iastore, 0, 0, 0, 0),
  (236, 3, .iinc 5 1, 0, 0, 0, 0),
  (239, 3, .goto (-26), 117, 0, 0, 0),
  (242, 1, .aload_n 0, 0, 0, 0, 0),
  (243, 1, .dup, 0, 0, 0, 0),
  (244, 3, .getfield 122, 9, 11, 816, 0),
  (247, 1, .iconst 1, 0, 0, 0, 0),
  (248, 1, .iadd, 0, 0, 0, 0),
  (249, 3, .putfield 122, 9, 11, 816, 0),
  (252, 1, .iload_n 1, 0, 0, 0, 0),
  (253, 1, .aload_n 0, 0, 0, 0, 0),
  (254, 3, .getfield 117, 9, 10, 815, 0),
  (257, 3, .if_icmp .ge 7, 144, 0, 0, 0),
  (260, 1, .iconst 1, 0, 0, 0, 0),
  (261, 3, .goto 4, 145, 0, 0, 0),
  (264, 1, .iconst 0, 0, 0, 0, 0),
  (265, 1, .istore_n 2, 0, 0, 0, 0),
  (266, 1, .iload_n 2, 0, 0, 0, 0),
  (267, 3, .ifCond .eq 24, 160, 0, 0, 0),
  (270, 1, .aload_n 0, 0, 0, 0, 0),
  (271, 3, .getfield 36, 9, 9, 814, 1),
  (274, 1, .iload_n 1, 0, 0, 0, 0),
  (275, 1, .iaload, 0, 0, 0, 0),
  (276, 2, .bipush 47, 0, 0, 0, 0),
  (278, 3, .if_icmp .ne 11, 158, 0, 0, 0),
  (281, 1, .aload_n 0, 0, 0, 0, 0),
  (282, 3, .getfield 122, 9, 11, 816, 0),
  (285, 1, .iconst 3, 0, 0, 0, 0),
  (286, 3, .if_icmp .ne 5, 160, 0, 0, 0),
  (289, 1, .iload_n 1, 0, 0, 0, 0),
  (290, 1, .ireturn, 0, 0, 0, 0),
  (291, 1, .iload_n 1, 0, 0, 0, 0),
  (292, 1, .iload_n 2, 0, 0, 0, 0),
  (293, 3, .ifCond .eq 7, 165, 0, 0, 0),
  (296, 1, .iconst 1, 0, 0, 0, 0),
  (297, 3, .goto 4, 166, 0, 0, 0),
  (300, 1, .iconst 0, 0, 0, 0, 0),
  (301, 1, .iadd, 0, 0, 0, 0),
  (302, 1, .istore_n 1, 0, 0, 0, 0),
  (303, 3, .goto (-294), 7, 0, 0, 0),
  (306, 2, .bipush (-9), 0, 0, 0, 0),
  (308, 1, .ireturn, 0, 0, 0, 0)]
noncomputable def kd_X9_fault : List q_Ent := [
  (0, 1, .aload_n 0, 0, 0, 0, 0),
  (1, 1, .iconst 0, 0, 0, 0, 0),
  (2, 3, .putfield 87, 9, 0, 805, 0),
  (5, 1, .aload_n 0, 0, 0, 0, 0),
  (6, 3, .invokevirtual 129, 149, 1, 0, 949),
  (9, 1, .ireturn, 0, 0, 0, 0)]
noncomputable def kd_X9_rule : List q_Ent := [
  (0, 1, .aload_n 0, 0, 0, 0, 0),
  (1, 1, .iconst 0, 0, 0, 0, 0),
  (2, 3, .putfield 87, 9, 0, 805, 0),
  (5, 1, .iload_n 1, 0, 0, 0, 0),
  (6, 3, .invokestatic 132, 137, 1, 1, 962),
  (9, 3, .ifCond .eq 5, 8, 0, 0, 0),
  (12, 1, .iconst (-1), 0, 0, 0, 0),
  (13, 1, .ireturn, 0, 0, 0, 0),
  (14, 1, .aload_n 0, 0, 0, 0, 0),
  (15, 3, .invokevirtual 129, 149, 1, 0, 949),
  (18, 2, .bipush (-9), 0, 0, 0, 0),
  (20, 3, .if_icmp .eq 6, 14, 0, 0, 0),
  (23, 2, .bipush (-3), 0, 0, 0, 0),
  (25, 1, .ireturn, 0, 0, 0, 0),
  (26, 1, .aload_n 0, 0, 0, 0, 0),
  (27, 3, .getfield 48, 9, 15, 820, 1),
  (30, 1, .iload_n 1, 0, 0, 0, 0),
  (31, 1, .aload_n 0, 0, 0, 0, 0),
  (32, 3, .getfield 122, 9, 11, 816, 0),
  (35, 1, .iastore, 0, 0, 0, 0),
  (36, 1, .iconst 0, 0, 0, 0, 0),
  (37, 1, .istore_n 2, 0, 0, 0, 0),
  (38, 1, .iload_n 2, 0, 0, 0, 0),
  (39, 1, .aload_n 0, 0, 0, 0, 0),
  (40, 3, .getfield 122, 9, 11, 816, 0),
  (43, 3, .if_icmp .ge 82, 79, 0, 0, 0),
  (46, 1, .aload_n 0, 0, 0, 0, 0),
  (47, 3, .getfield 51, 9, 16, 821, 1),
  (50, 1, .iconst 3, 0, 0, 0, 0),
  (51, 1, .iload_n 1, 0, 0, 0, 0),
  (52, 1, .imul, 0, 0, 0, 0),
  (53, 1, .iload_n 2, 0, 0, 0, 0),
  (54, 1, .iadd, 0, 0, 0, 0),
  (55, 1, .aload_n 0, 0, 0, 0, 0),
  (56, 3, .getfield 39, 9, 12, 817, 1),
  (59, 1, .iload_n 2, 0, 0, 0, 0),
  (60, 1, .iaload, 0, 0, 0, 0),
  (61, 1, .iastore, 0, 0, 0, 0),
  (62, 1, .aload_n 0, 0, 0, 0, 0),
  (63, 3, .getfield 54, 9, 17, 822, 1),
  (66, 1, .iconst 3, 0, 0, 0, 0),
  (67, 1, .iload_n 1, 0, 0, 0, 0),
  (68, 1, .imul, 0, 0, 0, 0),
  (69, 1, .iload_n 2, 0, 0, 0, 0),
  (70, 1, .iadd, 0, 0, 0, 0),
  (71, 1, .aload_n 0, 0, 0, 0, 0),
  (72, 3, .getfield 42, 9, 13, 818, 1),
  (75, 1, .iload_n 2, 0, 0, 0, 0),
  (76, 1, .iaload, 0, 0, 0, 0),
  (77, 1, .iastore, 0, 0, 0, 0),
  (78, 1, .iconst 0, 0, 0, 0, 0),
  (79, 1, .istore_n 3, 0, 0, 0, 0),
  (80, 1, .iload_n 3, 0, 0, 0, 0),
  (81, 2, .bipush 7, 0, 0, 0, 0),
  (83, 3, .if_icmp .ge 36, 77, 0, 0, 0),
  (86, 1, .aload_n 0, 0, 0, 0, 0),
  (87, 3, .getfield 57, 9, 18, 823, 1),
  (90, 2, .bipush 21, 0, 0, 0, 0),
  (92, 1, .iload_n 1, 0, 0, 0, 0),
  (93, 1, .imul, 0, 0, 0, 0),
  (94, 2, .bipush 7, 0, 0, 0, 0),
  (96, 1, .iload_n 2, 0, 0, 0, 0),
  (97, 1, .imul, 0, 0, 0, 0),
  (98, 1, .iadd, 0, 0, 0, 0),
  (99, 1, .iload_n 3, 0, 0, 0, 0),
  (100, 1, .iadd, 0, 0, 0, 0),
  (101, 1, .aload_n 0, 0, 0, 0, 0),
  (102, 3, .getfield 45, 9, 14, 819, 1),
  (105, 2, .bipush 7, 0, 0, 0, 0),
  (107, 1, .iload_n 2, 0, 0, 0, 0),
  (108, 1, .imul, 0, 0, 0, 0),
  (109, 1, .iload_n 3, 0, 0, 0, 0),
  (110, 1, .iadd, 0, 0, 0, 0),
  (111, 1, .iaload, 0, 0, 0, 0),
  (112, 1, .iastore, 0, 0, 0, 0),
  (113, 3, .iinc 3 1, 0, 0, 0, 0),
  (116, 3, .goto (-36), 52, 0, 0, 0),
  (119, 3, .iinc 2 1, 0, 0, 0, 0),
  (122, 3, .goto (-84), 22, 0, 0, 0),
  (125, 1, .aload_n 0, 0, 0, 0, 0),
  (126, 3, .getfield 122, 9, 11, 816, 0),
  (129, 1, .ireturn, 0, 0, 0, 0)]
noncomputable def kd_X9_part : List q_Ent := [
  (0, 1, .aload_n 0, 0, 0, 0, 0),
  (1, 1, .iconst 0, 0, 0, 0, 0),
  (2, 3, .putfield 87, 9, 0, 805, 0),
  (5, 1, .iload_n 1, 0, 0, 0, 0),
  (6, 3, .invokestatic 132, 137, 1, 1, 962),
  (9, 3, .ifCond .eq 5, 8, 0, 0, 0),
  (12, 1, .iconst (-1), 0, 0, 0, 0),
  (13, 1, .ireturn, 0, 0, 0, 0),
  (14, 1, .iload_n 2, 0, 0, 0, 0),
  (15, 1, .i2l, 0, 0, 0, 0),
  (16, 1, .lconst 0, 0, 0, 0, 0),
  (17, 1, .aload_n 0, 0, 0, 0, 0),
  (18, 3, .getfield 48, 9, 15, 820, 1),
  (21, 1, .iload_n 1, 0, 0, 0, 0),
  (22, 1, .iaload, 0, 0, 0, 0),
  (23, 1, .iconst 1, 0, 0, 0, 0),
  (24, 1, .isub, 0, 0, 0, 0),
  (25, 1, .i2l, 0, 0, 0, 0),
  (26, 3, .invokestatic 90, 134, 3, 1, 898),
  (29, 3, .ifCond .eq 16, 29, 0, 0, 0),
  (32, 1, .aload_n 0, 0, 0, 0, 0),
  (33, 3, .getfield 51, 9, 16, 821, 1),
  (36, 1, .iconst 3, 0, 0, 0, 0),
  (37, 1, .iload_n 1, 0, 0, 0, 0),
  (38, 1, .imul, 0, 0, 0, 0),
  (39, 1, .iload_n 2, 0, 0, 0, 0),
  (40, 1, .iadd, 0, 0, 0, 0),
  (41, 1, .iaload, 0, 0, 0, 0),
  (42, 3, .goto 5, 30, 0, 0, 0),
  (45, 2, .bipush (-9), 0, 0, 0, 0),
  (47, 1, .ireturn, 0, 0, 0, 0)]
noncomputable def kd_X9_take : List q_Ent := [
  (0, 1, .iconst 0, 0, 0, 0, 0),
  (1, 1, .istore_n 1, 0, 0, 0, 0),
  (2, 1, .iload_n 1, 0, 0, 0, 0),
  (3, 2, .bipush 7, 0, 0, 0, 0),
  (5, 3, .if_icmp .ge 37, 23, 0, 0, 0),
  (8, 1, .aload_n 0, 0, 0, 0, 0),
  (9, 3, .getfield 33, 9, 8, 813, 1),
  (12, 1, .iload_n 1, 0, 0, 0, 0),
  (13, 1, .iload_n 1, 0, 0, 0, 0),
  (14, 1, .aload_n 0, 0, 0, 0, 0),
  (15, 3, .getfield 7, 9, 1, 806, 0),
  (18, 3, .if_icmp .ge 16, 19, 0, 0, 0),
  (21, 1, .aload_n 0, 0, 0, 0, 0),
  (22, 3, .getfield 26, 9, 6, 811, 1),
  (25, 1, .iload_n 1, 0, 0, 0, 0),
  (26, 1, .baload, 0, 0, 0, 0),
  (27, 3, .ifCond .ne 7, 19, 0, 0, 0),
  (30, 1, .iconst 1, 0, 0, 0, 0),
  (31, 3, .goto 4, 20, 0, 0, 0),
  (34, 1, .iconst 0, 0, 0, 0, 0),
  (35, 1, .bastore, 0, 0, 0, 0),
  (36, 3, .iinc 1 1, 0, 0, 0, 0),
  (39, 3, .goto (-37), 2, 0, 0, 0),
  (42, 1, .iconst 0, 0, 0, 0, 0),
  (43, 1, .istore_n 1, 0, 0, 0, 0),
  (44, 1, .iload_n 1, 0, 0, 0, 0),
  (45, 2, .bipush 28, 0, 0, 0, 0),
  (47, 3, .if_icmp .ge 21, 38, 0, 0, 0),
  (50, 1, .aload_n 0, 0, 0, 0, 0),
  (51, 3, .getfield 30, 9, 7, 812, 1),
  (54, 1, .iload_n 1, 0, 0, 0, 0),
  (55, 1, .aload_n 0, 0, 0, 0, 0),
  (56, 3, .getfield 23, 9, 5, 810, 1),
  (59, 1, .iload_n 1, 0, 0, 0, 0),
  (60, 1, .iaload, 0, 0, 0, 0),
  (61, 1, .iastore, 0, 0, 0, 0),
  (62, 3, .iinc 1 1, 0, 0, 0, 0),
  (65, 3, .goto (-21), 25, 0, 0, 0),
  (68, 1, .return_, 0, 0, 0, 0)]
noncomputable def kd_X9_sort : List q_Ent := [
  (0, 1, .iconst 0, 0, 0, 0, 0),
  (1, 1, .istore_n 2, 0, 0, 0, 0),
  (2, 1, .iconst 0, 0, 0, 0, 0),
  (3, 1, .istore_n 3, 0, 0, 0, 0),
  (4, 1, .iload_n 3, 0, 0, 0, 0),
  (5, 1, .aload_n 0, 0, 0, 0, 0),
  (6, 3, .getfield 7, 9, 1, 806, 0),
  (9, 3, .if_icmp .ge 90, 59, 0, 0, 0),
  (12, 1, .aload_n 0, 0, 0, 0, 0),
  (13, 3, .getfield 33, 9, 8, 813, 1),
  (16, 1, .iload_n 3, 0, 0, 0, 0),
  (17, 1, .baload, 0, 0, 0, 0),
  (18, 3, .ifCond .eq 75, 57, 0, 0, 0),
  (21, 1, .iload_n 2, 0, 0, 0, 0),
  (22, 2, .istore 4, 0, 0, 0, 0),
  (24, 2, .iload 4, 0, 0, 0, 0),
  (26, 3, .ifCond .le 47, 44, 0, 0, 0),
  (29, 1, .aload_n 0, 0, 0, 0, 0),
  (30, 3, .getfield 63, 9, 20, 825, 1),
  (33, 2, .iload 4, 0, 0, 0, 0),
  (35, 1, .iconst 1, 0, 0, 0, 0),
  (36, 1, .isub, 0, 0, 0, 0),
  (37, 1, .iaload, 0, 0, 0, 0),
  (38, 1, .aload_n 0, 0, 0, 0, 0),
  (39, 3, .getfield 30, 9, 7, 812, 1),
  (42, 1, .iconst 4, 0, 0, 0, 0),
  (43, 1, .iload_n 3, 0, 0, 0, 0),
  (44, 1, .imul, 0, 0, 0, 0),
  (45, 1, .iload_n 1, 0, 0, 0, 0),
  (46, 1, .iadd, 0, 0, 0, 0),
  (47, 1, .iaload, 0, 0, 0, 0),
  (48, 3, .if_icmp .le 25, 44, 0, 0, 0),
  (51, 1, .aload_n 0, 0, 0, 0, 0),
  (52, 3, .getfield 63, 9, 20, 825, 1),
  (55, 2, .iload 4, 0, 0, 0, 0),
  (57, 1, .aload_n 0, 0, 0, 0, 0),
  (58, 3, .getfield 63, 9, 20, 825, 1),
  (61, 2, .iload 4, 0, 0, 0, 0),
  (63, 1, .iconst 1, 0, 0, 0, 0),
  (64, 1, .isub, 0, 0, 0, 0),
  (65, 1, .iaload, 0, 0, 0, 0),
  (66, 1, .iastore, 0, 0, 0, 0),
  (67, 3, .iinc 4 (-1), 0, 0, 0, 0),
  (70, 3, .goto (-46), 15, 0, 0, 0),
  (73, 1, .aload_n 0, 0, 0, 0, 0),
  (74, 3, .getfield 63, 9, 20, 825, 1),
  (77, 2, .iload 4, 0, 0, 0, 0),
  (79, 1, .aload_n 0, 0, 0, 0, 0),
  (80, 3, .getfield 30, 9, 7, 812, 1),
  (83, 1, .iconst 4, 0, 0, 0, 0),
  (84, 1, .iload_n 3, 0, 0, 0, 0),
  (85, 1, .imul, 0, 0, 0, 0),
  (86, 1, .iload_n 1, 0, 0, 0, 0),
  (87, 1, .iadd, 0, 0, 0, 0),
  (88, 1, .iaload, 0, 0, 0, 0),
  (89, 1, .iastore, 0, 0, 0, 0),
  (90, 3, .iinc 2 1, 0, 0, 0, 0),
  (93, 3, .iinc 3 1, 0, 0, 0, 0),
  (96, 3, .goto (-92), 4, 0, 0, 0),
  (99, 1, .iload_n 2, 0, 0, 0, 0),
  (100, 1, .ireturn, 0, 0, 0, 0)]
noncomputable def kd_X9_struck : List q_Ent := [
  (0, 1, .aload_n 0, 0, 0, 0, 0),
  (1, 1, .iload_n 1, 0, 0, 0, 0),
  (2, 3, .invokevirtual 135, 154, 2, 0, 986),
  (5, 1, .istore_n 3, 0, 0, 0, 0),
  (6, 1, .iconst 0, 0, 0, 0, 0),
  (7, 2, .istore 4, 0, 0, 0, 0),
  (9, 1, .iload_n 2, 0, 0, 0, 0),
  (10, 2, .istore 5, 0, 0, 0, 0),
  (12, 2, .iload 5, 0, 0, 0, 0),
  (14, 1, .iload_n 3, 0, 0, 0, 0),
  (15, 1, .iload_n 2, 0, 0, 0, 0),
  (16, 1, .isub, 0, 0, 0, 0),
  (17, 3, .if_icmp .ge 21, 22, 0, 0, 0),
  (20, 2, .iload 4, 0, 0, 0, 0),
  (22, 1, .aload_n 0, 0, 0, 0, 0),
  (23, 3, .getfield 63, 9, 20, 825, 1),
  (26, 2, .iload 5, 0, 0, 0, 0),
  (28, 1, .iaload, 0, 0, 0, 0),
  (29, 1, .iadd, 0, 0, 0, 0),
  (30, 2, .istore 4, 0, 0, 0, 0),
  (32, 3, .iinc 5 1, 0, 0, 0, 0),
  (35, 3, .goto (-23), 8, 0, 0, 0),
  (38, 2, .iload 4, 0, 0, 0, 0),
  (40, 1, .ireturn, 0, 0, 0, 0)]
noncomputable def kd_X9_middle : List q_Ent := [
  (0, 1, .aload_n 0, 0, 0, 0, 0),
  (1, 1, .iload_n 1, 0, 0, 0, 0),
  (2, 3, .invokevirtual 135, 154, 2, 0, 986),
  (5, 1, .istore_n 2, 0, 0, 0, 0),
  (6, 1, .iload_n 2, 0, 0, 0, 0),
  (7, 3, .ifCond .ne 7, 8, 0, 0, 0),
  (10, 1, .iconst 0, 0, 0, 0, 0),
  (11, 3, .goto 22, 23, 0, 0, 0),
  (14, 1, .aload_n 0, 0, 0, 0, 0),
  (15, 3, .getfield 63, 9, 20, 825, 1),
  (18, 1, .iload_n 2, 0, 0, 0, 0),
  (19, 1, .iconst 1, 0, 0, 0, 0),
  (20, 1, .isub, 0, 0, 0, 0),
  (21, 1, .iconst 2, 0, 0, 0, 0),
  (22, 1, .idiv, 0, 0, 0, 0),
  (23, 1, .iaload, 0, 0, 0, 0),
  (24, 1, .aload_n 0, 0, 0, 0, 0),
  (25, 3, .getfield 63, 9, 20, 825, 1),
  (28, 1, .iload_n 2, 0, 0, 0, 0),
  (29, 1, .iconst 2, 0, 0, 0, 0),
  (30, 1, .idiv, 0, 0, 0, 0),
  (31, 1, .iaload, 0, 0, 0, 0),
  (32, 1, .iadd, 0, 0, 0, 0),
  (33, 1, .ireturn, 0, 0, 0, 0)]
noncomputable def kd_X9_ranks : List q_Ent := [
  (0, 1, .iconst 0, 0, 0, 0, 0),
  (1, 1, .istore_n 2, 0, 0, 0, 0),
  (2, 1, .iconst 0, 0, 0, 0, 0),
  (3, 1, .istore_n 3, 0, 0, 0, 0),
  (4, 1, .iload_n 3, 0, 0, 0, 0),
  (5, 1, .aload_n 0, 0, 0, 0, 0),
  (6, 3, .getfield 7, 9, 1, 806, 0),
  (9, 3, .if_icmp .ge 92, 58, 0, 0, 0),
  (12, 1, .iconst 0, 0, 0, 0, 0),
  (13, 2, .istore 4, 0, 0, 0, 0),
  (15, 2, .iload 4, 0, 0, 0, 0),
  (17, 1, .aload_n 0, 0, 0, 0, 0),
  (18, 3, .getfield 13, 9, 2, 807, 0),
  (21, 3, .if_icmp .ge 74, 56, 0, 0, 0),
  (24, 1, .aload_n 0, 0, 0, 0, 0),
  (25, 3, .getfield 33, 9, 8, 813, 1),
  (28, 1, .iload_n 3, 0, 0, 0, 0),
  (29, 1, .baload, 0, 0, 0, 0),
  (30, 3, .ifCond .eq 65, 56, 0, 0, 0),
  (33, 1, .aload_n 0, 0, 0, 0, 0),
  (34, 3, .getfield 30, 9, 7, 812, 1),
  (37, 1, .iconst 4, 0, 0, 0, 0),
  (38, 1, .iload_n 3, 0, 0, 0, 0),
  (39, 1, .imul, 0, 0, 0, 0),
  (40, 1, .iload_n 1, 0, 0, 0, 0),
  (41, 1, .iadd, 0, 0, 0, 0),
  (42, 1, .iaload, 0, 0, 0, 0),
  (43, 1, .aload_n 0, 0, 0, 0, 0),
  (44, 3, .getfield 30, 9, 7, 812, 1),
  (47, 1, .iconst 4, 0, 0, 0, 0),
  (48, 1, .iload_n 3, 0, 0, 0, 0),
  (49, 1, .imul, 0, 0, 0, 0),
  (50, 2, .iload 4, 0, 0, 0, 0),
  (52, 1, .iadd, 0, 0, 0, 0),
  (53, 1, .iaload, 0, 0, 0, 0),
  (54, 1, .isub, 0, 0, 0, 0),
  (55, 2, .istore 5, 0, 0, 0, 0),
  (57, 1, .iload_n 2, 0, 0, 0, 0),
  (58, 2, .iload 4, 0, 0, 0, 0),
  (60, 1, .iload_n 1, 0, 0, 0, 0),
  (61, 3, .if_icmp .ne 7, 43, 0, 0, 0),
  (64, 1, .iconst 0, 0, 0, 0, 0),
  (65, 3, .goto 22, 52, 0, 0, 0),
  (68, 2, .iload 5, 0, 0, 0, 0),
  (70, 3, .ifCond .le 7, 47, 0, 0, 0),
  (73, 1, .iconst 2, 0, 0, 0, 0),
  (74, 3, .goto 13, 52, 0, 0, 0),
  (77, 2, .iload 5, 0, 0, 0, 0),
  (79, 3, .ifCond .ne 7, 51, 0, 0, 0),
  (82, 1, .iconst 1, 0, 0, 0, 0),
  (83, 3, .goto 4, 52, 0, 0, 0),
  (86, 1, .iconst 0, 0, 0, 0, 0),
  (87, 1, .iadd, 0, 0, 0, 0),
  (88, 1, .istore_n 2, 0, 0, 0, 0),
  (89, 3, .iinc 4 1, 0, 0, 0, 0),
  (92, 3, .goto (-77), 10, 0, 0, 0),
  (95, 3, .iinc 3 1, 0, 0, 0, 0),
  (98, 3, .goto (-94), 4, 0, 0, 0),
  (101, 1, .iload_n 2, 0, 0, 0, 0),
  (102, 1, .ireturn, 0, 0, 0, 0)]
noncomputable def kd_X9_pairs : List q_Ent := [
  (0, 1, .iconst 0, 0, 0, 0, 0),
  (1, 1, .istore_n 2, 0, 0, 0, 0),
  (2, 1, .iconst 0, 0, 0, 0, 0),
  (3, 1, .istore_n 3, 0, 0, 0, 0),
  (4, 1, .iload_n 3, 0, 0, 0, 0),
  (5, 1, .aload_n 0, 0, 0, 0, 0),
  (6, 3, .getfield 13, 9, 2, 807, 0),
  (9, 3, .if_icmp .ge 124, 74, 0, 0, 0),
  (12, 1, .iconst 0, 0, 0, 0, 0),
  (13, 2, .istore 4, 0, 0, 0, 0),
  (15, 1, .iconst 0, 0, 0, 0, 0),
  (16, 2, .istore 5, 0, 0, 0, 0),
  (18, 2, .iload 5, 0, 0, 0, 0),
  (20, 1, .aload_n 0, 0, 0, 0, 0),
  (21, 3, .getfield 7, 9, 1, 806, 0),
  (24, 3, .if_icmp .ge 72, 55, 0, 0, 0),
  (27, 1, .aload_n 0, 0, 0, 0, 0),
  (28, 3, .getfield 30, 9, 7, 812, 1),
  (31, 1, .iconst 4, 0, 0, 0, 0),
  (32, 2, .iload 5, 0, 0, 0, 0),
  (34, 1, .imul, 0, 0, 0, 0),
  (35, 1, .iload_n 1, 0, 0, 0, 0),
  (36, 1, .iadd, 0, 0, 0, 0),
  (37, 1, .iaload, 0, 0, 0, 0),
  (38, 1, .aload_n 0, 0, 0, 0, 0),
  (39, 3, .getfield 30, 9, 7, 812, 1),
  (42, 1, .iconst 4, 0, 0, 0, 0),
  (43, 2, .iload 5, 0, 0, 0, 0),
  (45, 1, .imul, 0, 0, 0, 0),
  (46, 1, .iload_n 3, 0, 0, 0, 0),
  (47, 1, .iadd, 0, 0, 0, 0),
  (48, 1, .iaload, 0, 0, 0, 0),
  (49, 1, .isub, 0, 0, 0, 0),
  (50, 2, .istore 6, 0, 0, 0, 0),
  (52, 2, .iload 4, 0, 0, 0, 0),
  (54, 1, .aload_n 0, 0, 0, 0, 0),
  (55, 3, .getfield 33, 9, 8, 813, 1),
  (58, 2, .iload 5, 0, 0, 0, 0),
  (60, 1, .baload, 0, 0, 0, 0),
  (61, 3, .ifCond .ne 7, 42, 0, 0, 0),
  (64, 1, .iconst 0, 0, 0, 0, 0),
  (65, 3, .goto 22, 51, 0, 0, 0),
  (68, 2, .iload 6, 0, 0, 0, 0),
  (70, 3, .ifCond .le 7, 46, 0, 0, 0),
  (73, 1, .iconst 1, 0, 0, 0, 0),
  (74, 3, .goto 13, 51, 0, 0, 0),
  (77, 2, .iload 6, 0, 0, 0, 0),
  (79, 3, .ifCond .ge 7, 50, 0, 0, 0),
  (82, 1, .iconst (-1), 0, 0, 0, 0),
  (83, 3, .goto 4, 51, 0, 0, 0),
  (86, 1, .iconst 0, 0, 0, 0, 0),
  (87, 1, .iadd, 0, 0, 0, 0),
  (88, 2, .istore 4, 0, 0, 0, 0),
  (90, 3, .iinc 5 1, 0, 0, 0, 0),
  (93, 3, .goto (-75), 12, 0, 0, 0),
  (96, 1, .iload_n 2, 0, 0, 0, 0),
  (97, 1, .iload_n 3, 0, 0, 0, 0),
  (98, 1, .iload_n 1, 0, 0, 0, 0),
  (99, 3, .if_icmp .ne 7, 61, 0, 0, 0),
  (102, 1, .iconst 0, 0, 0, 0, 0),
  (103, 3, .goto 22, 70, 0, 0, 0),
  (106, 2, .iload 4, 0, 0, 0, 0),
  (108, 3, .ifCond .le 7, 65, 0, 0, 0),
  (111, 1, .iconst 2, 0, 0, 0, 0),
  (112, 3, .goto 13, 70, 0, 0, 0),
  (115, 2, .iload 4, 0, 0, 0, 0),
  (117, 3, .ifCond .ne 7, 69, 0, 0, 0),
  (120, 1, .iconst 1, 0, 0, 0, 0),
  (121, 3, .goto 4, 70, 0, 0, 0),
  (124, 1, .iconst 0, 0, 0, 0, 0),
  (125, 1, .iadd, 0, 0, 0, 0),
  (126, 1, .istore_n 2, 0, 0, 0, 0),
  (127, 3, .iinc 3 1, 0, 0, 0, 0),
  (130, 3, .goto (-126), 4, 0, 0, 0),
  (133, 1, .iload_n 2, 0, 0, 0, 0),
  (134, 1, .ireturn, 0, 0, 0, 0)]
noncomputable def kd_X9_weighed : List q_Ent := [
  (0, 1, .iconst 0, 0, 0, 0, 0),
  (1, 1, .istore_n 3, 0, 0, 0, 0),
  (2, 1, .iconst 0, 0, 0, 0, 0),
  (3, 2, .istore 4, 0, 0, 0, 0),
  (5, 2, .iload 4, 0, 0, 0, 0),
  (7, 1, .aload_n 0, 0, 0, 0, 0),
  (8, 3, .getfield 7, 9, 1, 806, 0),
  (11, 3, .if_icmp .ge 50, 37, 0, 0, 0),
  (14, 1, .iload_n 3, 0, 0, 0, 0),
  (15, 1, .aload_n 0, 0, 0, 0, 0),
  (16, 3, .getfield 33, 9, 8, 813, 1),
  (19, 2, .iload 4, 0, 0, 0, 0),
  (21, 1, .baload, 0, 0, 0, 0),
  (22, 3, .ifCond .eq 30, 32, 0, 0, 0),
  (25, 1, .aload_n 0, 0, 0, 0, 0),
  (26, 3, .getfield 30, 9, 7, 812, 1),
  (29, 1, .iconst 4, 0, 0, 0, 0),
  (30, 2, .iload 4, 0, 0, 0, 0),
  (32, 1, .imul, 0, 0, 0, 0),
  (33, 1, .iload_n 1, 0, 0, 0, 0),
  (34, 1, .iadd, 0, 0, 0, 0),
  (35, 1, .iaload, 0, 0, 0, 0),
  (36, 1, .aload_n 0, 0, 0, 0, 0),
  (37, 3, .getfield 57, 9, 18, 823, 1),
  (40, 2, .bipush 7, 0, 0, 0, 0),
  (42, 1, .iload_n 2, 0, 0, 0, 0),
  (43, 1, .imul, 0, 0, 0, 0),
  (44, 2, .iload 4, 0, 0, 0, 0),
  (46, 1, .iadd, 0, 0, 0, 0),
  (47, 1, .iaload, 0, 0, 0, 0),
  (48, 1, .imul, 0, 0, 0, 0),
  (49, 3, .goto 4, 33, 0, 0, 0),
  (52, 1, .iconst 0, 0, 0, 0, 0),
  (53, 1, .iadd, 0, 0, 0, 0),
  (54, 1, .istore_n 3, 0, 0, 0, 0),
  (55, 3, .iinc 4 1, 0, 0, 0, 0),
  (58, 3, .goto (-53), 4, 0, 0, 0),
  (61, 1, .iload_n 3, 0, 0, 0, 0),
  (62, 1, .ireturn, 0, 0, 0, 0)]
noncomputable def kd_X9_worthOf : List q_Ent := [
  (0, 1, .iconst 3, 0, 0, 0, 0),
  (1, 1, .iload_n 1, 0, 0, 0, 0),
  (2, 1, .imul, 0, 0, 0, 0),
  (3, 1, .iload_n 2, 0, 0, 0, 0),
  (4, 1, .iadd, 0, 0, 0, 0),
  (5, 2, .istore 4, 0, 0, 0, 0),
  (7, 1, .aload_n 0, 0, 0, 0, 0),
  (8, 3, .getfield 51, 9, 16, 821, 1),
  (11, 2, .iload 4, 0, 0, 0, 0),
  (13, 1, .iaload, 0, 0, 0, 0),
  (14, 30, .tableswitch 61 0 3 #[30, 43, 49, 55], 0, 0, 0, 0),
  (44, 1, .aload_n 0, 0, 0, 0, 0),
  (45, 1, .iload_n 3, 0, 0, 0, 0),
  (46, 1, .aload_n 0, 0, 0, 0, 0),
  (47, 3, .getfield 54, 9, 17, 822, 1),
  (50, 2, .iload 4, 0, 0, 0, 0),
  (52, 1, .iaload, 0, 0, 0, 0),
  (53, 3, .invokevirtual 139, 155, 3, 0, 982),
  (56, 1, .ireturn, 0, 0, 0, 0),
  (57, 1, .aload_n 0, 0, 0, 0, 0),
  (58, 1, .iload_n 3, 0, 0, 0, 0),
  (59, 3, .invokevirtual 143, 156, 2, 0, 990),
  (62, 1, .ireturn, 0, 0, 0, 0),
  (63, 1, .aload_n 0, 0, 0, 0, 0),
  (64, 1, .iload_n 3, 0, 0, 0, 0),
  (65, 3, .invokevirtual 146, 157, 2, 0, 994),
  (68, 1, .ireturn, 0, 0, 0, 0),
  (69, 1, .aload_n 0, 0, 0, 0, 0),
  (70, 1, .iload_n 3, 0, 0, 0, 0),
  (71, 3, .invokevirtual 149, 158, 2, 0, 998),
  (74, 1, .ireturn, 0, 0, 0, 0),
  (75, 1, .aload_n 0, 0, 0, 0, 0),
  (76, 1, .iload_n 3, 0, 0, 0, 0),
  (77, 2, .iload 4, 0, 0, 0, 0),
  (79, 3, .invokevirtual 152, 159, 3, 0, 1002),
  (82, 1, .ireturn, 0, 0, 0, 0)]
noncomputable def kd_X9_lay : List q_Ent := [
  (0, 1, .iconst 0, 0, 0, 0, 0),
  (1, 1, .istore_n 2, 0, 0, 0, 0),
  (2, 1, .iload_n 2, 0, 0, 0, 0),
  (3, 1, .aload_n 0, 0, 0, 0, 0),
  (4, 3, .getfield 48, 9, 15, 820, 1),
  (7, 1, .iload_n 1, 0, 0, 0, 0),
  (8, 1, .iaload, 0, 0, 0, 0),
  (9, 3, .if_icmp .ge 42, 31, 0, 0, 0),
  (12, 1, .iconst 0, 0, 0, 0, 0),
  (13, 1, .istore_n 3, 0, 0, 0, 0),
  (14, 1, .iload_n 3, 0, 0, 0, 0),
  (15, 1, .aload_n 0, 0, 0, 0, 0),
  (16, 3, .getfield 13, 9, 2, 807, 0),
  (19, 3, .if_icmp .ge 26, 29, 0, 0, 0),
  (22, 1, .aload_n 0, 0, 0, 0, 0),
  (23, 3, .getfield 60, 9, 19, 824, 1),
  (26, 1, .iconst 4, 0, 0, 0, 0),
  (27, 1, .iload_n 2, 0, 0, 0, 0),
  (28, 1, .imul, 0, 0, 0, 0),
  (29, 1, .iload_n 3, 0, 0, 0, 0),
  (30, 1, .iadd, 0, 0, 0, 0),
  (31, 1, .aload_n 0, 0, 0, 0, 0),
  (32, 1, .iload_n 1, 0, 0, 0, 0),
  (33, 1, .iload_n 2, 0, 0, 0, 0),
  (34, 1, .iload_n 3, 0, 0, 0, 0),
  (35, 3, .invokevirtual 155, 160, 4, 0, 978),
  (38, 1, .iastore, 0, 0, 0, 0),
  (39, 3, .iinc 3 1, 0, 0, 0, 0),
  (42, 3, .goto (-28), 10, 0, 0, 0),
  (45, 3, .iinc 2 1, 0, 0, 0, 0),
  (48, 3, .goto (-46), 2, 0, 0, 0),
  (51, 1, .return_, 0, 0, 0, 0)]
noncomputable def kd_X9_by : List q_Ent := [
  (0, 1, .iconst 0, 0, 0, 0, 0),
  (1, 2, .istore 4, 0, 0, 0, 0),
  (3, 2, .iload 4, 0, 0, 0, 0),
  (5, 1, .aload_n 0, 0, 0, 0, 0),
  (6, 3, .getfield 48, 9, 15, 820, 1),
  (9, 1, .iload_n 1, 0, 0, 0, 0),
  (10, 1, .iaload, 0, 0, 0, 0),
  (11, 3, .if_icmp .ge 50, 36, 0, 0, 0),
  (14, 1, .aload_n 0, 0, 0, 0, 0),
  (15, 3, .getfield 60, 9, 19, 824, 1),
  (18, 1, .iconst 4, 0, 0, 0, 0),
  (19, 2, .iload 4, 0, 0, 0, 0),
  (21, 1, .imul, 0, 0, 0, 0),
  (22, 1, .iload_n 2, 0, 0, 0, 0),
  (23, 1, .iadd, 0, 0, 0, 0),
  (24, 1, .iaload, 0, 0, 0, 0),
  (25, 1, .aload_n 0, 0, 0, 0, 0),
  (26, 3, .getfield 60, 9, 19, 824, 1),
  (29, 1, .iconst 4, 0, 0, 0, 0),
  (30, 2, .iload 4, 0, 0, 0, 0),
  (32, 1, .imul, 0, 0, 0, 0),
  (33, 1, .iload_n 3, 0, 0, 0, 0),
  (34, 1, .iadd, 0, 0, 0, 0),
  (35, 1, .iaload, 0, 0, 0, 0),
  (36, 1, .isub, 0, 0, 0, 0),
  (37, 2, .istore 5, 0, 0, 0, 0),
  (39, 2, .iload 5, 0, 0, 0, 0),
  (41, 3, .ifCond .eq 14, 34, 0, 0, 0),
  (44, 2, .iload 5, 0, 0, 0, 0),
  (46, 3, .ifCond .le 7, 32, 0, 0, 0),
  (49, 1, .iconst 1, 0, 0, 0, 0),
  (50, 3, .goto 4, 33, 0, 0, 0),
  (53, 1, .iconst (-1), 0, 0, 0, 0),
  (54, 1, .ireturn, 0, 0, 0, 0),
  (55, 3, .iinc 4 1, 0, 0, 0, 0),
  (58, 3, .goto (-55), 2, 0, 0, 0),
  (61, 1, .iconst 0, 0, 0, 0, 0),
  (62, 1, .ireturn, 0, 0, 0, 0)]
noncomputable def kd_X9_placeOf : List q_Ent := [
  (0, 1, .iconst 1, 0, 0, 0, 0),
  (1, 1, .istore_n 3, 0, 0, 0, 0),
  (2, 1, .iconst 0, 0, 0, 0, 0),
  (3, 2, .istore 4, 0, 0, 0, 0),
  (5, 2, .iload 4, 0, 0, 0, 0),
  (7, 1, .aload_n 0, 0, 0, 0, 0),
  (8, 3, .getfield 13, 9, 2, 807, 0),
  (11, 3, .if_icmp .ge 28, 22, 0, 0, 0),
  (14, 1, .iload_n 3, 0, 0, 0, 0),
  (15, 1, .aload_n 0, 0, 0, 0, 0),
  (16, 1, .iload_n 1, 0, 0, 0, 0),
  (17, 2, .iload 4, 0, 0, 0, 0),
  (19, 1, .iload_n 2, 0, 0, 0, 0),
  (20, 3, .invokevirtual 159, 162, 4, 0, 1018),
  (23, 3, .ifCond .le 7, 17, 0, 0, 0),
  (26, 1, .iconst 1, 0, 0, 0, 0),
  (27, 3, .goto 4, 18, 0, 0, 0),
  (30, 1, .iconst 0, 0, 0, 0, 0),
  (31, 1, .iadd, 0, 0, 0, 0),
  (32, 1, .istore_n 3, 0, 0, 0, 0),
  (33, 3, .iinc 4 1, 0, 0, 0, 0),
  (36, 3, .goto (-31), 4, 0, 0, 0),
  (39, 1, .iload_n 3, 0, 0, 0, 0),
  (40, 1, .ireturn, 0, 0, 0, 0)]
noncomputable def kd_X9_firsts : List q_Ent := [
  (0, 1, .iconst 0, 0, 0, 0, 0),
  (1, 1, .istore_n 2, 0, 0, 0, 0),
  (2, 1, .iconst 0, 0, 0, 0, 0),
  (3, 1, .istore_n 3, 0, 0, 0, 0),
  (4, 1, .iload_n 3, 0, 0, 0, 0),
  (5, 1, .aload_n 0, 0, 0, 0, 0),
  (6, 3, .getfield 13, 9, 2, 807, 0),
  (9, 3, .if_icmp .ge 29, 24, 0, 0, 0),
  (12, 1, .iload_n 2, 0, 0, 0, 0),
  (13, 1, .aload_n 0, 0, 0, 0, 0),
  (14, 1, .iload_n 1, 0, 0, 0, 0),
  (15, 1, .iload_n 3, 0, 0, 0, 0),
  (16, 3, .invokevirtual 162, 163, 3, 0, 1014),
  (19, 1, .iconst 1, 0, 0, 0, 0),
  (20, 3, .if_icmp .ne 9, 19, 0, 0, 0),
  (23, 1, .iconst 1, 0, 0, 0, 0),
  (24, 1, .iload_n 3, 0, 0, 0, 0),
  (25, 1, .ishl, 0, 0, 0, 0),
  (26, 3, .goto 4, 20, 0, 0, 0),
  (29, 1, .iconst 0, 0, 0, 0, 0),
  (30, 1, .ior, 0, 0, 0, 0),
  (31, 1, .istore_n 2, 0, 0, 0, 0),
  (32, 3, .iinc 3 1, 0, 0, 0, 0),
  (35, 3, .goto (-31), 4, 0, 0, 0),
  (38, 1, .iload_n 2, 0, 0, 0, 0),
  (39, 1, .ireturn, 0, 0, 0, 0)]
noncomputable def kd_X9_worth : List q_Ent := [
  (0, 1, .aload_n 0, 0, 0, 0, 0),
  (1, 1, .iconst 0, 0, 0, 0, 0),
  (2, 3, .putfield 87, 9, 0, 805, 0),
  (5, 1, .iload_n 1, 0, 0, 0, 0),
  (6, 3, .invokestatic 132, 137, 1, 1, 962),
  (9, 3, .ifCond .ne 11, 10, 0, 0, 0),
  (12, 1, .aload_n 0, 0, 0, 0, 0),
  (13, 1, .iload_n 2, 0, 0, 0, 0),
  (14, 3, .invokevirtual 100, 136, 2, 0, 906),
  (17, 3, .ifCond .eq 5, 12, 0, 0, 0),
  (20, 1, .iconst (-1), 0, 0, 0, 0),
  (21, 1, .ireturn, 0, 0, 0, 0),
  (22, 1, .iload_n 3, 0, 0, 0, 0),
  (23, 1, .i2l, 0, 0, 0, 0),
  (24, 1, .lconst 0, 0, 0, 0, 0),
  (25, 1, .aload_n 0, 0, 0, 0, 0),
  (26, 3, .getfield 48, 9, 15, 820, 1),
  (29, 1, .iload_n 1, 0, 0, 0, 0),
  (30, 1, .iaload, 0, 0, 0, 0),
  (31, 1, .iconst 1, 0, 0, 0, 0),
  (32, 1, .isub, 0, 0, 0, 0),
  (33, 1, .i2l, 0, 0, 0, 0),
  (34, 3, .invokestatic 90, 134, 3, 1, 898),
  (37, 3, .ifCond .ne 6, 26, 0, 0, 0),
  (40, 2, .bipush (-2), 0, 0, 0, 0),
  (42, 1, .ireturn, 0, 0, 0, 0),
  (43, 1, .aload_n 0, 0, 0, 0, 0),
  (44, 3, .invokevirtual 165, 153, 1, 0, 974),
  (47, 1, .aload_n 0, 0, 0, 0, 0),
  (48, 1, .iload_n 1, 0, 0, 0, 0),
  (49, 1, .iload_n 3, 0, 0, 0, 0),
  (50, 1, .iload_n 2, 0, 0, 0, 0),
  (51, 3, .invokevirtual 155, 160, 4, 0, 978),
  (54, 1, .ireturn, 0, 0, 0, 0)]
noncomputable def kd_X9_place : List q_Ent := [
  (0, 1, .aload_n 0, 0, 0, 0, 0),
  (1, 1, .iconst 0, 0, 0, 0, 0),
  (2, 3, .putfield 87, 9, 0, 805, 0),
  (5, 1, .iload_n 1, 0, 0, 0, 0),
  (6, 3, .invokestatic 132, 137, 1, 1, 962),
  (9, 3, .ifCond .ne 11, 10, 0, 0, 0),
  (12, 1, .aload_n 0, 0, 0, 0, 0),
  (13, 1, .iload_n 2, 0, 0, 0, 0),
  (14, 3, .invokevirtual 100, 136, 2, 0, 906),
  (17, 3, .ifCond .eq 5, 12, 0, 0, 0),
  (20, 1, .iconst (-1), 0, 0, 0, 0),
  (21, 1, .ireturn, 0, 0, 0, 0),
  (22, 1, .aload_n 0, 0, 0, 0, 0),
  (23, 3, .invokevirtual 165, 153, 1, 0, 974),
  (26, 1, .aload_n 0, 0, 0, 0, 0),
  (27, 1, .iload_n 1, 0, 0, 0, 0),
  (28, 3, .invokevirtual 168, 161, 2, 0, 1010),
  (31, 1, .aload_n 0, 0, 0, 0, 0),
  (32, 1, .iload_n 1, 0, 0, 0, 0),
  (33, 1, .iload_n 2, 0, 0, 0, 0),
  (34, 3, .invokevirtual 162, 163, 3, 0, 1014),
  (37, 1, .ireturn, 0, 0, 0, 0)]
noncomputable def kd_X9_order : List q_Ent := [
  (0, 1, .aload_n 0, 0, 0, 0, 0),
  (1, 1, .iconst 0, 0, 0, 0, 0),
  (2, 3, .putfield 87, 9, 0, 805, 0),
  (5, 1, .iload_n 1, 0, 0, 0, 0),
  (6, 3, .invokestatic 132, 137, 1, 1, 962),
  (9, 3, .ifCond .eq 5, 8, 0, 0, 0),
  (12, 1, .iconst (-1), 0, 0, 0, 0),
  (13, 1, .ireturn, 0, 0, 0, 0),
  (14, 1, .aload_n 0, 0, 0, 0, 0),
  (15, 3, .invokevirtual 165, 153, 1, 0, 974),
  (18, 1, .aload_n 0, 0, 0, 0, 0),
  (19, 1, .iload_n 1, 0, 0, 0, 0),
  (20, 3, .invokevirtual 168, 161, 2, 0, 1010),
  (23, 1, .iconst 0, 0, 0, 0, 0),
  (24, 1, .istore_n 3, 0, 0, 0, 0),
  (25, 1, .iload_n 3, 0, 0, 0, 0),
  (26, 1, .aload_n 0, 0, 0, 0, 0),
  (27, 3, .getfield 13, 9, 2, 807, 0),
  (30, 3, .if_icmp .ge 80, 59, 0, 0, 0),
  (33, 1, .iconst 0, 0, 0, 0, 0),
  (34, 2, .istore 4, 0, 0, 0, 0),
  (36, 1, .iconst 0, 0, 0, 0, 0),
  (37, 2, .istore 5, 0, 0, 0, 0),
  (39, 2, .iload 5, 0, 0, 0, 0),
  (41, 1, .aload_n 0, 0, 0, 0, 0),
  (42, 3, .getfield 13, 9, 2, 807, 0),
  (45, 3, .if_icmp .ge 51, 52, 0, 0, 0),
  (48, 1, .aload_n 0, 0, 0, 0, 0),
  (49, 1, .iload_n 1, 0, 0, 0, 0),
  (50, 1, .iload_n 3, 0, 0, 0, 0),
  (51, 3, .invokevirtual 162, 163, 3, 0, 1014),
  (54, 1, .aload_n 0, 0, 0, 0, 0),
  (55, 1, .iload_n 1, 0, 0, 0, 0),
  (56, 2, .iload 5, 0, 0, 0, 0),
  (58, 3, .invokevirtual 162, 163, 3, 0, 1014),
  (61, 1, .isub, 0, 0, 0, 0),
  (62, 2, .istore 6, 0, 0, 0, 0),
  (64, 2, .iload 4, 0, 0, 0, 0),
  (66, 2, .iload 6, 0, 0, 0, 0),
  (68, 3, .ifCond .gt 14, 45, 0, 0, 0),
  (71, 2, .iload 6, 0, 0, 0, 0),
  (73, 3, .ifCond .ne 13, 47, 0, 0, 0),
  (76, 2, .iload 5, 0, 0, 0, 0),
  (78, 1, .iload_n 3, 0, 0, 0, 0),
  (79, 3, .if_icmp .ge 7, 47, 0, 0, 0),
  (82, 1, .iconst 1, 0, 0, 0, 0),
  (83, 3, .goto 4, 48, 0, 0, 0),
  (86, 1, .iconst 0, 0, 0, 0, 0),
  (87, 1, .iadd, 0, 0, 0, 0),
  (88, 2, .istore 4, 0, 0, 0, 0),
  (90, 3, .iinc 5 1, 0, 0, 0, 0),
  (93, 3, .goto (-54), 23, 0, 0, 0),
  (96, 2, .iload 4, 0, 0, 0, 0),
  (98, 1, .iload_n 2, 0, 0, 0, 0),
  (99, 3, .if_icmp .ne 5, 57, 0, 0, 0),
  (102, 1, .iload_n 3, 0, 0, 0, 0),
  (103, 1, .ireturn, 0, 0, 0, 0),
  (104, 3, .iinc 3 1, 0, 0, 0, 0),
  (107, 3, .goto (-82), 15, 0, 0, 0),
  (110, 2, .bipush (-9), 0, 0, 0, 0),
  (112, 1, .ireturn, 0, 0, 0, 0)]
noncomputable def kd_X9_first : List q_Ent := [
  (0, 1, .aload_n 0, 0, 0, 0, 0),
  (1, 1, .iconst 0, 0, 0, 0, 0),
  (2, 3, .putfield 87, 9, 0, 805, 0),
  (5, 1, .iload_n 1, 0, 0, 0, 0),
  (6, 3, .invokestatic 132, 137, 1, 1, 962),
  (9, 3, .ifCond .eq 5, 8, 0, 0, 0),
  (12, 1, .iconst (-1), 0, 0, 0, 0),
  (13, 1, .ireturn, 0, 0, 0, 0),
  (14, 1, .aload_n 0, 0, 0, 0, 0),
  (15, 3, .invokevirtual 165, 153, 1, 0, 974),
  (18, 1, .aload_n 0, 0, 0, 0, 0),
  (19, 1, .iload_n 1, 0, 0, 0, 0),
  (20, 3, .invokevirtual 168, 161, 2, 0, 1010),
  (23, 1, .aload_n 0, 0, 0, 0, 0),
  (24, 1, .iload_n 1, 0, 0, 0, 0),
  (25, 3, .invokevirtual 172, 164, 2, 0, 1030),
  (28, 1, .ireturn, 0, 0, 0, 0)]
noncomputable def kd_X9_apart : List q_Ent := [
  (0, 1, .aload_n 0, 0, 0, 0, 0),
  (1, 1, .iconst 0, 0, 0, 0, 0),
  (2, 3, .putfield 87, 9, 0, 805, 0),
  (5, 1, .iload_n 1, 0, 0, 0, 0),
  (6, 3, .invokestatic 132, 137, 1, 1, 962),
  (9, 3, .ifCond .ne 10, 9, 0, 0, 0),
  (12, 1, .iload_n 2, 0, 0, 0, 0),
  (13, 3, .invokestatic 132, 137, 1, 1, 962),
  (16, 3, .ifCond .eq 5, 11, 0, 0, 0),
  (19, 1, .iconst (-1), 0, 0, 0, 0),
  (20, 1, .ireturn, 0, 0, 0, 0),
  (21, 1, .aload_n 0, 0, 0, 0, 0),
  (22, 3, .invokevirtual 165, 153, 1, 0, 974),
  (25, 1, .iconst 0, 0, 0, 0, 0),
  (26, 1, .istore_n 3, 0, 0, 0, 0),
  (27, 1, .iconst 0, 0, 0, 0, 0),
  (28, 2, .istore 4, 0, 0, 0, 0),
  (30, 2, .iload 4, 0, 0, 0, 0),
  (32, 1, .aload_n 0, 0, 0, 0, 0),
  (33, 3, .getfield 13, 9, 2, 807, 0),
  (36, 3, .if_icmp .ge 68, 55, 0, 0, 0),
  (39, 1, .iconst 0, 0, 0, 0, 0),
  (40, 2, .istore 5, 0, 0, 0, 0),
  (42, 2, .iload 5, 0, 0, 0, 0),
  (44, 2, .iload 4, 0, 0, 0, 0),
  (46, 3, .if_icmp .ge 52, 53, 0, 0, 0),
  (49, 1, .aload_n 0, 0, 0, 0, 0),
  (50, 1, .iload_n 1, 0, 0, 0, 0),
  (51, 3, .invokevirtual 168, 161, 2, 0, 1010),
  (54, 1, .aload_n 0, 0, 0, 0, 0),
  (55, 1, .iload_n 1, 0, 0, 0, 0),
  (56, 2, .iload 4, 0, 0, 0, 0),
  (58, 2, .iload 5, 0, 0, 0, 0),
  (60, 3, .invokevirtual 159, 162, 4, 0, 1018),
  (63, 2, .istore 6, 0, 0, 0, 0),
  (65, 1, .aload_n 0, 0, 0, 0, 0),
  (66, 1, .iload_n 2, 0, 0, 0, 0),
  (67, 3, .invokevirtual 168, 161, 2, 0, 1010),
  (70, 1, .iload_n 3, 0, 0, 0, 0),
  (71, 2, .iload 6, 0, 0, 0, 0),
  (73, 1, .aload_n 0, 0, 0, 0, 0),
  (74, 1, .iload_n 2, 0, 0, 0, 0),
  (75, 2, .iload 4, 0, 0, 0, 0),
  (77, 2, .iload 5, 0, 0, 0, 0),
  (79, 3, .invokevirtual 159, 162, 4, 0, 1018),
  (82, 3, .if_icmp .ne 7, 48, 0, 0, 0),
  (85, 1, .iconst 0, 0, 0, 0, 0),
  (86, 3, .goto 4, 49, 0, 0, 0),
  (89, 1, .iconst 1, 0, 0, 0, 0),
  (90, 1, .iadd, 0, 0, 0, 0),
  (91, 1, .istore_n 3, 0, 0, 0, 0),
  (92, 3, .iinc 5 1, 0, 0, 0, 0),
  (95, 3, .goto (-53), 23, 0, 0, 0),
  (98, 3, .iinc 4 1, 0, 0, 0, 0),
  (101, 3, .goto (-71), 17, 0, 0, 0),
  (104, 1, .iload_n 3, 0, 0, 0, 0),
  (105, 1, .ireturn, 0, 0, 0, 0)]
noncomputable def kd_X9_give : List q_Ent := [
  (0, 1, .iload_n 2, 0, 0, 0, 0),
  (1, 1, .istore_n 3, 0, 0, 0, 0),
  (2, 1, .aload_n 0, 0, 0, 0, 0),
  (3, 3, .getfield 13, 9, 2, 807, 0),
  (6, 1, .iconst 1, 0, 0, 0, 0),
  (7, 1, .isub, 0, 0, 0, 0),
  (8, 2, .istore 4, 0, 0, 0, 0),
  (10, 2, .iload 4, 0, 0, 0, 0),
  (12, 3, .ifCond .lt 29, 26, 0, 0, 0),
  (15, 1, .aload_n 0, 0, 0, 0, 0),
  (16, 3, .getfield 30, 9, 7, 812, 1),
  (19, 1, .iconst 4, 0, 0, 0, 0),
  (20, 1, .iload_n 1, 0, 0, 0, 0),
  (21, 1, .imul, 0, 0, 0, 0),
  (22, 2, .iload 4, 0, 0, 0, 0),
  (24, 1, .iadd, 0, 0, 0, 0),
  (25, 1, .iload_n 3, 0, 0, 0, 0),
  (26, 2, .bipush 6, 0, 0, 0, 0),
  (28, 1, .irem, 0, 0, 0, 0),
  (29, 1, .iastore, 0, 0, 0, 0),
  (30, 1, .iload_n 3, 0, 0, 0, 0),
  (31, 2, .bipush 6, 0, 0, 0, 0),
  (33, 1, .idiv, 0, 0, 0, 0),
  (34, 1, .istore_n 3, 0, 0, 0, 0),
  (35, 3, .iinc 4 (-1), 0, 0, 0, 0),
  (38, 3, .goto (-28), 7, 0, 0, 0),
  (41, 1, .aload_n 0, 0, 0, 0, 0),
  (42, 3, .getfield 33, 9, 8, 813, 1),
  (45, 1, .iload_n 1, 0, 0, 0, 0),
  (46, 1, .iconst 1, 0, 0, 0, 0),
  (47, 1, .bastore, 0, 0, 0, 0),
  (48, 1, .return_, 0, 0, 0, 0)]
noncomputable def kd_X9_findBest : List q_Ent := [
  (0, 1, .aload_n 0, 0, 0, 0, 0),
  (1, 3, .invokevirtual 165, 153, 1, 0, 974),
  (4, 1, .iconst 5, 0, 0, 0, 0),
  (5, 2, .istore 5, 0, 0, 0, 0),
  (7, 1, .iconst 0, 0, 0, 0, 0),
  (8, 2, .istore 6, 0, 0, 0, 0),
  (10, 1, .iconst 0, 0, 0, 0, 0),
  (11, 2, .istore 7, 0, 0, 0, 0),
  (13, 2, .iload 7, 0, 0, 0, 0),
  (15, 1, .aload_n 0, 0, 0, 0, 0),
  (16, 3, .invokevirtual 111, 139, 1, 0, 924),
  (19, 3, .if_icmp .ge 44, 33, 0, 0, 0),
  (22, 1, .aload_n 0, 0, 0, 0, 0),
  (23, 1, .iload_n 2, 0, 0, 0, 0),
  (24, 2, .iload 7, 0, 0, 0, 0),
  (26, 3, .invokevirtual 175, 170, 3, 0, 1046),
  (29, 1, .aload_n 0, 0, 0, 0, 0),
  (30, 1, .iload_n 1, 0, 0, 0, 0),
  (31, 3, .invokevirtual 168, 161, 2, 0, 1010),
  (34, 1, .aload_n 0, 0, 0, 0, 0),
  (35, 1, .iload_n 1, 0, 0, 0, 0),
  (36, 1, .iload_n 3, 0, 0, 0, 0),
  (37, 3, .invokevirtual 162, 163, 3, 0, 1014),
  (40, 2, .istore 8, 0, 0, 0, 0),
  (42, 2, .iload 8, 0, 0, 0, 0),
  (44, 2, .iload 5, 0, 0, 0, 0),
  (46, 3, .if_icmp .ge 11, 31, 0, 0, 0),
  (49, 2, .iload 8, 0, 0, 0, 0),
  (51, 2, .istore 5, 0, 0, 0, 0),
  (53, 2, .iload 7, 0, 0, 0, 0),
  (55, 2, .istore 6, 0, 0, 0, 0),
  (57, 3, .iinc 7 1, 0, 0, 0, 0),
  (60, 3, .goto (-47), 8, 0, 0, 0),
  (63, 2, .iload 4, 0, 0, 0, 0),
  (65, 3, .ifCond .eq 8, 37, 0, 0, 0),
  (68, 2, .iload 6, 0, 0, 0, 0),
  (70, 3, .goto 5, 38, 0, 0, 0),
  (73, 2, .iload 5, 0, 0, 0, 0),
  (75, 1, .ireturn, 0, 0, 0, 0)]
noncomputable def kd_X9_could : List q_Ent := [
  (0, 1, .aload_n 0, 0, 0, 0, 0),
  (1, 1, .iconst 0, 0, 0, 0, 0),
  (2, 3, .putfield 87, 9, 0, 805, 0),
  (5, 1, .iload_n 1, 0, 0, 0, 0),
  (6, 3, .invokestatic 132, 137, 1, 1, 962),
  (9, 3, .ifCond .ne 19, 14, 0, 0, 0),
  (12, 1, .aload_n 0, 0, 0, 0, 0),
  (13, 1, .iload_n 2, 0, 0, 0, 0),
  (14, 3, .invokevirtual 104, 135, 2, 0, 910),
  (17, 3, .ifCond .ne 11, 14, 0, 0, 0),
  (20, 1, .aload_n 0, 0, 0, 0, 0),
  (21, 1, .iload_n 3, 0, 0, 0, 0),
  (22, 3, .invokevirtual 100, 136, 2, 0, 906),
  (25, 3, .ifCond .eq 7, 16, 0, 0, 0),
  (28, 1, .iconst (-1), 0, 0, 0, 0),
  (29, 3, .goto 11, 22, 0, 0, 0),
  (32, 1, .aload_n 0, 0, 0, 0, 0),
  (33, 1, .iload_n 1, 0, 0, 0, 0),
  (34, 1, .iload_n 2, 0, 0, 0, 0),
  (35, 1, .iload_n 3, 0, 0, 0, 0),
  (36, 1, .iconst 0, 0, 0, 0, 0),
  (37, 3, .invokevirtual 179, 171, 5, 0, 1042),
  (40, 1, .ireturn, 0, 0, 0, 0)]
noncomputable def kd_X9_best : List q_Ent := [
  (0, 1, .aload_n 0, 0, 0, 0, 0),
  (1, 1, .iconst 0, 0, 0, 0, 0),
  (2, 3, .putfield 87, 9, 0, 805, 0),
  (5, 1, .iload_n 1, 0, 0, 0, 0),
  (6, 3, .invokestatic 132, 137, 1, 1, 962),
  (9, 3, .ifCond .ne 19, 14, 0, 0, 0),
  (12, 1, .aload_n 0, 0, 0, 0, 0),
  (13, 1, .iload_n 2, 0, 0, 0, 0),
  (14, 3, .invokevirtual 104, 135, 2, 0, 910),
  (17, 3, .ifCond .ne 11, 14, 0, 0, 0),
  (20, 1, .aload_n 0, 0, 0, 0, 0),
  (21, 1, .iload_n 3, 0, 0, 0, 0),
  (22, 3, .invokevirtual 100, 136, 2, 0, 906),
  (25, 3, .ifCond .eq 7, 16, 0, 0, 0),
  (28, 1, .iconst (-1), 0, 0, 0, 0),
  (29, 3, .goto 11, 22, 0, 0, 0),
  (32, 1, .aload_n 0, 0, 0, 0, 0),
  (33, 1, .iload_n 1, 0, 0, 0, 0),
  (34, 1, .iload_n 2, 0, 0, 0, 0),
  (35, 1, .iload_n 3, 0, 0, 0, 0),
  (36, 1, .iconst 1, 0, 0, 0, 0),
  (37, 3, .invokevirtual 179, 171, 5, 0, 1042),
  (40, 1, .ireturn, 0, 0, 0, 0)]
noncomputable def kd_X9_isBent : List q_Ent := [
  (0, 1, .aload_n 0, 0, 0, 0, 0),
  (1, 3, .invokevirtual 165, 153, 1, 0, 974),
  (4, 1, .aload_n 0, 0, 0, 0, 0),
  (5, 1, .iload_n 1, 0, 0, 0, 0),
  (6, 3, .invokevirtual 168, 161, 2, 0, 1010),
  (9, 1, .iconst 0, 0, 0, 0, 0),
  (10, 1, .istore_n 3, 0, 0, 0, 0),
  (11, 1, .iload_n 3, 0, 0, 0, 0),
  (12, 1, .aload_n 0, 0, 0, 0, 0),
  (13, 3, .getfield 13, 9, 2, 807, 0),
  (16, 3, .if_icmp .ge 21, 21, 0, 0, 0),
  (19, 1, .aload_n 0, 0, 0, 0, 0),
  (20, 3, .getfield 66, 9, 21, 826, 1),
  (23, 1, .iload_n 3, 0, 0, 0, 0),
  (24, 1, .aload_n 0, 0, 0, 0, 0),
  (25, 1, .iload_n 1, 0, 0, 0, 0),
  (26, 1, .iload_n 3, 0, 0, 0, 0),
  (27, 3, .invokevirtual 162, 163, 3, 0, 1014),
  (30, 1, .iastore, 0, 0, 0, 0),
  (31, 3, .iinc 3 1, 0, 0, 0, 0),
  (34, 3, .goto (-23), 7, 0, 0, 0),
  (37, 1, .iconst 0, 0, 0, 0, 0),
  (38, 1, .istore_n 3, 0, 0, 0, 0),
  (39, 1, .iconst 0, 0, 0, 0, 0),
  (40, 2, .istore 4, 0, 0, 0, 0),
  (42, 2, .iload 4, 0, 0, 0, 0),
  (44, 1, .aload_n 0, 0, 0, 0, 0),
  (45, 3, .invokevirtual 111, 139, 1, 0, 924),
  (48, 3, .if_icmp .ge 86, 72, 0, 0, 0),
  (51, 1, .iload_n 3, 0, 0, 0, 0),
  (52, 3, .ifCond .ne 82, 72, 0, 0, 0),
  (55, 1, .aload_n 0, 0, 0, 0, 0),
  (56, 1, .iload_n 2, 0, 0, 0, 0),
  (57, 2, .iload 4, 0, 0, 0, 0),
  (59, 3, .invokevirtual 175, 170, 3, 0, 1046),
  (62, 1, .aload_n 0, 0, 0, 0, 0),
  (63, 1, .iload_n 1, 0, 0, 0, 0),
  (64, 3, .invokevirtual 168, 161, 2, 0, 1010),
  (67, 1, .iconst 0, 0, 0, 0, 0),
  (68, 2, .istore 5, 0, 0, 0, 0),
  (70, 2, .iload 5, 0, 0, 0, 0),
  (72, 1, .aload_n 0, 0, 0, 0, 0),
  (73, 3, .getfield 13, 9, 2, 807, 0),
  (76, 3, .if_icmp .ge 52, 70, 0, 0, 0),
  (79, 1, .iload_n 3, 0, 0, 0, 0),
  (80, 3, .ifCond .ne 36, 64, 0, 0, 0),
  (83, 1, .aload_n 0, 0, 0, 0, 0),
  (84, 3, .getfield 20, 9, 4, 809, 1),
  (87, 2, .iload 5, 0, 0, 0, 0),
  (89, 1, .iaload, 0, 0, 0, 0),
  (90, 1, .aload_n 0, 0, 0, 0, 0),
  (91, 3, .getfield 16, 9, 3, 808, 1),
  (94, 1, .iload_n 2, 0, 0, 0, 0),
  (95, 1, .iaload, 0, 0, 0, 0),
  (96, 3, .if_icmp .ne 24, 66, 0, 0, 0),
  (99, 1, .aload_n 0, 0, 0, 0, 0),
  (100, 1, .iload_n 1, 0, 0, 0, 0),
  (101, 2, .iload 5, 0, 0, 0, 0),
  (103, 3, .invokevirtual 162, 163, 3, 0, 1014),
  (106, 1, .aload_n 0, 0, 0, 0, 0),
  (107, 3, .getfield 66, 9, 21, 826, 1),
  (110, 2, .iload 5, 0, 0, 0, 0),
  (112, 1, .iaload, 0, 0, 0, 0),
  (113, 3, .if_icmp .ge 7, 66, 0, 0, 0),
  (116, 1, .iconst 1, 0, 0, 0, 0),
  (117, 3, .goto 4, 67, 0, 0, 0),
  (120, 1, .iconst 0, 0, 0, 0, 0),
  (121, 1, .istore_n 3, 0, 0, 0, 0),
  (122, 3, .iinc 5 1, 0, 0, 0, 0),
  (125, 3, .goto (-55), 40, 0, 0, 0),
  (128, 3, .iinc 4 1, 0, 0, 0, 0),
  (131, 3, .goto (-89), 25, 0, 0, 0),
  (134, 1, .iload_n 3, 0, 0, 0, 0),
  (135, 1, .ireturn, 0, 0, 0, 0)]
noncomputable def kd_X9_bends : List q_Ent := [
  (0, 1, .aload_n 0, 0, 0, 0, 0),
  (1, 1, .iconst 0, 0, 0, 0, 0),
  (2, 3, .putfield 87, 9, 0, 805, 0),
  (5, 1, .iload_n 1, 0, 0, 0, 0),
  (6, 3, .invokestatic 132, 137, 1, 1, 962),
  (9, 3, .ifCond .ne 11, 10, 0, 0, 0),
  (12, 1, .aload_n 0, 0, 0, 0, 0),
  (13, 1, .iload_n 2, 0, 0, 0, 0),
  (14, 3, .invokevirtual 104, 135, 2, 0, 910),
  (17, 3, .ifCond .eq 7, 12, 0, 0, 0),
  (20, 1, .iconst (-1), 0, 0, 0, 0),
  (21, 3, .goto 17, 20, 0, 0, 0),
  (24, 1, .aload_n 0, 0, 0, 0, 0),
  (25, 1, .iload_n 1, 0, 0, 0, 0),
  (26, 1, .iload_n 2, 0, 0, 0, 0),
  (27, 3, .invokevirtual 183, 174, 3, 0, 1058),
  (30, 3, .ifCond .eq 7, 19, 0, 0, 0),
  (33, 1, .iconst 1, 0, 0, 0, 0),
  (34, 3, .goto 4, 20, 0, 0, 0),
  (37, 1, .iconst 0, 0, 0, 0, 0),
  (38, 1, .ireturn, 0, 0, 0, 0)]
noncomputable def kd_X9_allBent : List q_Ent := [
  (0, 1, .iconst 0, 0, 0, 0, 0),
  (1, 1, .istore_n 2, 0, 0, 0, 0),
  (2, 1, .iconst 0, 0, 0, 0, 0),
  (3, 1, .istore_n 3, 0, 0, 0, 0),
  (4, 1, .iload_n 3, 0, 0, 0, 0),
  (5, 1, .aload_n 0, 0, 0, 0, 0),
  (6, 3, .getfield 7, 9, 1, 806, 0),
  (9, 3, .if_icmp .ge 28, 23, 0, 0, 0),
  (12, 1, .iload_n 2, 0, 0, 0, 0),
  (13, 1, .aload_n 0, 0, 0, 0, 0),
  (14, 1, .iload_n 1, 0, 0, 0, 0),
  (15, 1, .iload_n 3, 0, 0, 0, 0),
  (16, 3, .invokevirtual 183, 174, 3, 0, 1058),
  (19, 3, .ifCond .eq 9, 18, 0, 0, 0),
  (22, 1, .iconst 1, 0, 0, 0, 0),
  (23, 1, .iload_n 3, 0, 0, 0, 0),
  (24, 1, .ishl, 0, 0, 0, 0),
  (25, 3, .goto 4, 19, 0, 0, 0),
  (28, 1, .iconst 0, 0, 0, 0, 0),
  (29, 1, .ior, 0, 0, 0, 0),
  (30, 1, .istore_n 2, 0, 0, 0, 0),
  (31, 3, .iinc 3 1, 0, 0, 0, 0),
  (34, 3, .goto (-30), 4, 0, 0, 0),
  (37, 1, .iload_n 2, 0, 0, 0, 0),
  (38, 1, .ireturn, 0, 0, 0, 0)]
noncomputable def kd_X9_bent : List q_Ent := [
  (0, 1, .aload_n 0, 0, 0, 0, 0),
  (1, 1, .iconst 0, 0, 0, 0, 0),
  (2, 3, .putfield 87, 9, 0, 805, 0),
  (5, 1, .iload_n 1, 0, 0, 0, 0),
  (6, 3, .invokestatic 132, 137, 1, 1, 962),
  (9, 3, .ifCond .eq 7, 8, 0, 0, 0),
  (12, 1, .iconst (-1), 0, 0, 0, 0),
  (13, 3, .goto 8, 11, 0, 0, 0),
  (16, 1, .aload_n 0, 0, 0, 0, 0),
  (17, 1, .iload_n 1, 0, 0, 0, 0),
  (18, 3, .invokevirtual 186, 176, 2, 0, 1066),
  (21, 1, .ireturn, 0, 0, 0, 0)]
noncomputable def kd_X9_many : List q_Ent := [
  (0, 1, .iconst 0, 0, 0, 0, 0),
  (1, 1, .istore_n 1, 0, 0, 0, 0),
  (2, 1, .iconst 0, 0, 0, 0, 0),
  (3, 1, .istore_n 2, 0, 0, 0, 0),
  (4, 1, .iload_n 2, 0, 0, 0, 0),
  (5, 2, .bipush 7, 0, 0, 0, 0),
  (7, 3, .if_icmp .ge 17, 17, 0, 0, 0),
  (10, 1, .iload_n 1, 0, 0, 0, 0),
  (11, 1, .iload_n 0, 0, 0, 0, 0),
  (12, 1, .iload_n 2, 0, 0, 0, 0),
  (13, 1, .ishr, 0, 0, 0, 0),
  (14, 1, .iconst 1, 0, 0, 0, 0),
  (15, 1, .iand, 0, 0, 0, 0),
  (16, 1, .iadd, 0, 0, 0, 0),
  (17, 1, .istore_n 1, 0, 0, 0, 0),
  (18, 3, .iinc 2 1, 0, 0, 0, 0),
  (21, 3, .goto (-17), 4, 0, 0, 0),
  (24, 1, .iload_n 1, 0, 0, 0, 0),
  (25, 1, .ireturn, 0, 0, 0, 0)]
noncomputable def kd_X9_strike : List q_Ent := [
  (0, 1, .aload_n 0, 0, 0, 0, 0),
  (1, 1, .iconst 0, 0, 0, 0, 0),
  (2, 3, .putfield 87, 9, 0, 805, 0),
  (5, 2, .bipush 8, 0, 0, 0, 0),
  (7, 1, .istore_n 1, 0, 0, 0, 0),
  (8, 1, .iconst 0, 0, 0, 0, 0),
  (9, 1, .istore_n 2, 0, 0, 0, 0),
  (10, 1, .iconst 0, 0, 0, 0, 0),
  (11, 1, .istore_n 3, 0, 0, 0, 0),
  (12, 1, .iload_n 3, 0, 0, 0, 0),
  (13, 1, .iconst 4, 0, 0, 0, 0),
  (14, 3, .if_icmp .ge 38, 31, 0, 0, 0),
  (17, 1, .aload_n 0, 0, 0, 0, 0),
  (18, 3, .getfield 54, 9, 17, 822, 1),
  (21, 2, .bipush 9, 0, 0, 0, 0),
  (23, 1, .iload_n 3, 0, 0, 0, 0),
  (24, 1, .iastore, 0, 0, 0, 0),
  (25, 1, .aload_n 0, 0, 0, 0, 0),
  (26, 1, .iconst 3, 0, 0, 0, 0),
  (27, 3, .invokevirtual 186, 176, 2, 0, 1066),
  (30, 3, .invokestatic 189, 178, 1, 1, 1074),
  (33, 2, .istore 4, 0, 0, 0, 0),
  (35, 2, .iload 4, 0, 0, 0, 0),
  (37, 1, .iload_n 1, 0, 0, 0, 0),
  (38, 3, .if_icmp .ge 8, 29, 0, 0, 0),
  (41, 2, .iload 4, 0, 0, 0, 0),
  (43, 1, .istore_n 1, 0, 0, 0, 0),
  (44, 1, .iload_n 3, 0, 0, 0, 0),
  (45, 1, .istore_n 2, 0, 0, 0, 0),
  (46, 3, .iinc 3 1, 0, 0, 0, 0),
  (49, 3, .goto (-37), 9, 0, 0, 0),
  (52, 1, .iload_n 2, 0, 0, 0, 0),
  (53, 1, .ireturn, 0, 0, 0, 0)]
noncomputable def kd_X9_move : List q_Ent := [
  (0, 1, .aload_n 0, 0, 0, 0, 0),
  (1, 1, .iconst 0, 0, 0, 0, 0),
  (2, 3, .putfield 87, 9, 0, 805, 0),
  (5, 1, .iload_n 1, 0, 0, 0, 0),
  (6, 3, .invokestatic 132, 137, 1, 1, 962),
  (9, 3, .ifCond .ne 19, 14, 0, 0, 0),
  (12, 1, .aload_n 0, 0, 0, 0, 0),
  (13, 1, .iload_n 2, 0, 0, 0, 0),
  (14, 3, .invokevirtual 104, 135, 2, 0, 910),
  (17, 3, .ifCond .ne 11, 14, 0, 0, 0),
  (20, 1, .aload_n 0, 0, 0, 0, 0),
  (21, 1, .iload_n 3, 0, 0, 0, 0),
  (22, 3, .invokevirtual 100, 136, 2, 0, 906),
  (25, 3, .ifCond .eq 5, 16, 0, 0, 0),
  (28, 1, .iconst (-1), 0, 0, 0, 0),
  (29, 1, .ireturn, 0, 0, 0, 0),
  (30, 2, .iload 4, 0, 0, 0, 0),
  (32, 1, .i2l, 0, 0, 0, 0),
  (33, 1, .lconst 0, 0, 0, 0, 0),
  (34, 3, .ldc2_w 109, 5, 0, 919, 0),
  (37, 3, .invokestatic 90, 134, 3, 1, 898),
  (40, 3, .ifCond .ne 6, 24, 0, 0, 0),
  (43, 2, .bipush (-2), 0, 0, 0, 0),
  (45, 1, .ireturn, 0, 0, 0, 0),
  (46, 1, .aload_n 0, 0, 0, 0, 0),
  (47, 3, .invokevirtual 165, 153, 1, 0, 974),
  (50, 1, .aload_n 0, 0, 0, 0, 0),
  (51, 1, .iload_n 1, 0, 0, 0, 0),
  (52, 3, .invokevirtual 168, 161, 2, 0, 1010),
  (55, 1, .aload_n 0, 0, 0, 0, 0),
  (56, 1, .iload_n 1, 0, 0, 0, 0),
  (57, 1, .iload_n 3, 0, 0, 0, 0),
  (58, 3, .invokevirtual 162, 163, 3, 0, 1014),
  (61, 2, .istore 5, 0, 0, 0, 0),
  (63, 1, .aload_n 0, 0, 0, 0, 0),
  (64, 3, .getfield 30, 9, 7, 812, 1),
  (67, 1, .iconst 4, 0, 0, 0, 0),
  (68, 1, .iload_n 2, 0, 0, 0, 0),
  (69, 1, .imul, 0, 0, 0, 0),
  (70, 1, .iload_n 3, 0, 0, 0, 0),
  (71, 1, .iadd, 0, 0, 0, 0),
  (72, 2, .iload 4, 0, 0, 0, 0),
  (74, 1, .iastore, 0, 0, 0, 0),
  (75, 1, .aload_n 0, 0, 0, 0, 0),
  (76, 1, .iload_n 1, 0, 0, 0, 0),
  (77, 3, .invokevirtual 168, 161, 2, 0, 1010),
  (80, 2, .bipush 10, 0, 0, 0, 0),
  (82, 2, .iload 5, 0, 0, 0, 0),
  (84, 1, .iadd, 0, 0, 0, 0),
  (85, 1, .aload_n 0, 0, 0, 0, 0),
  (86, 1, .iload_n 1, 0, 0, 0, 0),
  (87, 1, .iload_n 3, 0, 0, 0, 0),
  (88, 3, .invokevirtual 162, 163, 3, 0, 1014),
  (91, 1, .isub, 0, 0, 0, 0),
  (92, 1, .ireturn, 0, 0, 0, 0)]
noncomputable def kd_X9_placeBy : List q_Ent := [
  (0, 1, .aload_n 0, 0, 0, 0, 0),
  (1, 3, .invokevirtual 165, 153, 1, 0, 974),
  (4, 1, .iconst 0, 0, 0, 0, 0),
  (5, 2, .istore 4, 0, 0, 0, 0),
  (7, 2, .iload 4, 0, 0, 0, 0),
  (9, 1, .aload_n 0, 0, 0, 0, 0),
  (10, 3, .getfield 7, 9, 1, 806, 0),
  (13, 3, .if_icmp .ge 68, 44, 0, 0, 0),
  (16, 1, .iload_n 2, 0, 0, 0, 0),
  (17, 2, .iload 4, 0, 0, 0, 0),
  (19, 1, .ishr, 0, 0, 0, 0),
  (20, 1, .iconst 1, 0, 0, 0, 0),
  (21, 1, .iand, 0, 0, 0, 0),
  (22, 1, .iconst 1, 0, 0, 0, 0),
  (23, 3, .if_icmp .ne 52, 42, 0, 0, 0),
  (26, 1, .aload_n 0, 0, 0, 0, 0),
  (27, 3, .getfield 33, 9, 8, 813, 1),
  (30, 2, .iload 4, 0, 0, 0, 0),
  (32, 1, .iconst 1, 0, 0, 0, 0),
  (33, 1, .bastore, 0, 0, 0, 0),
  (34, 1, .iconst 0, 0, 0, 0, 0),
  (35, 2, .istore 5, 0, 0, 0, 0),
  (37, 2, .iload 5, 0, 0, 0, 0),
  (39, 1, .aload_n 0, 0, 0, 0, 0),
  (40, 3, .getfield 13, 9, 2, 807, 0),
  (43, 3, .if_icmp .ge 32, 42, 0, 0, 0),
  (46, 1, .aload_n 0, 0, 0, 0, 0),
  (47, 3, .getfield 30, 9, 7, 812, 1),
  (50, 1, .iconst 4, 0, 0, 0, 0),
  (51, 2, .iload 4, 0, 0, 0, 0),
  (53, 1, .imul, 0, 0, 0, 0),
  (54, 2, .iload 5, 0, 0, 0, 0),
  (56, 1, .iadd, 0, 0, 0, 0),
  (57, 2, .iload 5, 0, 0, 0, 0),
  (59, 1, .iload_n 3, 0, 0, 0, 0),
  (60, 3, .if_icmp .ne 7, 38, 0, 0, 0),
  (63, 1, .iconst 5, 0, 0, 0, 0),
  (64, 3, .goto 4, 39, 0, 0, 0),
  (67, 1, .iconst 0, 0, 0, 0, 0),
  (68, 1, .iastore, 0, 0, 0, 0),
  (69, 3, .iinc 5 1, 0, 0, 0, 0),
  (72, 3, .goto (-35), 22, 0, 0, 0),
  (75, 3, .iinc 4 1, 0, 0, 0, 0),
  (78, 3, .goto (-71), 4, 0, 0, 0),
  (81, 1, .aload_n 0, 0, 0, 0, 0),
  (82, 1, .iload_n 1, 0, 0, 0, 0),
  (83, 3, .invokevirtual 168, 161, 2, 0, 1010),
  (86, 1, .aload_n 0, 0, 0, 0, 0),
  (87, 1, .iload_n 1, 0, 0, 0, 0),
  (88, 1, .iload_n 3, 0, 0, 0, 0),
  (89, 3, .invokevirtual 162, 163, 3, 0, 1014),
  (92, 1, .ireturn, 0, 0, 0, 0)]
noncomputable def kd_X9_bloc : List q_Ent := [
  (0, 1, .aload_n 0, 0, 0, 0, 0),
  (1, 1, .iconst 0, 0, 0, 0, 0),
  (2, 3, .putfield 87, 9, 0, 805, 0),
  (5, 1, .iload_n 1, 0, 0, 0, 0),
  (6, 3, .invokestatic 132, 137, 1, 1, 962),
  (9, 3, .ifCond .ne 11, 10, 0, 0, 0),
  (12, 1, .aload_n 0, 0, 0, 0, 0),
  (13, 1, .iload_n 3, 0, 0, 0, 0),
  (14, 3, .invokevirtual 100, 136, 2, 0, 906),
  (17, 3, .ifCond .eq 5, 12, 0, 0, 0),
  (20, 1, .iconst (-1), 0, 0, 0, 0),
  (21, 1, .ireturn, 0, 0, 0, 0),
  (22, 1, .aload_n 0, 0, 0, 0, 0),
  (23, 1, .iload_n 2, 0, 0, 0, 0),
  (24, 3, .invokevirtual 192, 138, 2, 0, 1085),
  (27, 3, .ifCond .eq 8, 18, 0, 0, 0),
  (30, 2, .bipush (-2), 0, 0, 0, 0),
  (32, 3, .goto 10, 23, 0, 0, 0),
  (35, 1, .aload_n 0, 0, 0, 0, 0),
  (36, 1, .iload_n 1, 0, 0, 0, 0),
  (37, 1, .iload_n 2, 0, 0, 0, 0),
  (38, 1, .iload_n 3, 0, 0, 0, 0),
  (39, 3, .invokevirtual 195, 181, 4, 0, 1089),
  (42, 1, .ireturn, 0, 0, 0, 0)]
noncomputable def kd_X9_few : List q_Ent := [
  (0, 1, .aload_n 0, 0, 0, 0, 0),
  (1, 1, .iconst 0, 0, 0, 0, 0),
  (2, 3, .putfield 87, 9, 0, 805, 0),
  (5, 1, .iload_n 1, 0, 0, 0, 0),
  (6, 3, .invokestatic 132, 137, 1, 1, 962),
  (9, 3, .ifCond .ne 11, 10, 0, 0, 0),
  (12, 1, .aload_n 0, 0, 0, 0, 0),
  (13, 1, .iload_n 2, 0, 0, 0, 0),
  (14, 3, .invokevirtual 100, 136, 2, 0, 906),
  (17, 3, .ifCond .eq 5, 12, 0, 0, 0),
  (20, 1, .iconst (-1), 0, 0, 0, 0),
  (21, 1, .ireturn, 0, 0, 0, 0),
  (22, 1, .iload_n 3, 0, 0, 0, 0),
  (23, 1, .i2l, 0, 0, 0, 0),
  (24, 1, .lconst 1, 0, 0, 0, 0),
  (25, 3, .ldc2_w 98, 4, 0, 901, 0),
  (28, 3, .invokestatic 90, 134, 3, 1, 898),
  (31, 3, .ifCond .ne 6, 20, 0, 0, 0),
  (34, 2, .bipush (-2), 0, 0, 0, 0),
  (36, 1, .ireturn, 0, 0, 0, 0),
  (37, 2, .bipush (-9), 0, 0, 0, 0),
  (39, 2, .istore 4, 0, 0, 0, 0),
  (41, 1, .iconst 0, 0, 0, 0, 0),
  (42, 2, .istore 5, 0, 0, 0, 0),
  (44, 2, .iload 5, 0, 0, 0, 0),
  (46, 1, .iconst 1, 0, 0, 0, 0),
  (47, 1, .aload_n 0, 0, 0, 0, 0),
  (48, 3, .getfield 7, 9, 1, 806, 0),
  (51, 1, .ishl, 0, 0, 0, 0),
  (52, 3, .if_icmp .ge 62, 57, 0, 0, 0),
  (55, 2, .iload 4, 0, 0, 0, 0),
  (57, 2, .bipush (-9), 0, 0, 0, 0),
  (59, 3, .if_icmp .eq 16, 38, 0, 0, 0),
  (62, 2, .iload 5, 0, 0, 0, 0),
  (64, 3, .invokestatic 189, 178, 1, 1, 1074),
  (67, 2, .iload 4, 0, 0, 0, 0),
  (69, 3, .invokestatic 189, 178, 1, 1, 1074),
  (72, 3, .if_icmp .ge 7, 40, 0, 0, 0),
  (75, 1, .iconst 1, 0, 0, 0, 0),
  (76, 3, .goto 4, 41, 0, 0, 0),
  (79, 1, .iconst 0, 0, 0, 0, 0),
  (80, 2, .istore 6, 0, 0, 0, 0),
  (82, 2, .iload 6, 0, 0, 0, 0),
  (84, 3, .ifCond .eq 20, 53, 0, 0, 0),
  (87, 1, .aload_n 0, 0, 0, 0, 0),
  (88, 1, .iload_n 1, 0, 0, 0, 0),
  (89, 2, .iload 5, 0, 0, 0, 0),
  (91, 1, .iload_n 2, 0, 0, 0, 0),
  (92, 3, .invokevirtual 195, 181, 4, 0, 1089),
  (95, 1, .iload_n 3, 0, 0, 0, 0),
  (96, 3, .if_icmp .gt 8, 53, 0, 0, 0),
  (99, 2, .iload 5, 0, 0, 0, 0),
  (101, 3, .goto 5, 54, 0, 0, 0),
  (104, 2, .iload 4, 0, 0, 0, 0),
  (106, 2, .istore 4, 0, 0, 0, 0),
  (108, 3, .iinc 5 1, 0, 0, 0, 0),
  (111, 3, .goto (-67), 24, 0, 0, 0),
  (114, 2, .iload 4, 0, 0, 0, 0),
  (116, 1, .ireturn, 0, 0, 0, 0)]
noncomputable def kd_X9_drawn : List q_Ent := [
  (0, 1, .aload_n 0, 0, 0, 0, 0),
  (1, 1, .iconst 0, 0, 0, 0, 0),
  (2, 3, .putfield 87, 9, 0, 805, 0),
  (5, 1, .iload_n 1, 0, 0, 0, 0),
  (6, 3, .invokestatic 132, 137, 1, 1, 962),
  (9, 3, .ifCond .ne 11, 10, 0, 0, 0),
  (12, 1, .aload_n 0, 0, 0, 0, 0),
  (13, 1, .iload_n 2, 0, 0, 0, 0),
  (14, 3, .invokevirtual 100, 136, 2, 0, 906),
  (17, 3, .ifCond .eq 5, 12, 0, 0, 0),
  (20, 1, .iconst (-1), 0, 0, 0, 0),
  (21, 1, .ireturn, 0, 0, 0, 0),
  (22, 1, .iload_n 3, 0, 0, 0, 0),
  (23, 1, .i2l, 0, 0, 0, 0),
  (24, 1, .lconst 1, 0, 0, 0, 0),
  (25, 1, .aload_n 0, 0, 0, 0, 0),
  (26, 3, .getfield 7, 9, 1, 806, 0),
  (29, 1, .i2l, 0, 0, 0, 0),
  (30, 3, .invokestatic 90, 134, 3, 1, 898),
  (33, 3, .ifCond .ne 6, 22, 0, 0, 0),
  (36, 2, .bipush (-2), 0, 0, 0, 0),
  (38, 1, .ireturn, 0, 0, 0, 0),
  (39, 1, .iconst 0, 0, 0, 0, 0),
  (40, 2, .istore 4, 0, 0, 0, 0),
  (42, 1, .iconst 0, 0, 0, 0, 0),
  (43, 2, .istore 5, 0, 0, 0, 0),
  (45, 2, .iload 5, 0, 0, 0, 0),
  (47, 1, .iconst 1, 0, 0, 0, 0),
  (48, 1, .aload_n 0, 0, 0, 0, 0),
  (49, 3, .getfield 7, 9, 1, 806, 0),
  (52, 1, .ishl, 0, 0, 0, 0),
  (53, 3, .if_icmp .ge 132, 99, 0, 0, 0),
  (56, 1, .aload_n 0, 0, 0, 0, 0),
  (57, 3, .invokevirtual 165, 153, 1, 0, 974),
  (60, 2, .iload 5, 0, 0, 0, 0),
  (62, 3, .invokestatic 189, 178, 1, 1, 1074),
  (65, 1, .iload_n 3, 0, 0, 0, 0),
  (66, 3, .if_icmp .ne 7, 40, 0, 0, 0),
  (69, 1, .iconst 1, 0, 0, 0, 0),
  (70, 3, .goto 4, 41, 0, 0, 0),
  (73, 1, .iconst 0, 0, 0, 0, 0),
  (74, 2, .istore 6, 0, 0, 0, 0),
  (76, 1, .iconst 0, 0, 0, 0, 0),
  (77, 2, .istore 7, 0, 0, 0, 0),
  (79, 2, .iload 7, 0, 0, 0, 0),
  (81, 1, .aload_n 0, 0, 0, 0, 0),
  (82, 3, .getfield 7, 9, 1, 806, 0),
  (85, 3, .if_icmp .ge 63, 79, 0, 0, 0),
  (88, 2, .iload 5, 0, 0, 0, 0),
  (90, 2, .iload 7, 0, 0, 0, 0),
  (92, 1, .ishr, 0, 0, 0, 0),
  (93, 1, .iconst 1, 0, 0, 0, 0),
  (94, 1, .iand, 0, 0, 0, 0),
  (95, 1, .iconst 1, 0, 0, 0, 0),
  (96, 3, .if_icmp .ne 7, 57, 0, 0, 0),
  (99, 1, .iconst 1, 0, 0, 0, 0),
  (100, 3, .goto 4, 58, 0, 0, 0),
  (103, 1, .iconst 0, 0, 0, 0, 0),
  (104, 2, .istore 8, 0, 0, 0, 0),
  (106, 2, .iload 6, 0, 0, 0, 0),
  (108, 3, .ifCond .eq 22, 70, 0, 0, 0),
  (111, 2, .iload 8, 0, 0, 0, 0),
  (113, 3, .ifCond .eq 13, 68, 0, 0, 0),
  (116, 1, .aload_n 0, 0, 0, 0, 0),
  (117, 3, .getfield 33, 9, 8, 813, 1),
  (120, 2, .iload 7, 0, 0, 0, 0),
  (122, 1, .baload, 0, 0, 0, 0),
  (123, 3, .ifCond .eq 7, 70, 0, 0, 0),
  (126, 1, .iconst 1, 0, 0, 0, 0),
  (127, 3, .goto 4, 71, 0, 0, 0),
  (130, 1, .iconst 0, 0, 0, 0, 0),
  (131, 2, .istore 6, 0, 0, 0, 0),
  (133, 1, .aload_n 0, 0, 0, 0, 0),
  (134, 3, .getfield 33, 9, 8, 813, 1),
  (137, 2, .iload 7, 0, 0, 0, 0),
  (139, 2, .iload 8, 0, 0, 0, 0),
  (141, 1, .bastore, 0, 0, 0, 0),
  (142, 3, .iinc 7 1, 0, 0, 0, 0),
  (145, 3, .goto (-66), 44, 0, 0, 0),
  (148, 2, .iload 6, 0, 0, 0, 0),
  (150, 3, .ifCond .eq 29, 97, 0, 0, 0),
  (153, 1, .aload_n 0, 0, 0, 0, 0),
  (154, 1, .iload_n 1, 0, 0, 0, 0),
  (155, 3, .invokevirtual 168, 161, 2, 0, 1010),
  (158, 2, .iload 4, 0, 0, 0, 0),
  (160, 1, .aload_n 0, 0, 0, 0, 0),
  (161, 1, .iload_n 1, 0, 0, 0, 0),
  (162, 3, .invokevirtual 172, 164, 2, 0, 1030),
  (165, 1, .iconst 1, 0, 0, 0, 0),
  (166, 1, .iload_n 2, 0, 0, 0, 0),
  (167, 1, .ishl, 0, 0, 0, 0),
  (168, 3, .if_icmp .ne 7, 94, 0, 0, 0),
  (171, 1, .iconst 1, 0, 0, 0, 0),
  (172, 3, .goto 4, 95, 0, 0, 0),
  (175, 1, .iconst 0, 0, 0, 0, 0),
  (176, 1, .iadd, 0, 0, 0, 0),
  (177, 2, .istore 4, 0, 0, 0, 0),
  (179, 3, .iinc 5 1, 0, 0, 0, 0),
  (182, 3, .goto (-137), 26, 0, 0, 0),
  (185, 2, .iload 4, 0, 0, 0, 0),
  (187, 1, .ireturn, 0, 0, 0, 0)]
noncomputable def kd_X9_leftOut : List q_Ent := [
  (0, 1, .aload_n 0, 0, 0, 0, 0),
  (1, 1, .iconst 0, 0, 0, 0, 0),
  (2, 3, .putfield 87, 9, 0, 805, 0),
  (5, 1, .iload_n 1, 0, 0, 0, 0),
  (6, 3, .invokestatic 132, 137, 1, 1, 962),
  (9, 3, .ifCond .eq 5, 8, 0, 0, 0),
  (12, 1, .iconst (-1), 0, 0, 0, 0),
  (13, 1, .ireturn, 0, 0, 0, 0),
  (14, 1, .aload_n 0, 0, 0, 0, 0),
  (15, 3, .invokevirtual 165, 153, 1, 0, 974),
  (18, 1, .aload_n 0, 0, 0, 0, 0),
  (19, 1, .iload_n 1, 0, 0, 0, 0),
  (20, 3, .invokevirtual 168, 161, 2, 0, 1010),
  (23, 1, .aload_n 0, 0, 0, 0, 0),
  (24, 1, .iload_n 1, 0, 0, 0, 0),
  (25, 3, .invokevirtual 172, 164, 2, 0, 1030),
  (28, 1, .istore_n 2, 0, 0, 0, 0),
  (29, 1, .iconst 0, 0, 0, 0, 0),
  (30, 1, .istore_n 3, 0, 0, 0, 0),
  (31, 1, .iconst 0, 0, 0, 0, 0),
  (32, 2, .istore 4, 0, 0, 0, 0),
  (34, 2, .iload 4, 0, 0, 0, 0),
  (36, 1, .aload_n 0, 0, 0, 0, 0),
  (37, 3, .getfield 7, 9, 1, 806, 0),
  (40, 3, .if_icmp .ge 57, 56, 0, 0, 0),
  (43, 1, .aload_n 0, 0, 0, 0, 0),
  (44, 3, .getfield 33, 9, 8, 813, 1),
  (47, 2, .iload 4, 0, 0, 0, 0),
  (49, 1, .baload, 0, 0, 0, 0),
  (50, 3, .ifCond .eq 41, 54, 0, 0, 0),
  (53, 1, .aload_n 0, 0, 0, 0, 0),
  (54, 3, .getfield 33, 9, 8, 813, 1),
  (57, 2, .iload 4, 0, 0, 0, 0),
  (59, 1, .iconst 0, 0, 0, 0, 0),
  (60, 1, .bastore, 0, 0, 0, 0),
  (61, 1, .aload_n 0, 0, 0, 0, 0),
  (62, 1, .iload_n 1, 0, 0, 0, 0),
  (63, 3, .invokevirtual 168, 161, 2, 0, 1010),
  (66, 1, .iload_n 3, 0, 0, 0, 0),
  (67, 1, .aload_n 0, 0, 0, 0, 0),
  (68, 1, .iload_n 1, 0, 0, 0, 0),
  (69, 3, .invokevirtual 172, 164, 2, 0, 1030),
  (72, 1, .iload_n 2, 0, 0, 0, 0),
  (73, 3, .if_icmp .ne 7, 46, 0, 0, 0),
  (76, 1, .iconst 0, 0, 0, 0, 0),
  (77, 3, .goto 4, 47, 0, 0, 0),
  (80, 1, .iconst 1, 0, 0, 0, 0),
  (81, 1, .iadd, 0, 0, 0, 0),
  (82, 1, .istore_n 3, 0, 0, 0, 0),
  (83, 1, .aload_n 0, 0, 0, 0, 0),
  (84, 3, .getfield 33, 9, 8, 813, 1),
  (87, 2, .iload 4, 0, 0, 0, 0),
  (89, 1, .iconst 1, 0, 0, 0, 0),
  (90, 1, .bastore, 0, 0, 0, 0),
  (91, 3, .iinc 4 1, 0, 0, 0, 0),
  (94, 3, .goto (-60), 21, 0, 0, 0),
  (97, 1, .iload_n 3, 0, 0, 0, 0),
  (98, 1, .ireturn, 0, 0, 0, 0)]
noncomputable def kd_X9_isTurned : List q_Ent := [
  (0, 1, .iconst 0, 0, 0, 0, 0),
  (1, 2, .istore 5, 0, 0, 0, 0),
  (3, 1, .iconst 0, 0, 0, 0, 0),
  (4, 2, .istore 6, 0, 0, 0, 0),
  (6, 2, .iload 6, 0, 0, 0, 0),
  (8, 1, .aload_n 0, 0, 0, 0, 0),
  (9, 3, .getfield 7, 9, 1, 806, 0),
  (12, 3, .if_icmp .ge 104, 64, 0, 0, 0),
  (15, 1, .aload_n 0, 0, 0, 0, 0),
  (16, 3, .getfield 30, 9, 7, 812, 1),
  (19, 1, .iconst 4, 0, 0, 0, 0),
  (20, 2, .iload 6, 0, 0, 0, 0),
  (22, 1, .imul, 0, 0, 0, 0),
  (23, 2, .iload 4, 0, 0, 0, 0),
  (25, 1, .iadd, 0, 0, 0, 0),
  (26, 1, .iaload, 0, 0, 0, 0),
  (27, 2, .istore 7, 0, 0, 0, 0),
  (29, 1, .iconst 0, 0, 0, 0, 0),
  (30, 2, .istore 8, 0, 0, 0, 0),
  (32, 2, .iload 8, 0, 0, 0, 0),
  (34, 2, .bipush 6, 0, 0, 0, 0),
  (36, 3, .if_icmp .ge 60, 53, 0, 0, 0),
  (39, 1, .aload_n 0, 0, 0, 0, 0),
  (40, 3, .getfield 33, 9, 8, 813, 1),
  (43, 2, .iload 6, 0, 0, 0, 0),
  (45, 1, .baload, 0, 0, 0, 0),
  (46, 3, .ifCond .eq 50, 53, 0, 0, 0),
  (49, 2, .iload 5, 0, 0, 0, 0),
  (51, 3, .ifCond .ne 45, 53, 0, 0, 0),
  (54, 1, .aload_n 0, 0, 0, 0, 0),
  (55, 3, .getfield 30, 9, 7, 812, 1),
  (58, 1, .iconst 4, 0, 0, 0, 0),
  (59, 2, .iload 6, 0, 0, 0, 0),
  (61, 1, .imul, 0, 0, 0, 0),
  (62, 2, .iload 4, 0, 0, 0, 0),
  (64, 1, .iadd, 0, 0, 0, 0),
  (65, 2, .iload 8, 0, 0, 0, 0),
  (67, 1, .iastore, 0, 0, 0, 0),
  (68, 1, .aload_n 0, 0, 0, 0, 0),
  (69, 1, .iload_n 1, 0, 0, 0, 0),
  (70, 3, .invokevirtual 168, 161, 2, 0, 1010),
  (73, 1, .aload_n 0, 0, 0, 0, 0),
  (74, 1, .iload_n 1, 0, 0, 0, 0),
  (75, 1, .iload_n 2, 0, 0, 0, 0),
  (76, 1, .iload_n 3, 0, 0, 0, 0),
  (77, 3, .invokevirtual 159, 162, 4, 0, 1018),
  (80, 3, .ifCond .gt 7, 49, 0, 0, 0),
  (83, 1, .iconst 1, 0, 0, 0, 0),
  (84, 3, .goto 4, 50, 0, 0, 0),
  (87, 1, .iconst 0, 0, 0, 0, 0),
  (88, 2, .istore 5, 0, 0, 0, 0),
  (90, 3, .iinc 8 1, 0, 0, 0, 0),
  (93, 3, .goto (-61), 19, 0, 0, 0),
  (96, 1, .aload_n 0, 0, 0, 0, 0),
  (97, 3, .getfield 30, 9, 7, 812, 1),
  (100, 1, .iconst 4, 0, 0, 0, 0),
  (101, 2, .iload 6, 0, 0, 0, 0),
  (103, 1, .imul, 0, 0, 0, 0),
  (104, 2, .iload 4, 0, 0, 0, 0),
  (106, 1, .iadd, 0, 0, 0, 0),
  (107, 2, .iload 7, 0, 0, 0, 0),
  (109, 1, .iastore, 0, 0, 0, 0),
  (110, 3, .iinc 6 1, 0, 0, 0, 0),
  (113, 3, .goto (-107), 4, 0, 0, 0),
  (116, 2, .iload 5, 0, 0, 0, 0),
  (118, 1, .ireturn, 0, 0, 0, 0)]
noncomputable def kd_X9_turns : List q_Ent := [
  (0, 1, .aload_n 0, 0, 0, 0, 0),
  (1, 1, .iconst 0, 0, 0, 0, 0),
  (2, 3, .putfield 87, 9, 0, 805, 0),
  (5, 1, .iload_n 1, 0, 0, 0, 0),
  (6, 3, .invokestatic 132, 137, 1, 1, 962),
  (9, 3, .ifCond .ne 28, 18, 0, 0, 0),
  (12, 1, .aload_n 0, 0, 0, 0, 0),
  (13, 1, .iload_n 2, 0, 0, 0, 0),
  (14, 3, .invokevirtual 100, 136, 2, 0, 906),
  (17, 3, .ifCond .ne 20, 18, 0, 0, 0),
  (20, 1, .aload_n 0, 0, 0, 0, 0),
  (21, 1, .iload_n 3, 0, 0, 0, 0),
  (22, 3, .invokevirtual 100, 136, 2, 0, 906),
  (25, 3, .ifCond .ne 12, 18, 0, 0, 0),
  (28, 1, .aload_n 0, 0, 0, 0, 0),
  (29, 2, .iload 4, 0, 0, 0, 0),
  (31, 3, .invokevirtual 100, 136, 2, 0, 906),
  (34, 3, .ifCond .eq 5, 20, 0, 0, 0),
  (37, 1, .iconst (-1), 0, 0, 0, 0),
  (38, 1, .ireturn, 0, 0, 0, 0),
  (39, 1, .iload_n 2, 0, 0, 0, 0),
  (40, 1, .iload_n 3, 0, 0, 0, 0),
  (41, 3, .if_icmp .eq 15, 29, 0, 0, 0),
  (44, 1, .iload_n 2, 0, 0, 0, 0),
  (45, 2, .iload 4, 0, 0, 0, 0),
  (47, 3, .if_icmp .eq 9, 29, 0, 0, 0),
  (50, 1, .iload_n 3, 0, 0, 0, 0),
  (51, 2, .iload 4, 0, 0, 0, 0),
  (53, 3, .if_icmp .ne 6, 31, 0, 0, 0),
  (56, 2, .bipush (-2), 0, 0, 0, 0),
  (58, 1, .ireturn, 0, 0, 0, 0),
  (59, 1, .aload_n 0, 0, 0, 0, 0),
  (60, 3, .invokevirtual 165, 153, 1, 0, 974),
  (63, 1, .aload_n 0, 0, 0, 0, 0),
  (64, 1, .iload_n 1, 0, 0, 0, 0),
  (65, 3, .invokevirtual 168, 161, 2, 0, 1010),
  (68, 1, .aload_n 0, 0, 0, 0, 0),
  (69, 1, .iload_n 1, 0, 0, 0, 0),
  (70, 1, .iload_n 2, 0, 0, 0, 0),
  (71, 1, .iload_n 3, 0, 0, 0, 0),
  (72, 3, .invokevirtual 159, 162, 4, 0, 1018),
  (75, 3, .ifCond .gt 6, 44, 0, 0, 0),
  (78, 2, .bipush (-3), 0, 0, 0, 0),
  (80, 1, .ireturn, 0, 0, 0, 0),
  (81, 1, .aload_n 0, 0, 0, 0, 0),
  (82, 1, .iload_n 1, 0, 0, 0, 0),
  (83, 1, .iload_n 2, 0, 0, 0, 0),
  (84, 1, .iload_n 3, 0, 0, 0, 0),
  (85, 2, .iload 4, 0, 0, 0, 0),
  (87, 3, .invokevirtual 198, 186, 5, 0, 1109),
  (90, 3, .ifCond .eq 7, 53, 0, 0, 0),
  (93, 1, .iconst 1, 0, 0, 0, 0),
  (94, 3, .goto 4, 54, 0, 0, 0),
  (97, 1, .iconst 0, 0, 0, 0, 0),
  (98, 1, .ireturn, 0, 0, 0, 0)]
noncomputable def kd_X9_thirds : List q_Ent := [
  (0, 1, .aload_n 0, 0, 0, 0, 0),
  (1, 1, .iconst 0, 0, 0, 0, 0),
  (2, 3, .putfield 87, 9, 0, 805, 0),
  (5, 1, .iload_n 1, 0, 0, 0, 0),
  (6, 3, .invokestatic 132, 137, 1, 1, 962),
  (9, 3, .ifCond .eq 5, 8, 0, 0, 0),
  (12, 1, .iconst (-1), 0, 0, 0, 0),
  (13, 1, .ireturn, 0, 0, 0, 0),
  (14, 1, .iconst 0, 0, 0, 0, 0),
  (15, 1, .istore_n 2, 0, 0, 0, 0),
  (16, 1, .iconst 0, 0, 0, 0, 0),
  (17, 1, .istore_n 3, 0, 0, 0, 0),
  (18, 1, .iload_n 3, 0, 0, 0, 0),
  (19, 2, .bipush 64, 0, 0, 0, 0),
  (21, 3, .if_icmp .ge 130, 82, 0, 0, 0),
  (24, 1, .iload_n 3, 0, 0, 0, 0),
  (25, 2, .bipush 16, 0, 0, 0, 0),
  (27, 1, .idiv, 0, 0, 0, 0),
  (28, 2, .istore 4, 0, 0, 0, 0),
  (30, 1, .iload_n 3, 0, 0, 0, 0),
  (31, 1, .iconst 4, 0, 0, 0, 0),
  (32, 1, .idiv, 0, 0, 0, 0),
  (33, 1, .iconst 4, 0, 0, 0, 0),
  (34, 1, .irem, 0, 0, 0, 0),
  (35, 2, .istore 5, 0, 0, 0, 0),
  (37, 1, .iload_n 3, 0, 0, 0, 0),
  (38, 1, .iconst 4, 0, 0, 0, 0),
  (39, 1, .irem, 0, 0, 0, 0),
  (40, 2, .istore 6, 0, 0, 0, 0),
  (42, 2, .iload 4, 0, 0, 0, 0),
  (44, 1, .aload_n 0, 0, 0, 0, 0),
  (45, 3, .getfield 13, 9, 2, 807, 0),
  (48, 3, .if_icmp .ge 46, 52, 0, 0, 0),
  (51, 2, .iload 5, 0, 0, 0, 0),
  (53, 1, .aload_n 0, 0, 0, 0, 0),
  (54, 3, .getfield 13, 9, 2, 807, 0),
  (57, 3, .if_icmp .ge 37, 52, 0, 0, 0),
  (60, 2, .iload 6, 0, 0, 0, 0),
  (62, 1, .aload_n 0, 0, 0, 0, 0),
  (63, 3, .getfield 13, 9, 2, 807, 0),
  (66, 3, .if_icmp .ge 28, 52, 0, 0, 0),
  (69, 2, .iload 4, 0, 0, 0, 0),
  (71, 2, .iload 5, 0, 0, 0, 0),
  (73, 3, .if_icmp .eq 21, 52, 0, 0, 0),
  (76, 2, .iload 4, 0, 0, 0, 0),
  (78, 2, .iload 6, 0, 0, 0, 0),
  (80, 3, .if_icmp .eq 14, 52, 0, 0, 0),
  (83, 2, .iload 5, 0, 0, 0, 0),
  (85, 2, .iload 6, 0, 0, 0, 0),
  (87, 3, .if_icmp .eq 7, 52, 0, 0, 0),
  (90, 1, .iconst 1, 0, 0, 0, 0),
  (91, 3, .goto 4, 53, 0, 0, 0),
  (94, 1, .iconst 0, 0, 0, 0, 0),
  (95, 2, .istore 7, 0, 0, 0, 0),
  (97, 1, .aload_n 0, 0, 0, 0, 0),
  (98, 3, .invokevirtual 165, 153, 1, 0, 974),
  (101, 1, .aload_n 0, 0, 0, 0, 0),
  (102, 1, .iload_n 1, 0, 0, 0, 0),
  (103, 3, .invokevirtual 168, 161, 2, 0, 1010),
  (106, 1, .iload_n 2, 0, 0, 0, 0),
  (107, 2, .iload 7, 0, 0, 0, 0),
  (109, 3, .ifCond .eq 33, 77, 0, 0, 0),
  (112, 1, .aload_n 0, 0, 0, 0, 0),
  (113, 1, .iload_n 1, 0, 0, 0, 0),
  (114, 2, .iload 4, 0, 0, 0, 0),
  (116, 2, .iload 5, 0, 0, 0, 0),
  (118, 3, .invokevirtual 159, 162, 4, 0, 1018),
  (121, 3, .ifCond .le 21, 77, 0, 0, 0),
  (124, 1, .aload_n 0, 0, 0, 0, 0),
  (125, 1, .iload_n 1, 0, 0, 0, 0),
  (126, 2, .iload 4, 0, 0, 0, 0),
  (128, 2, .iload 5, 0, 0, 0, 0),
  (130, 2, .iload 6, 0, 0, 0, 0),
  (132, 3, .invokevirtual 198, 186, 5, 0, 1109),
  (135, 3, .ifCond .eq 7, 77, 0, 0, 0),
  (138, 1, .iconst 1, 0, 0, 0, 0),
  (139, 3, .goto 4, 78, 0, 0, 0),
  (142, 1, .iconst 0, 0, 0, 0, 0),
  (143, 1, .iadd, 0, 0, 0, 0),
  (144, 1, .istore_n 2, 0, 0, 0, 0),
  (145, 3, .iinc 3 1, 0, 0, 0, 0),
  (148, 3, .goto (-130), 12, 0, 0, 0),
  (151, 1, .iload_n 2, 0, 0, 0, 0),
  (152, 1, .ireturn, 0, 0, 0, 0)]
noncomputable def kd_X9_keep : List q_Ent := [
  (0, 1, .aload_n 0, 0, 0, 0, 0),
  (1, 1, .iconst 0, 0, 0, 0, 0),
  (2, 3, .putfield 87, 9, 0, 805, 0),
  (5, 1, .aload_n 0, 0, 0, 0, 0),
  (6, 3, .getfield 202, 9, 22, 827, 0),
  (9, 2, .bipush 8, 0, 0, 0, 0),
  (11, 3, .if_icmp .ne 6, 9, 0, 0, 0),
  (14, 2, .bipush (-4), 0, 0, 0, 0),
  (16, 1, .ireturn, 0, 0, 0, 0),
  (17, 1, .aload_n 0, 0, 0, 0, 0),
  (18, 3, .getfield 69, 9, 23, 828, 1),
  (21, 1, .aload_n 0, 0, 0, 0, 0),
  (22, 3, .getfield 202, 9, 22, 827, 0),
  (25, 1, .aload_n 0, 0, 0, 0, 0),
  (26, 3, .getfield 7, 9, 1, 806, 0),
  (29, 1, .iastore, 0, 0, 0, 0),
  (30, 1, .aload_n 0, 0, 0, 0, 0),
  (31, 3, .getfield 72, 9, 24, 829, 1),
  (34, 1, .aload_n 0, 0, 0, 0, 0),
  (35, 3, .getfield 202, 9, 22, 827, 0),
  (38, 1, .aload_n 0, 0, 0, 0, 0),
  (39, 3, .getfield 13, 9, 2, 807, 0),
  (42, 1, .iastore, 0, 0, 0, 0),
  (43, 1, .iconst 0, 0, 0, 0, 0),
  (44, 1, .istore_n 1, 0, 0, 0, 0),
  (45, 1, .iload_n 1, 0, 0, 0, 0),
  (46, 2, .bipush 7, 0, 0, 0, 0),
  (48, 3, .if_icmp .ge 49, 56, 0, 0, 0),
  (51, 1, .aload_n 0, 0, 0, 0, 0),
  (52, 3, .getfield 75, 9, 25, 830, 1),
  (55, 2, .bipush 7, 0, 0, 0, 0),
  (57, 1, .aload_n 0, 0, 0, 0, 0),
  (58, 3, .getfield 202, 9, 22, 827, 0),
  (61, 1, .imul, 0, 0, 0, 0),
  (62, 1, .iload_n 1, 0, 0, 0, 0),
  (63, 1, .iadd, 0, 0, 0, 0),
  (64, 1, .aload_n 0, 0, 0, 0, 0),
  (65, 3, .getfield 16, 9, 3, 808, 1),
  (68, 1, .iload_n 1, 0, 0, 0, 0),
  (69, 1, .iaload, 0, 0, 0, 0),
  (70, 1, .iastore, 0, 0, 0, 0),
  (71, 1, .aload_n 0, 0, 0, 0, 0),
  (72, 3, .getfield 84, 9, 28, 833, 1),
  (75, 2, .bipush 7, 0, 0, 0, 0),
  (77, 1, .aload_n 0, 0, 0, 0, 0),
  (78, 3, .getfield 202, 9, 22, 827, 0),
  (81, 1, .imul, 0, 0, 0, 0),
  (82, 1, .iload_n 1, 0, 0, 0, 0),
  (83, 1, .iadd, 0, 0, 0, 0),
  (84, 1, .aload_n 0, 0, 0, 0, 0),
  (85, 3, .getfield 26, 9, 6, 811, 1),
  (88, 1, .iload_n 1, 0, 0, 0, 0),
  (89, 1, .baload, 0, 0, 0, 0),
  (90, 1, .bastore, 0, 0, 0, 0),
  (91, 3, .iinc 1 1, 0, 0, 0, 0),
  (94, 3, .goto (-49), 25, 0, 0, 0),
  (97, 1, .iconst 0, 0, 0, 0, 0),
  (98, 1, .istore_n 1, 0, 0, 0, 0),
  (99, 1, .iload_n 1, 0, 0, 0, 0),
  (100, 1, .iconst 4, 0, 0, 0, 0),
  (101, 3, .if_icmp .ge 28, 76, 0, 0, 0),
  (104, 1, .aload_n 0, 0, 0, 0, 0),
  (105, 3, .getfield 78, 9, 26, 831, 1),
  (108, 1, .iconst 4, 0, 0, 0, 0),
  (109, 1, .aload_n 0, 0, 0, 0, 0),
  (110, 3, .getfield 202, 9, 22, 827, 0),
  (113, 1, .imul, 0, 0, 0, 0),
  (114, 1, .iload_n 1, 0, 0, 0, 0),
  (115, 1, .iadd, 0, 0, 0, 0),
  (116, 1, .aload_n 0, 0, 0, 0, 0),
  (117, 3, .getfield 20, 9, 4, 809, 1),
  (120, 1, .iload_n 1, 0, 0, 0, 0),
  (121, 1, .iaload, 0, 0, 0, 0),
  (122, 1, .iastore, 0, 0, 0, 0),
  (123, 3, .iinc 1 1, 0, 0, 0, 0),
  (126, 3, .goto (-27), 58, 0, 0, 0),
  (129, 1, .iconst 0, 0, 0, 0, 0),
  (130, 1, .istore_n 1, 0, 0, 0, 0),
  (131, 1, .iload_n 1, 0, 0, 0, 0),
  (132, 2, .bipush 28, 0, 0, 0, 0),
  (134, 3, .if_icmp .ge 29, 96, 0, 0, 0),
  (137, 1, .aload_n 0, 0, 0, 0, 0),
  (138, 3, .getfield 81, 9, 27, 832, 1),
  (141, 2, .bipush 28, 0, 0, 0, 0),
  (143, 1, .aload_n 0, 0, 0, 0, 0),
  (144, 3, .getfield 202, 9, 22, 827, 0),
  (147, 1, .imul, 0, 0, 0, 0),
  (148, 1, .iload_n 1, 0, 0, 0, 0),
  (149, 1, .iadd, 0, 0, 0, 0),
  (150, 1, .aload_n 0, 0, 0, 0, 0),
  (151, 3, .getfield 23, 9, 5, 810, 1),
  (154, 1, .iload_n 1, 0, 0, 0, 0),
  (155, 1, .iaload, 0, 0, 0, 0),
  (156, 1, .iastore, 0, 0, 0, 0),
  (157, 3, .iinc 1 1, 0, 0, 0, 0),
  (160, 3, .goto (-29), 78, 0, 0, 0),
  (163, 1, .aload_n 0, 0, 0, 0, 0),
  (164, 1, .dup, 0, 0, 0, 0),
  (165, 3, .getfield 202, 9, 22, 827, 0),
  (168, 1, .iconst 1, 0, 0, 0, 0),
  (169, 1, .iadd, 0, 0, 0, 0),
  (170, 3, .putfield 202, 9, 22, 827, 0),
  (173, 1, .aload_n 0, 0, 0, 0, 0),
  (174, 3, .getfield 202, 9, 22, 827, 0),
  (177, 1, .ireturn, 0, 0, 0, 0)]
noncomputable def kd_X9_forget : List q_Ent := [
  (0, 1, .aload_n 0, 0, 0, 0, 0),
  (1, 1, .iconst 0, 0, 0, 0, 0),
  (2, 3, .putfield 87, 9, 0, 805, 0),
  (5, 1, .aload_n 0, 0, 0, 0, 0),
  (6, 3, .getfield 202, 9, 22, 827, 0),
  (9, 1, .istore_n 1, 0, 0, 0, 0),
  (10, 1, .aload_n 0, 0, 0, 0, 0),
  (11, 1, .iconst 0, 0, 0, 0, 0),
  (12, 3, .putfield 202, 9, 22, 827, 0),
  (15, 1, .iload_n 1, 0, 0, 0, 0),
  (16, 1, .ireturn, 0, 0, 0, 0)]
noncomputable def kd_X9_stood : List q_Ent := [
  (0, 1, .iload_n 2, 0, 0, 0, 0),
  (1, 1, .aload_n 0, 0, 0, 0, 0),
  (2, 3, .getfield 69, 9, 23, 828, 1),
  (5, 1, .iload_n 1, 0, 0, 0, 0),
  (6, 1, .iaload, 0, 0, 0, 0),
  (7, 3, .if_icmp .ge 21, 17, 0, 0, 0),
  (10, 1, .aload_n 0, 0, 0, 0, 0),
  (11, 3, .getfield 84, 9, 28, 833, 1),
  (14, 2, .bipush 7, 0, 0, 0, 0),
  (16, 1, .iload_n 1, 0, 0, 0, 0),
  (17, 1, .imul, 0, 0, 0, 0),
  (18, 1, .iload_n 2, 0, 0, 0, 0),
  (19, 1, .iadd, 0, 0, 0, 0),
  (20, 1, .baload, 0, 0, 0, 0),
  (21, 3, .ifCond .ne 7, 17, 0, 0, 0),
  (24, 1, .iconst 1, 0, 0, 0, 0),
  (25, 3, .goto 4, 18, 0, 0, 0),
  (28, 1, .iconst 0, 0, 0, 0, 0),
  (29, 1, .ireturn, 0, 0, 0, 0)]
noncomputable def kd_X9_leanIn : List q_Ent := [
  (0, 1, .iconst 0, 0, 0, 0, 0),
  (1, 2, .istore 4, 0, 0, 0, 0),
  (3, 1, .iconst 0, 0, 0, 0, 0),
  (4, 2, .istore 5, 0, 0, 0, 0),
  (6, 2, .iload 5, 0, 0, 0, 0),
  (8, 1, .aload_n 0, 0, 0, 0, 0),
  (9, 3, .getfield 72, 9, 24, 829, 1),
  (12, 1, .iload_n 1, 0, 0, 0, 0),
  (13, 1, .iaload, 0, 0, 0, 0),
  (14, 3, .if_icmp .ge 120, 78, 0, 0, 0),
  (17, 1, .aload_n 0, 0, 0, 0, 0),
  (18, 1, .iload_n 1, 0, 0, 0, 0),
  (19, 1, .iload_n 2, 0, 0, 0, 0),
  (20, 3, .invokevirtual 205, 191, 3, 0, 1138),
  (23, 3, .ifCond .eq 111, 78, 0, 0, 0),
  (26, 1, .iconst 0, 0, 0, 0, 0),
  (27, 2, .istore 6, 0, 0, 0, 0),
  (29, 2, .iload 6, 0, 0, 0, 0),
  (31, 2, .bipush 7, 0, 0, 0, 0),
  (33, 3, .if_icmp .ge 95, 76, 0, 0, 0),
  (36, 2, .iload 6, 0, 0, 0, 0),
  (38, 1, .iload_n 2, 0, 0, 0, 0),
  (39, 3, .if_icmp .eq 32, 40, 0, 0, 0),
  (42, 1, .aload_n 0, 0, 0, 0, 0),
  (43, 1, .iload_n 1, 0, 0, 0, 0),
  (44, 2, .iload 6, 0, 0, 0, 0),
  (46, 3, .invokevirtual 205, 191, 3, 0, 1138),
  (49, 3, .ifCond .eq 22, 40, 0, 0, 0),
  (52, 1, .aload_n 0, 0, 0, 0, 0),
  (53, 3, .getfield 78, 9, 26, 831, 1),
  (56, 1, .iconst 4, 0, 0, 0, 0),
  (57, 1, .iload_n 1, 0, 0, 0, 0),
  (58, 1, .imul, 0, 0, 0, 0),
  (59, 2, .iload 5, 0, 0, 0, 0),
  (61, 1, .iadd, 0, 0, 0, 0),
  (62, 1, .iaload, 0, 0, 0, 0),
  (63, 1, .iload_n 3, 0, 0, 0, 0),
  (64, 3, .if_icmp .ne 7, 40, 0, 0, 0),
  (67, 1, .iconst 1, 0, 0, 0, 0),
  (68, 3, .goto 4, 41, 0, 0, 0),
  (71, 1, .iconst 0, 0, 0, 0, 0),
  (72, 2, .istore 7, 0, 0, 0, 0),
  (74, 2, .iload 4, 0, 0, 0, 0),
  (76, 2, .iload 7, 0, 0, 0, 0),
  (78, 3, .ifCond .eq 40, 71, 0, 0, 0),
  (81, 1, .aload_n 0, 0, 0, 0, 0),
  (82, 3, .getfield 81, 9, 27, 832, 1),
  (85, 2, .bipush 28, 0, 0, 0, 0),
  (87, 1, .iload_n 1, 0, 0, 0, 0),
  (88, 1, .imul, 0, 0, 0, 0),
  (89, 1, .iconst 4, 0, 0, 0, 0),
  (90, 1, .iload_n 2, 0, 0, 0, 0),
  (91, 1, .imul, 0, 0, 0, 0),
  (92, 1, .iadd, 0, 0, 0, 0),
  (93, 2, .iload 5, 0, 0, 0, 0),
  (95, 1, .iadd, 0, 0, 0, 0),
  (96, 1, .iaload, 0, 0, 0, 0),
  (97, 1, .aload_n 0, 0, 0, 0, 0),
  (98, 3, .getfield 81, 9, 27, 832, 1),
  (101, 2, .bipush 28, 0, 0, 0, 0),
  (103, 1, .iload_n 1, 0, 0, 0, 0),
  (104, 1, .imul, 0, 0, 0, 0),
  (105, 1, .iconst 4, 0, 0, 0, 0),
  (106, 2, .iload 6, 0, 0, 0, 0),
  (108, 1, .imul, 0, 0, 0, 0),
  (109, 1, .iadd, 0, 0, 0, 0),
  (110, 2, .iload 5, 0, 0, 0, 0),
  (112, 1, .iadd, 0, 0, 0, 0),
  (113, 1, .iaload, 0, 0, 0, 0),
  (114, 1, .isub, 0, 0, 0, 0),
  (115, 3, .goto 4, 72, 0, 0, 0),
  (118, 1, .iconst 0, 0, 0, 0, 0),
  (119, 1, .iadd, 0, 0, 0, 0),
  (120, 2, .istore 4, 0, 0, 0, 0),
  (122, 3, .iinc 6 1, 0, 0, 0, 0),
  (125, 3, .goto (-96), 17, 0, 0, 0),
  (128, 3, .iinc 5 1, 0, 0, 0, 0),
  (131, 3, .goto (-125), 4, 0, 0, 0),
  (134, 2, .iload 4, 0, 0, 0, 0),
  (136, 1, .ireturn, 0, 0, 0, 0)]
noncomputable def kd_X9_leanOf : List q_Ent := [
  (0, 1, .iconst 0, 0, 0, 0, 0),
  (1, 1, .istore_n 2, 0, 0, 0, 0),
  (2, 1, .iconst 0, 0, 0, 0, 0),
  (3, 1, .istore_n 3, 0, 0, 0, 0),
  (4, 1, .iload_n 3, 0, 0, 0, 0),
  (5, 1, .aload_n 0, 0, 0, 0, 0),
  (6, 3, .getfield 202, 9, 22, 827, 0),
  (9, 3, .if_icmp .ge 29, 25, 0, 0, 0),
  (12, 1, .iload_n 2, 0, 0, 0, 0),
  (13, 1, .aload_n 0, 0, 0, 0, 0),
  (14, 1, .iload_n 3, 0, 0, 0, 0),
  (15, 1, .iload_n 1, 0, 0, 0, 0),
  (16, 1, .aload_n 0, 0, 0, 0, 0),
  (17, 3, .getfield 75, 9, 25, 830, 1),
  (20, 2, .bipush 7, 0, 0, 0, 0),
  (22, 1, .iload_n 3, 0, 0, 0, 0),
  (23, 1, .imul, 0, 0, 0, 0),
  (24, 1, .iload_n 1, 0, 0, 0, 0),
  (25, 1, .iadd, 0, 0, 0, 0),
  (26, 1, .iaload, 0, 0, 0, 0),
  (27, 3, .invokevirtual 208, 192, 4, 0, 1134),
  (30, 1, .iadd, 0, 0, 0, 0),
  (31, 1, .istore_n 2, 0, 0, 0, 0),
  (32, 3, .iinc 3 1, 0, 0, 0, 0),
  (35, 3, .goto (-31), 4, 0, 0, 0),
  (38, 1, .iload_n 2, 0, 0, 0, 0),
  (39, 1, .ireturn, 0, 0, 0, 0)]
noncomputable def kd_X9_lean : List q_Ent := [
  (0, 1, .aload_n 0, 0, 0, 0, 0),
  (1, 1, .iconst 0, 0, 0, 0, 0),
  (2, 3, .putfield 87, 9, 0, 805, 0),
  (5, 1, .iload_n 1, 0, 0, 0, 0),
  (6, 1, .i2l, 0, 0, 0, 0),
  (7, 1, .lconst 0, 0, 0, 0, 0),
  (8, 3, .ldc2_w 211, 6, 0, 1129, 0),
  (11, 3, .invokestatic 90, 134, 3, 1, 898),
  (14, 3, .ifCond .eq 11, 13, 0, 0, 0),
  (17, 1, .aload_n 0, 0, 0, 0, 0),
  (18, 1, .iload_n 1, 0, 0, 0, 0),
  (19, 3, .invokevirtual 213, 193, 2, 0, 1130),
  (22, 3, .goto 4, 14, 0, 0, 0),
  (25, 1, .iconst (-1), 0, 0, 0, 0),
  (26, 1, .ireturn, 0, 0, 0, 0)]
noncomputable def kd_X9_seldom : List q_Ent := [
  (0, 1, .aload_n 0, 0, 0, 0, 0),
  (1, 1, .iconst 0, 0, 0, 0, 0),
  (2, 3, .putfield 87, 9, 0, 805, 0),
  (5, 1, .iload_n 1, 0, 0, 0, 0),
  (6, 1, .i2l, 0, 0, 0, 0),
  (7, 1, .lconst 0, 0, 0, 0, 0),
  (8, 3, .ldc2_w 211, 6, 0, 1129, 0),
  (11, 3, .invokestatic 90, 134, 3, 1, 898),
  (14, 3, .ifCond .ne 5, 11, 0, 0, 0),
  (17, 1, .iconst (-1), 0, 0, 0, 0),
  (18, 1, .ireturn, 0, 0, 0, 0),
  (19, 1, .aload_n 0, 0, 0, 0, 0),
  (20, 1, .iload_n 1, 0, 0, 0, 0),
  (21, 3, .invokevirtual 213, 193, 2, 0, 1130),
  (24, 1, .istore_n 2, 0, 0, 0, 0),
  (25, 1, .iconst 0, 0, 0, 0, 0),
  (26, 1, .istore_n 3, 0, 0, 0, 0),
  (27, 1, .iconst 0, 0, 0, 0, 0),
  (28, 2, .istore 4, 0, 0, 0, 0),
  (30, 2, .iload 4, 0, 0, 0, 0),
  (32, 2, .bipush 7, 0, 0, 0, 0),
  (34, 3, .if_icmp .ge 124, 85, 0, 0, 0),
  (37, 1, .iconst 0, 0, 0, 0, 0),
  (38, 2, .istore 5, 0, 0, 0, 0),
  (40, 1, .iconst 0, 0, 0, 0, 0),
  (41, 2, .istore 6, 0, 0, 0, 0),
  (43, 1, .iconst 0, 0, 0, 0, 0),
  (44, 2, .istore 7, 0, 0, 0, 0),
  (46, 2, .iload 7, 0, 0, 0, 0),
  (48, 1, .aload_n 0, 0, 0, 0, 0),
  (49, 3, .getfield 202, 9, 22, 827, 0),
  (52, 3, .if_icmp .ge 81, 72, 0, 0, 0),
  (55, 2, .iload 5, 0, 0, 0, 0),
  (57, 1, .aload_n 0, 0, 0, 0, 0),
  (58, 2, .iload 7, 0, 0, 0, 0),
  (60, 1, .iload_n 1, 0, 0, 0, 0),
  (61, 3, .invokevirtual 205, 191, 3, 0, 1138),
  (64, 3, .ifCond .eq 26, 51, 0, 0, 0),
  (67, 1, .aload_n 0, 0, 0, 0, 0),
  (68, 2, .iload 7, 0, 0, 0, 0),
  (70, 2, .iload 4, 0, 0, 0, 0),
  (72, 1, .aload_n 0, 0, 0, 0, 0),
  (73, 3, .getfield 75, 9, 25, 830, 1),
  (76, 2, .bipush 7, 0, 0, 0, 0),
  (78, 2, .iload 7, 0, 0, 0, 0),
  (80, 1, .imul, 0, 0, 0, 0),
  (81, 1, .iload_n 1, 0, 0, 0, 0),
  (82, 1, .iadd, 0, 0, 0, 0),
  (83, 1, .iaload, 0, 0, 0, 0),
  (84, 3, .invokevirtual 208, 192, 4, 0, 1134),
  (87, 3, .goto 4, 52, 0, 0, 0),
  (90, 1, .iconst 0, 0, 0, 0, 0),
  (91, 1, .iadd, 0, 0, 0, 0),
  (92, 2, .istore 5, 0, 0, 0, 0),
  (94, 2, .iload 6, 0, 0, 0, 0),
  (96, 3, .ifCond .ne 24, 66, 0, 0, 0),
  (99, 1, .aload_n 0, 0, 0, 0, 0),
  (100, 2, .iload 7, 0, 0, 0, 0),
  (102, 1, .iload_n 1, 0, 0, 0, 0),
  (103, 3, .invokevirtual 205, 191, 3, 0, 1138),
  (106, 3, .ifCond .eq 18, 68, 0, 0, 0),
  (109, 1, .aload_n 0, 0, 0, 0, 0),
  (110, 2, .iload 7, 0, 0, 0, 0),
  (112, 2, .iload 4, 0, 0, 0, 0),
  (114, 3, .invokevirtual 205, 191, 3, 0, 1138),
  (117, 3, .ifCond .eq 7, 68, 0, 0, 0),
  (120, 1, .iconst 1, 0, 0, 0, 0),
  (121, 3, .goto 4, 69, 0, 0, 0),
  (124, 1, .iconst 0, 0, 0, 0, 0),
  (125, 2, .istore 6, 0, 0, 0, 0),
  (127, 3, .iinc 7 1, 0, 0, 0, 0),
  (130, 3, .goto (-84), 28, 0, 0, 0),
  (133, 1, .iload_n 3, 0, 0, 0, 0),
  (134, 2, .iload 6, 0, 0, 0, 0),
  (136, 3, .ifCond .eq 13, 80, 0, 0, 0),
  (139, 2, .iload 5, 0, 0, 0, 0),
  (141, 1, .iload_n 2, 0, 0, 0, 0),
  (142, 3, .if_icmp .lt 7, 80, 0, 0, 0),
  (145, 1, .iconst 1, 0, 0, 0, 0),
  (146, 3, .goto 4, 81, 0, 0, 0),
  (149, 1, .iconst 0, 0, 0, 0, 0),
  (150, 1, .iadd, 0, 0, 0, 0),
  (151, 1, .istore_n 3, 0, 0, 0, 0),
  (152, 3, .iinc 4 1, 0, 0, 0, 0),
  (155, 3, .goto (-125), 19, 0, 0, 0),
  (158, 1, .iload_n 3, 0, 0, 0, 0),
  (159, 1, .ireturn, 0, 0, 0, 0)]
noncomputable def kd_X9_leaner : List q_Ent := [
  (0, 1, .aload_n 0, 0, 0, 0, 0),
  (1, 1, .iconst 0, 0, 0, 0, 0),
  (2, 3, .putfield 87, 9, 0, 805, 0),
  (5, 2, .bipush (-9), 0, 0, 0, 0),
  (7, 1, .istore_n 1, 0, 0, 0, 0),
  (8, 1, .iconst 0, 0, 0, 0, 0),
  (9, 1, .istore_n 2, 0, 0, 0, 0),
  (10, 1, .iload_n 2, 0, 0, 0, 0),
  (11, 2, .bipush 7, 0, 0, 0, 0),
  (13, 3, .if_icmp .ge 41, 29, 0, 0, 0),
  (16, 1, .aload_n 0, 0, 0, 0, 0),
  (17, 3, .getfield 202, 9, 22, 827, 0),
  (20, 3, .ifCond .le 34, 29, 0, 0, 0),
  (23, 1, .iload_n 1, 0, 0, 0, 0),
  (24, 2, .bipush (-9), 0, 0, 0, 0),
  (26, 3, .if_icmp .eq 16, 23, 0, 0, 0),
  (29, 1, .aload_n 0, 0, 0, 0, 0),
  (30, 1, .iload_n 2, 0, 0, 0, 0),
  (31, 3, .invokevirtual 213, 193, 2, 0, 1130),
  (34, 1, .aload_n 0, 0, 0, 0, 0),
  (35, 1, .iload_n 1, 0, 0, 0, 0),
  (36, 3, .invokevirtual 213, 193, 2, 0, 1130),
  (39, 3, .if_icmp .le 7, 25, 0, 0, 0),
  (42, 1, .iload_n 2, 0, 0, 0, 0),
  (43, 3, .goto 4, 26, 0, 0, 0),
  (46, 1, .iload_n 1, 0, 0, 0, 0),
  (47, 1, .istore_n 1, 0, 0, 0, 0),
  (48, 3, .iinc 2 1, 0, 0, 0, 0),
  (51, 3, .goto (-41), 7, 0, 0, 0),
  (54, 1, .iload_n 1, 0, 0, 0, 0),
  (55, 1, .ireturn, 0, 0, 0, 0)]
noncomputable def kd_X9_again : List q_Ent := [
  (0, 1, .aload_n 0, 0, 0, 0, 0),
  (1, 1, .iconst 0, 0, 0, 0, 0),
  (2, 3, .putfield 87, 9, 0, 805, 0),
  (5, 1, .iload_n 1, 0, 0, 0, 0),
  (6, 1, .i2l, 0, 0, 0, 0),
  (7, 1, .lconst 0, 0, 0, 0, 0),
  (8, 1, .aload_n 0, 0, 0, 0, 0),
  (9, 3, .getfield 202, 9, 22, 827, 0),
  (12, 1, .iconst 1, 0, 0, 0, 0),
  (13, 1, .isub, 0, 0, 0, 0),
  (14, 1, .i2l, 0, 0, 0, 0),
  (15, 3, .invokestatic 90, 134, 3, 1, 898),
  (18, 3, .ifCond .ne 5, 15, 0, 0, 0),
  (21, 1, .iconst (-1), 0, 0, 0, 0),
  (22, 1, .ireturn, 0, 0, 0, 0),
  (23, 1, .aload_n 0, 0, 0, 0, 0),
  (24, 1, .aload_n 0, 0, 0, 0, 0),
  (25, 3, .getfield 69, 9, 23, 828, 1),
  (28, 1, .iload_n 1, 0, 0, 0, 0),
  (29, 1, .iaload, 0, 0, 0, 0),
  (30, 3, .putfield 7, 9, 1, 806, 0),
  (33, 1, .aload_n 0, 0, 0, 0, 0),
  (34, 1, .aload_n 0, 0, 0, 0, 0),
  (35, 3, .getfield 72, 9, 24, 829, 1),
  (38, 1, .iload_n 1, 0, 0, 0, 0),
  (39, 1, .iaload, 0, 0, 0, 0),
  (40, 3, .putfield 13, 9, 2, 807, 0),
  (43, 1, .iconst 0, 0, 0, 0, 0),
  (44, 1, .istore_n 2, 0, 0, 0, 0),
  (45, 1, .iload_n 2, 0, 0, 0, 0),
  (46, 2, .bipush 7, 0, 0, 0, 0),
  (48, 3, .if_icmp .ge 43, 58, 0, 0, 0),
  (51, 1, .aload_n 0, 0, 0, 0, 0),
  (52, 3, .getfield 16, 9, 3, 808, 1),
  (55, 1, .iload_n 2, 0, 0, 0, 0),
  (56, 1, .aload_n 0, 0, 0, 0, 0),
  (57, 3, .getfield 75, 9, 25, 830, 1),
  (60, 2, .bipush 7, 0, 0, 0, 0),
  (62, 1, .iload_n 1, 0, 0, 0, 0),
  (63, 1, .imul, 0, 0, 0, 0),
  (64, 1, .iload_n 2, 0, 0, 0, 0),
  (65, 1, .iadd, 0, 0, 0, 0),
  (66, 1, .iaload, 0, 0, 0, 0),
  (67, 1, .iastore, 0, 0, 0, 0),
  (68, 1, .aload_n 0, 0, 0, 0, 0),
  (69, 3, .getfield 26, 9, 6, 811, 1),
  (72, 1, .iload_n 2, 0, 0, 0, 0),
  (73, 1, .aload_n 0, 0, 0, 0, 0),
  (74, 3, .getfield 84, 9, 28, 833, 1),
  (77, 2, .bipush 7, 0, 0, 0, 0),
  (79, 1, .iload_n 1, 0, 0, 0, 0),
  (80, 1, .imul, 0, 0, 0, 0),
  (81, 1, .iload_n 2, 0, 0, 0, 0),
  (82, 1, .iadd, 0, 0, 0, 0),
  (83, 1, .baload, 0, 0, 0, 0),
  (84, 1, .bastore, 0, 0, 0, 0),
  (85, 3, .iinc 2 1, 0, 0, 0, 0),
  (88, 3, .goto (-43), 29, 0, 0, 0),
  (91, 1, .iconst 0, 0, 0, 0, 0),
  (92, 1, .istore_n 2, 0, 0, 0, 0),
  (93, 1, .iload_n 2, 0, 0, 0, 0),
  (94, 1, .iconst 4, 0, 0, 0, 0),
  (95, 3, .if_icmp .ge 25, 77, 0, 0, 0),
  (98, 1, .aload_n 0, 0, 0, 0, 0),
  (99, 3, .getfield 20, 9, 4, 809, 1),
  (102, 1, .iload_n 2, 0, 0, 0, 0),
  (103, 1, .aload_n 0, 0, 0, 0, 0),
  (104, 3, .getfield 78, 9, 26, 831, 1),
  (107, 1, .iconst 4, 0, 0, 0, 0),
  (108, 1, .iload_n 1, 0, 0, 0, 0),
  (109, 1, .imul, 0, 0, 0, 0),
  (110, 1, .iload_n 2, 0, 0, 0, 0),
  (111, 1, .iadd, 0, 0, 0, 0),
  (112, 1, .iaload, 0, 0, 0, 0),
  (113, 1, .iastore, 0, 0, 0, 0),
  (114, 3, .iinc 2 1, 0, 0, 0, 0),
  (117, 3, .goto (-24), 60, 0, 0, 0),
  (120, 1, .iconst 0, 0, 0, 0, 0),
  (121, 1, .istore_n 2, 0, 0, 0, 0),
  (122, 1, .iload_n 2, 0, 0, 0, 0),
  (123, 2, .bipush 28, 0, 0, 0, 0),
  (125, 3, .if_icmp .ge 26, 96, 0, 0, 0),
  (128, 1, .aload_n 0, 0, 0, 0, 0),
  (129, 3, .getfield 23, 9, 5, 810, 1),
  (132, 1, .iload_n 2, 0, 0, 0, 0),
  (133, 1, .aload_n 0, 0, 0, 0, 0),
  (134, 3, .getfield 81, 9, 27, 832, 1),
  (137, 2, .bipush 28, 0, 0, 0, 0),
  (139, 1, .iload_n 1, 0, 0, 0, 0),
  (140, 1, .imul, 0, 0, 0, 0),
  (141, 1, .iload_n 2, 0, 0, 0, 0),
  (142, 1, .iadd, 0, 0, 0, 0),
  (143, 1, .iaload, 0, 0, 0, 0),
  (144, 1, .iastore, 0, 0, 0, 0),
  (145, 3, .iinc 2 1, 0, 0, 0, 0),
  (148, 3, .goto (-26), 79, 0, 0, 0),
  (151, 1, .aload_n 0, 0, 0, 0, 0),
  (152, 3, .getfield 7, 9, 1, 806, 0),
  (155, 1, .aload_n 0, 0, 0, 0, 0),
  (156, 3, .getfield 13, 9, 2, 807, 0),
  (159, 1, .imul, 0, 0, 0, 0),
  (160, 1, .ireturn, 0, 0, 0, 0)]
noncomputable def kd_X9_mind : List q_Ent := [
  (0, 1, .aload_n 0, 0, 0, 0, 0),
  (1, 3, .invokevirtual 165, 153, 1, 0, 974),
  (4, 1, .iconst 0, 0, 0, 0, 0),
  (5, 1, .istore_n 2, 0, 0, 0, 0),
  (6, 1, .iload_n 2, 0, 0, 0, 0),
  (7, 1, .aload_n 0, 0, 0, 0, 0),
  (8, 3, .getfield 7, 9, 1, 806, 0),
  (11, 3, .if_icmp .ge 64, 45, 0, 0, 0),
  (14, 1, .iconst 0, 0, 0, 0, 0),
  (15, 1, .istore_n 3, 0, 0, 0, 0),
  (16, 1, .iload_n 3, 0, 0, 0, 0),
  (17, 1, .aload_n 0, 0, 0, 0, 0),
  (18, 3, .getfield 13, 9, 2, 807, 0),
  (21, 3, .if_icmp .ge 48, 43, 0, 0, 0),
  (24, 1, .iload_n 1, 0, 0, 0, 0),
  (25, 1, .iload_n 2, 0, 0, 0, 0),
  (26, 1, .ishr, 0, 0, 0, 0),
  (27, 1, .iconst 1, 0, 0, 0, 0),
  (28, 1, .iand, 0, 0, 0, 0),
  (29, 1, .iconst 1, 0, 0, 0, 0),
  (30, 3, .if_icmp .ne 39, 43, 0, 0, 0),
  (33, 1, .aload_n 0, 0, 0, 0, 0),
  (34, 3, .getfield 30, 9, 7, 812, 1),
  (37, 1, .iconst 4, 0, 0, 0, 0),
  (38, 1, .iload_n 2, 0, 0, 0, 0),
  (39, 1, .imul, 0, 0, 0, 0),
  (40, 1, .iload_n 3, 0, 0, 0, 0),
  (41, 1, .iadd, 0, 0, 0, 0),
  (42, 1, .aload_n 0, 0, 0, 0, 0),
  (43, 3, .getfield 20, 9, 4, 809, 1),
  (46, 1, .iload_n 3, 0, 0, 0, 0),
  (47, 1, .iaload, 0, 0, 0, 0),
  (48, 1, .aload_n 0, 0, 0, 0, 0),
  (49, 3, .getfield 16, 9, 3, 808, 1),
  (52, 1, .iload_n 2, 0, 0, 0, 0),
  (53, 1, .iaload, 0, 0, 0, 0),
  (54, 3, .if_icmp .ne 7, 39, 0, 0, 0),
  (57, 1, .iconst 5, 0, 0, 0, 0),
  (58, 3, .goto 4, 40, 0, 0, 0),
  (61, 1, .iconst 0, 0, 0, 0, 0),
  (62, 1, .iastore, 0, 0, 0, 0),
  (63, 3, .iinc 3 1, 0, 0, 0, 0),
  (66, 3, .goto (-50), 10, 0, 0, 0),
  (69, 3, .iinc 2 1, 0, 0, 0, 0),
  (72, 3, .goto (-66), 4, 0, 0, 0),
  (75, 1, .return_, 0, 0, 0, 0)]
noncomputable def kd_X9_leastOf : List q_Ent := [
  (0, 1, .aload_n 0, 0, 0, 0, 0),
  (1, 1, .iload_n 2, 0, 0, 0, 0),
  (2, 3, .invokevirtual 216, 198, 2, 0, 1158),
  (5, 1, .aload_n 0, 0, 0, 0, 0),
  (6, 1, .iload_n 1, 0, 0, 0, 0),
  (7, 3, .invokevirtual 168, 161, 2, 0, 1010),
  (10, 2, .bipush 9, 0, 0, 0, 0),
  (12, 2, .istore 4, 0, 0, 0, 0),
  (14, 1, .iconst 0, 0, 0, 0, 0),
  (15, 2, .istore 5, 0, 0, 0, 0),
  (17, 2, .iload 5, 0, 0, 0, 0),
  (19, 1, .aload_n 0, 0, 0, 0, 0),
  (20, 3, .getfield 13, 9, 2, 807, 0),
  (23, 3, .if_icmp .ge 45, 34, 0, 0, 0),
  (26, 1, .aload_n 0, 0, 0, 0, 0),
  (27, 1, .iload_n 1, 0, 0, 0, 0),
  (28, 2, .iload 5, 0, 0, 0, 0),
  (30, 3, .invokevirtual 162, 163, 3, 0, 1014),
  (33, 2, .istore 6, 0, 0, 0, 0),
  (35, 1, .aload_n 0, 0, 0, 0, 0),
  (36, 3, .getfield 20, 9, 4, 809, 1),
  (39, 2, .iload 5, 0, 0, 0, 0),
  (41, 1, .iaload, 0, 0, 0, 0),
  (42, 1, .iload_n 3, 0, 0, 0, 0),
  (43, 3, .if_icmp .ne 15, 30, 0, 0, 0),
  (46, 2, .iload 6, 0, 0, 0, 0),
  (48, 2, .iload 4, 0, 0, 0, 0),
  (50, 3, .if_icmp .ge 8, 30, 0, 0, 0),
  (53, 2, .iload 6, 0, 0, 0, 0),
  (55, 3, .goto 5, 31, 0, 0, 0),
  (58, 2, .iload 4, 0, 0, 0, 0),
  (60, 2, .istore 4, 0, 0, 0, 0),
  (62, 3, .iinc 5 1, 0, 0, 0, 0),
  (65, 3, .goto (-48), 10, 0, 0, 0),
  (68, 2, .iload 4, 0, 0, 0, 0),
  (70, 1, .ireturn, 0, 0, 0, 0)]
noncomputable def kd_X9_isAtRest : List q_Ent := [
  (0, 1, .iconst 1, 0, 0, 0, 0),
  (1, 1, .istore_n 3, 0, 0, 0, 0),
  (2, 1, .iconst 0, 0, 0, 0, 0),
  (3, 2, .istore 4, 0, 0, 0, 0),
  (5, 2, .iload 4, 0, 0, 0, 0),
  (7, 1, .aload_n 0, 0, 0, 0, 0),
  (8, 3, .getfield 7, 9, 1, 806, 0),
  (11, 3, .if_icmp .ge 63, 42, 0, 0, 0),
  (14, 1, .iload_n 3, 0, 0, 0, 0),
  (15, 3, .ifCond .eq 59, 42, 0, 0, 0),
  (18, 1, .aload_n 0, 0, 0, 0, 0),
  (19, 3, .getfield 26, 9, 6, 811, 1),
  (22, 2, .iload 4, 0, 0, 0, 0),
  (24, 1, .baload, 0, 0, 0, 0),
  (25, 3, .ifCond .ne 37, 36, 0, 0, 0),
  (28, 1, .aload_n 0, 0, 0, 0, 0),
  (29, 1, .iload_n 1, 0, 0, 0, 0),
  (30, 1, .iload_n 2, 0, 0, 0, 0),
  (31, 1, .iconst 1, 0, 0, 0, 0),
  (32, 2, .iload 4, 0, 0, 0, 0),
  (34, 1, .ishl, 0, 0, 0, 0),
  (35, 1, .ixor, 0, 0, 0, 0),
  (36, 1, .aload_n 0, 0, 0, 0, 0),
  (37, 3, .getfield 16, 9, 3, 808, 1),
  (40, 2, .iload 4, 0, 0, 0, 0),
  (42, 1, .iaload, 0, 0, 0, 0),
  (43, 3, .invokevirtual 219, 199, 4, 0, 1170),
  (46, 1, .aload_n 0, 0, 0, 0, 0),
  (47, 1, .iload_n 1, 0, 0, 0, 0),
  (48, 1, .iload_n 2, 0, 0, 0, 0),
  (49, 1, .aload_n 0, 0, 0, 0, 0),
  (50, 3, .getfield 16, 9, 3, 808, 1),
  (53, 2, .iload 4, 0, 0, 0, 0),
  (55, 1, .iaload, 0, 0, 0, 0),
  (56, 3, .invokevirtual 219, 199, 4, 0, 1170),
  (59, 3, .if_icmp .lt 7, 38, 0, 0, 0),
  (62, 1, .iconst 1, 0, 0, 0, 0),
  (63, 3, .goto 4, 39, 0, 0, 0),
  (66, 1, .iconst 0, 0, 0, 0, 0),
  (67, 1, .istore_n 3, 0, 0, 0, 0),
  (68, 3, .iinc 4 1, 0, 0, 0, 0),
  (71, 3, .goto (-66), 4, 0, 0, 0),
  (74, 1, .iload_n 3, 0, 0, 0, 0),
  (75, 1, .ireturn, 0, 0, 0, 0)]
noncomputable def kd_X9_minded : List q_Ent := [
  (0, 1, .aload_n 0, 0, 0, 0, 0),
  (1, 1, .iconst 0, 0, 0, 0, 0),
  (2, 3, .putfield 87, 9, 0, 805, 0),
  (5, 1, .iload_n 1, 0, 0, 0, 0),
  (6, 3, .invokestatic 132, 137, 1, 1, 962),
  (9, 3, .ifCond .ne 11, 10, 0, 0, 0),
  (12, 1, .aload_n 0, 0, 0, 0, 0),
  (13, 1, .iload_n 3, 0, 0, 0, 0),
  (14, 3, .invokevirtual 100, 136, 2, 0, 906),
  (17, 3, .ifCond .eq 5, 12, 0, 0, 0),
  (20, 1, .iconst (-1), 0, 0, 0, 0),
  (21, 1, .ireturn, 0, 0, 0, 0),
  (22, 1, .aload_n 0, 0, 0, 0, 0),
  (23, 1, .iload_n 2, 0, 0, 0, 0),
  (24, 3, .invokevirtual 192, 138, 2, 0, 1085),
  (27, 3, .ifCond .eq 6, 18, 0, 0, 0),
  (30, 2, .bipush (-2), 0, 0, 0, 0),
  (32, 1, .ireturn, 0, 0, 0, 0),
  (33, 1, .aload_n 0, 0, 0, 0, 0),
  (34, 1, .iload_n 2, 0, 0, 0, 0),
  (35, 3, .invokevirtual 216, 198, 2, 0, 1158),
  (38, 1, .aload_n 0, 0, 0, 0, 0),
  (39, 1, .iload_n 1, 0, 0, 0, 0),
  (40, 3, .invokevirtual 168, 161, 2, 0, 1010),
  (43, 1, .aload_n 0, 0, 0, 0, 0),
  (44, 1, .iload_n 1, 0, 0, 0, 0),
  (45, 1, .iload_n 3, 0, 0, 0, 0),
  (46, 3, .invokevirtual 162, 163, 3, 0, 1014),
  (49, 1, .ireturn, 0, 0, 0, 0)]
noncomputable def kd_X9_rest : List q_Ent := [
  (0, 1, .aload_n 0, 0, 0, 0, 0),
  (1, 1, .iconst 0, 0, 0, 0, 0),
  (2, 3, .putfield 87, 9, 0, 805, 0),
  (5, 1, .iload_n 1, 0, 0, 0, 0),
  (6, 3, .invokestatic 132, 137, 1, 1, 962),
  (9, 3, .ifCond .eq 5, 8, 0, 0, 0),
  (12, 1, .iconst (-1), 0, 0, 0, 0),
  (13, 1, .ireturn, 0, 0, 0, 0),
  (14, 1, .aload_n 0, 0, 0, 0, 0),
  (15, 1, .iload_n 2, 0, 0, 0, 0),
  (16, 3, .invokevirtual 192, 138, 2, 0, 1085),
  (19, 3, .ifCond .eq 8, 14, 0, 0, 0),
  (22, 2, .bipush (-2), 0, 0, 0, 0),
  (24, 3, .goto 17, 22, 0, 0, 0),
  (27, 1, .aload_n 0, 0, 0, 0, 0),
  (28, 1, .iload_n 1, 0, 0, 0, 0),
  (29, 1, .iload_n 2, 0, 0, 0, 0),
  (30, 3, .invokevirtual 222, 200, 3, 0, 1166),
  (33, 3, .ifCond .eq 7, 21, 0, 0, 0),
  (36, 1, .iconst 1, 0, 0, 0, 0),
  (37, 3, .goto 4, 22, 0, 0, 0),
  (40, 1, .iconst 0, 0, 0, 0, 0),
  (41, 1, .ireturn, 0, 0, 0, 0)]
noncomputable def kd_X9_rests : List q_Ent := [
  (0, 1, .aload_n 0, 0, 0, 0, 0),
  (1, 1, .iconst 0, 0, 0, 0, 0),
  (2, 3, .putfield 87, 9, 0, 805, 0),
  (5, 1, .iload_n 1, 0, 0, 0, 0),
  (6, 3, .invokestatic 132, 137, 1, 1, 962),
  (9, 3, .ifCond .eq 5, 8, 0, 0, 0),
  (12, 1, .iconst (-1), 0, 0, 0, 0),
  (13, 1, .ireturn, 0, 0, 0, 0),
  (14, 1, .iconst 0, 0, 0, 0, 0),
  (15, 1, .istore_n 3, 0, 0, 0, 0),
  (16, 2, .bipush (-9), 0, 0, 0, 0),
  (18, 2, .istore 4, 0, 0, 0, 0),
  (20, 1, .iconst 1, 0, 0, 0, 0),
  (21, 1, .aload_n 0, 0, 0, 0, 0),
  (22, 3, .getfield 7, 9, 1, 806, 0),
  (25, 1, .ishl, 0, 0, 0, 0),
  (26, 1, .iconst 1, 0, 0, 0, 0),
  (27, 1, .isub, 0, 0, 0, 0),
  (28, 2, .istore 5, 0, 0, 0, 0),
  (30, 2, .iload 5, 0, 0, 0, 0),
  (32, 3, .ifCond .lt 45, 42, 0, 0, 0),
  (35, 1, .aload_n 0, 0, 0, 0, 0),
  (36, 1, .iload_n 1, 0, 0, 0, 0),
  (37, 2, .iload 5, 0, 0, 0, 0),
  (39, 3, .invokevirtual 222, 200, 3, 0, 1166),
  (42, 2, .istore 6, 0, 0, 0, 0),
  (44, 1, .iload_n 3, 0, 0, 0, 0),
  (45, 2, .iload 6, 0, 0, 0, 0),
  (47, 3, .ifCond .eq 7, 31, 0, 0, 0),
  (50, 1, .iconst 1, 0, 0, 0, 0),
  (51, 3, .goto 4, 32, 0, 0, 0),
  (54, 1, .iconst 0, 0, 0, 0, 0),
  (55, 1, .iadd, 0, 0, 0, 0),
  (56, 1, .istore_n 3, 0, 0, 0, 0),
  (57, 2, .iload 6, 0, 0, 0, 0),
  (59, 3, .ifCond .eq 8, 38, 0, 0, 0),
  (62, 2, .iload 5, 0, 0, 0, 0),
  (64, 3, .goto 5, 39, 0, 0, 0),
  (67, 2, .iload 4, 0, 0, 0, 0),
  (69, 2, .istore 4, 0, 0, 0, 0),
  (71, 3, .iinc 5 (-1), 0, 0, 0, 0),
  (74, 3, .goto (-44), 19, 0, 0, 0),
  (77, 1, .iload_n 2, 0, 0, 0, 0),
  (78, 3, .ifCond .eq 8, 46, 0, 0, 0),
  (81, 2, .iload 4, 0, 0, 0, 0),
  (83, 3, .goto 4, 47, 0, 0, 0),
  (86, 1, .iload_n 3, 0, 0, 0, 0),
  (87, 1, .ireturn, 0, 0, 0, 0)]
noncomputable def kd_X9_count : List q_Ent := [
  (0, 1, .aload_n 0, 0, 0, 0, 0),
  (1, 1, .iconst 0, 0, 0, 0, 0),
  (2, 3, .putfield 87, 9, 0, 805, 0),
  (5, 1, .iconst 0, 0, 0, 0, 0),
  (6, 1, .istore_n 2, 0, 0, 0, 0),
  (7, 1, .iconst 0, 0, 0, 0, 0),
  (8, 1, .istore_n 3, 0, 0, 0, 0),
  (9, 1, .iload_n 3, 0, 0, 0, 0),
  (10, 1, .aload_n 0, 0, 0, 0, 0),
  (11, 3, .getfield 7, 9, 1, 806, 0),
  (14, 3, .if_icmp .ge 26, 24, 0, 0, 0),
  (17, 1, .iload_n 2, 0, 0, 0, 0),
  (18, 1, .aload_n 0, 0, 0, 0, 0),
  (19, 3, .getfield 26, 9, 6, 811, 1),
  (22, 1, .iload_n 3, 0, 0, 0, 0),
  (23, 1, .baload, 0, 0, 0, 0),
  (24, 3, .ifCond .eq 7, 19, 0, 0, 0),
  (27, 1, .iconst 0, 0, 0, 0, 0),
  (28, 3, .goto 4, 20, 0, 0, 0),
  (31, 1, .iconst 1, 0, 0, 0, 0),
  (32, 1, .iadd, 0, 0, 0, 0),
  (33, 1, .istore_n 2, 0, 0, 0, 0),
  (34, 3, .iinc 3 1, 0, 0, 0, 0),
  (37, 3, .goto (-28), 7, 0, 0, 0),
  (40, 1, .iload_n 1, 0, 0, 0, 0),
  (41, 35, .tableswitch 57 0 4 #[35, 40, 45, 47, 52], 0, 0, 0, 0),
  (76, 1, .aload_n 0, 0, 0, 0, 0),
  (77, 3, .getfield 7, 9, 1, 806, 0),
  (80, 1, .ireturn, 0, 0, 0, 0),
  (81, 1, .aload_n 0, 0, 0, 0, 0),
  (82, 3, .getfield 13, 9, 2, 807, 0),
  (85, 1, .ireturn, 0, 0, 0, 0),
  (86, 1, .iload_n 2, 0, 0, 0, 0),
  (87, 1, .ireturn, 0, 0, 0, 0),
  (88, 1, .aload_n 0, 0, 0, 0, 0),
  (89, 3, .getfield 117, 9, 10, 815, 0),
  (92, 1, .ireturn, 0, 0, 0, 0),
  (93, 1, .aload_n 0, 0, 0, 0, 0),
  (94, 3, .getfield 202, 9, 22, 827, 0),
  (97, 1, .ireturn, 0, 0, 0, 0),
  (98, 2, .bipush (-2), 0, 0, 0, 0),
  (100, 1, .ireturn, 0, 0, 0, 0)]
noncomputable def kd_L_law : List q_Ent := [
  (0, 3, .new 7, 8, 0, 69, 0),
  (3, 1, .dup, 0, 0, 0, 0),
  (4, 3, .invokespecial 9, 86, 1, 2, 71),
  (7, 1, .astore_n 1, 0, 0, 0, 0),
  (8, 3, .new 10, 9, 0, 799, 0),
  (11, 1, .dup, 0, 0, 0, 0),
  (12, 3, .invokespecial 12, 133, 1, 2, 801),
  (15, 1, .astore_n 2, 0, 0, 0, 0),
  (16, 1, .iconst 0, 0, 0, 0, 0),
  (17, 1, .istore_n 3, 0, 0, 0, 0),
  (18, 1, .iload_n 3, 0, 0, 0, 0),
  (19, 1, .aload_n 0, 0, 0, 0, 0),
  (20, 1, .arraylength, 0, 0, 0, 0),
  (21, 1, .iconst 5, 0, 0, 0, 0),
  (22, 1, .isub, 0, 0, 0, 0),
  (23, 3, .if_icmp .gt 1435, 1018, 0, 0, 0),
  (26, 1, .aload_n 0, 0, 0, 0, 0),
  (27, 1, .iload_n 3, 0, 0, 0, 0),
  (28, 1, .iaload, 0, 0, 0, 0),
  (29, 2, .bipush 63, 0, 0, 0, 0),
  (31, 1, .iand, 0, 0, 0, 0),
  (32, 168, .tableswitch 1420 0 37 #[168, 201, 260, 303, 336, 385, 418, 481, 494, 507, 530, 563, 606, 639, 672, 695, 728, 771, 814, 847, 870, 883, 936, 979, 1022, 1065, 1088, 1141, 1164, 1177, 1190, 1213, 1236, 1249, 1272, 1315, 1348, 1397], 0, 0, 0, 0),
  (200, 1, .aload_n 1, 0, 0, 0, 0),
  (201, 1, .aload_n 0, 0, 0, 0, 0),
  (202, 1, .iload_n 3, 0, 0, 0, 0),
  (203, 1, .iconst 1, 0, 0, 0, 0),
  (204, 1, .iadd, 0, 0, 0, 0),
  (205, 1, .iaload, 0, 0, 0, 0),
  (206, 1, .aload_n 0, 0, 0, 0, 0),
  (207, 1, .iload_n 3, 0, 0, 0, 0),
  (208, 1, .iconst 2, 0, 0, 0, 0),
  (209, 1, .iadd, 0, 0, 0, 0),
  (210, 1, .iaload, 0, 0, 0, 0),
  (211, 3, .invokevirtual 13, 87, 3, 0, 265),
  (214, 1, .aload_n 2, 0, 0, 0, 0),
  (215, 1, .aload_n 0, 0, 0, 0, 0),
  (216, 1, .iload_n 3, 0, 0, 0, 0),
  (217, 1, .iconst 1, 0, 0, 0, 0),
  (218, 1, .iadd, 0, 0, 0, 0),
  (219, 1, .iaload, 0, 0, 0, 0),
  (220, 1, .aload_n 0, 0, 0, 0, 0),
  (221, 1, .iload_n 3, 0, 0, 0, 0),
  (222, 1, .iconst 2, 0, 0, 0, 0),
  (223, 1, .iadd, 0, 0, 0, 0),
  (224, 1, .iaload, 0, 0, 0, 0),
  (225, 3, .invokevirtual 17, 140, 3, 0, 893),
  (228, 3, .if_icmp .eq 1224, 1016, 0, 0, 0),
  (231, 1, .iconst 0, 0, 0, 0, 0),
  (232, 1, .ireturn, 0, 0, 0, 0),
  (233, 1, .aload_n 1, 0, 0, 0, 0),
  (234, 1, .aload_n 0, 0, 0, 0, 0),
  (235, 1, .iload_n 3, 0, 0, 0, 0),
  (236, 1, .iconst 1, 0, 0, 0, 0),
  (237, 1, .iadd, 0, 0, 0, 0),
  (238, 1, .iaload, 0, 0, 0, 0),
  (239, 3, .ifCond .eq 7, 58, 0, 0, 0),
  (242, 1, .iconst 1, 0, 0, 0, 0),
  (243, 3, .goto 4, 59, 0, 0, 0),
  (246, 1, .iconst 0, 0, 0, 0, 0),
  (247, 1, .aload_n 0, 0, 0, 0, 0),
  (248, 1, .iload_n 3, 0, 0, 0, 0),
  (249, 1, .iconst 2, 0, 0, 0, 0),
  (250, 1, .iadd, 0, 0, 0, 0),
  (251, 1, .iaload, 0, 0, 0, 0),
  (252, 1, .aload_n 0, 0, 0, 0, 0),
  (253, 1, .iload_n 3, 0, 0, 0, 0),
  (254, 1, .iconst 3, 0, 0, 0, 0),
  (255, 1, .iadd, 0, 0, 0, 0),
  (256, 1, .iaload, 0, 0, 0, 0),
  (257, 3, .invokevirtual 18, 88, 4, 0, 273),
  (260, 1, .aload_n 2, 0, 0, 0, 0),
  (261, 1, .aload_n 0, 0, 0, 0, 0),
  (262, 1, .iload_n 3, 0, 0, 0, 0),
  (263, 1, .iconst 1, 0, 0, 0, 0),
  (264, 1, .iadd, 0, 0, 0, 0),
  (265, 1, .iaload, 0, 0, 0, 0),
  (266, 3, .ifCond .eq 7, 79, 0, 0, 0),
  (269, 1, .iconst 1, 0, 0, 0, 0),
  (270, 3, .goto 4, 80, 0, 0, 0),
  (273, 1, .iconst 0, 0, 0, 0, 0),
  (274, 1, .aload_n 0, 0, 0, 0, 0),
  (275, 1, .iload_n 3, 0, 0, 0, 0),
  (276, 1, .iconst 2, 0, 0, 0, 0),
  (277, 1, .iadd, 0, 0, 0, 0),
  (278, 1, .iaload, 0, 0, 0, 0),
  (279, 1, .aload_n 0, 0, 0, 0, 0),
  (280, 1, .iload_n 3, 0, 0, 0, 0),
  (281, 1, .iconst 3, 0, 0, 0, 0),
  (282, 1, .iadd, 0, 0, 0, 0),
  (283, 1, .iaload, 0, 0, 0, 0),
  (284, 3, .invokevirtual 22, 141, 4, 0, 902),
  (287, 3, .if_icmp .eq 1165, 1016, 0, 0, 0),
  (290, 1, .iconst 0, 0, 0, 0, 0),
  (291, 1, .ireturn, 0, 0, 0, 0),
  (292, 1, .aload_n 1, 0, 0, 0, 0),
  (293, 1, .aload_n 0, 0, 0, 0, 0),
  (294, 1, .iload_n 3, 0, 0, 0, 0),
  (295, 1, .iconst 1, 0, 0, 0, 0),
  (296, 1, .iadd, 0, 0, 0, 0),
  (297, 1, .iaload, 0, 0, 0, 0),
  (298, 1, .aload_n 0, 0, 0, 0, 0),
  (299, 1, .iload_n 3, 0, 0, 0, 0),
  (300, 1, .iconst 2, 0, 0, 0, 0),
  (301, 1, .iadd, 0, 0, 0, 0),
  (302, 1, .iaload, 0, 0, 0, 0),
  (303, 1, .aload_n 0, 0, 0, 0, 0),
  (304, 1, .iload_n 3, 0, 0, 0, 0),
  (305, 1, .iconst 3, 0, 0, 0, 0),
  (306, 1, .iadd, 0, 0, 0, 0),
  (307, 1, .iaload, 0, 0, 0, 0),
  (308, 3, .invokevirtual 23, 90, 4, 0, 293),
  (311, 1, .aload_n 2, 0, 0, 0, 0),
  (312, 1, .aload_n 0, 0, 0, 0, 0),
  (313, 1, .iload_n 3, 0, 0, 0, 0),
  (314, 1, .iconst 1, 0, 0, 0, 0),
  (315, 1, .iadd, 0, 0, 0, 0),
  (316, 1, .iaload, 0, 0, 0, 0),
  (317, 1, .aload_n 0, 0, 0, 0, 0),
  (318, 1, .iload_n 3, 0, 0, 0, 0),
  (319, 1, .iconst 2, 0, 0, 0, 0),
  (320, 1, .iadd, 0, 0, 0, 0),
  (321, 1, .iaload, 0, 0, 0, 0),
  (322, 1, .aload_n 0, 0, 0, 0, 0),
  (323, 1, .iload_n 3, 0, 0, 0, 0),
  (324, 1, .iconst 3, 0, 0, 0, 0),
  (325, 1, .iadd, 0, 0, 0, 0),
  (326, 1, .iaload, 0, 0, 0, 0),
  (327, 3, .invokevirtual 27, 142, 4, 0, 915),
  (330, 3, .if_icmp .eq 1122, 1016, 0, 0, 0),
  (333, 1, .iconst 0, 0, 0, 0, 0),
  (334, 1, .ireturn, 0, 0, 0, 0),
  (335, 1, .aload_n 1, 0, 0, 0, 0),
  (336, 1, .aload_n 0, 0, 0, 0, 0),
  (337, 1, .iload_n 3, 0, 0, 0, 0),
  (338, 1, .iconst 1, 0, 0, 0, 0),
  (339, 1, .iadd, 0, 0, 0, 0),
  (340, 1, .iaload, 0, 0, 0, 0),
  (341, 1, .aload_n 0, 0, 0, 0, 0),
  (342, 1, .iload_n 3, 0, 0, 0, 0),
  (343, 1, .iconst 2, 0, 0, 0, 0),
  (344, 1, .iadd, 0, 0, 0, 0),
  (345, 1, .iaload, 0, 0, 0, 0),
  (346, 3, .invokevirtual 28, 91, 3, 0, 309),
  (349, 1, .aload_n 2, 0, 0, 0, 0),
  (350, 1, .aload_n 0, 0, 0, 0, 0),
  (351, 1, .iload_n 3, 0, 0, 0, 0),
  (352, 1, .iconst 1, 0, 0, 0, 0),
  (353, 1, .iadd, 0, 0, 0, 0),
  (354, 1, .iaload, 0, 0, 0, 0),
  (355, 1, .aload_n 0, 0, 0, 0, 0),
  (356, 1, .iload_n 3, 0, 0, 0, 0),
  (357, 1, .iconst 2, 0, 0, 0, 0),
  (358, 1, .iadd, 0, 0, 0, 0),
  (359, 1, .iaload, 0, 0, 0, 0),
  (360, 3, .invokevirtual 31, 143, 3, 0, 920),
  (363, 3, .if_icmp .eq 1089, 1016, 0, 0, 0),
  (366, 1, .iconst 0, 0, 0, 0, 0),
  (367, 1, .ireturn, 0, 0, 0, 0),
  (368, 1, .aload_n 1, 0, 0, 0, 0),
  (369, 1, .aload_n 0, 0, 0, 0, 0),
  (370, 1, .iload_n 3, 0, 0, 0, 0),
  (371, 1, .iconst 1, 0, 0, 0, 0),
  (372, 1, .iadd, 0, 0, 0, 0),
  (373, 1, .iaload, 0, 0, 0, 0),
  (374, 1, .aload_n 0, 0, 0, 0, 0),
  (375, 1, .iload_n 3, 0, 0, 0, 0),
  (376, 1, .iconst 2, 0, 0, 0, 0),
  (377, 1, .iadd, 0, 0, 0, 0),
  (378, 1, .iaload, 0, 0, 0, 0),
  (379, 3, .ifCond .eq 7, 172, 0, 0, 0),
  (382, 1, .iconst 1, 0, 0, 0, 0),
  (383, 3, .goto 4, 173, 0, 0, 0),
  (386, 1, .iconst 0, 0, 0, 0, 0),
  (387, 3, .invokevirtual 32, 92, 3, 0, 327),
  (390, 1, .aload_n 2, 0, 0, 0, 0),
  (391, 1, .aload_n 0, 0, 0, 0, 0),
  (392, 1, .iload_n 3, 0, 0, 0, 0),
  (393, 1, .iconst 1, 0, 0, 0, 0),
  (394, 1, .iadd, 0, 0, 0, 0),
  (395, 1, .iaload, 0, 0, 0, 0),
  (396, 1, .aload_n 0, 0, 0, 0, 0),
  (397, 1, .iload_n 3, 0, 0, 0, 0),
  (398, 1, .iconst 2, 0, 0, 0, 0),
  (399, 1, .iadd, 0, 0, 0, 0),
  (400, 1, .iaload, 0, 0, 0, 0),
  (401, 3, .ifCond .eq 7, 188, 0, 0, 0),
  (404, 1, .iconst 1, 0, 0, 0, 0),
  (405, 3, .goto 4, 189, 0, 0, 0),
  (408, 1, .iconst 0, 0, 0, 0, 0),
  (409, 3, .invokevirtual 36, 144, 3, 0, 928),
  (412, 3, .if_icmp .eq 1040, 1016, 0, 0, 0),
  (415, 1, .iconst 0, 0, 0, 0, 0),
  (416, 1, .ireturn, 0, 0, 0, 0),
  (417, 1, .aload_n 1, 0, 0, 0, 0),
  (418, 1, .aload_n 0, 0, 0, 0, 0),
  (419, 1, .iload_n 3, 0, 0, 0, 0),
  (420, 1, .iconst 1, 0, 0, 0, 0),
  (421, 1, .iadd, 0, 0, 0, 0),
  (422, 1, .iaload, 0, 0, 0, 0),
  (423, 1, .aload_n 0, 0, 0, 0, 0),
  (424, 1, .iload_n 3, 0, 0, 0, 0),
  (425, 1, .iconst 2, 0, 0, 0, 0),
  (426, 1, .iadd, 0, 0, 0, 0),
  (427, 1, .iaload, 0, 0, 0, 0),
  (428, 3, .invokevirtual 37, 93, 3, 0, 339),
  (431, 1, .aload_n 2, 0, 0, 0, 0),
  (432, 1, .aload_n 0, 0, 0, 0, 0),
  (433, 1, .iload_n 3, 0, 0, 0, 0),
  (434, 1, .iconst 1, 0, 0, 0, 0),
  (435, 1, .iadd, 0, 0, 0, 0),
  (436, 1, .iaload, 0, 0, 0, 0),
  (437, 1, .aload_n 0, 0, 0, 0, 0),
  (438, 1, .iload_n 3, 0, 0, 0, 0),
  (439, 1, .iconst 2, 0, 0, 0, 0),
  (440, 1, .iadd, 0, 0, 0, 0),
  (441, 1, .iaload, 0, 0, 0, 0),
  (442, 3, .invokevirtual 40, 145, 3, 0, 932),
  (445, 3, .if_icmp .eq 1007, 1016, 0, 0, 0),
  (448, 1, .iconst 0, 0, 0, 0, 0),
  (449, 1, .ireturn, 0, 0, 0, 0),
  (450, 1, .aload_n 1, 0, 0, 0, 0),
  (451, 1, .aload_n 0, 0, 0, 0, 0),
  (452, 1, .iload_n 3, 0, 0, 0, 0),
  (453, 1, .iconst 1, 0, 0, 0, 0),
  (454, 1, .iadd, 0, 0, 0, 0),
  (455, 1, .iaload, 0, 0, 0, 0),
  (456, 1, .aload_n 0, 0, 0, 0, 0),
  (457, 1, .iload_n 3, 0, 0, 0, 0),
  (458, 1, .iconst 2, 0, 0, 0, 0),
  (459, 1, .iadd, 0, 0, 0, 0),
  (460, 1, .iaload, 0, 0, 0, 0),
  (461, 1, .i2l, 0, 0, 0, 0),
  (462, 2, .bipush 32, 0, 0, 0, 0),
  (464, 1, .lshl, 0, 0, 0, 0),
  (465, 1, .aload_n 0, 0, 0, 0, 0),
  (466, 1, .iload_n 3, 0, 0, 0, 0),
  (467, 1, .iconst 3, 0, 0, 0, 0),
  (468, 1, .iadd, 0, 0, 0, 0),
  (469, 1, .iaload, 0, 0, 0, 0),
  (470, 1, .i2l, 0, 0, 0, 0),
  (471, 3, .ldc2_w 41, 4294967295, 0, 1182, 0),
  (474, 1, .land, 0, 0, 0, 0),
  (475, 1, .lor, 0, 0, 0, 0),
  (476, 3, .invokevirtual 43, 94, 3, 0, 343),
  (479, 1, .aload_n 2, 0, 0, 0, 0),
  (480, 1, .aload_n 0, 0, 0, 0, 0),
  (481, 1, .iload_n 3, 0, 0, 0, 0),
  (482, 1, .iconst 1, 0, 0, 0, 0),
  (483, 1, .iadd, 0, 0, 0, 0),
  (484, 1, .iaload, 0, 0, 0, 0),
  (485, 1, .aload_n 0, 0, 0, 0, 0),
  (486, 1, .iload_n 3, 0, 0, 0, 0),
  (487, 1, .iconst 2, 0, 0, 0, 0),
  (488, 1, .iadd, 0, 0, 0, 0),
  (489, 1, .iaload, 0, 0, 0, 0),
  (490, 1, .i2l, 0, 0, 0, 0),
  (491, 2, .bipush 32, 0, 0, 0, 0),
  (493, 1, .lshl, 0, 0, 0, 0),
  (494, 1, .aload_n 0, 0, 0, 0, 0),
  (495, 1, .iload_n 3, 0, 0, 0, 0),
  (496, 1, .iconst 3, 0, 0, 0, 0),
  (497, 1, .iadd, 0, 0, 0, 0),
  (498, 1, .iaload, 0, 0, 0, 0),
  (499, 1, .i2l, 0, 0, 0, 0),
  (500, 3, .ldc2_w 41, 4294967295, 0, 1182, 0),
  (503, 1, .land, 0, 0, 0, 0),
  (504, 1, .lor, 0, 0, 0, 0),
  (505, 3, .invokevirtual 47, 146, 3, 0, 936),
  (508, 3, .if_icmp .eq 944, 1016, 0, 0, 0),
  (511, 1, .iconst 0, 0, 0, 0, 0),
  (512, 1, .ireturn, 0, 0, 0, 0),
  (513, 1, .aload_n 1, 0, 0, 0, 0),
  (514, 3, .invokevirtual 48, 95, 1, 0, 356),
  (517, 1, .aload_n 2, 0, 0, 0, 0),
  (518, 3, .invokevirtual 52, 147, 1, 0, 941),
  (521, 3, .if_icmp .eq 931, 1016, 0, 0, 0),
  (524, 1, .iconst 0, 0, 0, 0, 0),
  (525, 1, .ireturn, 0, 0, 0, 0),
  (526, 1, .aload_n 1, 0, 0, 0, 0),
  (527, 3, .invokevirtual 53, 96, 1, 0, 364),
  (530, 1, .aload_n 2, 0, 0, 0, 0),
  (531, 3, .invokevirtual 56, 150, 1, 0, 945),
  (534, 3, .if_icmp .eq 918, 1016, 0, 0, 0),
  (537, 1, .iconst 0, 0, 0, 0, 0),
  (538, 1, .ireturn, 0, 0, 0, 0),
  (539, 1, .aload_n 1, 0, 0, 0, 0),
  (540, 1, .aload_n 0, 0, 0, 0, 0),
  (541, 1, .iload_n 3, 0, 0, 0, 0),
  (542, 1, .iconst 1, 0, 0, 0, 0),
  (543, 1, .iadd, 0, 0, 0, 0),
  (544, 1, .iaload, 0, 0, 0, 0),
  (545, 3, .invokevirtual 57, 98, 2, 0, 396),
  (548, 1, .aload_n 2, 0, 0, 0, 0),
  (549, 1, .aload_n 0, 0, 0, 0, 0),
  (550, 1, .iload_n 3, 0, 0, 0, 0),
  (551, 1, .iconst 1, 0, 0, 0, 0),
  (552, 1, .iadd, 0, 0, 0, 0),
  (553, 1, .iaload, 0, 0, 0, 0),
  (554, 3, .invokevirtual 61, 151, 2, 0, 958),
  (557, 3, .if_icmp .eq 895, 1016, 0, 0, 0),
  (560, 1, .iconst 0, 0, 0, 0, 0),
  (561, 1, .ireturn, 0, 0, 0, 0),
  (562, 1, .aload_n 1, 0, 0, 0, 0),
  (563, 1, .aload_n 0, 0, 0, 0, 0),
  (564, 1, .iload_n 3, 0, 0, 0, 0),
  (565, 1, .iconst 1, 0, 0, 0, 0),
  (566, 1, .iadd, 0, 0, 0, 0),
  (567, 1, .iaload, 0, 0, 0, 0),
  (568, 1, .aload_n 0, 0, 0, 0, 0),
  (569, 1, .iload_n 3, 0, 0, 0, 0),
  (570, 1, .iconst 2, 0, 0, 0, 0),
  (571, 1, .iadd, 0, 0, 0, 0),
  (572, 1, .iaload, 0, 0, 0, 0),
  (573, 3, .invokevirtual 62, 99, 3, 0, 408),
  (576, 1, .aload_n 2, 0, 0, 0, 0),
  (577, 1, .aload_n 0, 0, 0, 0, 0),
  (578, 1, .iload_n 3, 0, 0, 0, 0),
  (579, 1, .iconst 1, 0, 0, 0, 0),
  (580, 1, .iadd, 0, 0, 0, 0),
  (581, 1, .iaload, 0, 0, 0, 0),
  (582, 1, .aload_n 0, 0, 0, 0, 0),
  (583, 1, .iload_n 3, 0, 0, 0, 0),
  (584, 1, .iconst 2, 0, 0, 0, 0),
  (585, 1, .iadd, 0, 0, 0, 0),
  (586, 1, .iaload, 0, 0, 0, 0),
  (587, 3, .invokevirtual 65, 152, 3, 0, 966),
  (590, 3, .if_icmp .eq 862, 1016, 0, 0, 0),
  (593, 1, .iconst 0, 0, 0, 0, 0),
  (594, 1, .ireturn, 0, 0, 0, 0),
  (595, 1, .aload_n 1, 0, 0, 0, 0),
  (596, 1, .aload_n 0, 0, 0, 0, 0),
  (597, 1, .iload_n 3, 0, 0, 0, 0),
  (598, 1, .iconst 1, 0, 0, 0, 0),
  (599, 1, .iadd, 0, 0, 0, 0),
  (600, 1, .iaload, 0, 0, 0, 0),
  (601, 1, .aload_n 0, 0, 0, 0, 0),
  (602, 1, .iload_n 3, 0, 0, 0, 0),
  (603, 1, .iconst 2, 0, 0, 0, 0),
  (604, 1, .iadd, 0, 0, 0, 0),
  (605, 1, .iaload, 0, 0, 0, 0),
  (606, 1, .aload_n 0, 0, 0, 0, 0),
  (607, 1, .iload_n 3, 0, 0, 0, 0),
  (608, 1, .iconst 3, 0, 0, 0, 0),
  (609, 1, .iadd, 0, 0, 0, 0),
  (610, 1, .iaload, 0, 0, 0, 0),
  (611, 3, .invokevirtual 66, 100, 4, 0, 420),
  (614, 1, .aload_n 2, 0, 0, 0, 0),
  (615, 1, .aload_n 0, 0, 0, 0, 0),
  (616, 1, .iload_n 3, 0, 0, 0, 0),
  (617, 1, .iconst 1, 0, 0, 0, 0),
  (618, 1, .iadd, 0, 0, 0, 0),
  (619, 1, .iaload, 0, 0, 0, 0),
  (620, 1, .aload_n 0, 0, 0, 0, 0),
  (621, 1, .iload_n 3, 0, 0, 0, 0),
  (622, 1, .iconst 2, 0, 0, 0, 0),
  (623, 1, .iadd, 0, 0, 0, 0),
  (624, 1, .iaload, 0, 0, 0, 0),
  (625, 1, .aload_n 0, 0, 0, 0, 0),
  (626, 1, .iload_n 3, 0, 0, 0, 0),
  (627, 1, .iconst 3, 0, 0, 0, 0),
  (628, 1, .iadd, 0, 0, 0, 0),
  (629, 1, .iaload, 0, 0, 0, 0),
  (630, 3, .invokevirtual 69, 165, 4, 0, 970),
  (633, 3, .if_icmp .eq 819, 1016, 0, 0, 0),
  (636, 1, .iconst 0, 0, 0, 0, 0),
  (637, 1, .ireturn, 0, 0, 0, 0),
  (638, 1, .aload_n 1, 0, 0, 0, 0),
  (639, 1, .aload_n 0, 0, 0, 0, 0),
  (640, 1, .iload_n 3, 0, 0, 0, 0),
  (641, 1, .iconst 1, 0, 0, 0, 0),
  (642, 1, .iadd, 0, 0, 0, 0),
  (643, 1, .iaload, 0, 0, 0, 0),
  (644, 1, .aload_n 0, 0, 0, 0, 0),
  (645, 1, .iload_n 3, 0, 0, 0, 0),
  (646, 1, .iconst 2, 0, 0, 0, 0),
  (647, 1, .iadd, 0, 0, 0, 0),
  (648, 1, .iaload, 0, 0, 0, 0),
  (649, 3, .invokevirtual 70, 101, 3, 0, 485),
  (652, 1, .aload_n 2, 0, 0, 0, 0),
  (653, 1, .aload_n 0, 0, 0, 0, 0),
  (654, 1, .iload_n 3, 0, 0, 0, 0),
  (655, 1, .iconst 1, 0, 0, 0, 0),
  (656, 1, .iadd, 0, 0, 0, 0),
  (657, 1, .iaload, 0, 0, 0, 0),
  (658, 1, .aload_n 0, 0, 0, 0, 0),
  (659, 1, .iload_n 3, 0, 0, 0, 0),
  (660, 1, .iconst 2, 0, 0, 0, 0),
  (661, 1, .iadd, 0, 0, 0, 0),
  (662, 1, .iaload, 0, 0, 0, 0),
  (663, 3, .invokevirtual 73, 166, 3, 0, 1006),
  (666, 3, .if_icmp .eq 786, 1016, 0, 0, 0),
  (669, 1, .iconst 0, 0, 0, 0, 0),
  (670, 1, .ireturn, 0, 0, 0, 0),
  (671, 1, .aload_n 1, 0, 0, 0, 0),
  (672, 1, .aload_n 0, 0, 0, 0, 0),
  (673, 1, .iload_n 3, 0, 0, 0, 0),
  (674, 1, .iconst 1, 0, 0, 0, 0),
  (675, 1, .iadd, 0, 0, 0, 0),
  (676, 1, .iaload, 0, 0, 0, 0),
  (677, 1, .aload_n 0, 0, 0, 0, 0),
  (678, 1, .iload_n 3, 0, 0, 0, 0),
  (679, 1, .iconst 2, 0, 0, 0, 0),
  (680, 1, .iadd, 0, 0, 0, 0),
  (681, 1, .iaload, 0, 0, 0, 0),
  (682, 3, .invokevirtual 74, 102, 3, 0, 498),
  (685, 1, .aload_n 2, 0, 0, 0, 0),
  (686, 1, .aload_n 0, 0, 0, 0, 0),
  (687, 1, .iload_n 3, 0, 0, 0, 0),
  (688, 1, .iconst 1, 0, 0, 0, 0),
  (689, 1, .iadd, 0, 0, 0, 0),
  (690, 1, .iaload, 0, 0, 0, 0),
  (691, 1, .aload_n 0, 0, 0, 0, 0),
  (692, 1, .iload_n 3, 0, 0, 0, 0),
  (693, 1, .iconst 2, 0, 0, 0, 0),
  (694, 1, .iadd, 0, 0, 0, 0),
  (695, 1, .iaload, 0, 0, 0, 0),
  (696, 3, .invokevirtual 77, 167, 3, 0, 1022),
  (699, 3, .if_icmp .eq 753, 1016, 0, 0, 0),
  (702, 1, .iconst 0, 0, 0, 0, 0),
  (703, 1, .ireturn, 0, 0, 0, 0),
  (704, 1, .aload_n 1, 0, 0, 0, 0),
  (705, 1, .aload_n 0, 0, 0, 0, 0),
  (706, 1, .iload_n 3, 0, 0, 0, 0),
  (707, 1, .iconst 1, 0, 0, 0, 0),
  (708, 1, .iadd, 0, 0, 0, 0),
  (709, 1, .iaload, 0, 0, 0, 0),
  (710, 3, .invokevirtual 78, 103, 2, 0, 503),
  (713, 1, .aload_n 2, 0, 0, 0, 0),
  (714, 1, .aload_n 0, 0, 0, 0, 0),
  (715, 1, .iload_n 3, 0, 0, 0, 0),
  (716, 1, .iconst 1, 0, 0, 0, 0),
  (717, 1, .iadd, 0, 0, 0, 0),
  (718, 1, .iaload, 0, 0, 0, 0),
  (719, 3, .invokevirtual 81, 168, 2, 0, 1026),
  (722, 3, .if_icmp .eq 730, 1016, 0, 0, 0),
  (725, 1, .iconst 0, 0, 0, 0, 0),
  (726, 1, .ireturn, 0, 0, 0, 0),
  (727, 1, .aload_n 1, 0, 0, 0, 0),
  (728, 1, .aload_n 0, 0, 0, 0, 0),
  (729, 1, .iload_n 3, 0, 0, 0, 0),
  (730, 1, .iconst 1, 0, 0, 0, 0),
  (731, 1, .iadd, 0, 0, 0, 0),
  (732, 1, .iaload, 0, 0, 0, 0),
  (733, 1, .aload_n 0, 0, 0, 0, 0),
  (734, 1, .iload_n 3, 0, 0, 0, 0),
  (735, 1, .iconst 2, 0, 0, 0, 0),
  (736, 1, .iadd, 0, 0, 0, 0),
  (737, 1, .iaload, 0, 0, 0, 0),
  (738, 3, .invokevirtual 82, 104, 3, 0, 512),
  (741, 1, .aload_n 2, 0, 0, 0, 0),
  (742, 1, .aload_n 0, 0, 0, 0, 0),
  (743, 1, .iload_n 3, 0, 0, 0, 0),
  (744, 1, .iconst 1, 0, 0, 0, 0),
  (745, 1, .iadd, 0, 0, 0, 0),
  (746, 1, .iaload, 0, 0, 0, 0),
  (747, 1, .aload_n 0, 0, 0, 0, 0),
  (748, 1, .iload_n 3, 0, 0, 0, 0),
  (749, 1, .iconst 2, 0, 0, 0, 0),
  (750, 1, .iadd, 0, 0, 0, 0),
  (751, 1, .iaload, 0, 0, 0, 0),
  (752, 3, .invokevirtual 85, 169, 3, 0, 1034),
  (755, 3, .if_icmp .eq 697, 1016, 0, 0, 0),
  (758, 1, .iconst 0, 0, 0, 0, 0),
  (759, 1, .ireturn, 0, 0, 0, 0),
  (760, 1, .aload_n 1, 0, 0, 0, 0),
  (761, 1, .aload_n 0, 0, 0, 0, 0),
  (762, 1, .iload_n 3, 0, 0, 0, 0),
  (763, 1, .iconst 1, 0, 0, 0, 0),
  (764, 1, .iadd, 0, 0, 0, 0),
  (765, 1, .iaload, 0, 0, 0, 0),
  (766, 1, .aload_n 0, 0, 0, 0, 0),
  (767, 1, .iload_n 3, 0, 0, 0, 0),
  (768, 1, .iconst 2, 0, 0, 0, 0),
  (769, 1, .iadd, 0, 0, 0, 0),
  (770, 1, .iaload, 0, 0, 0, 0),
  (771, 1, .aload_n 0, 0, 0, 0, 0),
  (772, 1, .iload_n 3, 0, 0, 0, 0),
  (773, 1, .iconst 3, 0, 0, 0, 0),
  (774, 1, .iadd, 0, 0, 0, 0),
  (775, 1, .iaload, 0, 0, 0, 0),
  (776, 3, .invokevirtual 86, 105, 4, 0, 517),
  (779, 1, .aload_n 2, 0, 0, 0, 0),
  (780, 1, .aload_n 0, 0, 0, 0, 0),
  (781, 1, .iload_n 3, 0, 0, 0, 0),
  (782, 1, .iconst 1, 0, 0, 0, 0),
  (783, 1, .iadd, 0, 0, 0, 0),
  (784, 1, .iaload, 0, 0, 0, 0),
  (785, 1, .aload_n 0, 0, 0, 0, 0),
  (786, 1, .iload_n 3, 0, 0, 0, 0),
  (787, 1, .iconst 2, 0, 0, 0, 0),
  (788, 1, .iadd, 0, 0, 0, 0),
  (789, 1, .iaload, 0, 0, 0, 0),
  (790, 1, .aload_n 0, 0, 0, 0, 0),
  (791, 1, .iload_n 3, 0, 0, 0, 0),
  (792, 1, .iconst 3, 0, 0, 0, 0),
  (793, 1, .iadd, 0, 0, 0, 0),
  (794, 1, .iaload, 0, 0, 0, 0),
  (795, 3, .invokevirtual 89, 172, 4, 0, 1038),
  (798, 3, .if_icmp .eq 654, 1016, 0, 0, 0),
  (801, 1, .iconst 0, 0, 0, 0, 0),
  (802, 1, .ireturn, 0, 0, 0, 0),
  (803, 1, .aload_n 1, 0, 0, 0, 0),
  (804, 1, .aload_n 0, 0, 0, 0, 0),
  (805, 1, .iload_n 3, 0, 0, 0, 0),
  (806, 1, .iconst 1, 0, 0, 0, 0),
  (807, 1, .iadd, 0, 0, 0, 0),
  (808, 1, .iaload, 0, 0, 0, 0),
  (809, 1, .aload_n 0, 0, 0, 0, 0),
  (810, 1, .iload_n 3, 0, 0, 0, 0),
  (811, 1, .iconst 2, 0, 0, 0, 0),
  (812, 1, .iadd, 0, 0, 0, 0),
  (813, 1, .iaload, 0, 0, 0, 0),
  (814, 1, .aload_n 0, 0, 0, 0, 0),
  (815, 1, .iload_n 3, 0, 0, 0, 0),
  (816, 1, .iconst 3, 0, 0, 0, 0),
  (817, 1, .iadd, 0, 0, 0, 0),
  (818, 1, .iaload, 0, 0, 0, 0),
  (819, 3, .invokevirtual 90, 106, 4, 0, 576),
  (822, 1, .aload_n 2, 0, 0, 0, 0),
  (823, 1, .aload_n 0, 0, 0, 0, 0),
  (824, 1, .iload_n 3, 0, 0, 0, 0),
  (825, 1, .iconst 1, 0, 0, 0, 0),
  (826, 1, .iadd, 0, 0, 0, 0),
  (827, 1, .iaload, 0, 0, 0, 0),
  (828, 1, .aload_n 0, 0, 0, 0, 0),
  (829, 1, .iload_n 3, 0, 0, 0, 0),
  (830, 1, .iconst 2, 0, 0, 0, 0),
  (831, 1, .iadd, 0, 0, 0, 0),
  (832, 1, .iaload, 0, 0, 0, 0),
  (833, 1, .aload_n 0, 0, 0, 0, 0),
  (834, 1, .iload_n 3, 0, 0, 0, 0),
  (835, 1, .iconst 3, 0, 0, 0, 0),
  (836, 1, .iadd, 0, 0, 0, 0),
  (837, 1, .iaload, 0, 0, 0, 0),
  (838, 3, .invokevirtual 93, 173, 4, 0, 1050),
  (841, 3, .if_icmp .eq 611, 1016, 0, 0, 0),
  (844, 1, .iconst 0, 0, 0, 0, 0),
  (845, 1, .ireturn, 0, 0, 0, 0),
  (846, 1, .aload_n 1, 0, 0, 0, 0),
  (847, 1, .aload_n 0, 0, 0, 0, 0),
  (848, 1, .iload_n 3, 0, 0, 0, 0),
  (849, 1, .iconst 1, 0, 0, 0, 0),
  (850, 1, .iadd, 0, 0, 0, 0),
  (851, 1, .iaload, 0, 0, 0, 0),
  (852, 1, .aload_n 0, 0, 0, 0, 0),
  (853, 1, .iload_n 3, 0, 0, 0, 0),
  (854, 1, .iconst 2, 0, 0, 0, 0),
  (855, 1, .iadd, 0, 0, 0, 0),
  (856, 1, .iaload, 0, 0, 0, 0),
  (857, 3, .invokevirtual 94, 108, 3, 0, 580),
  (860, 1, .aload_n 2, 0, 0, 0, 0),
  (861, 1, .aload_n 0, 0, 0, 0, 0),
  (862, 1, .iload_n 3, 0, 0, 0, 0),
  (863, 1, .iconst 1, 0, 0, 0, 0),
  (864, 1, .iadd, 0, 0, 0, 0),
  (865, 1, .iaload, 0, 0, 0, 0),
  (866, 1, .aload_n 0, 0, 0, 0, 0),
  (867, 1, .iload_n 3, 0, 0, 0, 0),
  (868, 1, .iconst 2, 0, 0, 0, 0),
  (869, 1, .iadd, 0, 0, 0, 0),
  (870, 1, .iaload, 0, 0, 0, 0),
  (871, 3, .invokevirtual 97, 175, 3, 0, 1054),
  (874, 3, .if_icmp .eq 578, 1016, 0, 0, 0),
  (877, 1, .iconst 0, 0, 0, 0, 0),
  (878, 1, .ireturn, 0, 0, 0, 0),
  (879, 1, .aload_n 1, 0, 0, 0, 0),
  (880, 1, .aload_n 0, 0, 0, 0, 0),
  (881, 1, .iload_n 3, 0, 0, 0, 0),
  (882, 1, .iconst 1, 0, 0, 0, 0),
  (883, 1, .iadd, 0, 0, 0, 0),
  (884, 1, .iaload, 0, 0, 0, 0),
  (885, 3, .invokevirtual 98, 110, 2, 0, 592),
  (888, 1, .aload_n 2, 0, 0, 0, 0),
  (889, 1, .aload_n 0, 0, 0, 0, 0),
  (890, 1, .iload_n 3, 0, 0, 0, 0),
  (891, 1, .iconst 1, 0, 0, 0, 0),
  (892, 1, .iadd, 0, 0, 0, 0),
  (893, 1, .iaload, 0, 0, 0, 0),
  (894, 3, .invokevirtual 101, 177, 2, 0, 1062),
  (897, 3, .if_icmp .eq 555, 1016, 0, 0, 0),
  (900, 1, .iconst 0, 0, 0, 0, 0),
  (901, 1, .ireturn, 0, 0, 0, 0),
  (902, 1, .aload_n 1, 0, 0, 0, 0),
  (903, 3, .invokevirtual 102, 111, 1, 0, 600),
  (906, 1, .aload_n 2, 0, 0, 0, 0),
  (907, 3, .invokevirtual 105, 179, 1, 0, 1070),
  (910, 3, .if_icmp .eq 542, 1016, 0, 0, 0),
  (913, 1, .iconst 0, 0, 0, 0, 0),
  (914, 1, .ireturn, 0, 0, 0, 0),
  (915, 1, .aload_n 1, 0, 0, 0, 0),
  (916, 1, .aload_n 0, 0, 0, 0, 0),
  (917, 1, .iload_n 3, 0, 0, 0, 0),
  (918, 1, .iconst 1, 0, 0, 0, 0),
  (919, 1, .iadd, 0, 0, 0, 0),
  (920, 1, .iaload, 0, 0, 0, 0),
  (921, 1, .aload_n 0, 0, 0, 0, 0),
  (922, 1, .iload_n 3, 0, 0, 0, 0),
  (923, 1, .iconst 2, 0, 0, 0, 0),
  (924, 1, .iadd, 0, 0, 0, 0),
  (925, 1, .iaload, 0, 0, 0, 0),
  (926, 1, .aload_n 0, 0, 0, 0, 0),
  (927, 1, .iload_n 3, 0, 0, 0, 0),
  (928, 1, .iconst 3, 0, 0, 0, 0),
  (929, 1, .iadd, 0, 0, 0, 0),
  (930, 1, .iaload, 0, 0, 0, 0),
  (931, 1, .aload_n 0, 0, 0, 0, 0),
  (932, 1, .iload_n 3, 0, 0, 0, 0),
  (933, 1, .iconst 4, 0, 0, 0, 0),
  (934, 1, .iadd, 0, 0, 0, 0),
  (935, 1, .iaload, 0, 0, 0, 0),
  (936, 3, .invokevirtual 106, 112, 5, 0, 614),
  (939, 1, .aload_n 2, 0, 0, 0, 0),
  (940, 1, .aload_n 0, 0, 0, 0, 0),
  (941, 1, .iload_n 3, 0, 0, 0, 0),
  (942, 1, .iconst 1, 0, 0, 0, 0),
  (943, 1, .iadd, 0, 0, 0, 0),
  (944, 1, .iaload, 0, 0, 0, 0),
  (945, 1, .aload_n 0, 0, 0, 0, 0),
  (946, 1, .iload_n 3, 0, 0, 0, 0),
  (947, 1, .iconst 2, 0, 0, 0, 0),
  (948, 1, .iadd, 0, 0, 0, 0),
  (949, 1, .iaload, 0, 0, 0, 0),
  (950, 1, .aload_n 0, 0, 0, 0, 0),
  (951, 1, .iload_n 3, 0, 0, 0, 0),
  (952, 1, .iconst 3, 0, 0, 0, 0),
  (953, 1, .iadd, 0, 0, 0, 0),
  (954, 1, .iaload, 0, 0, 0, 0),
  (955, 1, .aload_n 0, 0, 0, 0, 0),
  (956, 1, .iload_n 3, 0, 0, 0, 0),
  (957, 1, .iconst 4, 0, 0, 0, 0),
  (958, 1, .iadd, 0, 0, 0, 0),
  (959, 1, .iaload, 0, 0, 0, 0),
  (960, 3, .invokevirtual 110, 180, 5, 0, 1077),
  (963, 3, .if_icmp .eq 489, 1016, 0, 0, 0),
  (966, 1, .iconst 0, 0, 0, 0, 0),
  (967, 1, .ireturn, 0, 0, 0, 0),
  (968, 1, .aload_n 1, 0, 0, 0, 0),
  (969, 1, .aload_n 0, 0, 0, 0, 0),
  (970, 1, .iload_n 3, 0, 0, 0, 0),
  (971, 1, .iconst 1, 0, 0, 0, 0),
  (972, 1, .iadd, 0, 0, 0, 0),
  (973, 1, .iaload, 0, 0, 0, 0),
  (974, 1, .aload_n 0, 0, 0, 0, 0),
  (975, 1, .iload_n 3, 0, 0, 0, 0),
  (976, 1, .iconst 2, 0, 0, 0, 0),
  (977, 1, .iadd, 0, 0, 0, 0),
  (978, 1, .iaload, 0, 0, 0, 0),
  (979, 1, .aload_n 0, 0, 0, 0, 0),
  (980, 1, .iload_n 3, 0, 0, 0, 0),
  (981, 1, .iconst 3, 0, 0, 0, 0),
  (982, 1, .iadd, 0, 0, 0, 0),
  (983, 1, .iaload, 0, 0, 0, 0),
  (984, 3, .invokevirtual 111, 115, 4, 0, 619),
  (987, 1, .aload_n 2, 0, 0, 0, 0),
  (988, 1, .aload_n 0, 0, 0, 0, 0),
  (989, 1, .iload_n 3, 0, 0, 0, 0),
  (990, 1, .iconst 1, 0, 0, 0, 0),
  (991, 1, .iadd, 0, 0, 0, 0),
  (992, 1, .iaload, 0, 0, 0, 0),
  (993, 1, .aload_n 0, 0, 0, 0, 0),
  (994, 1, .iload_n 3, 0, 0, 0, 0),
  (995, 1, .iconst 2, 0, 0, 0, 0),
  (996, 1, .iadd, 0, 0, 0, 0),
  (997, 1, .iaload, 0, 0, 0, 0),
  (998, 1, .aload_n 0, 0, 0, 0, 0),
  (999, 1, .iload_n 3, 0, 0, 0, 0),
  (1000, 1, .iconst 3, 0, 0, 0, 0),
  (1001, 1, .iadd, 0, 0, 0, 0),
  (1002, 1, .iaload, 0, 0, 0, 0),
  (1003, 3, .invokevirtual 114, 182, 4, 0, 1081),
  (1006, 3, .if_icmp .eq 446, 1016, 0, 0, 0),
  (1009, 1, .iconst 0, 0, 0, 0, 0),
  (1010, 1, .ireturn, 0, 0, 0, 0),
  (1011, 1, .aload_n 1, 0, 0, 0, 0),
  (1012, 1, .aload_n 0, 0, 0, 0, 0),
  (1013, 1, .iload_n 3, 0, 0, 0, 0),
  (1014, 1, .iconst 1, 0, 0, 0, 0),
  (1015, 1, .iadd, 0, 0, 0, 0),
  (1016, 1, .iaload, 0, 0, 0, 0),
  (1017, 1, .aload_n 0, 0, 0, 0, 0),
  (1018, 1, .iload_n 3, 0, 0, 0, 0),
  (1019, 1, .iconst 2, 0, 0, 0, 0),
  (1020, 1, .iadd, 0, 0, 0, 0),
  (1021, 1, .iaload, 0, 0, 0, 0),
  (1022, 1, .aload_n 0, 0, 0, 0, 0),
  (1023, 1, .iload_n 3, 0, 0, 0, 0),
  (1024, 1, .iconst 3, 0, 0, 0, 0),
  (1025, 1, .iadd, 0, 0, 0, 0),
  (1026, 1, .iaload, 0, 0, 0, 0),
  (1027, 3, .invokevirtual 115, 116, 4, 0, 639),
  (1030, 1, .aload_n 2, 0, 0, 0, 0),
  (1031, 1, .aload_n 0, 0, 0, 0, 0),
  (1032, 1, .iload_n 3, 0, 0, 0, 0),
  (1033, 1, .iconst 1, 0, 0, 0, 0),
  (1034, 1, .iadd, 0, 0, 0, 0),
  (1035, 1, .iaload, 0, 0, 0, 0),
  (1036, 1, .aload_n 0, 0, 0, 0, 0),
  (1037, 1, .iload_n 3, 0, 0, 0, 0),
  (1038, 1, .iconst 2, 0, 0, 0, 0),
  (1039, 1, .iadd, 0, 0, 0, 0),
  (1040, 1, .iaload, 0, 0, 0, 0),
  (1041, 1, .aload_n 0, 0, 0, 0, 0),
  (1042, 1, .iload_n 3, 0, 0, 0, 0),
  (1043, 1, .iconst 3, 0, 0, 0, 0),
  (1044, 1, .iadd, 0, 0, 0, 0),
  (1045, 1, .iaload, 0, 0, 0, 0),
  (1046, 3, .invokevirtual 118, 183, 4, 0, 1093),
  (1049, 3, .if_icmp .eq 403, 1016, 0, 0, 0),
  (1052, 1, .iconst 0, 0, 0, 0, 0),
  (1053, 1, .ireturn, 0, 0, 0, 0),
  (1054, 1, .aload_n 1, 0, 0, 0, 0),
  (1055, 1, .aload_n 0, 0, 0, 0, 0),
  (1056, 1, .iload_n 3, 0, 0, 0, 0),
  (1057, 1, .iconst 1, 0, 0, 0, 0),
  (1058, 1, .iadd, 0, 0, 0, 0),
  (1059, 1, .iaload, 0, 0, 0, 0),
  (1060, 1, .aload_n 0, 0, 0, 0, 0),
  (1061, 1, .iload_n 3, 0, 0, 0, 0),
  (1062, 1, .iconst 2, 0, 0, 0, 0),
  (1063, 1, .iadd, 0, 0, 0, 0),
  (1064, 1, .iaload, 0, 0, 0, 0),
  (1065, 1, .aload_n 0, 0, 0, 0, 0),
  (1066, 1, .iload_n 3, 0, 0, 0, 0),
  (1067, 1, .iconst 3, 0, 0, 0, 0),
  (1068, 1, .iadd, 0, 0, 0, 0),
  (1069, 1, .iaload, 0, 0, 0, 0),
  (1070, 3, .invokevirtual 119, 117, 4, 0, 643),
  (1073, 1, .aload_n 2, 0, 0, 0, 0),
  (1074, 1, .aload_n 0, 0, 0, 0, 0),
  (1075, 1, .iload_n 3, 0, 0, 0, 0),
  (1076, 1, .iconst 1, 0, 0, 0, 0),
  (1077, 1, .iadd, 0, 0, 0, 0),
  (1078, 1, .iaload, 0, 0, 0, 0),
  (1079, 1, .aload_n 0, 0, 0, 0, 0),
  (1080, 1, .iload_n 3, 0, 0, 0, 0),
  (1081, 1, .iconst 2, 0, 0, 0, 0),
  (1082, 1, .iadd, 0, 0, 0, 0),
  (1083, 1, .iaload, 0, 0, 0, 0),
  (1084, 1, .aload_n 0, 0, 0, 0, 0),
  (1085, 1, .iload_n 3, 0, 0, 0, 0),
  (1086, 1, .iconst 3, 0, 0, 0, 0),
  (1087, 1, .iadd, 0, 0, 0, 0),
  (1088, 1, .iaload, 0, 0, 0, 0),
  (1089, 3, .invokevirtual 122, 184, 4, 0, 1097),
  (1092, 3, .if_icmp .eq 360, 1016, 0, 0, 0),
  (1095, 1, .iconst 0, 0, 0, 0, 0),
  (1096, 1, .ireturn, 0, 0, 0, 0),
  (1097, 1, .aload_n 1, 0, 0, 0, 0),
  (1098, 1, .aload_n 0, 0, 0, 0, 0),
  (1099, 1, .iload_n 3, 0, 0, 0, 0),
  (1100, 1, .iconst 1, 0, 0, 0, 0),
  (1101, 1, .iadd, 0, 0, 0, 0),
  (1102, 1, .iaload, 0, 0, 0, 0),
  (1103, 3, .invokevirtual 123, 118, 2, 0, 656),
  (1106, 1, .aload_n 2, 0, 0, 0, 0),
  (1107, 1, .aload_n 0, 0, 0, 0, 0),
  (1108, 1, .iload_n 3, 0, 0, 0, 0),
  (1109, 1, .iconst 1, 0, 0, 0, 0),
  (1110, 1, .iadd, 0, 0, 0, 0),
  (1111, 1, .iaload, 0, 0, 0, 0),
  (1112, 3, .invokevirtual 126, 185, 2, 0, 1101),
  (1115, 3, .if_icmp .eq 337, 1016, 0, 0, 0),
  (1118, 1, .iconst 0, 0, 0, 0, 0),
  (1119, 1, .ireturn, 0, 0, 0, 0),
  (1120, 1, .aload_n 1, 0, 0, 0, 0),
  (1121, 1, .aload_n 0, 0, 0, 0, 0),
  (1122, 1, .iload_n 3, 0, 0, 0, 0),
  (1123, 1, .iconst 1, 0, 0, 0, 0),
  (1124, 1, .iadd, 0, 0, 0, 0),
  (1125, 1, .iaload, 0, 0, 0, 0),
  (1126, 1, .aload_n 0, 0, 0, 0, 0),
  (1127, 1, .iload_n 3, 0, 0, 0, 0),
  (1128, 1, .iconst 2, 0, 0, 0, 0),
  (1129, 1, .iadd, 0, 0, 0, 0),
  (1130, 1, .iaload, 0, 0, 0, 0),
  (1131, 1, .aload_n 0, 0, 0, 0, 0),
  (1132, 1, .iload_n 3, 0, 0, 0, 0),
  (1133, 1, .iconst 3, 0, 0, 0, 0),
  (1134, 1, .iadd, 0, 0, 0, 0),
  (1135, 1, .iaload, 0, 0, 0, 0),
  (1136, 1, .aload_n 0, 0, 0, 0, 0),
  (1137, 1, .iload_n 3, 0, 0, 0, 0),
  (1138, 1, .iconst 4, 0, 0, 0, 0),
  (1139, 1, .iadd, 0, 0, 0, 0),
  (1140, 1, .iaload, 0, 0, 0, 0),
  (1141, 3, .invokevirtual 127, 120, 5, 0, 660),
  (1144, 1, .aload_n 2, 0, 0, 0, 0),
  (1145, 1, .aload_n 0, 0, 0, 0, 0),
  (1146, 1, .iload_n 3, 0, 0, 0, 0),
  (1147, 1, .iconst 1, 0, 0, 0, 0),
  (1148, 1, .iadd, 0, 0, 0, 0),
  (1149, 1, .iaload, 0, 0, 0, 0),
  (1150, 1, .aload_n 0, 0, 0, 0, 0),
  (1151, 1, .iload_n 3, 0, 0, 0, 0),
  (1152, 1, .iconst 2, 0, 0, 0, 0),
  (1153, 1, .iadd, 0, 0, 0, 0),
  (1154, 1, .iaload, 0, 0, 0, 0),
  (1155, 1, .aload_n 0, 0, 0, 0, 0),
  (1156, 1, .iload_n 3, 0, 0, 0, 0),
  (1157, 1, .iconst 3, 0, 0, 0, 0),
  (1158, 1, .iadd, 0, 0, 0, 0),
  (1159, 1, .iaload, 0, 0, 0, 0),
  (1160, 1, .aload_n 0, 0, 0, 0, 0),
  (1161, 1, .iload_n 3, 0, 0, 0, 0),
  (1162, 1, .iconst 4, 0, 0, 0, 0),
  (1163, 1, .iadd, 0, 0, 0, 0),
  (1164, 1, .iaload, 0, 0, 0, 0),
  (1165, 3, .invokevirtual 130, 187, 5, 0, 1105),
  (1168, 3, .if_icmp .eq 284, 1016, 0, 0, 0),
  (1171, 1, .iconst 0, 0, 0, 0, 0),
  (1172, 1, .ireturn, 0, 0, 0, 0),
  (1173, 1, .aload_n 1, 0, 0, 0, 0),
  (1174, 1, .aload_n 0, 0, 0, 0, 0),
  (1175, 1, .iload_n 3, 0, 0, 0, 0),
  (1176, 1, .iconst 1, 0, 0, 0, 0),
  (1177, 1, .iadd, 0, 0, 0, 0),
  (1178, 1, .iaload, 0, 0, 0, 0),
  (1179, 3, .invokevirtual 131, 121, 2, 0, 668),
  (1182, 1, .aload_n 2, 0, 0, 0, 0),
  (1183, 1, .aload_n 0, 0, 0, 0, 0),
  (1184, 1, .iload_n 3, 0, 0, 0, 0),
  (1185, 1, .iconst 1, 0, 0, 0, 0),
  (1186, 1, .iadd, 0, 0, 0, 0),
  (1187, 1, .iaload, 0, 0, 0, 0),
  (1188, 3, .invokevirtual 134, 188, 2, 0, 1113),
  (1191, 3, .if_icmp .eq 261, 1016, 0, 0, 0),
  (1194, 1, .iconst 0, 0, 0, 0, 0),
  (1195, 1, .ireturn, 0, 0, 0, 0),
  (1196, 1, .aload_n 1, 0, 0, 0, 0),
  (1197, 3, .invokevirtual 135, 122, 1, 0, 672),
  (1200, 1, .aload_n 2, 0, 0, 0, 0),
  (1201, 3, .invokevirtual 138, 189, 1, 0, 1117),
  (1204, 3, .if_icmp .eq 248, 1016, 0, 0, 0),
  (1207, 1, .iconst 0, 0, 0, 0, 0),
  (1208, 1, .ireturn, 0, 0, 0, 0),
  (1209, 1, .aload_n 1, 0, 0, 0, 0),
  (1210, 3, .invokevirtual 139, 123, 1, 0, 685),
  (1213, 1, .aload_n 2, 0, 0, 0, 0),
  (1214, 3, .invokevirtual 142, 190, 1, 0, 1121),
  (1217, 3, .if_icmp .eq 235, 1016, 0, 0, 0),
  (1220, 1, .iconst 0, 0, 0, 0, 0),
  (1221, 1, .ireturn, 0, 0, 0, 0),
  (1222, 1, .aload_n 1, 0, 0, 0, 0),
  (1223, 1, .aload_n 0, 0, 0, 0, 0),
  (1224, 1, .iload_n 3, 0, 0, 0, 0),
  (1225, 1, .iconst 1, 0, 0, 0, 0),
  (1226, 1, .iadd, 0, 0, 0, 0),
  (1227, 1, .iaload, 0, 0, 0, 0),
  (1228, 3, .invokevirtual 143, 124, 2, 0, 693),
  (1231, 1, .aload_n 2, 0, 0, 0, 0),
  (1232, 1, .aload_n 0, 0, 0, 0, 0),
  (1233, 1, .iload_n 3, 0, 0, 0, 0),
  (1234, 1, .iconst 1, 0, 0, 0, 0),
  (1235, 1, .iadd, 0, 0, 0, 0),
  (1236, 1, .iaload, 0, 0, 0, 0),
  (1237, 3, .invokevirtual 146, 194, 2, 0, 1125),
  (1240, 3, .if_icmp .eq 212, 1016, 0, 0, 0),
  (1243, 1, .iconst 0, 0, 0, 0, 0),
  (1244, 1, .ireturn, 0, 0, 0, 0),
  (1245, 1, .aload_n 1, 0, 0, 0, 0),
  (1246, 1, .aload_n 0, 0, 0, 0, 0),
  (1247, 1, .iload_n 3, 0, 0, 0, 0),
  (1248, 1, .iconst 1, 0, 0, 0, 0),
  (1249, 1, .iadd, 0, 0, 0, 0),
  (1250, 1, .iaload, 0, 0, 0, 0),
  (1251, 3, .invokevirtual 147, 125, 2, 0, 717),
  (1254, 1, .aload_n 2, 0, 0, 0, 0),
  (1255, 1, .aload_n 0, 0, 0, 0, 0),
  (1256, 1, .iload_n 3, 0, 0, 0, 0),
  (1257, 1, .iconst 1, 0, 0, 0, 0),
  (1258, 1, .iadd, 0, 0, 0, 0),
  (1259, 1, .iaload, 0, 0, 0, 0),
  (1260, 3, .invokevirtual 150, 195, 2, 0, 1142),
  (1263, 3, .if_icmp .eq 189, 1016, 0, 0, 0),
  (1266, 1, .iconst 0, 0, 0, 0, 0),
  (1267, 1, .ireturn, 0, 0, 0, 0),
  (1268, 1, .aload_n 1, 0, 0, 0, 0),
  (1269, 3, .invokevirtual 151, 126, 1, 0, 734),
  (1272, 1, .aload_n 2, 0, 0, 0, 0),
  (1273, 3, .invokevirtual 154, 196, 1, 0, 1146),
  (1276, 3, .if_icmp .eq 176, 1016, 0, 0, 0),
  (1279, 1, .iconst 0, 0, 0, 0, 0),
  (1280, 1, .ireturn, 0, 0, 0, 0),
  (1281, 1, .aload_n 1, 0, 0, 0, 0),
  (1282, 1, .aload_n 0, 0, 0, 0, 0),
  (1283, 1, .iload_n 3, 0, 0, 0, 0),
  (1284, 1, .iconst 1, 0, 0, 0, 0),
  (1285, 1, .iadd, 0, 0, 0, 0),
  (1286, 1, .iaload, 0, 0, 0, 0),
  (1287, 3, .invokevirtual 155, 127, 2, 0, 742),
  (1290, 1, .aload_n 2, 0, 0, 0, 0),
  (1291, 1, .aload_n 0, 0, 0, 0, 0),
  (1292, 1, .iload_n 3, 0, 0, 0, 0),
  (1293, 1, .iconst 1, 0, 0, 0, 0),
  (1294, 1, .iadd, 0, 0, 0, 0),
  (1295, 1, .iaload, 0, 0, 0, 0),
  (1296, 3, .invokevirtual 158, 197, 2, 0, 1150),
  (1299, 3, .if_icmp .eq 153, 1016, 0, 0, 0),
  (1302, 1, .iconst 0, 0, 0, 0, 0),
  (1303, 1, .ireturn, 0, 0, 0, 0),
  (1304, 1, .aload_n 1, 0, 0, 0, 0),
  (1305, 1, .aload_n 0, 0, 0, 0, 0),
  (1306, 1, .iload_n 3, 0, 0, 0, 0),
  (1307, 1, .iconst 1, 0, 0, 0, 0),
  (1308, 1, .iadd, 0, 0, 0, 0),
  (1309, 1, .iaload, 0, 0, 0, 0),
  (1310, 1, .aload_n 0, 0, 0, 0, 0),
  (1311, 1, .iload_n 3, 0, 0, 0, 0),
  (1312, 1, .iconst 2, 0, 0, 0, 0),
  (1313, 1, .iadd, 0, 0, 0, 0),
  (1314, 1, .iaload, 0, 0, 0, 0),
  (1315, 1, .aload_n 0, 0, 0, 0, 0),
  (1316, 1, .iload_n 3, 0, 0, 0, 0),
  (1317, 1, .iconst 3, 0, 0, 0, 0),
  (1318, 1, .iadd, 0, 0, 0, 0),
  (1319, 1, .iaload, 0, 0, 0, 0),
  (1320, 3, .invokevirtual 159, 128, 4, 0, 750),
  (1323, 1, .aload_n 2, 0, 0, 0, 0),
  (1324, 1, .aload_n 0, 0, 0, 0, 0),
  (1325, 1, .iload_n 3, 0, 0, 0, 0),
  (1326, 1, .iconst 1, 0, 0, 0, 0),
  (1327, 1, .iadd, 0, 0, 0, 0),
  (1328, 1, .iaload, 0, 0, 0, 0),
  (1329, 1, .aload_n 0, 0, 0, 0, 0),
  (1330, 1, .iload_n 3, 0, 0, 0, 0),
  (1331, 1, .iconst 2, 0, 0, 0, 0),
  (1332, 1, .iadd, 0, 0, 0, 0),
  (1333, 1, .iaload, 0, 0, 0, 0),
  (1334, 1, .aload_n 0, 0, 0, 0, 0),
  (1335, 1, .iload_n 3, 0, 0, 0, 0),
  (1336, 1, .iconst 3, 0, 0, 0, 0),
  (1337, 1, .iadd, 0, 0, 0, 0),
  (1338, 1, .iaload, 0, 0, 0, 0),
  (1339, 3, .invokevirtual 162, 201, 4, 0, 1154),
  (1342, 3, .if_icmp .eq 110, 1016, 0, 0, 0),
  (1345, 1, .iconst 0, 0, 0, 0, 0),
  (1346, 1, .ireturn, 0, 0, 0, 0),
  (1347, 1, .aload_n 1, 0, 0, 0, 0),
  (1348, 1, .aload_n 0, 0, 0, 0, 0),
  (1349, 1, .iload_n 3, 0, 0, 0, 0),
  (1350, 1, .iconst 1, 0, 0, 0, 0),
  (1351, 1, .iadd, 0, 0, 0, 0),
  (1352, 1, .iaload, 0, 0, 0, 0),
  (1353, 1, .aload_n 0, 0, 0, 0, 0),
  (1354, 1, .iload_n 3, 0, 0, 0, 0),
  (1355, 1, .iconst 2, 0, 0, 0, 0),
  (1356, 1, .iadd, 0, 0, 0, 0),
  (1357, 1, .iaload, 0, 0, 0, 0),
  (1358, 3, .invokevirtual 163, 130, 3, 0, 759),
  (1361, 1, .aload_n 2, 0, 0, 0, 0),
  (1362, 1, .aload_n 0, 0, 0, 0, 0),
  (1363, 1, .iload_n 3, 0, 0, 0, 0),
  (1364, 1, .iconst 1, 0, 0, 0, 0),
  (1365, 1, .iadd, 0, 0, 0, 0),
  (1366, 1, .iaload, 0, 0, 0, 0),
  (1367, 1, .aload_n 0, 0, 0, 0, 0),
  (1368, 1, .iload_n 3, 0, 0, 0, 0),
  (1369, 1, .iconst 2, 0, 0, 0, 0),
  (1370, 1, .iadd, 0, 0, 0, 0),
  (1371, 1, .iaload, 0, 0, 0, 0),
  (1372, 3, .invokevirtual 166, 202, 3, 0, 1162),
  (1375, 3, .if_icmp .eq 77, 1016, 0, 0, 0),
  (1378, 1, .iconst 0, 0, 0, 0, 0),
  (1379, 1, .ireturn, 0, 0, 0, 0),
  (1380, 1, .aload_n 1, 0, 0, 0, 0),
  (1381, 1, .aload_n 0, 0, 0, 0, 0),
  (1382, 1, .iload_n 3, 0, 0, 0, 0),
  (1383, 1, .iconst 1, 0, 0, 0, 0),
  (1384, 1, .iadd, 0, 0, 0, 0),
  (1385, 1, .iaload, 0, 0, 0, 0),
  (1386, 1, .aload_n 0, 0, 0, 0, 0),
  (1387, 1, .iload_n 3, 0, 0, 0, 0),
  (1388, 1, .iconst 2, 0, 0, 0, 0),
  (1389, 1, .iadd, 0, 0, 0, 0),
  (1390, 1, .iaload, 0, 0, 0, 0),
  (1391, 3, .ifCond .eq 7, 978, 0, 0, 0),
  (1394, 1, .iconst 1, 0, 0, 0, 0),
  (1395, 3, .goto 4, 979, 0, 0, 0),
  (1398, 1, .iconst 0, 0, 0, 0, 0),
  (1399, 3, .invokevirtual 167, 131, 3, 0, 791),
  (1402, 1, .aload_n 2, 0, 0, 0, 0),
  (1403, 1, .aload_n 0, 0, 0, 0, 0),
  (1404, 1, .iload_n 3, 0, 0, 0, 0),
  (1405, 1, .iconst 1, 0, 0, 0, 0),
  (1406, 1, .iadd, 0, 0, 0, 0),
  (1407, 1, .iaload, 0, 0, 0, 0),
  (1408, 1, .aload_n 0, 0, 0, 0, 0),
  (1409, 1, .iload_n 3, 0, 0, 0, 0),
  (1410, 1, .iconst 2, 0, 0, 0, 0),
  (1411, 1, .iadd, 0, 0, 0, 0),
  (1412, 1, .iaload, 0, 0, 0, 0),
  (1413, 3, .ifCond .eq 7, 994, 0, 0, 0),
  (1416, 1, .iconst 1, 0, 0, 0, 0),
  (1417, 3, .goto 4, 995, 0, 0, 0),
  (1420, 1, .iconst 0, 0, 0, 0, 0),
  (1421, 3, .invokevirtual 170, 203, 3, 0, 1174),
  (1424, 3, .if_icmp .eq 28, 1016, 0, 0, 0),
  (1427, 1, .iconst 0, 0, 0, 0, 0),
  (1428, 1, .ireturn, 0, 0, 0, 0),
  (1429, 1, .aload_n 1, 0, 0, 0, 0),
  (1430, 1, .aload_n 0, 0, 0, 0, 0),
  (1431, 1, .iload_n 3, 0, 0, 0, 0),
  (1432, 1, .iconst 1, 0, 0, 0, 0),
  (1433, 1, .iadd, 0, 0, 0, 0),
  (1434, 1, .iaload, 0, 0, 0, 0),
  (1435, 3, .invokevirtual 171, 132, 2, 0, 795),
  (1438, 1, .aload_n 2, 0, 0, 0, 0),
  (1439, 1, .aload_n 0, 0, 0, 0, 0),
  (1440, 1, .iload_n 3, 0, 0, 0, 0),
  (1441, 1, .iconst 1, 0, 0, 0, 0),
  (1442, 1, .iadd, 0, 0, 0, 0),
  (1443, 1, .iaload, 0, 0, 0, 0),
  (1444, 3, .invokevirtual 174, 204, 2, 0, 1178),
  (1447, 3, .if_icmp .eq 5, 1016, 0, 0, 0),
  (1450, 1, .iconst 0, 0, 0, 0, 0),
  (1451, 1, .ireturn, 0, 0, 0, 0),
  (1452, 3, .iinc 3 5, 0, 0, 0, 0),
  (1455, 3, .goto (-1437), 10, 0, 0, 0),
  (1458, 1, .iconst 1, 0, 0, 0, 0),
  (1459, 1, .ireturn, 0, 0, 0, 0)]
noncomputable def q_cds : List (List q_Ent) := [kd_X0_init, kd_X0_begin, kd_X0_copyFrom, kd_X0_judges, kd_X0_skaters, kd_X0_size, kd_X0_judgeSets, kd_X0_rows, kd_X0_hasJudge, kd_X0_hasSkater, kd_X0_markOf, kd_X0_give, kd_X0_rowOf, kd_X0_giveRow, kd_X0_counts, kd_X0_counting, kd_X0_setLost, kd_X0_loseAllBut, kd_X0_judgeLand, kd_X0_skaterLand, kd_X0_ofOneLand, kd_X0_moveJudge, kd_X0_moveSkater, kd_X0_favour, kd_X0_leanAll, kd_J6_bitCount_0f7a4, kd_X0_marksBut, kd_X0_leanFor, kd_X1_init, kd_X6_worthOf, kd_X6_ahead, kd_X6_placeOf, kd_X1_note, kd_X1_wouldChange, kd_X1_atRest, kd_X2_init, kd_X2_size, kd_X2_hasRoom, kd_X2_add, kd_X2_empty, kd_X2_cardAt, kd_X2_leanOf, kd_X2_standsBeside, kd_X2_leanInPlaceOf, kd_X2_asMuch, kd_X4_init, kd_X3_init, kd_X5_parts, kd_X5_kindOf, kd_X8_pointsFor, kd_X4_ranks, kd_X3_aloneAt, kd_X4_leadOf, kd_X3_besideAt, kd_X3_layBeside, kd_X5_strikeOf, kd_X4_sortMarks, kd_X4_sumWithout, kd_X4_middleOf, kd_X4_pairs, kd_X5_figureOf, kd_X4_weighted, kd_X4_weigh, kd_X3_open, kd_X3_giveAll, kd_X3_worthNow, kd_X3_placeNow, kd_X3_giveNext, kd_X3_bestRow, kd_X3_placeBy, kd_X5_init, kd_X5_hasPart, kd_X5_strikeAlone, kd_X7_byteAt, kd_X5_kindBy, kd_X5_readStrike, kd_X5_readFigures, kd_X5_readPart, kd_X7_length, kd_X5_read, kd_X6_init, kd_X6_take, kd_X6_leaders, kd_X7_init, kd_X7_empty, kd_X7_append, kd_X8_init, kd_X8_panel, kd_X8_land, kd_X8_isMark, kd_X8_mark, kd_X8_card, kd_X8_lose, kd_X8_at, kd_X8_write, kd_X8_wipe, kd_X8_fault, kd_X8_isRule, kd_X8_rule, kd_X8_part, kd_X8_worth, kd_X8_place, kd_X8_order, kd_X8_first, kd_X8_apart, kd_X8_could, kd_X8_best, kd_X8_bettersOwn, kd_X8_bends, kd_X8_benders, kd_X8_bent, kd_X8_strike, kd_X8_move, kd_X8_isJudgeSet, kd_X8_placeByBloc, kd_X8_bloc, kd_X8_few, kd_X8_drawn, kd_X8_leftOut, kd_X8_doesTurn, kd_X8_turns, kd_X8_thirds, kd_X8_keep, kd_X8_forget, kd_X8_lean, kd_X8_seldom, kd_X8_leaner, kd_X8_again, kd_X8_minded, kd_X8_noteMind, kd_X8_rest, kd_X8_rests, kd_X8_count, kd_X9_init, kd_X9_in, kd_X9_noJudge, kd_X9_noSkater, kd_X9_noRule, kd_X9_noSet, kd_X9_cards, kd_X9_panel, kd_X9_land, kd_X9_mark, kd_X9_card, kd_X9_lose, kd_X9_at, kd_X9_write, kd_X9_wipe, kd_X9_isFigure, kd_X9_read, kd_X9_fault, kd_X9_rule, kd_X9_part, kd_X9_take, kd_X9_sort, kd_X9_struck, kd_X9_middle, kd_X9_ranks, kd_X9_pairs, kd_X9_weighed, kd_X9_worthOf, kd_X9_lay, kd_X9_by, kd_X9_placeOf, kd_X9_firsts, kd_X9_worth, kd_X9_place, kd_X9_order, kd_X9_first, kd_X9_apart, kd_X9_give, kd_X9_findBest, kd_X9_could, kd_X9_best, kd_X9_isBent, kd_X9_bends, kd_X9_allBent, kd_X9_bent, kd_X9_many, kd_X9_strike, kd_X9_move, kd_X9_placeBy, kd_X9_bloc, kd_X9_few, kd_X9_drawn, kd_X9_leftOut, kd_X9_isTurned, kd_X9_turns, kd_X9_thirds, kd_X9_keep, kd_X9_forget, kd_X9_stood, kd_X9_leanIn, kd_X9_leanOf, kd_X9_lean, kd_X9_seldom, kd_X9_leaner, kd_X9_again, kd_X9_mind, kd_X9_leastOf, kd_X9_isAtRest, kd_X9_minded, kd_X9_rest, kd_X9_rests, kd_X9_count, kd_L_law]
noncomputable def q_cd (k : Nat) : List q_Ent := q_cds.getD k []
abbrev q_MI : Type := MethodName × ByteArray × Nat × Option FieldType
noncomputable def q_mis : List q_MI := [(yX0_init, cX0_init, 1, none),
  (yX0_begin, cX0_begin, 4, none),
  (yX0_copyFrom, cX0_copyFrom, 2, none),
  (yX0_judges, cX0_judges, 1, (some .int)),
  (yX0_skaters, cX0_skaters, 1, (some .int)),
  (yX0_size, cX0_size, 1, (some .int)),
  (yX0_judgeSets, cX0_judgeSets, 1, (some .int)),
  (yX0_rows, cX0_rows, 3, (some .int)),
  (yX0_hasJudge, cX0_hasJudge, 2, (some .boolean)),
  (yX0_hasSkater, cX0_hasSkater, 2, (some .boolean)),
  (yX0_markOf, cX0_markOf, 3, (some .int)),
  (yX0_give, cX0_give, 4, none),
  (yX0_rowOf, cX0_rowOf, 4, (some .int)),
  (yX0_giveRow, cX0_giveRow, 5, none),
  (yX0_counts, cX0_counts, 2, (some .boolean)),
  (yX0_counting, cX0_counting, 1, (some .int)),
  (yX0_setLost, cX0_setLost, 3, none),
  (yX0_loseAllBut, cX0_loseAllBut, 2, none),
  (yX0_judgeLand, cX0_judgeLand, 2, (some .int)),
  (yX0_skaterLand, cX0_skaterLand, 2, (some .int)),
  (yX0_ofOneLand, cX0_ofOneLand, 3, (some .boolean)),
  (yX0_moveJudge, cX0_moveJudge, 4, (some .int)),
  (yX0_moveSkater, cX0_moveSkater, 4, (some .int)),
  (yX0_favour, cX0_favour, 5, none),
  (yX0_leanAll, cX0_leanAll, 4, none),
  (yJ6_bitCount_0f7a4, cJ6_bitCount_0f7a4, 1, (some .int)),
  (yX0_marksBut, cX0_marksBut, 5, (some .int)),
  (yX0_leanFor, cX0_leanFor, 6, (some .int)),
  (yX1_init, cX1_init, 1, none),
  (yX6_worthOf, cX6_worthOf, 3, (some .int)),
  (yX6_ahead, cX6_ahead, 4, (some .boolean)),
  (yX6_placeOf, cX6_placeOf, 4, (some .int)),
  (yX1_note, cX1_note, 8, none),
  (yX1_wouldChange, cX1_wouldChange, 4, (some .boolean)),
  (yX1_atRest, cX1_atRest, 4, (some .boolean)),
  (yX2_init, cX2_init, 2, none),
  (yX2_size, cX2_size, 1, (some .int)),
  (yX2_hasRoom, cX2_hasRoom, 1, (some .boolean)),
  (yX2_add, cX2_add, 2, (some .int)),
  (yX2_empty, cX2_empty, 2, (some .int)),
  (yX2_cardAt, cX2_cardAt, 2, (some (.object "ThrownMarks$Card"))),
  (yX2_leanOf, cX2_leanOf, 4, (some .int)),
  (yX2_standsBeside, cX2_standsBeside, 4, (some .boolean)),
  (yX2_leanInPlaceOf, cX2_leanInPlaceOf, 5, (some .int)),
  (yX2_asMuch, cX2_asMuch, 5, (some .int)),
  (yX4_init, cX4_init, 1, none),
  (yX3_init, cX3_init, 1, none),
  (yX5_parts, cX5_parts, 1, (some .int)),
  (yX5_kindOf, cX5_kindOf, 2, (some .int)),
  (yX8_pointsFor, cX8_pointsFor, 1, (some .int)),
  (yX4_ranks, cX4_ranks, 6, (some .int)),
  (yX3_aloneAt, cX3_aloneAt, 3, (some .int)),
  (yX4_leadOf, cX4_leadOf, 6, (some .int)),
  (yX3_besideAt, cX3_besideAt, 4, (some .int)),
  (yX3_layBeside, cX3_layBeside, 8, none),
  (yX5_strikeOf, cX5_strikeOf, 2, (some .int)),
  (yX4_sortMarks, cX4_sortMarks, 7, (some .int)),
  (yX4_sumWithout, cX4_sumWithout, 5, (some .int)),
  (yX4_middleOf, cX4_middleOf, 2, (some .int)),
  (yX4_pairs, cX4_pairs, 5, (some .int)),
  (yX5_figureOf, cX5_figureOf, 3, (some .int)),
  (yX4_weighted, cX4_weighted, 7, (some .int)),
  (yX4_weigh, cX4_weigh, 5, (some .int)),
  (yX3_open, cX3_open, 8, none),
  (yX3_giveAll, cX3_giveAll, 4, none),
  (yX3_worthNow, cX3_worthNow, 6, (some .int)),
  (yX3_placeNow, cX3_placeNow, 6, (some .int)),
  (yX3_giveNext, cX3_giveNext, 2, none),
  (yX3_bestRow, cX3_bestRow, 8, (some .int)),
  (yX3_placeBy, cX3_placeBy, 3, (some .int)),
  (yX5_init, cX5_init, 1, none),
  (yX5_hasPart, cX5_hasPart, 2, (some .boolean)),
  (yX5_strikeAlone, cX5_strikeAlone, 2, none),
  (yX7_byteAt, cX7_byteAt, 2, (some .int)),
  (yX5_kindBy, cX5_kindBy, 1, (some .int)),
  (yX5_readStrike, cX5_readStrike, 3, (some .boolean)),
  (yX5_readFigures, cX5_readFigures, 5, (some .boolean)),
  (yX5_readPart, cX5_readPart, 3, (some .boolean)),
  (yX7_length, cX7_length, 1, (some .int)),
  (yX5_read, cX5_read, 3, (some .int)),
  (yX6_init, cX6_init, 1, none),
  (yX6_take, cX6_take, 5, none),
  (yX6_leaders, cX6_leaders, 3, (some .int)),
  (yX7_init, cX7_init, 1, none),
  (yX7_empty, cX7_empty, 2, (some .int)),
  (yX7_append, cX7_append, 5, (some .int)),
  (yX8_init, cX8_init, 2, none),
  (yX8_panel, cX8_panel, 3, (some .int)),
  (yX8_land, cX8_land, 4, (some .int)),
  (yX8_isMark, cX8_isMark, 2, (some .boolean)),
  (yX8_mark, cX8_mark, 5, (some .int)),
  (yX8_card, cX8_card, 4, (some .int)),
  (yX8_lose, cX8_lose, 4, (some .int)),
  (yX8_at, cX8_at, 3, (some .int)),
  (yX8_write, cX8_write, 4, (some .int)),
  (yX8_wipe, cX8_wipe, 1, (some .int)),
  (yX8_fault, cX8_fault, 1, (some .int)),
  (yX8_isRule, cX8_isRule, 2, (some .boolean)),
  (yX8_rule, cX8_rule, 2, (some .int)),
  (yX8_part, cX8_part, 3, (some .int)),
  (yX8_worth, cX8_worth, 4, (some .int)),
  (yX8_place, cX8_place, 3, (some .int)),
  (yX8_order, cX8_order, 6, (some .int)),
  (yX8_first, cX8_first, 2, (some .int)),
  (yX8_apart, cX8_apart, 6, (some .int)),
  (yX8_could, cX8_could, 4, (some .int)),
  (yX8_best, cX8_best, 4, (some .int)),
  (yX8_bettersOwn, cX8_bettersOwn, 4, (some .boolean)),
  (yX8_bends, cX8_bends, 3, (some .int)),
  (yX8_benders, cX8_benders, 4, (some .int)),
  (yX8_bent, cX8_bent, 2, (some .int)),
  (yX8_strike, cX8_strike, 5, (some .int)),
  (yX8_move, cX8_move, 5, (some .int)),
  (yX8_isJudgeSet, cX8_isJudgeSet, 2, (some .boolean)),
  (yX8_placeByBloc, cX8_placeByBloc, 4, (some .int)),
  (yX8_bloc, cX8_bloc, 4, (some .int)),
  (yX8_few, cX8_few, 8, (some .int)),
  (yX8_drawn, cX8_drawn, 7, (some .int)),
  (yX8_leftOut, cX8_leftOut, 4, (some .int)),
  (yX8_doesTurn, cX8_doesTurn, 7, (some .boolean)),
  (yX8_turns, cX8_turns, 5, (some .int)),
  (yX8_thirds, cX8_thirds, 6, (some .int)),
  (yX8_keep, cX8_keep, 1, (some .int)),
  (yX8_forget, cX8_forget, 1, (some .int)),
  (yX8_lean, cX8_lean, 2, (some .int)),
  (yX8_seldom, cX8_seldom, 2, (some .int)),
  (yX8_leaner, cX8_leaner, 3, (some .int)),
  (yX8_again, cX8_again, 2, (some .int)),
  (yX8_minded, cX8_minded, 4, (some .int)),
  (yX8_noteMind, cX8_noteMind, 3, none),
  (yX8_rest, cX8_rest, 4, (some .int)),
  (yX8_rests, cX8_rests, 5, (some .int)),
  (yX8_count, cX8_count, 2, (some .int)),
  (yX9_init, cX9_init, 2, none),
  (yX9_in, cX9_in, 6, (some .boolean)),
  (yX9_noJudge, cX9_noJudge, 2, (some .boolean)),
  (yX9_noSkater, cX9_noSkater, 2, (some .boolean)),
  (yX9_noRule, cX9_noRule, 1, (some .boolean)),
  (yX9_noSet, cX9_noSet, 2, (some .boolean)),
  (yX9_cards, cX9_cards, 3, (some .int)),
  (yX9_panel, cX9_panel, 4, (some .int)),
  (yX9_land, cX9_land, 5, (some .int)),
  (yX9_mark, cX9_mark, 5, (some .int)),
  (yX9_card, cX9_card, 6, (some .int)),
  (yX9_lose, cX9_lose, 4, (some .int)),
  (yX9_at, cX9_at, 3, (some .int)),
  (yX9_write, cX9_write, 5, (some .int)),
  (yX9_wipe, cX9_wipe, 2, (some .int)),
  (yX9_isFigure, cX9_isFigure, 3, (some .boolean)),
  (yX9_read, cX9_read, 6, (some .int)),
  (yX9_fault, cX9_fault, 1, (some .int)),
  (yX9_rule, cX9_rule, 4, (some .int)),
  (yX9_part, cX9_part, 3, (some .int)),
  (yX9_take, cX9_take, 2, none),
  (yX9_sort, cX9_sort, 5, (some .int)),
  (yX9_struck, cX9_struck, 6, (some .int)),
  (yX9_middle, cX9_middle, 3, (some .int)),
  (yX9_ranks, cX9_ranks, 6, (some .int)),
  (yX9_pairs, cX9_pairs, 7, (some .int)),
  (yX9_weighed, cX9_weighed, 5, (some .int)),
  (yX9_worthOf, cX9_worthOf, 5, (some .int)),
  (yX9_lay, cX9_lay, 4, none),
  (yX9_by, cX9_by, 6, (some .int)),
  (yX9_placeOf, cX9_placeOf, 5, (some .int)),
  (yX9_firsts, cX9_firsts, 4, (some .int)),
  (yX9_worth, cX9_worth, 4, (some .int)),
  (yX9_place, cX9_place, 3, (some .int)),
  (yX9_order, cX9_order, 7, (some .int)),
  (yX9_first, cX9_first, 2, (some .int)),
  (yX9_apart, cX9_apart, 7, (some .int)),
  (yX9_give, cX9_give, 5, none),
  (yX9_findBest, cX9_findBest, 9, (some .int)),
  (yX9_could, cX9_could, 4, (some .int)),
  (yX9_best, cX9_best, 4, (some .int)),
  (yX9_isBent, cX9_isBent, 6, (some .boolean)),
  (yX9_bends, cX9_bends, 3, (some .int)),
  (yX9_allBent, cX9_allBent, 4, (some .int)),
  (yX9_bent, cX9_bent, 2, (some .int)),
  (yX9_many, cX9_many, 3, (some .int)),
  (yX9_strike, cX9_strike, 5, (some .int)),
  (yX9_move, cX9_move, 6, (some .int)),
  (yX9_placeBy, cX9_placeBy, 6, (some .int)),
  (yX9_bloc, cX9_bloc, 4, (some .int)),
  (yX9_few, cX9_few, 7, (some .int)),
  (yX9_drawn, cX9_drawn, 9, (some .int)),
  (yX9_leftOut, cX9_leftOut, 5, (some .int)),
  (yX9_isTurned, cX9_isTurned, 9, (some .boolean)),
  (yX9_turns, cX9_turns, 5, (some .int)),
  (yX9_thirds, cX9_thirds, 8, (some .int)),
  (yX9_keep, cX9_keep, 2, (some .int)),
  (yX9_forget, cX9_forget, 2, (some .int)),
  (yX9_stood, cX9_stood, 3, (some .boolean)),
  (yX9_leanIn, cX9_leanIn, 8, (some .int)),
  (yX9_leanOf, cX9_leanOf, 4, (some .int)),
  (yX9_lean, cX9_lean, 2, (some .int)),
  (yX9_seldom, cX9_seldom, 8, (some .int)),
  (yX9_leaner, cX9_leaner, 3, (some .int)),
  (yX9_again, cX9_again, 3, (some .int)),
  (yX9_mind, cX9_mind, 4, none),
  (yX9_leastOf, cX9_leastOf, 7, (some .int)),
  (yX9_isAtRest, cX9_isAtRest, 5, (some .boolean)),
  (yX9_minded, cX9_minded, 4, (some .int)),
  (yX9_rest, cX9_rest, 3, (some .int)),
  (yX9_rests, cX9_rests, 7, (some .int)),
  (yX9_count, cX9_count, 4, (some .int)),
  (yL_law, cL_law, 4, (some .boolean))]
noncomputable def q_mi (k : Nat) : q_MI := q_mis.getD k (yL_law, cL_law, 4, none)
noncomputable def q_nus : List (List Nat) := [[2, 0, 1, 1, 20, 3, 39, 81, 57, 80, 9999],
  [1, 0, 3, 0, 0, 0, 0, 233, 57, 231, 232],
  [1, 0, 2, 1, 26, 0, 0, 528, 57, 526, 527],
  [1, 0, 1, 0, 0, 0, 0, 371, 57, 369, 370],
  [1, 0, 1, 0, 0, 0, 0, 432, 57, 430, 431],
  [1, 0, 1, 0, 0, 0, 0, 272, 57, 270, 271],
  [1, 0, 1, 0, 0, 0, 0, 630, 57, 628, 629],
  [1, 0, 1, 0, 0, 0, 0, 316, 57, 314, 315],
  [1, 0, 2, 0, 0, 0, 0, 284, 57, 282, 283],
  [1, 0, 2, 0, 0, 0, 0, 280, 57, 278, 279],
  [1, 0, 3, 0, 0, 0, 0, 304, 57, 302, 303],
  [1, 0, 4, 0, 0, 0, 0, 308, 57, 306, 307],
  [1, 0, 2, 1, 22, 0, 0, 320, 57, 318, 319],
  [1, 0, 3, 1, 23, 0, 0, 325, 57, 323, 324],
  [1, 0, 2, 0, 0, 0, 0, 334, 57, 332, 333],
  [1, 0, 1, 1, 20, 0, 0, 650, 57, 648, 649],
  [1, 0, 3, 0, 0, 0, 0, 338, 57, 336, 337],
  [1, 0, 2, 1, 20, 0, 0, 655, 57, 653, 654],
  [1, 0, 2, 0, 0, 0, 0, 705, 57, 703, 704],
  [1, 0, 2, 0, 0, 0, 0, 775, 57, 773, 774],
  [1, 0, 3, 0, 0, 0, 0, 591, 57, 589, 590],
  [1, 0, 3, 0, 0, 0, 0, 292, 57, 290, 291],
  [1, 0, 3, 0, 0, 0, 0, 288, 57, 286, 287],
  [1, 0, 3, 1, 23, 0, 0, 638, 57, 636, 637],
  [1, 0, 2, 1, 23, 0, 0, 757, 57, 755, 756],
  [0, 99, 1, 0, 0, 0, 0, 610, 67, 9999, 609],
  [1, 0, 3, 1, 22, 0, 0, 715, 57, 714, 20],
  [1, 0, 3, 2, 46, 0, 0, 709, 57, 707, 708],
  [2, 1, 1, 1, 20, 1, 512, 224, 64, 223, 9999],
  [1, 6, 3, 0, 0, 0, 0, 484, 60, 482, 483],
  [1, 6, 3, 1, 22, 0, 0, 496, 60, 494, 495],
  [1, 6, 2, 2, 45, 0, 0, 492, 60, 490, 491],
  [1, 1, 4, 3, 68, 0, 0, 770, 64, 768, 769],
  [1, 1, 4, 0, 0, 0, 0, 790, 64, 789, 24],
  [1, 1, 3, 1, 23, 0, 0, 783, 64, 781, 782],
  [2, 2, 1, 2, 40, 33, 368, 208, 63, 207, 9999],
  [1, 2, 1, 0, 0, 0, 0, 741, 63, 739, 740],
  [1, 2, 1, 0, 0, 0, 0, 679, 63, 677, 678],
  [1, 2, 2, 2, 47, 0, 0, 683, 63, 681, 682],
  [1, 2, 1, 0, 0, 0, 0, 692, 63, 690, 691],
  [1, 2, 2, 0, 0, 0, 0, 749, 63, 747, 748],
  [1, 2, 2, 3, 71, 0, 0, 700, 63, 698, 699],
  [1, 2, 3, 1, 21, 0, 0, 729, 63, 728, 21],
  [1, 2, 3, 3, 71, 0, 0, 733, 63, 732, 22],
  [1, 2, 2, 4, 95, 0, 0, 724, 63, 722, 723],
  [2, 4, 1, 1, 20, 1, 7, 149, 61, 148, 9999],
  [2, 3, 1, 2, 40, 10, 276, 172, 62, 171, 9999],
  [1, 5, 1, 0, 0, 0, 0, 407, 59, 405, 406],
  [1, 5, 2, 0, 0, 0, 0, 419, 59, 417, 418],
  [0, 8, 1, 0, 0, 0, 0, 464, 56, 9999, 463],
  [1, 4, 3, 1, 22, 0, 0, 460, 61, 458, 459],
  [0, 3, 3, 0, 0, 0, 0, 543, 62, 9999, 542],
  [1, 4, 4, 1, 22, 0, 0, 472, 61, 470, 471],
  [0, 3, 4, 0, 0, 0, 0, 547, 62, 9999, 546],
  [1, 3, 3, 2, 47, 0, 0, 539, 62, 538, 10],
  [1, 5, 2, 0, 0, 0, 0, 441, 59, 439, 440],
  [1, 4, 3, 1, 22, 0, 0, 445, 61, 444, 5],
  [1, 4, 3, 0, 0, 0, 0, 452, 61, 451, 6],
  [1, 4, 2, 0, 0, 0, 0, 456, 61, 455, 7],
  [1, 4, 3, 2, 47, 0, 0, 468, 61, 467, 8],
  [1, 5, 3, 0, 0, 0, 0, 480, 59, 478, 479],
  [1, 4, 5, 1, 22, 0, 0, 476, 61, 475, 9],
  [1, 4, 5, 3, 71, 0, 0, 436, 61, 434, 435],
  [1, 3, 4, 4, 95, 0, 0, 524, 62, 522, 523],
  [1, 3, 2, 0, 0, 0, 0, 559, 62, 558, 11],
  [1, 3, 3, 1, 23, 0, 0, 567, 62, 566, 13],
  [1, 3, 2, 2, 48, 0, 0, 563, 62, 562, 12],
  [1, 3, 1, 0, 0, 0, 0, 571, 62, 570, 14],
  [1, 3, 3, 3, 73, 0, 0, 554, 62, 552, 553],
  [1, 3, 3, 3, 73, 0, 0, 575, 62, 573, 574],
  [2, 5, 1, 1, 20, 3, 27, 121, 59, 120, 9999],
  [1, 5, 2, 0, 0, 0, 0, 415, 59, 413, 414],
  [1, 5, 2, 0, 0, 0, 0, 607, 59, 605, 606],
  [1, 7, 2, 0, 0, 0, 0, 383, 58, 381, 382],
  [0, 5, 1, 0, 0, 0, 0, 386, 59, 9999, 385],
  [1, 5, 2, 1, 21, 0, 0, 390, 59, 389, 2],
  [1, 5, 3, 1, 21, 0, 0, 394, 59, 393, 3],
  [1, 5, 3, 2, 45, 0, 0, 379, 59, 378, 1],
  [1, 7, 1, 0, 0, 0, 0, 350, 58, 348, 349],
  [1, 5, 3, 3, 67, 0, 0, 375, 59, 373, 374],
  [2, 6, 1, 2, 40, 3, 20, 143, 60, 142, 9999],
  [1, 6, 3, 4, 95, 0, 0, 427, 60, 425, 426],
  [1, 6, 1, 3, 68, 0, 0, 510, 60, 508, 509],
  [2, 7, 1, 1, 20, 1, 16, 107, 58, 106, 9999],
  [1, 7, 1, 0, 0, 0, 0, 363, 58, 361, 362],
  [1, 7, 3, 0, 0, 0, 0, 354, 58, 352, 353],
  [2, 8, 1, 3, 61, 82, 1454, 73, 56, 72, 9999],
  [1, 8, 3, 1, 23, 0, 0, 268, 56, 266, 267],
  [1, 8, 4, 1, 23, 0, 0, 276, 56, 274, 275],
  [1, 8, 2, 0, 0, 0, 0, 300, 56, 299, 0],
  [1, 8, 4, 1, 23, 0, 0, 296, 56, 294, 295],
  [1, 8, 3, 2, 47, 0, 0, 312, 56, 310, 311],
  [1, 8, 3, 1, 22, 0, 0, 330, 56, 328, 329],
  [1, 8, 3, 1, 22, 0, 0, 342, 56, 340, 341],
  [1, 8, 3, 1, 24, 0, 0, 346, 56, 344, 345],
  [1, 8, 1, 1, 21, 0, 0, 359, 56, 357, 358],
  [1, 8, 1, 4, 89, 0, 0, 367, 56, 365, 366],
  [1, 8, 2, 0, 0, 0, 0, 403, 56, 402, 4],
  [1, 8, 2, 4, 89, 0, 0, 399, 56, 397, 398],
  [1, 8, 3, 1, 21, 0, 0, 411, 56, 409, 410],
  [1, 8, 4, 5, 119, 0, 0, 423, 56, 421, 422],
  [1, 8, 3, 5, 119, 0, 0, 488, 56, 486, 487],
  [1, 8, 3, 5, 119, 0, 0, 501, 56, 499, 500],
  [1, 8, 2, 5, 119, 0, 0, 506, 56, 504, 505],
  [1, 8, 3, 5, 119, 0, 0, 515, 56, 513, 514],
  [1, 8, 4, 5, 122, 0, 0, 520, 56, 518, 519],
  [1, 8, 4, 5, 122, 0, 0, 579, 56, 577, 578],
  [1, 8, 2, 4, 100, 0, 0, 587, 56, 586, 15],
  [1, 8, 3, 5, 123, 0, 0, 583, 56, 581, 582],
  [1, 8, 2, 5, 123, 0, 0, 599, 56, 598, 16],
  [1, 8, 2, 6, 146, 0, 0, 595, 56, 593, 594],
  [1, 8, 1, 6, 146, 0, 0, 603, 56, 601, 602],
  [1, 8, 5, 5, 119, 0, 0, 617, 56, 615, 616],
  [1, 8, 2, 1, 20, 0, 0, 626, 56, 625, 17],
  [1, 8, 4, 5, 119, 0, 0, 634, 56, 633, 18],
  [1, 8, 4, 6, 142, 0, 0, 622, 56, 620, 621],
  [1, 8, 4, 6, 142, 0, 0, 642, 56, 640, 641],
  [1, 8, 4, 5, 119, 0, 0, 646, 56, 644, 645],
  [1, 8, 2, 5, 119, 0, 0, 659, 56, 657, 658],
  [1, 8, 5, 5, 119, 0, 0, 667, 56, 666, 19],
  [1, 8, 5, 6, 145, 0, 0, 663, 56, 661, 662],
  [1, 8, 2, 6, 145, 0, 0, 671, 56, 669, 670],
  [1, 8, 1, 3, 68, 0, 0, 675, 56, 673, 674],
  [1, 8, 1, 1, 21, 0, 0, 688, 56, 686, 687],
  [1, 8, 2, 4, 94, 0, 0, 696, 56, 694, 695],
  [1, 8, 2, 5, 119, 0, 0, 720, 56, 718, 719],
  [1, 8, 1, 4, 94, 0, 0, 737, 56, 735, 736],
  [1, 8, 2, 2, 47, 0, 0, 745, 56, 743, 744],
  [1, 8, 4, 5, 119, 0, 0, 753, 56, 751, 752],
  [1, 8, 3, 5, 119, 0, 0, 766, 56, 765, 23],
  [1, 8, 3, 6, 141, 0, 0, 762, 56, 760, 761],
  [1, 8, 3, 6, 141, 0, 0, 794, 56, 792, 793],
  [1, 8, 2, 2, 40, 0, 0, 798, 56, 796, 797],
  [2, 9, 1, 1, 20, 23, 643, 803, 65, 802, 9999],
  [0, 9, 3, 0, 0, 0, 0, 900, 65, 9999, 899],
  [1, 9, 2, 1, 25, 0, 0, 913, 65, 912, 26],
  [1, 9, 2, 1, 25, 0, 0, 909, 65, 908, 25],
  [0, 9, 1, 1, 25, 0, 0, 964, 65, 9999, 963],
  [1, 9, 2, 1, 25, 0, 0, 1088, 65, 1087, 46],
  [1, 9, 1, 0, 0, 0, 0, 927, 65, 926, 27],
  [1, 9, 3, 1, 25, 0, 0, 896, 65, 894, 895],
  [1, 9, 4, 2, 46, 0, 0, 905, 65, 903, 904],
  [1, 9, 4, 2, 46, 0, 0, 918, 65, 916, 917],
  [1, 9, 3, 2, 46, 0, 0, 923, 65, 921, 922],
  [1, 9, 3, 2, 46, 0, 0, 931, 65, 929, 930],
  [1, 9, 3, 2, 46, 0, 0, 935, 65, 933, 934],
  [1, 9, 3, 1, 25, 0, 0, 939, 65, 937, 938],
  [1, 9, 1, 0, 0, 0, 0, 944, 65, 942, 943],
  [1, 9, 3, 1, 25, 0, 0, 956, 65, 955, 29],
  [1, 9, 1, 2, 47, 0, 0, 952, 65, 951, 28],
  [1, 9, 1, 3, 72, 0, 0, 948, 65, 946, 947],
  [1, 9, 2, 3, 72, 0, 0, 961, 65, 959, 960],
  [1, 9, 3, 2, 45, 0, 0, 969, 65, 967, 968],
  [1, 9, 1, 0, 0, 0, 0, 977, 65, 976, 30],
  [1, 9, 2, 0, 0, 0, 0, 989, 65, 988, 33],
  [1, 9, 3, 1, 24, 0, 0, 985, 65, 984, 32],
  [1, 9, 2, 1, 24, 0, 0, 993, 65, 992, 34],
  [1, 9, 2, 0, 0, 0, 0, 997, 65, 996, 35],
  [1, 9, 2, 0, 0, 0, 0, 1001, 65, 1000, 36],
  [1, 9, 3, 0, 0, 0, 0, 1005, 65, 1004, 37],
  [1, 9, 4, 2, 49, 0, 0, 981, 65, 980, 31],
  [1, 9, 2, 3, 73, 0, 0, 1013, 65, 1012, 38],
  [1, 9, 4, 0, 0, 0, 0, 1021, 65, 1020, 40],
  [1, 9, 3, 1, 25, 0, 0, 1017, 65, 1016, 39],
  [1, 9, 2, 2, 49, 0, 0, 1033, 65, 1032, 41],
  [1, 9, 4, 3, 73, 0, 0, 973, 65, 971, 972],
  [1, 9, 3, 4, 96, 0, 0, 1009, 65, 1007, 1008],
  [1, 9, 3, 4, 96, 0, 0, 1025, 65, 1023, 1024],
  [1, 9, 2, 4, 96, 0, 0, 1029, 65, 1027, 1028],
  [1, 9, 3, 4, 96, 0, 0, 1037, 65, 1035, 1036],
  [1, 9, 3, 0, 0, 0, 0, 1049, 65, 1048, 43],
  [1, 9, 5, 4, 96, 0, 0, 1045, 65, 1044, 42],
  [1, 9, 4, 5, 124, 0, 0, 1041, 65, 1039, 1040],
  [1, 9, 4, 5, 124, 0, 0, 1053, 65, 1051, 1052],
  [1, 9, 3, 4, 96, 0, 0, 1061, 65, 1060, 44],
  [1, 9, 3, 5, 121, 0, 0, 1057, 65, 1055, 1056],
  [1, 9, 2, 5, 121, 0, 0, 1069, 65, 1068, 45],
  [1, 9, 2, 6, 144, 0, 0, 1065, 65, 1063, 1064],
  [0, 9, 1, 0, 0, 0, 0, 1076, 65, 9999, 1075],
  [1, 9, 1, 6, 144, 0, 0, 1073, 65, 1071, 1072],
  [1, 9, 5, 4, 96, 0, 0, 1080, 65, 1078, 1079],
  [1, 9, 4, 4, 96, 0, 0, 1092, 65, 1091, 47],
  [1, 9, 4, 5, 121, 0, 0, 1084, 65, 1082, 1083],
  [1, 9, 4, 5, 121, 0, 0, 1096, 65, 1094, 1095],
  [1, 9, 4, 4, 96, 0, 0, 1100, 65, 1098, 1099],
  [1, 9, 2, 4, 96, 0, 0, 1104, 65, 1102, 1103],
  [1, 9, 5, 4, 96, 0, 0, 1112, 65, 1111, 48],
  [1, 9, 5, 5, 124, 0, 0, 1108, 65, 1106, 1107],
  [1, 9, 2, 5, 124, 0, 0, 1116, 65, 1114, 1115],
  [1, 9, 1, 0, 0, 0, 0, 1120, 65, 1118, 1119],
  [1, 9, 1, 0, 0, 0, 0, 1124, 65, 1122, 1123],
  [1, 9, 3, 0, 0, 0, 0, 1141, 65, 1140, 51],
  [1, 9, 4, 1, 22, 0, 0, 1137, 65, 1136, 50],
  [1, 9, 2, 2, 49, 0, 0, 1133, 65, 1132, 49],
  [1, 9, 2, 3, 72, 0, 0, 1128, 65, 1126, 1127],
  [1, 9, 2, 3, 72, 0, 0, 1145, 65, 1143, 1144],
  [1, 9, 1, 3, 72, 0, 0, 1149, 65, 1147, 1148],
  [1, 9, 2, 1, 25, 0, 0, 1153, 65, 1151, 1152],
  [1, 9, 2, 1, 21, 0, 0, 1161, 65, 1160, 52],
  [1, 9, 4, 4, 96, 0, 0, 1173, 65, 1172, 54],
  [1, 9, 3, 5, 122, 0, 0, 1169, 65, 1168, 53],
  [1, 9, 4, 4, 96, 0, 0, 1157, 65, 1155, 1156],
  [1, 9, 3, 6, 146, 0, 0, 1165, 65, 1163, 1164],
  [1, 9, 3, 6, 146, 0, 0, 1177, 65, 1175, 1176],
  [1, 9, 2, 0, 0, 0, 0, 1181, 65, 1179, 1180],
  [0, 99, 1, 9, 346, 600000, 7302250, 9999, 55, 9999, 9999]]
noncomputable def q_nu (k j : Nat) : Nat := (q_nus.getD k []).getD j 0
end
section
/-! a shape: an array of ints (false) or booleans (true); an object with its references; an array of references to objects of a class -/
abbrev q_Sh : Type := (Bool × Nat) ⊕ ((Nat × List (Option (Option Nat))) ⊕ (Nat × List (Option Nat)))
/-- what there is: shapes, and the ints of each thing -/
abbrev q_Mm : Type := List q_Sh × (Nat → Nat → Int32)
/-- a frame: place in the code, locals, stack, cells and slots made -/
abbrev q_Fr : Type := Nat × List (Option Value) × List Value × Nat × Nat
abbrev q_X : Type := Option (Nat × (Nat → Int32))
abbrev q_Out : Type := (q_Fr × q_Mm) ⊕ (Option Value ⊕ (Nat × List Value × q_Fr))
def q_up (M : Nat → Nat → Int32) (i : Nat) (f : Nat → Int32) : Nat → Nat → Int32 := fun a => if a = i then f else M a
def q_in (i : Int32) (n : Nat) : Bool := !(decide (i < 0)) && Nat.blt i.toNatClampNeg n
def q_cs (l : List Value) : Nat := (l.map fun v => v.category).sum
def q_cmp (c : ClassFile.Cond) (x y : Int32) : Bool := match c with
  | .eq => decide (x = y)
  | .ne => !decide (x = y)
  | .lt => decide (x < y)
  | .ge => decide (y ≤ x)
  | .gt => decide (y < x)
  | .le => decide (x ≤ y)
def q_bin (f : Int32 → Int32 → Int32) (st : List Value) : Option (List Value) := match st with
  | .int y :: .int x :: r => some (.int (f x y) :: r)
  | _ => none
def q_binL (f : Int64 → Int64 → Int64) (st : List Value) : Option (List Value) := match st with
  | .long y :: .long x :: r => some (.long (f x y) :: r)
  | _ => none
def q_shL (f : Int64 → Int32 → Int64) (st : List Value) : Option (List Value) := match st with
  | .int y :: .long x :: r => some (.long (f x y) :: r)
  | _ => none
def q_ck (b : Bool) (r : Option (List Value)) : Option (List Value) := bif b then r else none
/-- what does nothing but to the stack -/
def q_sop (ins : Instr) (a : Nat) (st : List Value) : Option (List Value) := match ins with
  | .iconst n => some (.int (Int32.ofInt n) :: st)
  | .bipush n => some (.int (Int8.ofInt n).toInt32 :: st)
  | .sipush n => some (.int (Int16.ofInt n).toInt32 :: st)
  | .lconst n => some (.long (Int64.ofNat n.val) :: st)
  | .ldc_w _ => some (.int (Int32.ofNat a) :: st)
  | .ldc2_w _ => some (.long (Int64.ofNat a) :: st)
  | .iadd => q_bin (fun x y => x + y) st
  | .isub => q_bin (fun x y => x - y) st
  | .imul => q_bin (fun x y => x * y) st
  | .idiv => match st with
    | .int y :: .int x :: r => q_ck (!decide (y = 0)) (some (.int (x / y) :: r))
    | _ => none
  | .irem => match st with
    | .int y :: .int x :: r => q_ck (!decide (y = 0)) (some (.int (x - x / y * y) :: r))
    | _ => none
  | .iand => q_bin (fun x y => x &&& y) st
  | .ior => q_bin (fun x y => x ||| y) st
  | .ixor => q_bin (fun x y => x ^^^ y) st
  | .ishl => q_bin (fun x y => x <<< (y &&& 31)) st
  | .ishr => q_bin (fun x y => x >>> (y &&& 31)) st
  | .iushr => q_bin (fun x y => (x.toUInt32 >>> (y.toUInt32 &&& Int32.toUInt32 31)).toInt32) st
  | .land => q_binL (fun x y => x &&& y) st
  | .lor => q_binL (fun x y => x ||| y) st
  | .lshl => q_shL (fun x y => x <<< (y.toInt64 &&& 63)) st
  | .lshr => q_shL (fun x y => x >>> (y.toInt64 &&& 63)) st
  | .lushr => q_shL (fun x y => (x.toUInt64 >>> (y.toInt64.toUInt64 &&& Int64.toUInt64 63)).toInt64) st
  | .lcmp => match st with
    | .long y :: .long x :: r => some (.int (lg_cmp x y) :: r)
    | _ => none
  | .i2l => match st with
    | .int x :: r => some (.long x.toInt64 :: r)
    | _ => none
  | .l2i => match st with
    | .long x :: r => some (.int x.toInt32 :: r)
    | _ => none
  | .dup => match st with
    | v :: r => q_ck (Nat.beq v.category 1) (some (v :: v :: r))
    | _ => none
  | .dup2 => match st with
    | v :: w :: r => q_ck (Nat.beq v.category 1 && Nat.beq w.category 1) (some (v :: w :: v :: w :: r))
    | _ => none
  | .pop => match st with
    | v :: r => q_ck (Nat.beq v.category 1) (some r)
    | _ => none
  | _ => none
def q_ty (v : Value) : Nat := match v with
  | .int _ => 0
  | .long _ => 1
  | .ref _ => 2
  | .retAddr _ => 2
  | _ => 3
/-- the frame that comes next, with this stack -/
def q_nx (fr : q_Fr) (st : List Value) : q_Fr := (fr.1 + 1, fr.2.1, st, fr.2.2.2)
def q_to (fr : q_Fr) (t : Nat) (st : List Value) : q_Fr := (t, fr.2.1, st, fr.2.2.2)
def q_go (fr : q_Fr) (m : q_Mm) : Option q_Out := some (.inl (fr, m))
def q_ld (ty n : Nat) (fr : q_Fr) (m : q_Mm) : Option q_Out := match fr.2.1[n]? with
  | some (some v) => bif Nat.beq (q_ty v) ty then q_go (q_nx fr (v :: fr.2.2.1)) m else none
  | _ => none
/-- no long lies just below -/
def q_okst (al : List (Option Value)) (n : Nat) : Bool := match n with
  | 0 => true
  | j + 1 => match al[j]? with
    | some (some v) => Nat.beq v.category 1
    | _ => true
def q_sto (ty n : Nat) (fr : q_Fr) (m : q_Mm) : Option q_Out := match fr.2.2.1 with
  | v :: r => bif Nat.beq (q_ty v) ty && (q_okst fr.2.1 n && Nat.blt n fr.2.1.length) then q_go (fr.1 + 1, fr.2.1.set n (some v), r, fr.2.2.2) m else none
  | _ => none
def q_inc (n : Nat) (d : Int) (fr : q_Fr) (m : q_Mm) : Option q_Out := match fr.2.1[n]? with
  | some (some (.int x)) => bif q_okst fr.2.1 n && Nat.blt n fr.2.1.length then q_go (fr.1 + 1, fr.2.1.set n (some (.int (x + Int32.ofInt d))), fr.2.2.1, fr.2.2.2) m else none
  | _ => none
def q_fv (M : Nat → Nat → Int32) (id b : Nat) (o : Option (Option Nat)) : Value := match o with
  | none => .int (M id b)
  | some none => .null
  | some (some q) => .ref q
def q_get (ci b : Nat) (fr : q_Fr) (m : q_Mm) : Option q_Out := match fr.2.2.1 with
  | .ref id :: r => match m.1[id]? with
    | some (.inr (.inl (cj, fs))) => bif Nat.beq ci cj then (match fs[b]? with
      | some o => q_go (q_nx fr (q_fv m.2 id b o :: r)) m
      | none => none) else none
    | _ => none
  | _ => none
def q_put (ci b d : Nat) (fr : q_Fr) (m : q_Mm) : Option q_Out := match fr.2.2.1 with
  | v :: .ref id :: r => match m.1[id]? with
    | some (.inr (.inl (cj, fs))) => bif Nat.beq ci cj then (match fs[b]?, v with
      | some none, .int x => bif Nat.beq d 0 then q_go (q_nx fr r) (m.1, q_up m.2 id (upd (m.2 id) b x)) else none
      | some (some _), .ref q => bif Nat.beq d 1 then q_go (q_nx fr r) (m.1.set id (.inr (.inl (cj, fs.set b (some (some q))))), m.2) else none
      | _, _ => none) else none
    | _ => none
  | _ => none
def q_ald (X : q_X) (bo : Bool) (fr : q_Fr) (m : q_Mm) : Option q_Out := match fr.2.2.1 with
  | .int i :: .ref id :: r => match m.1[id]? with
    | some (.inl (bb, n)) => bif (bb == bo) && q_in i n then q_go (q_nx fr (.int (m.2 id i.toNatClampNeg) :: r)) m else none
    | _ => none
  | .int i :: .retAddr _ :: r => match X with
    | some (n, xs) => bif (bo == false) && q_in i n then q_go (q_nx fr (.int (xs i.toNatClampNeg) :: r)) m else none
    | none => none
  | _ => none
def q_ast (bo : Bool) (fr : q_Fr) (m : q_Mm) : Option q_Out := match fr.2.2.1 with
  | .int x :: .int i :: .ref id :: r => match m.1[id]? with
    | some (.inl (bb, n)) => bif (bb == bo) && q_in i n then q_go (q_nx fr r) (m.1, q_up m.2 id (upd (m.2 id) i.toNatClampNeg (bif bo then vp_nar .boolean x else x))) else none
    | _ => none
  | _ => none
def q_ra (o : Option Nat) : Value := match o with
  | some q => .ref q
  | none => .null
def q_qld (fr : q_Fr) (m : q_Mm) : Option q_Out := match fr.2.2.1 with
  | .int i :: .ref id :: r => match m.1[id]? with
    | some (.inr (.inr (ci, rs))) => bif (Nat.beq ci 0 || Nat.beq ci 5) && q_in i rs.length then q_go (q_nx fr (q_ra (rs.getD i.toNatClampNeg none) :: r)) m else none
    | _ => none
  | _ => none
def q_qst (fr : q_Fr) (m : q_Mm) : Option q_Out := match fr.2.2.1 with
  | .ref v :: .int i :: .ref id :: r => match m.1[id]?, m.1[v]? with
    | some (.inr (.inr (ci, rs))), some (.inr (.inl (cj, _))) => bif (Nat.beq ci 0 || Nat.beq ci 5) && (Nat.beq ci cj && q_in i rs.length) then q_go (q_nx fr r) (m.1.set id (.inr (.inr (ci, rs.set i.toNatClampNeg (some v)))), m.2) else none
    | _, _ => none
  | _ => none
def q_len (X : q_X) (fr : q_Fr) (m : q_Mm) : Option q_Out := match fr.2.2.1 with
  | .ref id :: r => match m.1[id]? with
    | some (.inl (_, n)) => q_go (q_nx fr (.int (Int32.ofNat n) :: r)) m
    | _ => none
  | .retAddr _ :: r => match X with
    | some (n, _) => q_go (q_nx fr (.int (Int32.ofNat n) :: r)) m
    | none => none
  | _ => none
/-- a new object's references -/
noncomputable def q_born (ci : Nat) : List (Option (Option Nat)) := match vwCl[ci]? with
  | some (_, T, N) => (List.range N).map fun k => match parseFieldDescriptor (T k).2.2.1 with
    | some .int => none
    | _ => some none
  | none => []
noncomputable def q_mc (k : Nat) : Nat := q_nu k 5
noncomputable def q_ms (k : Nat) : Nat := q_nu k 6
/-- a new thing of so many slots -/
def q_mk (k2 : Nat × Nat) (sh : q_Sh) (w : Nat) (fr : q_Fr) (r : List Value) (m : q_Mm) : Option q_Out :=
  bif Nat.ble (fr.2.2.2.1 + 1) k2.1 && Nat.ble (fr.2.2.2.2 + w) k2.2 then q_go (fr.1 + 1, fr.2.1, .ref m.1.length :: r, fr.2.2.2.1 + 1, fr.2.2.2.2 + w) (m.1 ++ [sh], q_up m.2 m.1.length (fun _ => 0)) else none
def q_nar (k2 : Nat × Nat) (a : Nat) (fr : q_Fr) (m : q_Mm) : Option q_Out := match fr.2.2.1 with
  | .int n :: r => bif !(decide (n < 0)) && Nat.ble n.toNatClampNeg 100000 then q_mk k2 (.inl (Nat.beq a 1, n.toNatClampNeg)) n.toNatClampNeg fr r m else none
  | _ => none
def q_nqr (k2 : Nat × Nat) (ci : Nat) (fr : q_Fr) (m : q_Mm) : Option q_Out := match fr.2.2.1 with
  | .int n :: r => bif !(decide (n < 0)) && Nat.ble n.toNatClampNeg 100000 then q_mk k2 (.inr (.inr (ci, List.replicate n.toNatClampNeg none))) n.toNatClampNeg fr r m else none
  | _ => none
/-- the receiver is of that class -/
def q_rcv (ci : Nat) (as : List Value) (m : q_Mm) : Bool := match as with
  | .ref id :: _ => match m.1[id]? with
    | some (.inr (.inl (cj, _))) => Nat.beq ci cj
    | _ => false
  | _ => false
def q_isr (as : List Value) : Bool := match as with
  | .ref _ :: _ => true
  | _ => false
def q_pre (kind ci : Nat) (as : List Value) (m : q_Mm) : Bool := bif Nat.beq kind 0 then q_rcv ci as m else bif Nat.beq kind 2 || Nat.beq kind 5 then q_isr as else true
def q_copy (fr : q_Fr) (m : q_Mm) : Option q_Out := match fr.2.2.1 with
  | .int n :: .int dp :: .ref d :: .int sp :: .ref s :: r => match m.1[s]?, m.1[d]? with
    | some (.inl (false, ns)), some (.inl (false, nd)) =>
      bif (!(decide (sp < 0)) && (!(decide (dp < 0)) && !(decide (n < 0)))) && (Nat.ble (sp.toNatClampNeg + n.toNatClampNeg) ns && (Nat.ble (dp.toNatClampNeg + n.toNatClampNeg) nd && Nat.ble (q_cs r) 8)) then
        q_go (q_nx fr r) (m.1, q_up m.2 d (va_cpy (m.2 s) (m.2 d) sp.toNatClampNeg dp.toNatClampNeg n.toNatClampNeg)) else none
    | _, _ => none
  | _ => none
def q_lay (l : List Value) : List (Option Value) := match l with
  | [] => []
  | v :: r => bif Nat.beq v.category 2 then some v :: none :: q_lay r else some v :: q_lay r
noncomputable def q_inv (k : Nat) (a b c : Nat) (fr : q_Fr) (m : q_Mm) : Option q_Out :=
  bif Nat.ble b fr.2.2.1.length && (Nat.ble (q_cs (fr.2.2.1.drop b)) 8 && (Nat.ble (q_lay (fr.2.2.1.take b).reverse).length (q_mi a).2.2.1 && (q_pre c (q_nu a 1) (fr.2.2.1.take b).reverse m && (Nat.ble (fr.2.2.2.1 + q_mc a) (q_mc k) && Nat.ble (fr.2.2.2.2 + q_ms a) (q_ms k))))) then
    some (.inr (.inr (a, (fr.2.2.1.take b).reverse, (fr.1 + 1, fr.2.1, fr.2.2.1.drop b, fr.2.2.2.1 + q_mc a, fr.2.2.2.2 + q_ms a)))) else none
def q_obi (fr : q_Fr) (m : q_Mm) : Option q_Out := match fr.2.2.1 with
  | .ref _ :: r => bif Nat.ble (q_cs r) 8 then q_go (q_nx fr r) m else none
  | _ => none
/-- Math.min -/
def q_min (k2 : Nat × Nat) (fr : q_Fr) (m : q_Mm) : Option q_Out := match fr.2.2.1 with
  | .int y :: .int x :: r => bif Nat.ble (q_cs r) 8 && (Nat.ble fr.2.2.2.1 k2.1 && Nat.ble fr.2.2.2.2 k2.2) then q_go (q_nx fr (.int (if y < x then y else x) :: r)) m else none
  | _ => none
/-- a place in the code, by its byte -/
def q_at (cd : List q_Ent) (t : Int) : Option Nat := cd.findIdx? fun e => decide ((e.1 : Int) = t)
def q_swo (lo hi d : Int) (offs : Array Int) (x : Int32) : Option Int := bif decide (x.toInt < lo) || decide (hi < x.toInt) then some d else offs[(x.toInt - lo).toNat]?
def q_sw (cd : List q_Ent) (pc : Nat) (o : Option Int) (fr : q_Fr) (r : List Value) (m : q_Mm) : Option q_Out := match o with
  | some off => match q_at cd ((pc : Int) + off) with
    | some t => q_go (q_to fr t r) m
    | none => none
  | none => none
/-- an int that may be answered -/
def q_rok (rt : Option FieldType) (x : Int32) : Bool := match rt with
  | some .int => true
  | some .boolean => decide (x = 0) || decide (x = 1)
  | _ => false
noncomputable def q_ins (X : q_X) (k : Nat) (cd : List q_Ent) (pc : Nat) (ins : Instr) (a b c d : Nat) (fr : q_Fr) (m : q_Mm) : Option q_Out := match ins with
  | .iload_n n => q_ld 0 n.val fr m
  | .iload n => q_ld 0 n fr m
  | .lload_n n => q_ld 1 n.val fr m
  | .lload n => q_ld 1 n fr m
  | .aload_n n => q_ld 2 n.val fr m
  | .istore_n n => q_sto 0 n.val fr m
  | .istore n => q_sto 0 n fr m
  | .astore_n n => q_sto 2 n.val fr m
  | .iinc n d => q_inc n d fr m
  | .getfield _ => q_get a b fr m
  | .putfield _ => q_put a b d fr m
  | .iaload => q_ald X false fr m
  | .baload => q_ald X true fr m
  | .iastore => q_ast false fr m
  | .bastore => q_ast true fr m
  | .aaload => q_qld fr m
  | .aastore => q_qst fr m
  | .arraylength => q_len X fr m
  | .new _ => q_mk (q_mc k, q_ms k) (.inr (.inl (a, q_born a))) (q_born a).length fr fr.2.2.1 m
  | .newarray _ => q_nar (q_mc k, q_ms k) a fr m
  | .anewarray _ => q_nqr (q_mc k, q_ms k) a fr m
  | .goto _ => q_go (q_to fr a fr.2.2.1) m
  | .ifCond c _ => match fr.2.2.1 with
    | .int x :: r => q_go (q_to fr (bif q_cmp c x 0 then a else fr.1 + 1) r) m
    | _ => none
  | .if_icmp c _ => match fr.2.2.1 with
    | .int y :: .int x :: r => q_go (q_to fr (bif q_cmp c x y then a else fr.1 + 1) r) m
    | _ => none
  | .tableswitch d lo hi offs => match fr.2.2.1 with
    | .int x :: r => q_sw cd pc (q_swo lo hi d offs x) fr r m
    | _ => none
  | .lookupswitch d ps => match fr.2.2.1 with
    | .int x :: r => q_sw cd pc (some (Op.lookupswitch.offset ps.toList d x.toInt)) fr r m
    | _ => none
  | .ireturn => match fr.2.2.1 with
    | [.int x] => bif q_rok (q_mi k).2.2.2 x && (Nat.ble fr.2.2.2.1 (q_mc k) && Nat.ble fr.2.2.2.2 (q_ms k)) then some (.inr (.inl (some (.int x)))) else none
    | _ => none
  | .areturn => match fr.2.2.1 with
    | [.ref q] => bif Nat.ble fr.2.2.2.1 (q_mc k) && Nat.ble fr.2.2.2.2 (q_ms k) then some (.inr (.inl (some (.ref q)))) else none
    | _ => none
  | .return_ => match fr.2.2.1 with
    | [] => bif Nat.ble fr.2.2.2.1 (q_mc k) && Nat.ble fr.2.2.2.2 (q_ms k) then some (.inr (.inl none)) else none
    | _ => none
  | .invokevirtual _ => bif Nat.beq c 0 then q_inv k a b c fr m else none
  | .invokestatic _ => bif Nat.beq c 7 then q_copy fr m else bif Nat.beq c 8 then q_min (q_mc k, q_ms k) fr m else bif Nat.beq c 1 || Nat.beq c 4 then q_inv k a b c fr m else none
  | .invokespecial _ => bif Nat.beq c 6 then q_obi fr m else bif Nat.beq c 2 || Nat.beq c 5 then q_inv k a b c fr m else none
  | i => match q_sop i a fr.2.2.1 with
    | some st => q_go (q_nx fr st) m
    | none => none
noncomputable def q_step (X : q_X) (k : Nat) (fr : q_Fr) (m : q_Mm) : Option q_Out := match (q_cd k)[fr.1]? with
  | some e => q_ins X k (q_cd k) e.1 e.2.2.1 e.2.2.2.1 e.2.2.2.2.1 e.2.2.2.2.2.1 e.2.2.2.2.2.2 fr m
  | none => none
noncomputable def q_ent (k : Nat) (as : List Value) : q_Fr := (0, q_lay as ++ List.replicate ((q_mi k).2.2.1 - (q_lay as).length) none, [], 0, 0)
def q_ret (v : Option Value) (fr : q_Fr) : q_Fr := (fr.1, fr.2.1, v.toList ++ fr.2.2.1, fr.2.2.2)
noncomputable def q_exec (n : Nat) (X : q_X) (k : Nat) (fr : q_Fr) (m : q_Mm) : Option (Option Value × q_Mm) := match n with
  | 0 => none
  | n + 1 => match q_step X k fr m with
    | none => none
    | some (.inl (fr', m')) => q_exec n X k fr' m'
    | some (.inr (.inl v)) => some (v, m)
    | some (.inr (.inr (k', as, fr'))) => match q_exec n none k' (q_ent k' as) m with
      | none => none
      | some (v, m') => q_exec n X k (q_ret v fr') m'
end
section
noncomputable def q_tb : List Cond := lw_tbl.filter goodWord
noncomputable def q_w (p : Nat) : Option Cond := lw_tbl[p]?
def q_nxt (cd : List q_Ent) (i p : Nat) : Bool := match cd[i + 1]? with
  | some e => Nat.beq e.1 p
  | none => false
def q_tgt (cd : List q_Ent) (a pc : Nat) (off : Int) : Bool := match cd[a]? with
  | some e => decide ((pc : Int) + off = (e.1 : Int))
  | none => false
noncomputable def q_okF (own : String) (idx a b c : Nat) : Bool := match vwCl[a]? with
  | some (_, T, N) => Nat.blt b N && decide (q_w c = some (.fieldLink own idx (T b).1 (T b).2.1 (T b).2.2.1))
  | none => false
noncomputable def q_okP (own : String) (init : Bool) (a b d : Nat) : Bool := match vwCl[a]? with
  | some (_, T, _) => ((T b).2.2.2 == false || (init && decide ((T b).1 = own))) && (match parseFieldDescriptor (T b).2.2.1 with
    | some .int => Nat.beq d 0
    | some (.object _) => Nat.beq d 1
    | some (.array _) => Nat.beq d 1
    | _ => false)
  | none => false
noncomputable def q_okA (own : String) (idx a c : Nat) : Bool := match vwCl[a]? with
  | some (C, _, _) => decide (q_w c = some (.classLink own idx C))
  | none => false
noncomputable def q_okR (k a b : Nat) : Bool := Nat.blt a 205 && (Nat.beq b (q_nu a 2) && (Nat.ble (q_nu a 3 + 1) (q_nu k 3) && Nat.ble (8 + ((q_mi a).2.2.1 + 11) + q_nu a 4) (q_nu k 4)))
noncomputable def q_okL (own : String) (idx a d : Nat) : Bool := decide (q_w d = some (.methodLink own idx (q_mi a).1))
noncomputable def q_okN (own : String) (idx a d : Nat) : Bool := decide (q_w d = some (.methodLinkNest own idx (q_mi a).1 "ThrownMarks"))
/-- what an instruction wants of the tables -/
noncomputable def q_okI (k : Nat) (own : String) (init : Bool) (cd : List q_Ent) (i pc len : Nat) (ins : Instr) (a b c d : Nat) : Bool := match ins with
  | .iload _ => Nat.beq len 2 && q_nxt cd i (pc + 2)
  | .lload _ => Nat.beq len 2 && q_nxt cd i (pc + 2)
  | .istore _ => Nat.beq len 2 && q_nxt cd i (pc + 2)
  | .bipush _ => Nat.beq len 2 && q_nxt cd i (pc + 2)
  | .sipush _ => Nat.beq len 3 && q_nxt cd i (pc + 3)
  | .iinc _ _ => Nat.beq len 3 && q_nxt cd i (pc + 3)
  | .ldc_w idx => Nat.beq len 3 && q_nxt cd i (pc + 3) && decide (q_w c = some (.constant own idx (Int32.ofNat a)))
  | .ldc2_w idx => Nat.beq len 3 && q_nxt cd i (pc + 3) && decide (q_w c = some (.constantLong own idx (Int64.ofNat a)))
  | .getfield idx => Nat.beq len 3 && q_nxt cd i (pc + 3) && q_okF own idx a b c
  | .putfield idx => Nat.beq len 3 && q_nxt cd i (pc + 3) && q_okF own idx a b c && q_okP own init a b d
  | .new idx => Nat.beq len 3 && q_nxt cd i (pc + 3) && q_okA own idx a c
  | .newarray t => Nat.beq len 2 && q_nxt cd i (pc + 2) && (match t with
    | .int => Nat.beq a 0
    | .boolean => Nat.beq a 1
    | _ => false)
  | .anewarray idx => Nat.beq len 3 && q_nxt cd i (pc + 3) && q_okA own idx a c && (Nat.beq a 0 || Nat.beq a 5)
  | .goto off => Nat.beq len 3 && q_tgt cd a pc off
  | .ifCond _ off => Nat.beq len 3 && q_nxt cd i (pc + 3) && q_tgt cd a pc off
  | .if_icmp _ off => Nat.beq len 3 && q_nxt cd i (pc + 3) && q_tgt cd a pc off
  | .tableswitch _ _ _ _ => true
  | .lookupswitch _ ps => (ps.toList.zip (ps.toList.drop 1)).all (fun (a, next) => a.1 < next.1)
  | .invokevirtual idx => Nat.beq len 3 && q_nxt cd i (pc + 3) && q_okR k a b && q_okL own idx a d && Nat.beq (q_nu a 0) 1
  | .invokestatic idx => Nat.beq len 3 && q_nxt cd i (pc + 3) && (bif Nat.beq c 7 then decide (q_w d = some (.methodLink own idx arraycopyName)) && Nat.ble 1 (q_nu k 3) && Nat.ble 26 (q_nu k 4) else bif Nat.beq c 8 then decide (q_w d = some (.methodLink own idx Lib.Math.min.name)) && Nat.ble 1 (q_nu k 3) && Nat.ble 21 (q_nu k 4) else q_okR k a b && Nat.beq (q_nu a 0) 0 && (bif Nat.beq c 1 then q_okL own idx a d else q_okN own idx a d))
  | .invokespecial idx => Nat.beq len 3 && q_nxt cd i (pc + 3) && (bif Nat.beq c 6 then decide (q_w d = some (.methodLink own idx objectInit)) && Nat.ble 1 (q_nu k 3) && Nat.ble 20 (q_nu k 4) else q_okR k a b && Nat.beq (q_nu a 0) 2 && (bif Nat.beq c 2 then q_okL own idx a d else q_okN own idx a d))
  | .ireturn => Nat.beq len 1 && (decide ((q_mi k).2.2.2 = some .int) || decide ((q_mi k).2.2.2 = some .boolean))
  | .areturn => Nat.beq len 1 && decide ((q_mi k).2.2.2 = some (.object "ThrownMarks$Card"))
  | .return_ => Nat.beq len 1 && decide ((q_mi k).2.2.2 = none)
  | _ => Nat.beq len 1 && q_nxt cd i (pc + 1)
noncomputable def q_okE (k : Nat) (cd : List q_Ent) (i : Nat) (e : q_Ent) : Bool :=
  decide (decode (q_mi k).2.1 e.1 = .ok (e.2.2.1, e.2.1)) && q_okI k (q_mi k).1.cls (decide ((q_mi k).1.name = "<init>")) cd i e.1 e.2.1 e.2.2.1 e.2.2.2.1 e.2.2.2.2.1 e.2.2.2.2.2.1 e.2.2.2.2.2.2
noncomputable def q_okCd (k : Nat) : Bool := match (q_cd k)[0]? with
  | some e => Nat.beq e.1 0 && (q_cd k).zipIdx.all fun q => q_okE k (q_cd k) q.2 q.1
  | none => false
noncomputable def q_okM (k : Nat) : Bool :=
  decide (q_w (q_nu k 7) = some (.code (q_mi k).1 (q_mi k).2.1 (q_mi k).2.2.1 (q_mi k).2.2.2)) && (decide (q_w (q_nu k 8) = some (.initialized (q_mi k).1.cls)) &&
  (decide ((q_mi k).1.cls ≠ "java/lang/invoke/MethodHandle" ∧ (q_mi k).1.cls ≠ "java/lang/invoke/VarHandle") && (plainName (q_mi k).1.cls &&
  (bif Nat.beq (q_nu k 0) 0 then decide (q_w (q_nu k 10) = some (.static (q_mi k).1)) && decide ((parseMethodDescriptor (q_mi k).1.desc).map (fun d => d.parameters.length) = some (q_nu k 2))
    else decide (q_w (q_nu k 9) = some (.instanceMethod (q_mi k).1)) && (Nat.blt 0 (q_nu k 2) && (decide ((parseMethodDescriptor (q_mi k).1.desc).map (fun d => d.parameters.length) = some (q_nu k 2 - 1)) && (bif Nat.beq (q_nu k 0) 1 then decide (q_w (q_nu k 10) = some (.selects (q_mi k).1.cls (q_mi k).1 (q_mi k).1)) && decide ((vwCl[q_nu k 1]?).map (fun q => q.1) = some (q_mi k).1.cls) else decide ((q_mi k).1.name = "<init>") && decide ((q_mi k).2.2.2 = none))))))))
end
section
set_option maxRecDepth 100000 in
theorem q_okM_0 : q_okM 0 = true := by decide +kernel
set_option maxRecDepth 100000 in
theorem q_okM_1 : q_okM 1 = true := by decide +kernel
set_option maxRecDepth 100000 in
theorem q_okM_2 : q_okM 2 = true := by decide +kernel
set_option maxRecDepth 100000 in
theorem q_okM_3 : q_okM 3 = true := by decide +kernel
set_option maxRecDepth 100000 in
theorem q_okM_4 : q_okM 4 = true := by decide +kernel
set_option maxRecDepth 100000 in
theorem q_okM_5 : q_okM 5 = true := by decide +kernel
set_option maxRecDepth 100000 in
theorem q_okM_6 : q_okM 6 = true := by decide +kernel
set_option maxRecDepth 100000 in
theorem q_okM_7 : q_okM 7 = true := by decide +kernel
set_option maxRecDepth 100000 in
theorem q_okM_8 : q_okM 8 = true := by decide +kernel
set_option maxRecDepth 100000 in
theorem q_okM_9 : q_okM 9 = true := by decide +kernel
set_option maxRecDepth 100000 in
theorem q_okM_10 : q_okM 10 = true := by decide +kernel
set_option maxRecDepth 100000 in
theorem q_okM_11 : q_okM 11 = true := by decide +kernel
set_option maxRecDepth 100000 in
theorem q_okM_12 : q_okM 12 = true := by decide +kernel
set_option maxRecDepth 100000 in
theorem q_okM_13 : q_okM 13 = true := by decide +kernel
set_option maxRecDepth 100000 in
theorem q_okM_14 : q_okM 14 = true := by decide +kernel
set_option maxRecDepth 100000 in
theorem q_okM_15 : q_okM 15 = true := by decide +kernel
set_option maxRecDepth 100000 in
theorem q_okM_16 : q_okM 16 = true := by decide +kernel
set_option maxRecDepth 100000 in
theorem q_okM_17 : q_okM 17 = true := by decide +kernel
set_option maxRecDepth 100000 in
theorem q_okM_18 : q_okM 18 = true := by decide +kernel
set_option maxRecDepth 100000 in
theorem q_okM_19 : q_okM 19 = true := by decide +kernel
set_option maxRecDepth 100000 in
theorem q_okM_20 : q_okM 20 = true := by decide +kernel
set_option maxRecDepth 100000 in
theorem q_okM_21 : q_okM 21 = true := by decide +kernel
set_option maxRecDepth 100000 in
theorem q_okM_22 : q_okM 22 = true := by decide +kernel
set_option maxRecDepth 100000 in
theorem q_okM_23 : q_okM 23 = true := by decide +kernel
set_option maxRecDepth 100000 in
theorem q_okM_24 : q_okM 24 = true := by decide +kernel
set_option maxRecDepth 100000 in
theorem q_okM_25 : q_okM 25 = true := by decide +kernel
set_option maxRecDepth 100000 in
theorem q_okM_26 : q_okM 26 = true := by decide +kernel
set_option maxRecDepth 100000 in
theorem q_okM_27 : q_okM 27 = true := by decide +kernel
set_option maxRecDepth 100000 in
theorem q_okM_28 : q_okM 28 = true := by decide +kernel
set_option maxRecDepth 100000 in
theorem q_okM_29 : q_okM 29 = true := by decide +kernel
set_option maxRecDepth 100000 in
theorem q_okM_30 : q_okM 30 = true := by decide +kernel
set_option maxRecDepth 100000 in
theorem q_okM_31 : q_okM 31 = true := by decide +kernel
set_option maxRecDepth 100000 in
theorem q_okM_32 : q_okM 32 = true := by decide +kernel
set_option maxRecDepth 100000 in
theorem q_okM_33 : q_okM 33 = true := by decide +kernel
set_option maxRecDepth 100000 in
theorem q_okM_34 : q_okM 34 = true := by decide +kernel
set_option maxRecDepth 100000 in
theorem q_okM_35 : q_okM 35 = true := by decide +kernel
set_option maxRecDepth 100000 in
theorem q_okM_36 : q_okM 36 = true := by decide +kernel
set_option maxRecDepth 100000 in
theorem q_okM_37 : q_okM 37 = true := by decide +kernel
set_option maxRecDepth 100000 in
theorem q_okM_38 : q_okM 38 = true := by decide +kernel
set_option maxRecDepth 100000 in
theorem q_okM_39 : q_okM 39 = true := by decide +kernel
set_option maxRecDepth 100000 in
theorem q_okM_40 : q_okM 40 = true := by decide +kernel
set_option maxRecDepth 100000 in
theorem q_okM_41 : q_okM 41 = true := by decide +kernel
set_option maxRecDepth 100000 in
theorem q_okM_42 : q_okM 42 = true := by decide +kernel
set_option maxRecDepth 100000 in
theorem q_okM_43 : q_okM 43 = true := by decide +kernel
set_option maxRecDepth 100000 in
theorem q_okM_44 : q_okM 44 = true := by decide +kernel
set_option maxRecDepth 100000 in
theorem q_okM_45 : q_okM 45 = true := by decide +kernel
set_option maxRecDepth 100000 in
theorem q_okM_46 : q_okM 46 = true := by decide +kernel
set_option maxRecDepth 100000 in
theorem q_okM_47 : q_okM 47 = true := by decide +kernel
set_option maxRecDepth 100000 in
theorem q_okM_48 : q_okM 48 = true := by decide +kernel
set_option maxRecDepth 100000 in
theorem q_okM_49 : q_okM 49 = true := by decide +kernel
set_option maxRecDepth 100000 in
theorem q_okM_50 : q_okM 50 = true := by decide +kernel
set_option maxRecDepth 100000 in
theorem q_okM_51 : q_okM 51 = true := by decide +kernel
set_option maxRecDepth 100000 in
theorem q_okM_52 : q_okM 52 = true := by decide +kernel
set_option maxRecDepth 100000 in
theorem q_okM_53 : q_okM 53 = true := by decide +kernel
set_option maxRecDepth 100000 in
theorem q_okM_54 : q_okM 54 = true := by decide +kernel
set_option maxRecDepth 100000 in
theorem q_okM_55 : q_okM 55 = true := by decide +kernel
set_option maxRecDepth 100000 in
theorem q_okM_56 : q_okM 56 = true := by decide +kernel
set_option maxRecDepth 100000 in
theorem q_okM_57 : q_okM 57 = true := by decide +kernel
set_option maxRecDepth 100000 in
theorem q_okM_58 : q_okM 58 = true := by decide +kernel
set_option maxRecDepth 100000 in
theorem q_okM_59 : q_okM 59 = true := by decide +kernel
set_option maxRecDepth 100000 in
theorem q_okM_60 : q_okM 60 = true := by decide +kernel
set_option maxRecDepth 100000 in
theorem q_okM_61 : q_okM 61 = true := by decide +kernel
set_option maxRecDepth 100000 in
theorem q_okM_62 : q_okM 62 = true := by decide +kernel
set_option maxRecDepth 100000 in
theorem q_okM_63 : q_okM 63 = true := by decide +kernel
set_option maxRecDepth 100000 in
theorem q_okM_64 : q_okM 64 = true := by decide +kernel
set_option maxRecDepth 100000 in
theorem q_okM_65 : q_okM 65 = true := by decide +kernel
set_option maxRecDepth 100000 in
theorem q_okM_66 : q_okM 66 = true := by decide +kernel
set_option maxRecDepth 100000 in
theorem q_okM_67 : q_okM 67 = true := by decide +kernel
set_option maxRecDepth 100000 in
theorem q_okM_68 : q_okM 68 = true := by decide +kernel
set_option maxRecDepth 100000 in
theorem q_okM_69 : q_okM 69 = true := by decide +kernel
set_option maxRecDepth 100000 in
theorem q_okM_70 : q_okM 70 = true := by decide +kernel
set_option maxRecDepth 100000 in
theorem q_okM_71 : q_okM 71 = true := by decide +kernel
set_option maxRecDepth 100000 in
theorem q_okM_72 : q_okM 72 = true := by decide +kernel
set_option maxRecDepth 100000 in
theorem q_okM_73 : q_okM 73 = true := by decide +kernel
set_option maxRecDepth 100000 in
theorem q_okM_74 : q_okM 74 = true := by decide +kernel
set_option maxRecDepth 100000 in
theorem q_okM_75 : q_okM 75 = true := by decide +kernel
set_option maxRecDepth 100000 in
theorem q_okM_76 : q_okM 76 = true := by decide +kernel
set_option maxRecDepth 100000 in
theorem q_okM_77 : q_okM 77 = true := by decide +kernel
set_option maxRecDepth 100000 in
theorem q_okM_78 : q_okM 78 = true := by decide +kernel
set_option maxRecDepth 100000 in
theorem q_okM_79 : q_okM 79 = true := by decide +kernel
set_option maxRecDepth 100000 in
theorem q_okM_80 : q_okM 80 = true := by decide +kernel
set_option maxRecDepth 100000 in
theorem q_okM_81 : q_okM 81 = true := by decide +kernel
set_option maxRecDepth 100000 in
theorem q_okM_82 : q_okM 82 = true := by decide +kernel
set_option maxRecDepth 100000 in
theorem q_okM_83 : q_okM 83 = true := by decide +kernel
set_option maxRecDepth 100000 in
theorem q_okM_84 : q_okM 84 = true := by decide +kernel
set_option maxRecDepth 100000 in
theorem q_okM_85 : q_okM 85 = true := by decide +kernel
set_option maxRecDepth 100000 in
theorem q_okM_86 : q_okM 86 = true := by decide +kernel
set_option maxRecDepth 100000 in
theorem q_okM_87 : q_okM 87 = true := by decide +kernel
set_option maxRecDepth 100000 in
theorem q_okM_88 : q_okM 88 = true := by decide +kernel
set_option maxRecDepth 100000 in
theorem q_okM_89 : q_okM 89 = true := by decide +kernel
set_option maxRecDepth 100000 in
theorem q_okM_90 : q_okM 90 = true := by decide +kernel
set_option maxRecDepth 100000 in
theorem q_okM_91 : q_okM 91 = true := by decide +kernel
set_option maxRecDepth 100000 in
theorem q_okM_92 : q_okM 92 = true := by decide +kernel
set_option maxRecDepth 100000 in
theorem q_okM_93 : q_okM 93 = true := by decide +kernel
set_option maxRecDepth 100000 in
theorem q_okM_94 : q_okM 94 = true := by decide +kernel
set_option maxRecDepth 100000 in
theorem q_okM_95 : q_okM 95 = true := by decide +kernel
set_option maxRecDepth 100000 in
theorem q_okM_96 : q_okM 96 = true := by decide +kernel
set_option maxRecDepth 100000 in
theorem q_okM_97 : q_okM 97 = true := by decide +kernel
set_option maxRecDepth 100000 in
theorem q_okM_98 : q_okM 98 = true := by decide +kernel
set_option maxRecDepth 100000 in
theorem q_okM_99 : q_okM 99 = true := by decide +kernel
set_option maxRecDepth 100000 in
theorem q_okM_100 : q_okM 100 = true := by decide +kernel
set_option maxRecDepth 100000 in
theorem q_okM_101 : q_okM 101 = true := by decide +kernel
set_option maxRecDepth 100000 in
theorem q_okM_102 : q_okM 102 = true := by decide +kernel
set_option maxRecDepth 100000 in
theorem q_okM_103 : q_okM 103 = true := by decide +kernel
set_option maxRecDepth 100000 in
theorem q_okM_104 : q_okM 104 = true := by decide +kernel
set_option maxRecDepth 100000 in
theorem q_okM_105 : q_okM 105 = true := by decide +kernel
set_option maxRecDepth 100000 in
theorem q_okM_106 : q_okM 106 = true := by decide +kernel
set_option maxRecDepth 100000 in
theorem q_okM_107 : q_okM 107 = true := by decide +kernel
set_option maxRecDepth 100000 in
theorem q_okM_108 : q_okM 108 = true := by decide +kernel
set_option maxRecDepth 100000 in
theorem q_okM_109 : q_okM 109 = true := by decide +kernel
set_option maxRecDepth 100000 in
theorem q_okM_110 : q_okM 110 = true := by decide +kernel
set_option maxRecDepth 100000 in
theorem q_okM_111 : q_okM 111 = true := by decide +kernel
set_option maxRecDepth 100000 in
theorem q_okM_112 : q_okM 112 = true := by decide +kernel
set_option maxRecDepth 100000 in
theorem q_okM_113 : q_okM 113 = true := by decide +kernel
set_option maxRecDepth 100000 in
theorem q_okM_114 : q_okM 114 = true := by decide +kernel
set_option maxRecDepth 100000 in
theorem q_okM_115 : q_okM 115 = true := by decide +kernel
set_option maxRecDepth 100000 in
theorem q_okM_116 : q_okM 116 = true := by decide +kernel
set_option maxRecDepth 100000 in
theorem q_okM_117 : q_okM 117 = true := by decide +kernel
set_option maxRecDepth 100000 in
theorem q_okM_118 : q_okM 118 = true := by decide +kernel
set_option maxRecDepth 100000 in
theorem q_okM_119 : q_okM 119 = true := by decide +kernel
set_option maxRecDepth 100000 in
theorem q_okM_120 : q_okM 120 = true := by decide +kernel
set_option maxRecDepth 100000 in
theorem q_okM_121 : q_okM 121 = true := by decide +kernel
set_option maxRecDepth 100000 in
theorem q_okM_122 : q_okM 122 = true := by decide +kernel
set_option maxRecDepth 100000 in
theorem q_okM_123 : q_okM 123 = true := by decide +kernel
set_option maxRecDepth 100000 in
theorem q_okM_124 : q_okM 124 = true := by decide +kernel
set_option maxRecDepth 100000 in
theorem q_okM_125 : q_okM 125 = true := by decide +kernel
set_option maxRecDepth 100000 in
theorem q_okM_126 : q_okM 126 = true := by decide +kernel
set_option maxRecDepth 100000 in
theorem q_okM_127 : q_okM 127 = true := by decide +kernel
set_option maxRecDepth 100000 in
theorem q_okM_128 : q_okM 128 = true := by decide +kernel
set_option maxRecDepth 100000 in
theorem q_okM_129 : q_okM 129 = true := by decide +kernel
set_option maxRecDepth 100000 in
theorem q_okM_130 : q_okM 130 = true := by decide +kernel
set_option maxRecDepth 100000 in
theorem q_okM_131 : q_okM 131 = true := by decide +kernel
set_option maxRecDepth 100000 in
theorem q_okM_132 : q_okM 132 = true := by decide +kernel
set_option maxRecDepth 100000 in
theorem q_okM_133 : q_okM 133 = true := by decide +kernel
set_option maxRecDepth 100000 in
theorem q_okM_134 : q_okM 134 = true := by decide +kernel
set_option maxRecDepth 100000 in
theorem q_okM_135 : q_okM 135 = true := by decide +kernel
set_option maxRecDepth 100000 in
theorem q_okM_136 : q_okM 136 = true := by decide +kernel
set_option maxRecDepth 100000 in
theorem q_okM_137 : q_okM 137 = true := by decide +kernel
set_option maxRecDepth 100000 in
theorem q_okM_138 : q_okM 138 = true := by decide +kernel
set_option maxRecDepth 100000 in
theorem q_okM_139 : q_okM 139 = true := by decide +kernel
set_option maxRecDepth 100000 in
theorem q_okM_140 : q_okM 140 = true := by decide +kernel
set_option maxRecDepth 100000 in
theorem q_okM_141 : q_okM 141 = true := by decide +kernel
set_option maxRecDepth 100000 in
theorem q_okM_142 : q_okM 142 = true := by decide +kernel
set_option maxRecDepth 100000 in
theorem q_okM_143 : q_okM 143 = true := by decide +kernel
set_option maxRecDepth 100000 in
theorem q_okM_144 : q_okM 144 = true := by decide +kernel
set_option maxRecDepth 100000 in
theorem q_okM_145 : q_okM 145 = true := by decide +kernel
set_option maxRecDepth 100000 in
theorem q_okM_146 : q_okM 146 = true := by decide +kernel
set_option maxRecDepth 100000 in
theorem q_okM_147 : q_okM 147 = true := by decide +kernel
set_option maxRecDepth 100000 in
theorem q_okM_148 : q_okM 148 = true := by decide +kernel
set_option maxRecDepth 100000 in
theorem q_okM_149 : q_okM 149 = true := by decide +kernel
set_option maxRecDepth 100000 in
theorem q_okM_150 : q_okM 150 = true := by decide +kernel
set_option maxRecDepth 100000 in
theorem q_okM_151 : q_okM 151 = true := by decide +kernel
set_option maxRecDepth 100000 in
theorem q_okM_152 : q_okM 152 = true := by decide +kernel
set_option maxRecDepth 100000 in
theorem q_okM_153 : q_okM 153 = true := by decide +kernel
set_option maxRecDepth 100000 in
theorem q_okM_154 : q_okM 154 = true := by decide +kernel
set_option maxRecDepth 100000 in
theorem q_okM_155 : q_okM 155 = true := by decide +kernel
set_option maxRecDepth 100000 in
theorem q_okM_156 : q_okM 156 = true := by decide +kernel
set_option maxRecDepth 100000 in
theorem q_okM_157 : q_okM 157 = true := by decide +kernel
set_option maxRecDepth 100000 in
theorem q_okM_158 : q_okM 158 = true := by decide +kernel
set_option maxRecDepth 100000 in
theorem q_okM_159 : q_okM 159 = true := by decide +kernel
set_option maxRecDepth 100000 in
theorem q_okM_160 : q_okM 160 = true := by decide +kernel
set_option maxRecDepth 100000 in
theorem q_okM_161 : q_okM 161 = true := by decide +kernel
set_option maxRecDepth 100000 in
theorem q_okM_162 : q_okM 162 = true := by decide +kernel
set_option maxRecDepth 100000 in
theorem q_okM_163 : q_okM 163 = true := by decide +kernel
set_option maxRecDepth 100000 in
theorem q_okM_164 : q_okM 164 = true := by decide +kernel
set_option maxRecDepth 100000 in
theorem q_okM_165 : q_okM 165 = true := by decide +kernel
set_option maxRecDepth 100000 in
theorem q_okM_166 : q_okM 166 = true := by decide +kernel
set_option maxRecDepth 100000 in
theorem q_okM_167 : q_okM 167 = true := by decide +kernel
set_option maxRecDepth 100000 in
theorem q_okM_168 : q_okM 168 = true := by decide +kernel
set_option maxRecDepth 100000 in
theorem q_okM_169 : q_okM 169 = true := by decide +kernel
set_option maxRecDepth 100000 in
theorem q_okM_170 : q_okM 170 = true := by decide +kernel
set_option maxRecDepth 100000 in
theorem q_okM_171 : q_okM 171 = true := by decide +kernel
set_option maxRecDepth 100000 in
theorem q_okM_172 : q_okM 172 = true := by decide +kernel
set_option maxRecDepth 100000 in
theorem q_okM_173 : q_okM 173 = true := by decide +kernel
set_option maxRecDepth 100000 in
theorem q_okM_174 : q_okM 174 = true := by decide +kernel
set_option maxRecDepth 100000 in
theorem q_okM_175 : q_okM 175 = true := by decide +kernel
set_option maxRecDepth 100000 in
theorem q_okM_176 : q_okM 176 = true := by decide +kernel
set_option maxRecDepth 100000 in
theorem q_okM_177 : q_okM 177 = true := by decide +kernel
set_option maxRecDepth 100000 in
theorem q_okM_178 : q_okM 178 = true := by decide +kernel
set_option maxRecDepth 100000 in
theorem q_okM_179 : q_okM 179 = true := by decide +kernel
set_option maxRecDepth 100000 in
theorem q_okM_180 : q_okM 180 = true := by decide +kernel
set_option maxRecDepth 100000 in
theorem q_okM_181 : q_okM 181 = true := by decide +kernel
set_option maxRecDepth 100000 in
theorem q_okM_182 : q_okM 182 = true := by decide +kernel
set_option maxRecDepth 100000 in
theorem q_okM_183 : q_okM 183 = true := by decide +kernel
set_option maxRecDepth 100000 in
theorem q_okM_184 : q_okM 184 = true := by decide +kernel
set_option maxRecDepth 100000 in
theorem q_okM_185 : q_okM 185 = true := by decide +kernel
set_option maxRecDepth 100000 in
theorem q_okM_186 : q_okM 186 = true := by decide +kernel
set_option maxRecDepth 100000 in
theorem q_okM_187 : q_okM 187 = true := by decide +kernel
set_option maxRecDepth 100000 in
theorem q_okM_188 : q_okM 188 = true := by decide +kernel
set_option maxRecDepth 100000 in
theorem q_okM_189 : q_okM 189 = true := by decide +kernel
set_option maxRecDepth 100000 in
theorem q_okM_190 : q_okM 190 = true := by decide +kernel
set_option maxRecDepth 100000 in
theorem q_okM_191 : q_okM 191 = true := by decide +kernel
set_option maxRecDepth 100000 in
theorem q_okM_192 : q_okM 192 = true := by decide +kernel
set_option maxRecDepth 100000 in
theorem q_okM_193 : q_okM 193 = true := by decide +kernel
set_option maxRecDepth 100000 in
theorem q_okM_194 : q_okM 194 = true := by decide +kernel
set_option maxRecDepth 100000 in
theorem q_okM_195 : q_okM 195 = true := by decide +kernel
set_option maxRecDepth 100000 in
theorem q_okM_196 : q_okM 196 = true := by decide +kernel
set_option maxRecDepth 100000 in
theorem q_okM_197 : q_okM 197 = true := by decide +kernel
set_option maxRecDepth 100000 in
theorem q_okM_198 : q_okM 198 = true := by decide +kernel
set_option maxRecDepth 100000 in
theorem q_okM_199 : q_okM 199 = true := by decide +kernel
set_option maxRecDepth 100000 in
theorem q_okM_200 : q_okM 200 = true := by decide +kernel
set_option maxRecDepth 100000 in
theorem q_okM_201 : q_okM 201 = true := by decide +kernel
set_option maxRecDepth 100000 in
theorem q_okM_202 : q_okM 202 = true := by decide +kernel
set_option maxRecDepth 100000 in
theorem q_okM_203 : q_okM 203 = true := by decide +kernel
set_option maxRecDepth 100000 in
theorem q_okM_204 : q_okM 204 = true := by decide +kernel
theorem q_okM_all (k : Nat) (hk : k < 205) : q_okM k = true := by
  rcases Nat.lt_or_ge k 102 with h1 | h1
  · rcases Nat.lt_or_ge k 51 with h2 | h2
    · rcases Nat.lt_or_ge k 25 with h3 | h3
      · rcases Nat.lt_or_ge k 12 with h4 | h4
        · rcases Nat.lt_or_ge k 6 with h5 | h5
          · rcases Nat.lt_or_ge k 3 with h6 | h6
            · rcases Nat.lt_or_ge k 1 with h7 | h7
              · obtain rfl : k = 0 := by omega
                exact q_okM_0
              · rcases Nat.lt_or_ge k 2 with h8 | h8
                · obtain rfl : k = 1 := by omega
                  exact q_okM_1
                · obtain rfl : k = 2 := by omega
                  exact q_okM_2
            · rcases Nat.lt_or_ge k 4 with h7 | h7
              · obtain rfl : k = 3 := by omega
                exact q_okM_3
              · rcases Nat.lt_or_ge k 5 with h8 | h8
                · obtain rfl : k = 4 := by omega
                  exact q_okM_4
                · obtain rfl : k = 5 := by omega
                  exact q_okM_5
          · rcases Nat.lt_or_ge k 9 with h6 | h6
            · rcases Nat.lt_or_ge k 7 with h7 | h7
              · obtain rfl : k = 6 := by omega
                exact q_okM_6
              · rcases Nat.lt_or_ge k 8 with h8 | h8
                · obtain rfl : k = 7 := by omega
                  exact q_okM_7
                · obtain rfl : k = 8 := by omega
                  exact q_okM_8
            · rcases Nat.lt_or_ge k 10 with h7 | h7
              · obtain rfl : k = 9 := by omega
                exact q_okM_9
              · rcases Nat.lt_or_ge k 11 with h8 | h8
                · obtain rfl : k = 10 := by omega
                  exact q_okM_10
                · obtain rfl : k = 11 := by omega
                  exact q_okM_11
        · rcases Nat.lt_or_ge k 18 with h5 | h5
          · rcases Nat.lt_or_ge k 15 with h6 | h6
            · rcases Nat.lt_or_ge k 13 with h7 | h7
              · obtain rfl : k = 12 := by omega
                exact q_okM_12
              · rcases Nat.lt_or_ge k 14 with h8 | h8
                · obtain rfl : k = 13 := by omega
                  exact q_okM_13
                · obtain rfl : k = 14 := by omega
                  exact q_okM_14
            · rcases Nat.lt_or_ge k 16 with h7 | h7
              · obtain rfl : k = 15 := by omega
                exact q_okM_15
              · rcases Nat.lt_or_ge k 17 with h8 | h8
                · obtain rfl : k = 16 := by omega
                  exact q_okM_16
                · obtain rfl : k = 17 := by omega
                  exact q_okM_17
          · rcases Nat.lt_or_ge k 21 with h6 | h6
            · rcases Nat.lt_or_ge k 19 with h7 | h7
              · obtain rfl : k = 18 := by omega
                exact q_okM_18
              · rcases Nat.lt_or_ge k 20 with h8 | h8
                · obtain rfl : k = 19 := by omega
                  exact q_okM_19
                · obtain rfl : k = 20 := by omega
                  exact q_okM_20
            · rcases Nat.lt_or_ge k 23 with h7 | h7
              · rcases Nat.lt_or_ge k 22 with h8 | h8
                · obtain rfl : k = 21 := by omega
                  exact q_okM_21
                · obtain rfl : k = 22 := by omega
                  exact q_okM_22
              · rcases Nat.lt_or_ge k 24 with h8 | h8
                · obtain rfl : k = 23 := by omega
                  exact q_okM_23
                · obtain rfl : k = 24 := by omega
                  exact q_okM_24
      · rcases Nat.lt_or_ge k 38 with h4 | h4
        · rcases Nat.lt_or_ge k 31 with h5 | h5
          · rcases Nat.lt_or_ge k 28 with h6 | h6
            · rcases Nat.lt_or_ge k 26 with h7 | h7
              · obtain rfl : k = 25 := by omega
                exact q_okM_25
              · rcases Nat.lt_or_ge k 27 with h8 | h8
                · obtain rfl : k = 26 := by omega
                  exact q_okM_26
                · obtain rfl : k = 27 := by omega
                  exact q_okM_27
            · rcases Nat.lt_or_ge k 29 with h7 | h7
              · obtain rfl : k = 28 := by omega
                exact q_okM_28
              · rcases Nat.lt_or_ge k 30 with h8 | h8
                · obtain rfl : k = 29 := by omega
                  exact q_okM_29
                · obtain rfl : k = 30 := by omega
                  exact q_okM_30
          · rcases Nat.lt_or_ge k 34 with h6 | h6
            · rcases Nat.lt_or_ge k 32 with h7 | h7
              · obtain rfl : k = 31 := by omega
                exact q_okM_31
              · rcases Nat.lt_or_ge k 33 with h8 | h8
                · obtain rfl : k = 32 := by omega
                  exact q_okM_32
                · obtain rfl : k = 33 := by omega
                  exact q_okM_33
            · rcases Nat.lt_or_ge k 36 with h7 | h7
              · rcases Nat.lt_or_ge k 35 with h8 | h8
                · obtain rfl : k = 34 := by omega
                  exact q_okM_34
                · obtain rfl : k = 35 := by omega
                  exact q_okM_35
              · rcases Nat.lt_or_ge k 37 with h8 | h8
                · obtain rfl : k = 36 := by omega
                  exact q_okM_36
                · obtain rfl : k = 37 := by omega
                  exact q_okM_37
        · rcases Nat.lt_or_ge k 44 with h5 | h5
          · rcases Nat.lt_or_ge k 41 with h6 | h6
            · rcases Nat.lt_or_ge k 39 with h7 | h7
              · obtain rfl : k = 38 := by omega
                exact q_okM_38
              · rcases Nat.lt_or_ge k 40 with h8 | h8
                · obtain rfl : k = 39 := by omega
                  exact q_okM_39
                · obtain rfl : k = 40 := by omega
                  exact q_okM_40
            · rcases Nat.lt_or_ge k 42 with h7 | h7
              · obtain rfl : k = 41 := by omega
                exact q_okM_41
              · rcases Nat.lt_or_ge k 43 with h8 | h8
                · obtain rfl : k = 42 := by omega
                  exact q_okM_42
                · obtain rfl : k = 43 := by omega
                  exact q_okM_43
          · rcases Nat.lt_or_ge k 47 with h6 | h6
            · rcases Nat.lt_or_ge k 45 with h7 | h7
              · obtain rfl : k = 44 := by omega
                exact q_okM_44
              · rcases Nat.lt_or_ge k 46 with h8 | h8
                · obtain rfl : k = 45 := by omega
                  exact q_okM_45
                · obtain rfl : k = 46 := by omega
                  exact q_okM_46
            · rcases Nat.lt_or_ge k 49 with h7 | h7
              · rcases Nat.lt_or_ge k 48 with h8 | h8
                · obtain rfl : k = 47 := by omega
                  exact q_okM_47
                · obtain rfl : k = 48 := by omega
                  exact q_okM_48
              · rcases Nat.lt_or_ge k 50 with h8 | h8
                · obtain rfl : k = 49 := by omega
                  exact q_okM_49
                · obtain rfl : k = 50 := by omega
                  exact q_okM_50
    · rcases Nat.lt_or_ge k 76 with h3 | h3
      · rcases Nat.lt_or_ge k 63 with h4 | h4
        · rcases Nat.lt_or_ge k 57 with h5 | h5
          · rcases Nat.lt_or_ge k 54 with h6 | h6
            · rcases Nat.lt_or_ge k 52 with h7 | h7
              · obtain rfl : k = 51 := by omega
                exact q_okM_51
              · rcases Nat.lt_or_ge k 53 with h8 | h8
                · obtain rfl : k = 52 := by omega
                  exact q_okM_52
                · obtain rfl : k = 53 := by omega
                  exact q_okM_53
            · rcases Nat.lt_or_ge k 55 with h7 | h7
              · obtain rfl : k = 54 := by omega
                exact q_okM_54
              · rcases Nat.lt_or_ge k 56 with h8 | h8
                · obtain rfl : k = 55 := by omega
                  exact q_okM_55
                · obtain rfl : k = 56 := by omega
                  exact q_okM_56
          · rcases Nat.lt_or_ge k 60 with h6 | h6
            · rcases Nat.lt_or_ge k 58 with h7 | h7
              · obtain rfl : k = 57 := by omega
                exact q_okM_57
              · rcases Nat.lt_or_ge k 59 with h8 | h8
                · obtain rfl : k = 58 := by omega
                  exact q_okM_58
                · obtain rfl : k = 59 := by omega
                  exact q_okM_59
            · rcases Nat.lt_or_ge k 61 with h7 | h7
              · obtain rfl : k = 60 := by omega
                exact q_okM_60
              · rcases Nat.lt_or_ge k 62 with h8 | h8
                · obtain rfl : k = 61 := by omega
                  exact q_okM_61
                · obtain rfl : k = 62 := by omega
                  exact q_okM_62
        · rcases Nat.lt_or_ge k 69 with h5 | h5
          · rcases Nat.lt_or_ge k 66 with h6 | h6
            · rcases Nat.lt_or_ge k 64 with h7 | h7
              · obtain rfl : k = 63 := by omega
                exact q_okM_63
              · rcases Nat.lt_or_ge k 65 with h8 | h8
                · obtain rfl : k = 64 := by omega
                  exact q_okM_64
                · obtain rfl : k = 65 := by omega
                  exact q_okM_65
            · rcases Nat.lt_or_ge k 67 with h7 | h7
              · obtain rfl : k = 66 := by omega
                exact q_okM_66
              · rcases Nat.lt_or_ge k 68 with h8 | h8
                · obtain rfl : k = 67 := by omega
                  exact q_okM_67
                · obtain rfl : k = 68 := by omega
                  exact q_okM_68
          · rcases Nat.lt_or_ge k 72 with h6 | h6
            · rcases Nat.lt_or_ge k 70 with h7 | h7
              · obtain rfl : k = 69 := by omega
                exact q_okM_69
              · rcases Nat.lt_or_ge k 71 with h8 | h8
                · obtain rfl : k = 70 := by omega
                  exact q_okM_70
                · obtain rfl : k = 71 := by omega
                  exact q_okM_71
            · rcases Nat.lt_or_ge k 74 with h7 | h7
              · rcases Nat.lt_or_ge k 73 with h8 | h8
                · obtain rfl : k = 72 := by omega
                  exact q_okM_72
                · obtain rfl : k = 73 := by omega
                  exact q_okM_73
              · rcases Nat.lt_or_ge k 75 with h8 | h8
                · obtain rfl : k = 74 := by omega
                  exact q_okM_74
                · obtain rfl : k = 75 := by omega
                  exact q_okM_75
      · rcases Nat.lt_or_ge k 89 with h4 | h4
        · rcases Nat.lt_or_ge k 82 with h5 | h5
          · rcases Nat.lt_or_ge k 79 with h6 | h6
            · rcases Nat.lt_or_ge k 77 with h7 | h7
              · obtain rfl : k = 76 := by omega
                exact q_okM_76
              · rcases Nat.lt_or_ge k 78 with h8 | h8
                · obtain rfl : k = 77 := by omega
                  exact q_okM_77
                · obtain rfl : k = 78 := by omega
                  exact q_okM_78
            · rcases Nat.lt_or_ge k 80 with h7 | h7
              · obtain rfl : k = 79 := by omega
                exact q_okM_79
              · rcases Nat.lt_or_ge k 81 with h8 | h8
                · obtain rfl : k = 80 := by omega
                  exact q_okM_80
                · obtain rfl : k = 81 := by omega
                  exact q_okM_81
          · rcases Nat.lt_or_ge k 85 with h6 | h6
            · rcases Nat.lt_or_ge k 83 with h7 | h7
              · obtain rfl : k = 82 := by omega
                exact q_okM_82
              · rcases Nat.lt_or_ge k 84 with h8 | h8
                · obtain rfl : k = 83 := by omega
                  exact q_okM_83
                · obtain rfl : k = 84 := by omega
                  exact q_okM_84
            · rcases Nat.lt_or_ge k 87 with h7 | h7
              · rcases Nat.lt_or_ge k 86 with h8 | h8
                · obtain rfl : k = 85 := by omega
                  exact q_okM_85
                · obtain rfl : k = 86 := by omega
                  exact q_okM_86
              · rcases Nat.lt_or_ge k 88 with h8 | h8
                · obtain rfl : k = 87 := by omega
                  exact q_okM_87
                · obtain rfl : k = 88 := by omega
                  exact q_okM_88
        · rcases Nat.lt_or_ge k 95 with h5 | h5
          · rcases Nat.lt_or_ge k 92 with h6 | h6
            · rcases Nat.lt_or_ge k 90 with h7 | h7
              · obtain rfl : k = 89 := by omega
                exact q_okM_89
              · rcases Nat.lt_or_ge k 91 with h8 | h8
                · obtain rfl : k = 90 := by omega
                  exact q_okM_90
                · obtain rfl : k = 91 := by omega
                  exact q_okM_91
            · rcases Nat.lt_or_ge k 93 with h7 | h7
              · obtain rfl : k = 92 := by omega
                exact q_okM_92
              · rcases Nat.lt_or_ge k 94 with h8 | h8
                · obtain rfl : k = 93 := by omega
                  exact q_okM_93
                · obtain rfl : k = 94 := by omega
                  exact q_okM_94
          · rcases Nat.lt_or_ge k 98 with h6 | h6
            · rcases Nat.lt_or_ge k 96 with h7 | h7
              · obtain rfl : k = 95 := by omega
                exact q_okM_95
              · rcases Nat.lt_or_ge k 97 with h8 | h8
                · obtain rfl : k = 96 := by omega
                  exact q_okM_96
                · obtain rfl : k = 97 := by omega
                  exact q_okM_97
            · rcases Nat.lt_or_ge k 100 with h7 | h7
              · rcases Nat.lt_or_ge k 99 with h8 | h8
                · obtain rfl : k = 98 := by omega
                  exact q_okM_98
                · obtain rfl : k = 99 := by omega
                  exact q_okM_99
              · rcases Nat.lt_or_ge k 101 with h8 | h8
                · obtain rfl : k = 100 := by omega
                  exact q_okM_100
                · obtain rfl : k = 101 := by omega
                  exact q_okM_101
  · rcases Nat.lt_or_ge k 153 with h2 | h2
    · rcases Nat.lt_or_ge k 127 with h3 | h3
      · rcases Nat.lt_or_ge k 114 with h4 | h4
        · rcases Nat.lt_or_ge k 108 with h5 | h5
          · rcases Nat.lt_or_ge k 105 with h6 | h6
            · rcases Nat.lt_or_ge k 103 with h7 | h7
              · obtain rfl : k = 102 := by omega
                exact q_okM_102
              · rcases Nat.lt_or_ge k 104 with h8 | h8
                · obtain rfl : k = 103 := by omega
                  exact q_okM_103
                · obtain rfl : k = 104 := by omega
                  exact q_okM_104
            · rcases Nat.lt_or_ge k 106 with h7 | h7
              · obtain rfl : k = 105 := by omega
                exact q_okM_105
              · rcases Nat.lt_or_ge k 107 with h8 | h8
                · obtain rfl : k = 106 := by omega
                  exact q_okM_106
                · obtain rfl : k = 107 := by omega
                  exact q_okM_107
          · rcases Nat.lt_or_ge k 111 with h6 | h6
            · rcases Nat.lt_or_ge k 109 with h7 | h7
              · obtain rfl : k = 108 := by omega
                exact q_okM_108
              · rcases Nat.lt_or_ge k 110 with h8 | h8
                · obtain rfl : k = 109 := by omega
                  exact q_okM_109
                · obtain rfl : k = 110 := by omega
                  exact q_okM_110
            · rcases Nat.lt_or_ge k 112 with h7 | h7
              · obtain rfl : k = 111 := by omega
                exact q_okM_111
              · rcases Nat.lt_or_ge k 113 with h8 | h8
                · obtain rfl : k = 112 := by omega
                  exact q_okM_112
                · obtain rfl : k = 113 := by omega
                  exact q_okM_113
        · rcases Nat.lt_or_ge k 120 with h5 | h5
          · rcases Nat.lt_or_ge k 117 with h6 | h6
            · rcases Nat.lt_or_ge k 115 with h7 | h7
              · obtain rfl : k = 114 := by omega
                exact q_okM_114
              · rcases Nat.lt_or_ge k 116 with h8 | h8
                · obtain rfl : k = 115 := by omega
                  exact q_okM_115
                · obtain rfl : k = 116 := by omega
                  exact q_okM_116
            · rcases Nat.lt_or_ge k 118 with h7 | h7
              · obtain rfl : k = 117 := by omega
                exact q_okM_117
              · rcases Nat.lt_or_ge k 119 with h8 | h8
                · obtain rfl : k = 118 := by omega
                  exact q_okM_118
                · obtain rfl : k = 119 := by omega
                  exact q_okM_119
          · rcases Nat.lt_or_ge k 123 with h6 | h6
            · rcases Nat.lt_or_ge k 121 with h7 | h7
              · obtain rfl : k = 120 := by omega
                exact q_okM_120
              · rcases Nat.lt_or_ge k 122 with h8 | h8
                · obtain rfl : k = 121 := by omega
                  exact q_okM_121
                · obtain rfl : k = 122 := by omega
                  exact q_okM_122
            · rcases Nat.lt_or_ge k 125 with h7 | h7
              · rcases Nat.lt_or_ge k 124 with h8 | h8
                · obtain rfl : k = 123 := by omega
                  exact q_okM_123
                · obtain rfl : k = 124 := by omega
                  exact q_okM_124
              · rcases Nat.lt_or_ge k 126 with h8 | h8
                · obtain rfl : k = 125 := by omega
                  exact q_okM_125
                · obtain rfl : k = 126 := by omega
                  exact q_okM_126
      · rcases Nat.lt_or_ge k 140 with h4 | h4
        · rcases Nat.lt_or_ge k 133 with h5 | h5
          · rcases Nat.lt_or_ge k 130 with h6 | h6
            · rcases Nat.lt_or_ge k 128 with h7 | h7
              · obtain rfl : k = 127 := by omega
                exact q_okM_127
              · rcases Nat.lt_or_ge k 129 with h8 | h8
                · obtain rfl : k = 128 := by omega
                  exact q_okM_128
                · obtain rfl : k = 129 := by omega
                  exact q_okM_129
            · rcases Nat.lt_or_ge k 131 with h7 | h7
              · obtain rfl : k = 130 := by omega
                exact q_okM_130
              · rcases Nat.lt_or_ge k 132 with h8 | h8
                · obtain rfl : k = 131 := by omega
                  exact q_okM_131
                · obtain rfl : k = 132 := by omega
                  exact q_okM_132
          · rcases Nat.lt_or_ge k 136 with h6 | h6
            · rcases Nat.lt_or_ge k 134 with h7 | h7
              · obtain rfl : k = 133 := by omega
                exact q_okM_133
              · rcases Nat.lt_or_ge k 135 with h8 | h8
                · obtain rfl : k = 134 := by omega
                  exact q_okM_134
                · obtain rfl : k = 135 := by omega
                  exact q_okM_135
            · rcases Nat.lt_or_ge k 138 with h7 | h7
              · rcases Nat.lt_or_ge k 137 with h8 | h8
                · obtain rfl : k = 136 := by omega
                  exact q_okM_136
                · obtain rfl : k = 137 := by omega
                  exact q_okM_137
              · rcases Nat.lt_or_ge k 139 with h8 | h8
                · obtain rfl : k = 138 := by omega
                  exact q_okM_138
                · obtain rfl : k = 139 := by omega
                  exact q_okM_139
        · rcases Nat.lt_or_ge k 146 with h5 | h5
          · rcases Nat.lt_or_ge k 143 with h6 | h6
            · rcases Nat.lt_or_ge k 141 with h7 | h7
              · obtain rfl : k = 140 := by omega
                exact q_okM_140
              · rcases Nat.lt_or_ge k 142 with h8 | h8
                · obtain rfl : k = 141 := by omega
                  exact q_okM_141
                · obtain rfl : k = 142 := by omega
                  exact q_okM_142
            · rcases Nat.lt_or_ge k 144 with h7 | h7
              · obtain rfl : k = 143 := by omega
                exact q_okM_143
              · rcases Nat.lt_or_ge k 145 with h8 | h8
                · obtain rfl : k = 144 := by omega
                  exact q_okM_144
                · obtain rfl : k = 145 := by omega
                  exact q_okM_145
          · rcases Nat.lt_or_ge k 149 with h6 | h6
            · rcases Nat.lt_or_ge k 147 with h7 | h7
              · obtain rfl : k = 146 := by omega
                exact q_okM_146
              · rcases Nat.lt_or_ge k 148 with h8 | h8
                · obtain rfl : k = 147 := by omega
                  exact q_okM_147
                · obtain rfl : k = 148 := by omega
                  exact q_okM_148
            · rcases Nat.lt_or_ge k 151 with h7 | h7
              · rcases Nat.lt_or_ge k 150 with h8 | h8
                · obtain rfl : k = 149 := by omega
                  exact q_okM_149
                · obtain rfl : k = 150 := by omega
                  exact q_okM_150
              · rcases Nat.lt_or_ge k 152 with h8 | h8
                · obtain rfl : k = 151 := by omega
                  exact q_okM_151
                · obtain rfl : k = 152 := by omega
                  exact q_okM_152
    · rcases Nat.lt_or_ge k 179 with h3 | h3
      · rcases Nat.lt_or_ge k 166 with h4 | h4
        · rcases Nat.lt_or_ge k 159 with h5 | h5
          · rcases Nat.lt_or_ge k 156 with h6 | h6
            · rcases Nat.lt_or_ge k 154 with h7 | h7
              · obtain rfl : k = 153 := by omega
                exact q_okM_153
              · rcases Nat.lt_or_ge k 155 with h8 | h8
                · obtain rfl : k = 154 := by omega
                  exact q_okM_154
                · obtain rfl : k = 155 := by omega
                  exact q_okM_155
            · rcases Nat.lt_or_ge k 157 with h7 | h7
              · obtain rfl : k = 156 := by omega
                exact q_okM_156
              · rcases Nat.lt_or_ge k 158 with h8 | h8
                · obtain rfl : k = 157 := by omega
                  exact q_okM_157
                · obtain rfl : k = 158 := by omega
                  exact q_okM_158
          · rcases Nat.lt_or_ge k 162 with h6 | h6
            · rcases Nat.lt_or_ge k 160 with h7 | h7
              · obtain rfl : k = 159 := by omega
                exact q_okM_159
              · rcases Nat.lt_or_ge k 161 with h8 | h8
                · obtain rfl : k = 160 := by omega
                  exact q_okM_160
                · obtain rfl : k = 161 := by omega
                  exact q_okM_161
            · rcases Nat.lt_or_ge k 164 with h7 | h7
              · rcases Nat.lt_or_ge k 163 with h8 | h8
                · obtain rfl : k = 162 := by omega
                  exact q_okM_162
                · obtain rfl : k = 163 := by omega
                  exact q_okM_163
              · rcases Nat.lt_or_ge k 165 with h8 | h8
                · obtain rfl : k = 164 := by omega
                  exact q_okM_164
                · obtain rfl : k = 165 := by omega
                  exact q_okM_165
        · rcases Nat.lt_or_ge k 172 with h5 | h5
          · rcases Nat.lt_or_ge k 169 with h6 | h6
            · rcases Nat.lt_or_ge k 167 with h7 | h7
              · obtain rfl : k = 166 := by omega
                exact q_okM_166
              · rcases Nat.lt_or_ge k 168 with h8 | h8
                · obtain rfl : k = 167 := by omega
                  exact q_okM_167
                · obtain rfl : k = 168 := by omega
                  exact q_okM_168
            · rcases Nat.lt_or_ge k 170 with h7 | h7
              · obtain rfl : k = 169 := by omega
                exact q_okM_169
              · rcases Nat.lt_or_ge k 171 with h8 | h8
                · obtain rfl : k = 170 := by omega
                  exact q_okM_170
                · obtain rfl : k = 171 := by omega
                  exact q_okM_171
          · rcases Nat.lt_or_ge k 175 with h6 | h6
            · rcases Nat.lt_or_ge k 173 with h7 | h7
              · obtain rfl : k = 172 := by omega
                exact q_okM_172
              · rcases Nat.lt_or_ge k 174 with h8 | h8
                · obtain rfl : k = 173 := by omega
                  exact q_okM_173
                · obtain rfl : k = 174 := by omega
                  exact q_okM_174
            · rcases Nat.lt_or_ge k 177 with h7 | h7
              · rcases Nat.lt_or_ge k 176 with h8 | h8
                · obtain rfl : k = 175 := by omega
                  exact q_okM_175
                · obtain rfl : k = 176 := by omega
                  exact q_okM_176
              · rcases Nat.lt_or_ge k 178 with h8 | h8
                · obtain rfl : k = 177 := by omega
                  exact q_okM_177
                · obtain rfl : k = 178 := by omega
                  exact q_okM_178
      · rcases Nat.lt_or_ge k 192 with h4 | h4
        · rcases Nat.lt_or_ge k 185 with h5 | h5
          · rcases Nat.lt_or_ge k 182 with h6 | h6
            · rcases Nat.lt_or_ge k 180 with h7 | h7
              · obtain rfl : k = 179 := by omega
                exact q_okM_179
              · rcases Nat.lt_or_ge k 181 with h8 | h8
                · obtain rfl : k = 180 := by omega
                  exact q_okM_180
                · obtain rfl : k = 181 := by omega
                  exact q_okM_181
            · rcases Nat.lt_or_ge k 183 with h7 | h7
              · obtain rfl : k = 182 := by omega
                exact q_okM_182
              · rcases Nat.lt_or_ge k 184 with h8 | h8
                · obtain rfl : k = 183 := by omega
                  exact q_okM_183
                · obtain rfl : k = 184 := by omega
                  exact q_okM_184
          · rcases Nat.lt_or_ge k 188 with h6 | h6
            · rcases Nat.lt_or_ge k 186 with h7 | h7
              · obtain rfl : k = 185 := by omega
                exact q_okM_185
              · rcases Nat.lt_or_ge k 187 with h8 | h8
                · obtain rfl : k = 186 := by omega
                  exact q_okM_186
                · obtain rfl : k = 187 := by omega
                  exact q_okM_187
            · rcases Nat.lt_or_ge k 190 with h7 | h7
              · rcases Nat.lt_or_ge k 189 with h8 | h8
                · obtain rfl : k = 188 := by omega
                  exact q_okM_188
                · obtain rfl : k = 189 := by omega
                  exact q_okM_189
              · rcases Nat.lt_or_ge k 191 with h8 | h8
                · obtain rfl : k = 190 := by omega
                  exact q_okM_190
                · obtain rfl : k = 191 := by omega
                  exact q_okM_191
        · rcases Nat.lt_or_ge k 198 with h5 | h5
          · rcases Nat.lt_or_ge k 195 with h6 | h6
            · rcases Nat.lt_or_ge k 193 with h7 | h7
              · obtain rfl : k = 192 := by omega
                exact q_okM_192
              · rcases Nat.lt_or_ge k 194 with h8 | h8
                · obtain rfl : k = 193 := by omega
                  exact q_okM_193
                · obtain rfl : k = 194 := by omega
                  exact q_okM_194
            · rcases Nat.lt_or_ge k 196 with h7 | h7
              · obtain rfl : k = 195 := by omega
                exact q_okM_195
              · rcases Nat.lt_or_ge k 197 with h8 | h8
                · obtain rfl : k = 196 := by omega
                  exact q_okM_196
                · obtain rfl : k = 197 := by omega
                  exact q_okM_197
          · rcases Nat.lt_or_ge k 201 with h6 | h6
            · rcases Nat.lt_or_ge k 199 with h7 | h7
              · obtain rfl : k = 198 := by omega
                exact q_okM_198
              · rcases Nat.lt_or_ge k 200 with h8 | h8
                · obtain rfl : k = 199 := by omega
                  exact q_okM_199
                · obtain rfl : k = 200 := by omega
                  exact q_okM_200
            · rcases Nat.lt_or_ge k 203 with h7 | h7
              · rcases Nat.lt_or_ge k 202 with h8 | h8
                · obtain rfl : k = 201 := by omega
                  exact q_okM_201
                · obtain rfl : k = 202 := by omega
                  exact q_okM_202
              · rcases Nat.lt_or_ge k 204 with h8 | h8
                · obtain rfl : k = 203 := by omega
                  exact q_okM_203
                · obtain rfl : k = 204 := by omega
                  exact q_okM_204
end
section
set_option maxRecDepth 100000 in
theorem q_okC_0 : q_okCd 0 = true := by decide +kernel
set_option maxRecDepth 100000 in
theorem q_okC_1 : q_okCd 1 = true := by decide +kernel
set_option maxRecDepth 100000 in
theorem q_okC_2 : q_okCd 2 = true := by decide +kernel
set_option maxRecDepth 100000 in
theorem q_okC_3 : q_okCd 3 = true := by decide +kernel
set_option maxRecDepth 100000 in
theorem q_okC_4 : q_okCd 4 = true := by decide +kernel
set_option maxRecDepth 100000 in
theorem q_okC_5 : q_okCd 5 = true := by decide +kernel
set_option maxRecDepth 100000 in
theorem q_okC_6 : q_okCd 6 = true := by decide +kernel
set_option maxRecDepth 100000 in
theorem q_okC_7 : q_okCd 7 = true := by decide +kernel
set_option maxRecDepth 100000 in
theorem q_okC_8 : q_okCd 8 = true := by decide +kernel
set_option maxRecDepth 100000 in
theorem q_okC_9 : q_okCd 9 = true := by decide +kernel
set_option maxRecDepth 100000 in
theorem q_okC_10 : q_okCd 10 = true := by decide +kernel
set_option maxRecDepth 100000 in
theorem q_okC_11 : q_okCd 11 = true := by decide +kernel
set_option maxRecDepth 100000 in
theorem q_okC_12 : q_okCd 12 = true := by decide +kernel
set_option maxRecDepth 100000 in
theorem q_okC_13 : q_okCd 13 = true := by decide +kernel
set_option maxRecDepth 100000 in
theorem q_okC_14 : q_okCd 14 = true := by decide +kernel
set_option maxRecDepth 100000 in
theorem q_okC_15 : q_okCd 15 = true := by decide +kernel
set_option maxRecDepth 100000 in
theorem q_okC_16 : q_okCd 16 = true := by decide +kernel
set_option maxRecDepth 100000 in
theorem q_okC_17 : q_okCd 17 = true := by decide +kernel
set_option maxRecDepth 100000 in
theorem q_okC_18 : q_okCd 18 = true := by decide +kernel
set_option maxRecDepth 100000 in
theorem q_okC_19 : q_okCd 19 = true := by decide +kernel
set_option maxRecDepth 100000 in
theorem q_okC_20 : q_okCd 20 = true := by decide +kernel
set_option maxRecDepth 100000 in
theorem q_okC_21 : q_okCd 21 = true := by decide +kernel
set_option maxRecDepth 100000 in
theorem q_okC_22 : q_okCd 22 = true := by decide +kernel
set_option maxRecDepth 100000 in
theorem q_okC_23 : q_okCd 23 = true := by decide +kernel
set_option maxRecDepth 100000 in
theorem q_okC_24 : q_okCd 24 = true := by decide +kernel
set_option maxRecDepth 100000 in
theorem q_okC_25 : q_okCd 25 = true := by decide +kernel
set_option maxRecDepth 100000 in
theorem q_okC_26 : q_okCd 26 = true := by decide +kernel
set_option maxRecDepth 100000 in
theorem q_okC_27 : q_okCd 27 = true := by decide +kernel
set_option maxRecDepth 100000 in
theorem q_okC_28 : q_okCd 28 = true := by decide +kernel
set_option maxRecDepth 100000 in
theorem q_okC_29 : q_okCd 29 = true := by decide +kernel
set_option maxRecDepth 100000 in
theorem q_okC_30 : q_okCd 30 = true := by decide +kernel
set_option maxRecDepth 100000 in
theorem q_okC_31 : q_okCd 31 = true := by decide +kernel
set_option maxRecDepth 100000 in
theorem q_okC_32 : q_okCd 32 = true := by decide +kernel
set_option maxRecDepth 100000 in
theorem q_okC_33 : q_okCd 33 = true := by decide +kernel
set_option maxRecDepth 100000 in
theorem q_okC_34 : q_okCd 34 = true := by decide +kernel
set_option maxRecDepth 100000 in
theorem q_okC_35 : q_okCd 35 = true := by decide +kernel
set_option maxRecDepth 100000 in
theorem q_okC_36 : q_okCd 36 = true := by decide +kernel
set_option maxRecDepth 100000 in
theorem q_okC_37 : q_okCd 37 = true := by decide +kernel
set_option maxRecDepth 100000 in
theorem q_okC_38 : q_okCd 38 = true := by decide +kernel
set_option maxRecDepth 100000 in
theorem q_okC_39 : q_okCd 39 = true := by decide +kernel
set_option maxRecDepth 100000 in
theorem q_okC_40 : q_okCd 40 = true := by decide +kernel
set_option maxRecDepth 100000 in
theorem q_okC_41 : q_okCd 41 = true := by decide +kernel
set_option maxRecDepth 100000 in
theorem q_okC_42 : q_okCd 42 = true := by decide +kernel
set_option maxRecDepth 100000 in
theorem q_okC_43 : q_okCd 43 = true := by decide +kernel
set_option maxRecDepth 100000 in
theorem q_okC_44 : q_okCd 44 = true := by decide +kernel
set_option maxRecDepth 100000 in
theorem q_okC_45 : q_okCd 45 = true := by decide +kernel
set_option maxRecDepth 100000 in
theorem q_okC_46 : q_okCd 46 = true := by decide +kernel
set_option maxRecDepth 100000 in
theorem q_okC_47 : q_okCd 47 = true := by decide +kernel
set_option maxRecDepth 100000 in
theorem q_okC_48 : q_okCd 48 = true := by decide +kernel
set_option maxRecDepth 100000 in
theorem q_okC_49 : q_okCd 49 = true := by decide +kernel
set_option maxRecDepth 100000 in
theorem q_okC_50 : q_okCd 50 = true := by decide +kernel
set_option maxRecDepth 100000 in
theorem q_okC_51 : q_okCd 51 = true := by decide +kernel
set_option maxRecDepth 100000 in
theorem q_okC_52 : q_okCd 52 = true := by decide +kernel
set_option maxRecDepth 100000 in
theorem q_okC_53 : q_okCd 53 = true := by decide +kernel
set_option maxRecDepth 100000 in
theorem q_okC_54 : q_okCd 54 = true := by decide +kernel
set_option maxRecDepth 100000 in
theorem q_okC_55 : q_okCd 55 = true := by decide +kernel
set_option maxRecDepth 100000 in
theorem q_okC_56 : q_okCd 56 = true := by decide +kernel
set_option maxRecDepth 100000 in
theorem q_okC_57 : q_okCd 57 = true := by decide +kernel
set_option maxRecDepth 100000 in
theorem q_okC_58 : q_okCd 58 = true := by decide +kernel
set_option maxRecDepth 100000 in
theorem q_okC_59 : q_okCd 59 = true := by decide +kernel
set_option maxRecDepth 100000 in
theorem q_okC_60 : q_okCd 60 = true := by decide +kernel
set_option maxRecDepth 100000 in
theorem q_okC_61 : q_okCd 61 = true := by decide +kernel
set_option maxRecDepth 100000 in
theorem q_okC_62 : q_okCd 62 = true := by decide +kernel
set_option maxRecDepth 100000 in
theorem q_okC_63 : q_okCd 63 = true := by decide +kernel
set_option maxRecDepth 100000 in
theorem q_okC_64 : q_okCd 64 = true := by decide +kernel
set_option maxRecDepth 100000 in
theorem q_okC_65 : q_okCd 65 = true := by decide +kernel
set_option maxRecDepth 100000 in
theorem q_okC_66 : q_okCd 66 = true := by decide +kernel
set_option maxRecDepth 100000 in
theorem q_okC_67 : q_okCd 67 = true := by decide +kernel
set_option maxRecDepth 100000 in
theorem q_okC_68 : q_okCd 68 = true := by decide +kernel
set_option maxRecDepth 100000 in
theorem q_okC_69 : q_okCd 69 = true := by decide +kernel
set_option maxRecDepth 100000 in
theorem q_okC_70 : q_okCd 70 = true := by decide +kernel
set_option maxRecDepth 100000 in
theorem q_okC_71 : q_okCd 71 = true := by decide +kernel
set_option maxRecDepth 100000 in
theorem q_okC_72 : q_okCd 72 = true := by decide +kernel
set_option maxRecDepth 100000 in
theorem q_okC_73 : q_okCd 73 = true := by decide +kernel
set_option maxRecDepth 100000 in
theorem q_okC_74 : q_okCd 74 = true := by decide +kernel
set_option maxRecDepth 100000 in
theorem q_okC_75 : q_okCd 75 = true := by decide +kernel
set_option maxRecDepth 100000 in
theorem q_okC_76 : q_okCd 76 = true := by decide +kernel
set_option maxRecDepth 100000 in
theorem q_okC_77 : q_okCd 77 = true := by decide +kernel
set_option maxRecDepth 100000 in
theorem q_okC_78 : q_okCd 78 = true := by decide +kernel
set_option maxRecDepth 100000 in
theorem q_okC_79 : q_okCd 79 = true := by decide +kernel
set_option maxRecDepth 100000 in
theorem q_okC_80 : q_okCd 80 = true := by decide +kernel
set_option maxRecDepth 100000 in
theorem q_okC_81 : q_okCd 81 = true := by decide +kernel
set_option maxRecDepth 100000 in
theorem q_okC_82 : q_okCd 82 = true := by decide +kernel
set_option maxRecDepth 100000 in
theorem q_okC_83 : q_okCd 83 = true := by decide +kernel
set_option maxRecDepth 100000 in
theorem q_okC_84 : q_okCd 84 = true := by decide +kernel
set_option maxRecDepth 100000 in
theorem q_okC_85 : q_okCd 85 = true := by decide +kernel
set_option maxRecDepth 100000 in
theorem q_okC_86 : q_okCd 86 = true := by decide +kernel
set_option maxRecDepth 100000 in
theorem q_okC_87 : q_okCd 87 = true := by decide +kernel
set_option maxRecDepth 100000 in
theorem q_okC_88 : q_okCd 88 = true := by decide +kernel
set_option maxRecDepth 100000 in
theorem q_okC_89 : q_okCd 89 = true := by decide +kernel
set_option maxRecDepth 100000 in
theorem q_okC_90 : q_okCd 90 = true := by decide +kernel
set_option maxRecDepth 100000 in
theorem q_okC_91 : q_okCd 91 = true := by decide +kernel
set_option maxRecDepth 100000 in
theorem q_okC_92 : q_okCd 92 = true := by decide +kernel
set_option maxRecDepth 100000 in
theorem q_okC_93 : q_okCd 93 = true := by decide +kernel
set_option maxRecDepth 100000 in
theorem q_okC_94 : q_okCd 94 = true := by decide +kernel
set_option maxRecDepth 100000 in
theorem q_okC_95 : q_okCd 95 = true := by decide +kernel
set_option maxRecDepth 100000 in
theorem q_okC_96 : q_okCd 96 = true := by decide +kernel
set_option maxRecDepth 100000 in
theorem q_okC_97 : q_okCd 97 = true := by decide +kernel
set_option maxRecDepth 100000 in
theorem q_okC_98 : q_okCd 98 = true := by decide +kernel
set_option maxRecDepth 100000 in
theorem q_okC_99 : q_okCd 99 = true := by decide +kernel
set_option maxRecDepth 100000 in
theorem q_okC_100 : q_okCd 100 = true := by decide +kernel
set_option maxRecDepth 100000 in
theorem q_okC_101 : q_okCd 101 = true := by decide +kernel
set_option maxRecDepth 100000 in
theorem q_okC_102 : q_okCd 102 = true := by decide +kernel
set_option maxRecDepth 100000 in
theorem q_okC_103 : q_okCd 103 = true := by decide +kernel
set_option maxRecDepth 100000 in
theorem q_okC_104 : q_okCd 104 = true := by decide +kernel
set_option maxRecDepth 100000 in
theorem q_okC_105 : q_okCd 105 = true := by decide +kernel
set_option maxRecDepth 100000 in
theorem q_okC_106 : q_okCd 106 = true := by decide +kernel
set_option maxRecDepth 100000 in
theorem q_okC_107 : q_okCd 107 = true := by decide +kernel
set_option maxRecDepth 100000 in
theorem q_okC_108 : q_okCd 108 = true := by decide +kernel
set_option maxRecDepth 100000 in
theorem q_okC_109 : q_okCd 109 = true := by decide +kernel
set_option maxRecDepth 100000 in
theorem q_okC_110 : q_okCd 110 = true := by decide +kernel
set_option maxRecDepth 100000 in
theorem q_okC_111 : q_okCd 111 = true := by decide +kernel
set_option maxRecDepth 100000 in
theorem q_okC_112 : q_okCd 112 = true := by decide +kernel
set_option maxRecDepth 100000 in
theorem q_okC_113 : q_okCd 113 = true := by decide +kernel
set_option maxRecDepth 100000 in
theorem q_okC_114 : q_okCd 114 = true := by decide +kernel
set_option maxRecDepth 100000 in
theorem q_okC_115 : q_okCd 115 = true := by decide +kernel
set_option maxRecDepth 100000 in
theorem q_okC_116 : q_okCd 116 = true := by decide +kernel
set_option maxRecDepth 100000 in
theorem q_okC_117 : q_okCd 117 = true := by decide +kernel
set_option maxRecDepth 100000 in
theorem q_okC_118 : q_okCd 118 = true := by decide +kernel
set_option maxRecDepth 100000 in
theorem q_okC_119 : q_okCd 119 = true := by decide +kernel
set_option maxRecDepth 100000 in
theorem q_okC_120 : q_okCd 120 = true := by decide +kernel
set_option maxRecDepth 100000 in
theorem q_okC_121 : q_okCd 121 = true := by decide +kernel
set_option maxRecDepth 100000 in
theorem q_okC_122 : q_okCd 122 = true := by decide +kernel
set_option maxRecDepth 100000 in
theorem q_okC_123 : q_okCd 123 = true := by decide +kernel
set_option maxRecDepth 100000 in
theorem q_okC_124 : q_okCd 124 = true := by decide +kernel
set_option maxRecDepth 100000 in
theorem q_okC_125 : q_okCd 125 = true := by decide +kernel
set_option maxRecDepth 100000 in
theorem q_okC_126 : q_okCd 126 = true := by decide +kernel
set_option maxRecDepth 100000 in
theorem q_okC_127 : q_okCd 127 = true := by decide +kernel
set_option maxRecDepth 100000 in
theorem q_okC_128 : q_okCd 128 = true := by decide +kernel
set_option maxRecDepth 100000 in
theorem q_okC_129 : q_okCd 129 = true := by decide +kernel
set_option maxRecDepth 100000 in
theorem q_okC_130 : q_okCd 130 = true := by decide +kernel
set_option maxRecDepth 100000 in
theorem q_okC_131 : q_okCd 131 = true := by decide +kernel
set_option maxRecDepth 100000 in
theorem q_okC_132 : q_okCd 132 = true := by decide +kernel
set_option maxRecDepth 100000 in
theorem q_okC_133 : q_okCd 133 = true := by decide +kernel
set_option maxRecDepth 100000 in
theorem q_okC_134 : q_okCd 134 = true := by decide +kernel
set_option maxRecDepth 100000 in
theorem q_okC_135 : q_okCd 135 = true := by decide +kernel
set_option maxRecDepth 100000 in
theorem q_okC_136 : q_okCd 136 = true := by decide +kernel
set_option maxRecDepth 100000 in
theorem q_okC_137 : q_okCd 137 = true := by decide +kernel
set_option maxRecDepth 100000 in
theorem q_okC_138 : q_okCd 138 = true := by decide +kernel
set_option maxRecDepth 100000 in
theorem q_okC_139 : q_okCd 139 = true := by decide +kernel
set_option maxRecDepth 100000 in
theorem q_okC_140 : q_okCd 140 = true := by decide +kernel
set_option maxRecDepth 100000 in
theorem q_okC_141 : q_okCd 141 = true := by decide +kernel
set_option maxRecDepth 100000 in
theorem q_okC_142 : q_okCd 142 = true := by decide +kernel
set_option maxRecDepth 100000 in
theorem q_okC_143 : q_okCd 143 = true := by decide +kernel
set_option maxRecDepth 100000 in
theorem q_okC_144 : q_okCd 144 = true := by decide +kernel
set_option maxRecDepth 100000 in
theorem q_okC_145 : q_okCd 145 = true := by decide +kernel
set_option maxRecDepth 100000 in
theorem q_okC_146 : q_okCd 146 = true := by decide +kernel
set_option maxRecDepth 100000 in
theorem q_okC_147 : q_okCd 147 = true := by decide +kernel
set_option maxRecDepth 100000 in
theorem q_okC_148 : q_okCd 148 = true := by decide +kernel
set_option maxRecDepth 100000 in
theorem q_okC_149 : q_okCd 149 = true := by decide +kernel
set_option maxRecDepth 100000 in
theorem q_okC_150 : q_okCd 150 = true := by decide +kernel
set_option maxRecDepth 100000 in
theorem q_okC_151 : q_okCd 151 = true := by decide +kernel
set_option maxRecDepth 100000 in
theorem q_okC_152 : q_okCd 152 = true := by decide +kernel
set_option maxRecDepth 100000 in
theorem q_okC_153 : q_okCd 153 = true := by decide +kernel
set_option maxRecDepth 100000 in
theorem q_okC_154 : q_okCd 154 = true := by decide +kernel
set_option maxRecDepth 100000 in
theorem q_okC_155 : q_okCd 155 = true := by decide +kernel
set_option maxRecDepth 100000 in
theorem q_okC_156 : q_okCd 156 = true := by decide +kernel
set_option maxRecDepth 100000 in
theorem q_okC_157 : q_okCd 157 = true := by decide +kernel
set_option maxRecDepth 100000 in
theorem q_okC_158 : q_okCd 158 = true := by decide +kernel
set_option maxRecDepth 100000 in
theorem q_okC_159 : q_okCd 159 = true := by decide +kernel
set_option maxRecDepth 100000 in
theorem q_okC_160 : q_okCd 160 = true := by decide +kernel
set_option maxRecDepth 100000 in
theorem q_okC_161 : q_okCd 161 = true := by decide +kernel
set_option maxRecDepth 100000 in
theorem q_okC_162 : q_okCd 162 = true := by decide +kernel
set_option maxRecDepth 100000 in
theorem q_okC_163 : q_okCd 163 = true := by decide +kernel
set_option maxRecDepth 100000 in
theorem q_okC_164 : q_okCd 164 = true := by decide +kernel
set_option maxRecDepth 100000 in
theorem q_okC_165 : q_okCd 165 = true := by decide +kernel
set_option maxRecDepth 100000 in
theorem q_okC_166 : q_okCd 166 = true := by decide +kernel
set_option maxRecDepth 100000 in
theorem q_okC_167 : q_okCd 167 = true := by decide +kernel
set_option maxRecDepth 100000 in
theorem q_okC_168 : q_okCd 168 = true := by decide +kernel
set_option maxRecDepth 100000 in
theorem q_okC_169 : q_okCd 169 = true := by decide +kernel
set_option maxRecDepth 100000 in
theorem q_okC_170 : q_okCd 170 = true := by decide +kernel
set_option maxRecDepth 100000 in
theorem q_okC_171 : q_okCd 171 = true := by decide +kernel
set_option maxRecDepth 100000 in
theorem q_okC_172 : q_okCd 172 = true := by decide +kernel
set_option maxRecDepth 100000 in
theorem q_okC_173 : q_okCd 173 = true := by decide +kernel
set_option maxRecDepth 100000 in
theorem q_okC_174 : q_okCd 174 = true := by decide +kernel
set_option maxRecDepth 100000 in
theorem q_okC_175 : q_okCd 175 = true := by decide +kernel
set_option maxRecDepth 100000 in
theorem q_okC_176 : q_okCd 176 = true := by decide +kernel
set_option maxRecDepth 100000 in
theorem q_okC_177 : q_okCd 177 = true := by decide +kernel
set_option maxRecDepth 100000 in
theorem q_okC_178 : q_okCd 178 = true := by decide +kernel
set_option maxRecDepth 100000 in
theorem q_okC_179 : q_okCd 179 = true := by decide +kernel
set_option maxRecDepth 100000 in
theorem q_okC_180 : q_okCd 180 = true := by decide +kernel
set_option maxRecDepth 100000 in
theorem q_okC_181 : q_okCd 181 = true := by decide +kernel
set_option maxRecDepth 100000 in
theorem q_okC_182 : q_okCd 182 = true := by decide +kernel
set_option maxRecDepth 100000 in
theorem q_okC_183 : q_okCd 183 = true := by decide +kernel
set_option maxRecDepth 100000 in
theorem q_okC_184 : q_okCd 184 = true := by decide +kernel
set_option maxRecDepth 100000 in
theorem q_okC_185 : q_okCd 185 = true := by decide +kernel
set_option maxRecDepth 100000 in
theorem q_okC_186 : q_okCd 186 = true := by decide +kernel
set_option maxRecDepth 100000 in
theorem q_okC_187 : q_okCd 187 = true := by decide +kernel
set_option maxRecDepth 100000 in
theorem q_okC_188 : q_okCd 188 = true := by decide +kernel
set_option maxRecDepth 100000 in
theorem q_okC_189 : q_okCd 189 = true := by decide +kernel
set_option maxRecDepth 100000 in
theorem q_okC_190 : q_okCd 190 = true := by decide +kernel
set_option maxRecDepth 100000 in
theorem q_okC_191 : q_okCd 191 = true := by decide +kernel
set_option maxRecDepth 100000 in
theorem q_okC_192 : q_okCd 192 = true := by decide +kernel
set_option maxRecDepth 100000 in
theorem q_okC_193 : q_okCd 193 = true := by decide +kernel
set_option maxRecDepth 100000 in
theorem q_okC_194 : q_okCd 194 = true := by decide +kernel
set_option maxRecDepth 100000 in
theorem q_okC_195 : q_okCd 195 = true := by decide +kernel
set_option maxRecDepth 100000 in
theorem q_okC_196 : q_okCd 196 = true := by decide +kernel
set_option maxRecDepth 100000 in
theorem q_okC_197 : q_okCd 197 = true := by decide +kernel
set_option maxRecDepth 100000 in
theorem q_okC_198 : q_okCd 198 = true := by decide +kernel
set_option maxRecDepth 100000 in
theorem q_okC_199 : q_okCd 199 = true := by decide +kernel
set_option maxRecDepth 100000 in
theorem q_okC_200 : q_okCd 200 = true := by decide +kernel
set_option maxRecDepth 100000 in
theorem q_okC_201 : q_okCd 201 = true := by decide +kernel
set_option maxRecDepth 100000 in
theorem q_okC_202 : q_okCd 202 = true := by decide +kernel
set_option maxRecDepth 100000 in
theorem q_okC_203 : q_okCd 203 = true := by decide +kernel
set_option maxRecDepth 100000 in
theorem q_okC_204 : q_okCd 204 = true := by decide +kernel
set_option maxRecDepth 100000 in
theorem q_okL_0 : (((q_cd 205).zipIdx.drop 0).take 51).all (fun q => q_okE 205 (q_cd 205) q.2 q.1) = true := by decide +kernel
set_option maxRecDepth 100000 in
theorem q_okL_1 : (((q_cd 205).zipIdx.drop 51).take 51).all (fun q => q_okE 205 (q_cd 205) q.2 q.1) = true := by decide +kernel
set_option maxRecDepth 100000 in
theorem q_okL_2 : (((q_cd 205).zipIdx.drop 102).take 51).all (fun q => q_okE 205 (q_cd 205) q.2 q.1) = true := by decide +kernel
set_option maxRecDepth 100000 in
theorem q_okL_3 : (((q_cd 205).zipIdx.drop 153).take 51).all (fun q => q_okE 205 (q_cd 205) q.2 q.1) = true := by decide +kernel
set_option maxRecDepth 100000 in
theorem q_okL_4 : (((q_cd 205).zipIdx.drop 204).take 51).all (fun q => q_okE 205 (q_cd 205) q.2 q.1) = true := by decide +kernel
set_option maxRecDepth 100000 in
theorem q_okL_5 : (((q_cd 205).zipIdx.drop 255).take 51).all (fun q => q_okE 205 (q_cd 205) q.2 q.1) = true := by decide +kernel
set_option maxRecDepth 100000 in
theorem q_okL_6 : (((q_cd 205).zipIdx.drop 306).take 51).all (fun q => q_okE 205 (q_cd 205) q.2 q.1) = true := by decide +kernel
set_option maxRecDepth 100000 in
theorem q_okL_7 : (((q_cd 205).zipIdx.drop 357).take 51).all (fun q => q_okE 205 (q_cd 205) q.2 q.1) = true := by decide +kernel
set_option maxRecDepth 100000 in
theorem q_okL_8 : (((q_cd 205).zipIdx.drop 408).take 51).all (fun q => q_okE 205 (q_cd 205) q.2 q.1) = true := by decide +kernel
set_option maxRecDepth 100000 in
theorem q_okL_9 : (((q_cd 205).zipIdx.drop 459).take 51).all (fun q => q_okE 205 (q_cd 205) q.2 q.1) = true := by decide +kernel
set_option maxRecDepth 100000 in
theorem q_okL_10 : (((q_cd 205).zipIdx.drop 510).take 51).all (fun q => q_okE 205 (q_cd 205) q.2 q.1) = true := by decide +kernel
set_option maxRecDepth 100000 in
theorem q_okL_11 : (((q_cd 205).zipIdx.drop 561).take 51).all (fun q => q_okE 205 (q_cd 205) q.2 q.1) = true := by decide +kernel
set_option maxRecDepth 100000 in
theorem q_okL_12 : (((q_cd 205).zipIdx.drop 612).take 51).all (fun q => q_okE 205 (q_cd 205) q.2 q.1) = true := by decide +kernel
set_option maxRecDepth 100000 in
theorem q_okL_13 : (((q_cd 205).zipIdx.drop 663).take 51).all (fun q => q_okE 205 (q_cd 205) q.2 q.1) = true := by decide +kernel
set_option maxRecDepth 100000 in
theorem q_okL_14 : (((q_cd 205).zipIdx.drop 714).take 51).all (fun q => q_okE 205 (q_cd 205) q.2 q.1) = true := by decide +kernel
set_option maxRecDepth 100000 in
theorem q_okL_15 : (((q_cd 205).zipIdx.drop 765).take 51).all (fun q => q_okE 205 (q_cd 205) q.2 q.1) = true := by decide +kernel
set_option maxRecDepth 100000 in
theorem q_okL_16 : (((q_cd 205).zipIdx.drop 816).take 51).all (fun q => q_okE 205 (q_cd 205) q.2 q.1) = true := by decide +kernel
set_option maxRecDepth 100000 in
theorem q_okL_17 : (((q_cd 205).zipIdx.drop 867).take 51).all (fun q => q_okE 205 (q_cd 205) q.2 q.1) = true := by decide +kernel
set_option maxRecDepth 100000 in
theorem q_okL_18 : (((q_cd 205).zipIdx.drop 918).take 51).all (fun q => q_okE 205 (q_cd 205) q.2 q.1) = true := by decide +kernel
set_option maxRecDepth 100000 in
theorem q_okL_19 : (((q_cd 205).zipIdx.drop 969).take 51).all (fun q => q_okE 205 (q_cd 205) q.2 q.1) = true := by decide +kernel
theorem q_okC_all (k : Nat) (hk : k < 205) : q_okCd k = true := by
  rcases Nat.lt_or_ge k 102 with h1 | h1
  · rcases Nat.lt_or_ge k 51 with h2 | h2
    · rcases Nat.lt_or_ge k 25 with h3 | h3
      · rcases Nat.lt_or_ge k 12 with h4 | h4
        · rcases Nat.lt_or_ge k 6 with h5 | h5
          · rcases Nat.lt_or_ge k 3 with h6 | h6
            · rcases Nat.lt_or_ge k 1 with h7 | h7
              · obtain rfl : k = 0 := by omega
                exact q_okC_0
              · rcases Nat.lt_or_ge k 2 with h8 | h8
                · obtain rfl : k = 1 := by omega
                  exact q_okC_1
                · obtain rfl : k = 2 := by omega
                  exact q_okC_2
            · rcases Nat.lt_or_ge k 4 with h7 | h7
              · obtain rfl : k = 3 := by omega
                exact q_okC_3
              · rcases Nat.lt_or_ge k 5 with h8 | h8
                · obtain rfl : k = 4 := by omega
                  exact q_okC_4
                · obtain rfl : k = 5 := by omega
                  exact q_okC_5
          · rcases Nat.lt_or_ge k 9 with h6 | h6
            · rcases Nat.lt_or_ge k 7 with h7 | h7
              · obtain rfl : k = 6 := by omega
                exact q_okC_6
              · rcases Nat.lt_or_ge k 8 with h8 | h8
                · obtain rfl : k = 7 := by omega
                  exact q_okC_7
                · obtain rfl : k = 8 := by omega
                  exact q_okC_8
            · rcases Nat.lt_or_ge k 10 with h7 | h7
              · obtain rfl : k = 9 := by omega
                exact q_okC_9
              · rcases Nat.lt_or_ge k 11 with h8 | h8
                · obtain rfl : k = 10 := by omega
                  exact q_okC_10
                · obtain rfl : k = 11 := by omega
                  exact q_okC_11
        · rcases Nat.lt_or_ge k 18 with h5 | h5
          · rcases Nat.lt_or_ge k 15 with h6 | h6
            · rcases Nat.lt_or_ge k 13 with h7 | h7
              · obtain rfl : k = 12 := by omega
                exact q_okC_12
              · rcases Nat.lt_or_ge k 14 with h8 | h8
                · obtain rfl : k = 13 := by omega
                  exact q_okC_13
                · obtain rfl : k = 14 := by omega
                  exact q_okC_14
            · rcases Nat.lt_or_ge k 16 with h7 | h7
              · obtain rfl : k = 15 := by omega
                exact q_okC_15
              · rcases Nat.lt_or_ge k 17 with h8 | h8
                · obtain rfl : k = 16 := by omega
                  exact q_okC_16
                · obtain rfl : k = 17 := by omega
                  exact q_okC_17
          · rcases Nat.lt_or_ge k 21 with h6 | h6
            · rcases Nat.lt_or_ge k 19 with h7 | h7
              · obtain rfl : k = 18 := by omega
                exact q_okC_18
              · rcases Nat.lt_or_ge k 20 with h8 | h8
                · obtain rfl : k = 19 := by omega
                  exact q_okC_19
                · obtain rfl : k = 20 := by omega
                  exact q_okC_20
            · rcases Nat.lt_or_ge k 23 with h7 | h7
              · rcases Nat.lt_or_ge k 22 with h8 | h8
                · obtain rfl : k = 21 := by omega
                  exact q_okC_21
                · obtain rfl : k = 22 := by omega
                  exact q_okC_22
              · rcases Nat.lt_or_ge k 24 with h8 | h8
                · obtain rfl : k = 23 := by omega
                  exact q_okC_23
                · obtain rfl : k = 24 := by omega
                  exact q_okC_24
      · rcases Nat.lt_or_ge k 38 with h4 | h4
        · rcases Nat.lt_or_ge k 31 with h5 | h5
          · rcases Nat.lt_or_ge k 28 with h6 | h6
            · rcases Nat.lt_or_ge k 26 with h7 | h7
              · obtain rfl : k = 25 := by omega
                exact q_okC_25
              · rcases Nat.lt_or_ge k 27 with h8 | h8
                · obtain rfl : k = 26 := by omega
                  exact q_okC_26
                · obtain rfl : k = 27 := by omega
                  exact q_okC_27
            · rcases Nat.lt_or_ge k 29 with h7 | h7
              · obtain rfl : k = 28 := by omega
                exact q_okC_28
              · rcases Nat.lt_or_ge k 30 with h8 | h8
                · obtain rfl : k = 29 := by omega
                  exact q_okC_29
                · obtain rfl : k = 30 := by omega
                  exact q_okC_30
          · rcases Nat.lt_or_ge k 34 with h6 | h6
            · rcases Nat.lt_or_ge k 32 with h7 | h7
              · obtain rfl : k = 31 := by omega
                exact q_okC_31
              · rcases Nat.lt_or_ge k 33 with h8 | h8
                · obtain rfl : k = 32 := by omega
                  exact q_okC_32
                · obtain rfl : k = 33 := by omega
                  exact q_okC_33
            · rcases Nat.lt_or_ge k 36 with h7 | h7
              · rcases Nat.lt_or_ge k 35 with h8 | h8
                · obtain rfl : k = 34 := by omega
                  exact q_okC_34
                · obtain rfl : k = 35 := by omega
                  exact q_okC_35
              · rcases Nat.lt_or_ge k 37 with h8 | h8
                · obtain rfl : k = 36 := by omega
                  exact q_okC_36
                · obtain rfl : k = 37 := by omega
                  exact q_okC_37
        · rcases Nat.lt_or_ge k 44 with h5 | h5
          · rcases Nat.lt_or_ge k 41 with h6 | h6
            · rcases Nat.lt_or_ge k 39 with h7 | h7
              · obtain rfl : k = 38 := by omega
                exact q_okC_38
              · rcases Nat.lt_or_ge k 40 with h8 | h8
                · obtain rfl : k = 39 := by omega
                  exact q_okC_39
                · obtain rfl : k = 40 := by omega
                  exact q_okC_40
            · rcases Nat.lt_or_ge k 42 with h7 | h7
              · obtain rfl : k = 41 := by omega
                exact q_okC_41
              · rcases Nat.lt_or_ge k 43 with h8 | h8
                · obtain rfl : k = 42 := by omega
                  exact q_okC_42
                · obtain rfl : k = 43 := by omega
                  exact q_okC_43
          · rcases Nat.lt_or_ge k 47 with h6 | h6
            · rcases Nat.lt_or_ge k 45 with h7 | h7
              · obtain rfl : k = 44 := by omega
                exact q_okC_44
              · rcases Nat.lt_or_ge k 46 with h8 | h8
                · obtain rfl : k = 45 := by omega
                  exact q_okC_45
                · obtain rfl : k = 46 := by omega
                  exact q_okC_46
            · rcases Nat.lt_or_ge k 49 with h7 | h7
              · rcases Nat.lt_or_ge k 48 with h8 | h8
                · obtain rfl : k = 47 := by omega
                  exact q_okC_47
                · obtain rfl : k = 48 := by omega
                  exact q_okC_48
              · rcases Nat.lt_or_ge k 50 with h8 | h8
                · obtain rfl : k = 49 := by omega
                  exact q_okC_49
                · obtain rfl : k = 50 := by omega
                  exact q_okC_50
    · rcases Nat.lt_or_ge k 76 with h3 | h3
      · rcases Nat.lt_or_ge k 63 with h4 | h4
        · rcases Nat.lt_or_ge k 57 with h5 | h5
          · rcases Nat.lt_or_ge k 54 with h6 | h6
            · rcases Nat.lt_or_ge k 52 with h7 | h7
              · obtain rfl : k = 51 := by omega
                exact q_okC_51
              · rcases Nat.lt_or_ge k 53 with h8 | h8
                · obtain rfl : k = 52 := by omega
                  exact q_okC_52
                · obtain rfl : k = 53 := by omega
                  exact q_okC_53
            · rcases Nat.lt_or_ge k 55 with h7 | h7
              · obtain rfl : k = 54 := by omega
                exact q_okC_54
              · rcases Nat.lt_or_ge k 56 with h8 | h8
                · obtain rfl : k = 55 := by omega
                  exact q_okC_55
                · obtain rfl : k = 56 := by omega
                  exact q_okC_56
          · rcases Nat.lt_or_ge k 60 with h6 | h6
            · rcases Nat.lt_or_ge k 58 with h7 | h7
              · obtain rfl : k = 57 := by omega
                exact q_okC_57
              · rcases Nat.lt_or_ge k 59 with h8 | h8
                · obtain rfl : k = 58 := by omega
                  exact q_okC_58
                · obtain rfl : k = 59 := by omega
                  exact q_okC_59
            · rcases Nat.lt_or_ge k 61 with h7 | h7
              · obtain rfl : k = 60 := by omega
                exact q_okC_60
              · rcases Nat.lt_or_ge k 62 with h8 | h8
                · obtain rfl : k = 61 := by omega
                  exact q_okC_61
                · obtain rfl : k = 62 := by omega
                  exact q_okC_62
        · rcases Nat.lt_or_ge k 69 with h5 | h5
          · rcases Nat.lt_or_ge k 66 with h6 | h6
            · rcases Nat.lt_or_ge k 64 with h7 | h7
              · obtain rfl : k = 63 := by omega
                exact q_okC_63
              · rcases Nat.lt_or_ge k 65 with h8 | h8
                · obtain rfl : k = 64 := by omega
                  exact q_okC_64
                · obtain rfl : k = 65 := by omega
                  exact q_okC_65
            · rcases Nat.lt_or_ge k 67 with h7 | h7
              · obtain rfl : k = 66 := by omega
                exact q_okC_66
              · rcases Nat.lt_or_ge k 68 with h8 | h8
                · obtain rfl : k = 67 := by omega
                  exact q_okC_67
                · obtain rfl : k = 68 := by omega
                  exact q_okC_68
          · rcases Nat.lt_or_ge k 72 with h6 | h6
            · rcases Nat.lt_or_ge k 70 with h7 | h7
              · obtain rfl : k = 69 := by omega
                exact q_okC_69
              · rcases Nat.lt_or_ge k 71 with h8 | h8
                · obtain rfl : k = 70 := by omega
                  exact q_okC_70
                · obtain rfl : k = 71 := by omega
                  exact q_okC_71
            · rcases Nat.lt_or_ge k 74 with h7 | h7
              · rcases Nat.lt_or_ge k 73 with h8 | h8
                · obtain rfl : k = 72 := by omega
                  exact q_okC_72
                · obtain rfl : k = 73 := by omega
                  exact q_okC_73
              · rcases Nat.lt_or_ge k 75 with h8 | h8
                · obtain rfl : k = 74 := by omega
                  exact q_okC_74
                · obtain rfl : k = 75 := by omega
                  exact q_okC_75
      · rcases Nat.lt_or_ge k 89 with h4 | h4
        · rcases Nat.lt_or_ge k 82 with h5 | h5
          · rcases Nat.lt_or_ge k 79 with h6 | h6
            · rcases Nat.lt_or_ge k 77 with h7 | h7
              · obtain rfl : k = 76 := by omega
                exact q_okC_76
              · rcases Nat.lt_or_ge k 78 with h8 | h8
                · obtain rfl : k = 77 := by omega
                  exact q_okC_77
                · obtain rfl : k = 78 := by omega
                  exact q_okC_78
            · rcases Nat.lt_or_ge k 80 with h7 | h7
              · obtain rfl : k = 79 := by omega
                exact q_okC_79
              · rcases Nat.lt_or_ge k 81 with h8 | h8
                · obtain rfl : k = 80 := by omega
                  exact q_okC_80
                · obtain rfl : k = 81 := by omega
                  exact q_okC_81
          · rcases Nat.lt_or_ge k 85 with h6 | h6
            · rcases Nat.lt_or_ge k 83 with h7 | h7
              · obtain rfl : k = 82 := by omega
                exact q_okC_82
              · rcases Nat.lt_or_ge k 84 with h8 | h8
                · obtain rfl : k = 83 := by omega
                  exact q_okC_83
                · obtain rfl : k = 84 := by omega
                  exact q_okC_84
            · rcases Nat.lt_or_ge k 87 with h7 | h7
              · rcases Nat.lt_or_ge k 86 with h8 | h8
                · obtain rfl : k = 85 := by omega
                  exact q_okC_85
                · obtain rfl : k = 86 := by omega
                  exact q_okC_86
              · rcases Nat.lt_or_ge k 88 with h8 | h8
                · obtain rfl : k = 87 := by omega
                  exact q_okC_87
                · obtain rfl : k = 88 := by omega
                  exact q_okC_88
        · rcases Nat.lt_or_ge k 95 with h5 | h5
          · rcases Nat.lt_or_ge k 92 with h6 | h6
            · rcases Nat.lt_or_ge k 90 with h7 | h7
              · obtain rfl : k = 89 := by omega
                exact q_okC_89
              · rcases Nat.lt_or_ge k 91 with h8 | h8
                · obtain rfl : k = 90 := by omega
                  exact q_okC_90
                · obtain rfl : k = 91 := by omega
                  exact q_okC_91
            · rcases Nat.lt_or_ge k 93 with h7 | h7
              · obtain rfl : k = 92 := by omega
                exact q_okC_92
              · rcases Nat.lt_or_ge k 94 with h8 | h8
                · obtain rfl : k = 93 := by omega
                  exact q_okC_93
                · obtain rfl : k = 94 := by omega
                  exact q_okC_94
          · rcases Nat.lt_or_ge k 98 with h6 | h6
            · rcases Nat.lt_or_ge k 96 with h7 | h7
              · obtain rfl : k = 95 := by omega
                exact q_okC_95
              · rcases Nat.lt_or_ge k 97 with h8 | h8
                · obtain rfl : k = 96 := by omega
                  exact q_okC_96
                · obtain rfl : k = 97 := by omega
                  exact q_okC_97
            · rcases Nat.lt_or_ge k 100 with h7 | h7
              · rcases Nat.lt_or_ge k 99 with h8 | h8
                · obtain rfl : k = 98 := by omega
                  exact q_okC_98
                · obtain rfl : k = 99 := by omega
                  exact q_okC_99
              · rcases Nat.lt_or_ge k 101 with h8 | h8
                · obtain rfl : k = 100 := by omega
                  exact q_okC_100
                · obtain rfl : k = 101 := by omega
                  exact q_okC_101
  · rcases Nat.lt_or_ge k 153 with h2 | h2
    · rcases Nat.lt_or_ge k 127 with h3 | h3
      · rcases Nat.lt_or_ge k 114 with h4 | h4
        · rcases Nat.lt_or_ge k 108 with h5 | h5
          · rcases Nat.lt_or_ge k 105 with h6 | h6
            · rcases Nat.lt_or_ge k 103 with h7 | h7
              · obtain rfl : k = 102 := by omega
                exact q_okC_102
              · rcases Nat.lt_or_ge k 104 with h8 | h8
                · obtain rfl : k = 103 := by omega
                  exact q_okC_103
                · obtain rfl : k = 104 := by omega
                  exact q_okC_104
            · rcases Nat.lt_or_ge k 106 with h7 | h7
              · obtain rfl : k = 105 := by omega
                exact q_okC_105
              · rcases Nat.lt_or_ge k 107 with h8 | h8
                · obtain rfl : k = 106 := by omega
                  exact q_okC_106
                · obtain rfl : k = 107 := by omega
                  exact q_okC_107
          · rcases Nat.lt_or_ge k 111 with h6 | h6
            · rcases Nat.lt_or_ge k 109 with h7 | h7
              · obtain rfl : k = 108 := by omega
                exact q_okC_108
              · rcases Nat.lt_or_ge k 110 with h8 | h8
                · obtain rfl : k = 109 := by omega
                  exact q_okC_109
                · obtain rfl : k = 110 := by omega
                  exact q_okC_110
            · rcases Nat.lt_or_ge k 112 with h7 | h7
              · obtain rfl : k = 111 := by omega
                exact q_okC_111
              · rcases Nat.lt_or_ge k 113 with h8 | h8
                · obtain rfl : k = 112 := by omega
                  exact q_okC_112
                · obtain rfl : k = 113 := by omega
                  exact q_okC_113
        · rcases Nat.lt_or_ge k 120 with h5 | h5
          · rcases Nat.lt_or_ge k 117 with h6 | h6
            · rcases Nat.lt_or_ge k 115 with h7 | h7
              · obtain rfl : k = 114 := by omega
                exact q_okC_114
              · rcases Nat.lt_or_ge k 116 with h8 | h8
                · obtain rfl : k = 115 := by omega
                  exact q_okC_115
                · obtain rfl : k = 116 := by omega
                  exact q_okC_116
            · rcases Nat.lt_or_ge k 118 with h7 | h7
              · obtain rfl : k = 117 := by omega
                exact q_okC_117
              · rcases Nat.lt_or_ge k 119 with h8 | h8
                · obtain rfl : k = 118 := by omega
                  exact q_okC_118
                · obtain rfl : k = 119 := by omega
                  exact q_okC_119
          · rcases Nat.lt_or_ge k 123 with h6 | h6
            · rcases Nat.lt_or_ge k 121 with h7 | h7
              · obtain rfl : k = 120 := by omega
                exact q_okC_120
              · rcases Nat.lt_or_ge k 122 with h8 | h8
                · obtain rfl : k = 121 := by omega
                  exact q_okC_121
                · obtain rfl : k = 122 := by omega
                  exact q_okC_122
            · rcases Nat.lt_or_ge k 125 with h7 | h7
              · rcases Nat.lt_or_ge k 124 with h8 | h8
                · obtain rfl : k = 123 := by omega
                  exact q_okC_123
                · obtain rfl : k = 124 := by omega
                  exact q_okC_124
              · rcases Nat.lt_or_ge k 126 with h8 | h8
                · obtain rfl : k = 125 := by omega
                  exact q_okC_125
                · obtain rfl : k = 126 := by omega
                  exact q_okC_126
      · rcases Nat.lt_or_ge k 140 with h4 | h4
        · rcases Nat.lt_or_ge k 133 with h5 | h5
          · rcases Nat.lt_or_ge k 130 with h6 | h6
            · rcases Nat.lt_or_ge k 128 with h7 | h7
              · obtain rfl : k = 127 := by omega
                exact q_okC_127
              · rcases Nat.lt_or_ge k 129 with h8 | h8
                · obtain rfl : k = 128 := by omega
                  exact q_okC_128
                · obtain rfl : k = 129 := by omega
                  exact q_okC_129
            · rcases Nat.lt_or_ge k 131 with h7 | h7
              · obtain rfl : k = 130 := by omega
                exact q_okC_130
              · rcases Nat.lt_or_ge k 132 with h8 | h8
                · obtain rfl : k = 131 := by omega
                  exact q_okC_131
                · obtain rfl : k = 132 := by omega
                  exact q_okC_132
          · rcases Nat.lt_or_ge k 136 with h6 | h6
            · rcases Nat.lt_or_ge k 134 with h7 | h7
              · obtain rfl : k = 133 := by omega
                exact q_okC_133
              · rcases Nat.lt_or_ge k 135 with h8 | h8
                · obtain rfl : k = 134 := by omega
                  exact q_okC_134
                · obtain rfl : k = 135 := by omega
                  exact q_okC_135
            · rcases Nat.lt_or_ge k 138 with h7 | h7
              · rcases Nat.lt_or_ge k 137 with h8 | h8
                · obtain rfl : k = 136 := by omega
                  exact q_okC_136
                · obtain rfl : k = 137 := by omega
                  exact q_okC_137
              · rcases Nat.lt_or_ge k 139 with h8 | h8
                · obtain rfl : k = 138 := by omega
                  exact q_okC_138
                · obtain rfl : k = 139 := by omega
                  exact q_okC_139
        · rcases Nat.lt_or_ge k 146 with h5 | h5
          · rcases Nat.lt_or_ge k 143 with h6 | h6
            · rcases Nat.lt_or_ge k 141 with h7 | h7
              · obtain rfl : k = 140 := by omega
                exact q_okC_140
              · rcases Nat.lt_or_ge k 142 with h8 | h8
                · obtain rfl : k = 141 := by omega
                  exact q_okC_141
                · obtain rfl : k = 142 := by omega
                  exact q_okC_142
            · rcases Nat.lt_or_ge k 144 with h7 | h7
              · obtain rfl : k = 143 := by omega
                exact q_okC_143
              · rcases Nat.lt_or_ge k 145 with h8 | h8
                · obtain rfl : k = 144 := by omega
                  exact q_okC_144
                · obtain rfl : k = 145 := by omega
                  exact q_okC_145
          · rcases Nat.lt_or_ge k 149 with h6 | h6
            · rcases Nat.lt_or_ge k 147 with h7 | h7
              · obtain rfl : k = 146 := by omega
                exact q_okC_146
              · rcases Nat.lt_or_ge k 148 with h8 | h8
                · obtain rfl : k = 147 := by omega
                  exact q_okC_147
                · obtain rfl : k = 148 := by omega
                  exact q_okC_148
            · rcases Nat.lt_or_ge k 151 with h7 | h7
              · rcases Nat.lt_or_ge k 150 with h8 | h8
                · obtain rfl : k = 149 := by omega
                  exact q_okC_149
                · obtain rfl : k = 150 := by omega
                  exact q_okC_150
              · rcases Nat.lt_or_ge k 152 with h8 | h8
                · obtain rfl : k = 151 := by omega
                  exact q_okC_151
                · obtain rfl : k = 152 := by omega
                  exact q_okC_152
    · rcases Nat.lt_or_ge k 179 with h3 | h3
      · rcases Nat.lt_or_ge k 166 with h4 | h4
        · rcases Nat.lt_or_ge k 159 with h5 | h5
          · rcases Nat.lt_or_ge k 156 with h6 | h6
            · rcases Nat.lt_or_ge k 154 with h7 | h7
              · obtain rfl : k = 153 := by omega
                exact q_okC_153
              · rcases Nat.lt_or_ge k 155 with h8 | h8
                · obtain rfl : k = 154 := by omega
                  exact q_okC_154
                · obtain rfl : k = 155 := by omega
                  exact q_okC_155
            · rcases Nat.lt_or_ge k 157 with h7 | h7
              · obtain rfl : k = 156 := by omega
                exact q_okC_156
              · rcases Nat.lt_or_ge k 158 with h8 | h8
                · obtain rfl : k = 157 := by omega
                  exact q_okC_157
                · obtain rfl : k = 158 := by omega
                  exact q_okC_158
          · rcases Nat.lt_or_ge k 162 with h6 | h6
            · rcases Nat.lt_or_ge k 160 with h7 | h7
              · obtain rfl : k = 159 := by omega
                exact q_okC_159
              · rcases Nat.lt_or_ge k 161 with h8 | h8
                · obtain rfl : k = 160 := by omega
                  exact q_okC_160
                · obtain rfl : k = 161 := by omega
                  exact q_okC_161
            · rcases Nat.lt_or_ge k 164 with h7 | h7
              · rcases Nat.lt_or_ge k 163 with h8 | h8
                · obtain rfl : k = 162 := by omega
                  exact q_okC_162
                · obtain rfl : k = 163 := by omega
                  exact q_okC_163
              · rcases Nat.lt_or_ge k 165 with h8 | h8
                · obtain rfl : k = 164 := by omega
                  exact q_okC_164
                · obtain rfl : k = 165 := by omega
                  exact q_okC_165
        · rcases Nat.lt_or_ge k 172 with h5 | h5
          · rcases Nat.lt_or_ge k 169 with h6 | h6
            · rcases Nat.lt_or_ge k 167 with h7 | h7
              · obtain rfl : k = 166 := by omega
                exact q_okC_166
              · rcases Nat.lt_or_ge k 168 with h8 | h8
                · obtain rfl : k = 167 := by omega
                  exact q_okC_167
                · obtain rfl : k = 168 := by omega
                  exact q_okC_168
            · rcases Nat.lt_or_ge k 170 with h7 | h7
              · obtain rfl : k = 169 := by omega
                exact q_okC_169
              · rcases Nat.lt_or_ge k 171 with h8 | h8
                · obtain rfl : k = 170 := by omega
                  exact q_okC_170
                · obtain rfl : k = 171 := by omega
                  exact q_okC_171
          · rcases Nat.lt_or_ge k 175 with h6 | h6
            · rcases Nat.lt_or_ge k 173 with h7 | h7
              · obtain rfl : k = 172 := by omega
                exact q_okC_172
              · rcases Nat.lt_or_ge k 174 with h8 | h8
                · obtain rfl : k = 173 := by omega
                  exact q_okC_173
                · obtain rfl : k = 174 := by omega
                  exact q_okC_174
            · rcases Nat.lt_or_ge k 177 with h7 | h7
              · rcases Nat.lt_or_ge k 176 with h8 | h8
                · obtain rfl : k = 175 := by omega
                  exact q_okC_175
                · obtain rfl : k = 176 := by omega
                  exact q_okC_176
              · rcases Nat.lt_or_ge k 178 with h8 | h8
                · obtain rfl : k = 177 := by omega
                  exact q_okC_177
                · obtain rfl : k = 178 := by omega
                  exact q_okC_178
      · rcases Nat.lt_or_ge k 192 with h4 | h4
        · rcases Nat.lt_or_ge k 185 with h5 | h5
          · rcases Nat.lt_or_ge k 182 with h6 | h6
            · rcases Nat.lt_or_ge k 180 with h7 | h7
              · obtain rfl : k = 179 := by omega
                exact q_okC_179
              · rcases Nat.lt_or_ge k 181 with h8 | h8
                · obtain rfl : k = 180 := by omega
                  exact q_okC_180
                · obtain rfl : k = 181 := by omega
                  exact q_okC_181
            · rcases Nat.lt_or_ge k 183 with h7 | h7
              · obtain rfl : k = 182 := by omega
                exact q_okC_182
              · rcases Nat.lt_or_ge k 184 with h8 | h8
                · obtain rfl : k = 183 := by omega
                  exact q_okC_183
                · obtain rfl : k = 184 := by omega
                  exact q_okC_184
          · rcases Nat.lt_or_ge k 188 with h6 | h6
            · rcases Nat.lt_or_ge k 186 with h7 | h7
              · obtain rfl : k = 185 := by omega
                exact q_okC_185
              · rcases Nat.lt_or_ge k 187 with h8 | h8
                · obtain rfl : k = 186 := by omega
                  exact q_okC_186
                · obtain rfl : k = 187 := by omega
                  exact q_okC_187
            · rcases Nat.lt_or_ge k 190 with h7 | h7
              · rcases Nat.lt_or_ge k 189 with h8 | h8
                · obtain rfl : k = 188 := by omega
                  exact q_okC_188
                · obtain rfl : k = 189 := by omega
                  exact q_okC_189
              · rcases Nat.lt_or_ge k 191 with h8 | h8
                · obtain rfl : k = 190 := by omega
                  exact q_okC_190
                · obtain rfl : k = 191 := by omega
                  exact q_okC_191
        · rcases Nat.lt_or_ge k 198 with h5 | h5
          · rcases Nat.lt_or_ge k 195 with h6 | h6
            · rcases Nat.lt_or_ge k 193 with h7 | h7
              · obtain rfl : k = 192 := by omega
                exact q_okC_192
              · rcases Nat.lt_or_ge k 194 with h8 | h8
                · obtain rfl : k = 193 := by omega
                  exact q_okC_193
                · obtain rfl : k = 194 := by omega
                  exact q_okC_194
            · rcases Nat.lt_or_ge k 196 with h7 | h7
              · obtain rfl : k = 195 := by omega
                exact q_okC_195
              · rcases Nat.lt_or_ge k 197 with h8 | h8
                · obtain rfl : k = 196 := by omega
                  exact q_okC_196
                · obtain rfl : k = 197 := by omega
                  exact q_okC_197
          · rcases Nat.lt_or_ge k 201 with h6 | h6
            · rcases Nat.lt_or_ge k 199 with h7 | h7
              · obtain rfl : k = 198 := by omega
                exact q_okC_198
              · rcases Nat.lt_or_ge k 200 with h8 | h8
                · obtain rfl : k = 199 := by omega
                  exact q_okC_199
                · obtain rfl : k = 200 := by omega
                  exact q_okC_200
            · rcases Nat.lt_or_ge k 203 with h7 | h7
              · rcases Nat.lt_or_ge k 202 with h8 | h8
                · obtain rfl : k = 201 := by omega
                  exact q_okC_201
                · obtain rfl : k = 202 := by omega
                  exact q_okC_202
              · rcases Nat.lt_or_ge k 204 with h8 | h8
                · obtain rfl : k = 203 := by omega
                  exact q_okC_203
                · obtain rfl : k = 204 := by omega
                  exact q_okC_204
theorem q_okL_all (k : Nat) (hk : k < 20) : (((q_cd 205).zipIdx.drop (51 * k)).take 51).all (fun q => q_okE 205 (q_cd 205) q.2 q.1) = true := by
  rcases Nat.lt_or_ge k 10 with h1 | h1
  · rcases Nat.lt_or_ge k 5 with h2 | h2
    · rcases Nat.lt_or_ge k 2 with h3 | h3
      · rcases Nat.lt_or_ge k 1 with h4 | h4
        · obtain rfl : k = 0 := by omega
          exact q_okL_0
        · obtain rfl : k = 1 := by omega
          exact q_okL_1
      · rcases Nat.lt_or_ge k 3 with h4 | h4
        · obtain rfl : k = 2 := by omega
          exact q_okL_2
        · rcases Nat.lt_or_ge k 4 with h5 | h5
          · obtain rfl : k = 3 := by omega
            exact q_okL_3
          · obtain rfl : k = 4 := by omega
            exact q_okL_4
    · rcases Nat.lt_or_ge k 7 with h3 | h3
      · rcases Nat.lt_or_ge k 6 with h4 | h4
        · obtain rfl : k = 5 := by omega
          exact q_okL_5
        · obtain rfl : k = 6 := by omega
          exact q_okL_6
      · rcases Nat.lt_or_ge k 8 with h4 | h4
        · obtain rfl : k = 7 := by omega
          exact q_okL_7
        · rcases Nat.lt_or_ge k 9 with h5 | h5
          · obtain rfl : k = 8 := by omega
            exact q_okL_8
          · obtain rfl : k = 9 := by omega
            exact q_okL_9
  · rcases Nat.lt_or_ge k 15 with h2 | h2
    · rcases Nat.lt_or_ge k 12 with h3 | h3
      · rcases Nat.lt_or_ge k 11 with h4 | h4
        · obtain rfl : k = 10 := by omega
          exact q_okL_10
        · obtain rfl : k = 11 := by omega
          exact q_okL_11
      · rcases Nat.lt_or_ge k 13 with h4 | h4
        · obtain rfl : k = 12 := by omega
          exact q_okL_12
        · rcases Nat.lt_or_ge k 14 with h5 | h5
          · obtain rfl : k = 13 := by omega
            exact q_okL_13
          · obtain rfl : k = 14 := by omega
            exact q_okL_14
    · rcases Nat.lt_or_ge k 17 with h3 | h3
      · rcases Nat.lt_or_ge k 16 with h4 | h4
        · obtain rfl : k = 15 := by omega
          exact q_okL_15
        · obtain rfl : k = 16 := by omega
          exact q_okL_16
      · rcases Nat.lt_or_ge k 18 with h4 | h4
        · obtain rfl : k = 17 := by omega
          exact q_okL_17
        · rcases Nat.lt_or_ge k 19 with h5 | h5
          · obtain rfl : k = 18 := by omega
            exact q_okL_18
          · obtain rfl : k = 19 := by omega
            exact q_okL_19
theorem q_cd_law : (q_cd 205).length = 1020 := by decide +kernel
theorem q_okE_at (k : Nat) (hk : k ≤ 205) (i : Nat) (e : q_Ent) (h : (q_cd k)[i]? = some e) : q_okE k (q_cd k) i e = true := by
  rcases Nat.lt_or_ge k 205 with h1 | h1
  · have h2 := q_okC_all k h1
    simp only [q_okCd] at h2
    split at h2
    · rw [Bool.and_eq_true] at h2
      exact List.all_eq_true.mp h2.2 (e, i) (List.mk_mem_zipIdx_iff_getElem?.mpr h)
    · cases h2
  · obtain rfl : k = 205 := by omega
    have hi : i < 1020 := by rw [← q_cd_law]; exact (List.getElem?_eq_some_iff.mp h).1
    have h2 := q_okL_all (i / 51) (by omega)
    refine List.all_eq_true.mp h2 (e, i) (List.mem_of_getElem? (i := i % 51) ?_)
    rw [List.getElem?_take_of_lt (by omega), List.getElem?_drop, show 51 * (i / 51) + i % 51 = i by omega, List.getElem?_zipIdx, h]
    simp
theorem q_cd0 (k : Nat) (hk : k ≤ 205) : ∃ e, (q_cd k)[0]? = some e ∧ e.1 = 0 := by
  rcases Nat.lt_or_ge k 205 with h1 | h1
  · have h2 := q_okC_all k h1
    simp only [q_okCd] at h2
    split at h2
    · rename_i e he
      rw [Bool.and_eq_true] at h2
      exact ⟨e, he, Nat.eq_of_beq_eq_true h2.1⟩
    · cases h2
  · obtain rfl : k = 205 := by omega
    exact ⟨_, rfl, rfl⟩
end
section
/-! behind the shapes: things lie one behind the other from the address 'base' on; the script at b -/
abbrev q_G : Type := (Nat → ClassId) × (Nat → Nat → Nat) × (Nat → ClassId)
def q_cv (base b : Nat) (v : Value) : Value := match v with
  | .ref i => .ref (base + i)
  | .retAddr _ => .ref b
  | .int x => .int x
  | .long x => .long x
  | .null => .null
  | .float x => .float x
  | .double x => .double x
def q_cF (base : Nat) (M : Nat → Nat → Int32) (id : Nat) (fs : List (Option (Option Nat))) (k : Nat) : Value := match fs[k]? with
  | some o => q_cv base 0 (q_fv M id k o)
  | none => .null
def q_cell (G : q_G) (base : Nat) (M : Nat → Nat → Int32) (id : Nat) (sh : q_Sh) (H : Heap) : Prop := match sh with
  | .inl (bo, n) => H[base + id]? = some (arrV (G.2.2 (bif bo then 1 else 0)) n (fun j => .int (M id j)))
  | .inr (.inl (ci, fs)) => ∃ r : vw_C, vwCl[ci]? = some r ∧ t_OB (base + id) (G.1 ci) r.2.2 (G.2.1 ci) H (q_cF base M id fs)
  | .inr (.inr (ci, rs)) => H[base + id]? = some (arrV (G.2.2 (2 + ci)) rs.length (fun j => q_cv base 0 (q_ra (rs.getD j none))))
def q_R (G : q_G) (base : Nat) (mm : q_Mm) (H : Heap) : Prop := H.size = base + mm.1.length ∧ ∀ (id : Nat) (sh : q_Sh), mm.1[id]? = some sh → q_cell G base mm.2 id sh H
def q_K (G : q_G) (U : State) : Prop := (∀ (ci : Nat) (q : vw_C), vwCl[ci]? = some q → u_Kn U q.1 q.2.1 q.2.2 (G.1 ci) (G.2.1 ci)) ∧
  (ArrOfT U (G.2.2 0) .int ∧ U.vm.findClass ("[" ++ (FieldType.int).toString) = some (G.2.2 0)) ∧ (ArrOfT U (G.2.2 1) .boolean ∧ U.vm.findClass ("[" ++ (FieldType.boolean).toString) = some (G.2.2 1)) ∧
  (∀ (ci : Nat) (q : vw_C), ci = 0 ∨ ci = 5 → vwCl[ci]? = some q → va_AO q.1 U ∧ ArrOfT U (G.2.2 (2 + ci)) (.object q.1) ∧ va_RA U (G.2.2 (2 + ci)) (.object q.1)) ∧
  ∀ (own : String) (idx : Nat) (y : MethodName) (host : String), Cond.methodLinkNest own idx y host ∈ lw_tbl → va_Nw (.methodLinkNest own idx y host) U
theorem q_K.warm {G : q_G} {u U : State} (hW : u.WarmedH U.vm) (h : q_K G u) : q_K G U :=
  ⟨fun ci q hq => u_Kn_moved hW.alike (h.1 ci q hq), ⟨arrOfT_moved hW.alike h.2.1.1, by rw [hW.alike.findClass]; exact h.2.1.2⟩, ⟨arrOfT_moved hW.alike h.2.2.1.1, by rw [hW.alike.findClass]; exact h.2.2.1.2⟩,
    fun ci q hc hq => ⟨(h.2.2.2.1 ci q hc hq).1.moved hW.alike, arrOfT_moved hW.alike (h.2.2.2.1 ci q hc hq).2.1, (h.2.2.2.1 ci q hc hq).2.2.moved hW.alike⟩, fun own idx y host hm => (h.2.2.2.2 own idx y host hm).warmM hW⟩
theorem q_K.calling {G : q_G} {U : State} {g : JFrame} {mk : MethodId} {a : Array Value} (h : q_K G U) : q_K G (U.calling g mk a) :=
  ⟨fun ci q hq => u_Kn_moved (Vm.Alike.refl U.vm) (h.1 ci q hq), ⟨arrOfT_moved (Vm.Alike.refl U.vm) h.2.1.1, h.2.1.2⟩, ⟨arrOfT_moved (Vm.Alike.refl U.vm) h.2.2.1.1, h.2.2.1.2⟩,
    fun ci q hc hq => ⟨(h.2.2.2.1 ci q hc hq).1.moved (Vm.Alike.refl U.vm), arrOfT_moved (Vm.Alike.refl U.vm) (h.2.2.2.1 ci q hc hq).2.1, (h.2.2.2.1 ci q hc hq).2.2.moved (Vm.Alike.refl U.vm)⟩, fun own idx y host hm => (h.2.2.2.2 own idx y host hm).same rfl rfl⟩
noncomputable def q_rm (k : Nat) : Room := { frames := q_nu k 3, cells := q_mc k, slots := q_ms k, locals := q_nu k 4 }
/-- where a walk of method k stands -/
def q_C (G : q_G) (base b : Nat) (X : q_X) (k : Nat) (p : Program) (s : State) (m : MethodId) (args : Array Value) (meth : Method) (c : Code) : Prop :=
  p.tables.exec = Jvm.exec ∧ c.code = (q_mi k).2.1 ∧ c.maxLocals = (q_mi k).2.2.1 ∧ s.vm.findClass (q_mi k).1.cls = some m.cls ∧ (∀ w ∈ q_tb, w.before args s = true) ∧
  ((q_mi k).1.name = "<init>" → meth.name = "<init>") ∧ q_K G s ∧ base ≤ s.heap.size ∧ ∀ (L : Nat) (xs : Nat → Int32), X = some (L, xs) → va_X b L xs s s.heap ∧ b < base
def q_H (base : Nat) (s : State) (H : Heap) (locs : List Loc) : Prop := (∀ q : Nat, q < base → H[q]? = s.heap[q]?) ∧ (∀ x ∈ locs, base ≤ x.base) ∧ s.heap.size ≤ H.size
def q_L (base b : Nat) (ls : Array Slot) (nL : Nat) (al : List (Option Value)) : Prop := ls.size = nL ∧ lv_wf ls ∧ al.length = nL ∧ ∀ (i : Nat) (v : Value), al[i]? = some (some v) → ls[i]? = some (.val (q_cv base b v))
theorem q_cv_cat (base b : Nat) (v : Value) : (q_cv base b v).category = v.category := by cases v <;> rfl
/-! the locals -/
def q_al (base b : Nat) (al : List (Option Value)) : List (Nat × Value) := (List.range al.length).filterMap fun i => match al[i]? with
  | some (some v) => some (i, q_cv base b v)
  | _ => none
theorem q_al_mem {base b : Nat} {al : List (Option Value)} {i : Nat} {v : Value} (h : al[i]? = some (some v)) : (i, q_cv base b v) ∈ q_al base b al := by
  refine List.mem_filterMap.mpr ⟨i, List.mem_range.mpr (List.getElem?_eq_some_iff.mp h).1, ?_⟩
  rw [h]
theorem q_al_has {base b : Nat} {ls : Array Slot} {nL : Nat} {al : List (Option Value)} (h : q_L base b ls nL al) : lv_has ls nL (q_al base b al) := by
  refine ⟨h.1, h.2.1, fun q hq => ?_⟩
  obtain ⟨i, -, hi⟩ := List.mem_filterMap.mp hq
  split at hi
  · rename_i v hv
    cases hi
    exact h.2.2.2 _ _ hv
  · cases hi
/-- behind a store of one word -/
theorem q_L_of {base b : Nat} {ls ls' : Array Slot} {nL n : Nat} {al : List (Option Value)} {v : Value} (h : q_L base b ls nL al) (ho : q_okst al n = true) (hn : n < al.length)
    (h' : lv_has ls' nL ((n, q_cv base b v) :: (q_al base b al).filter (fun q => !(q.1 == n) && !(q.1 + 1 == n && q.2.category == 2)))) : q_L base b ls' nL (al.set n (some v)) := by
  refine ⟨h'.1, h'.2.1, by rw [List.length_set]; exact h.2.2.1, fun i w hw => ?_⟩
  rw [List.getElem?_set] at hw
  split at hw
  · rename_i e
    subst e
    cases hw
    exact h'.2.2 _ List.mem_cons_self
  · rename_i e
    refine h'.2.2 (i, q_cv base b w) (List.mem_cons_of_mem _ (List.mem_filter.mpr ⟨q_al_mem hw, ?_⟩))
    have e1 : (i == n) = false := by simpa using fun q => e q.symm
    simp only [e1, Bool.not_false, Bool.true_and, Bool.not_eq_true', Bool.and_eq_false_iff]
    by_cases e2 : i + 1 = n
    · right
      subst e2
      rw [q_cv_cat]
      simp only [q_okst, hw] at ho
      have := Nat.eq_of_beq_eq_true ho
      rw [this]; rfl
    · left
      simpa using e2
section QS
variable {p : Program} {l : Launch} {e : Env} {R : Room} {s : State} {m : MethodId} {args : Array Value} {below : List Frame} {meth : Method} {c : Code} {H : Heap} {locs : List Loc} {cells slots : Nat} {Q : State → Prop}
variable {cc : ByteArray} {pc : Nat} {ls : Array Slot} {base b : Nat}
theorem q_bin_of {f : Int32 → Int32 → Int32} {st st' : List Value} (h : q_bin f st = some st') : ∃ x y r, st = .int y :: .int x :: r ∧ st' = .int (f x y) :: r := by
  unfold q_bin at h
  split at h
  · cases h; exact ⟨_, _, _, rfl, rfl⟩
  · cases h
theorem q_binL_of {f : Int64 → Int64 → Int64} {st st' : List Value} (h : q_binL f st = some st') : ∃ x y r, st = .long y :: .long x :: r ∧ st' = .long (f x y) :: r := by
  unfold q_binL at h
  split at h
  · cases h; exact ⟨_, _, _, rfl, rfl⟩
  · cases h
theorem q_shL_of {f : Int64 → Int32 → Int64} {st st' : List Value} (h : q_shL f st = some st') : ∃ x y r, st = .int y :: .long x :: r ∧ st' = .long (f x y) :: r := by
  unfold q_shL at h
  split at h
  · cases h; exact ⟨_, _, _, rfl, rfl⟩
  · cases h
theorem q_ck_of {b : Bool} {r : Option (List Value)} {st : List Value} (h : q_ck b r = some st) : b = true ∧ r = some st := by
  cases b
  · cases h
  · exact ⟨rfl, h⟩
theorem q_w_in {n : Nat} {w : Cond} (h : q_w n = some w) (hg : goodWord w = true) : w ∈ q_tb := List.mem_filter.mpr ⟨List.mem_of_getElem? h, hg⟩
set_option maxHeartbeats 4000000 in
theorem q_sop_ok (hx : p.tables.exec = Jvm.exec) (hb : c.code = cc) {own : String} (hown : s.vm.findClass own = some m.cls) (hts : ∀ w ∈ q_tb, w.before args s = true)
    {k : Nat} {init : Bool} {cd : List q_Ent} {i len : Nat} {ins : Instr} {a b' c' d' : Nat} (hI : q_okI k own init cd i pc len ins a b' c' d' = true) (hd : decode cc pc = .ok (ins, len)) {st st' : List Value} (h : q_sop ins a st = some st')
    (kk : W p l e R s m args below meth c H locs cells slots Q (F0 m (pc + len) ls (st'.map (q_cv base b)))) : W p l e R s m args below meth c H locs cells slots Q (F0 m pc ls (st.map (q_cv base b))) ∧ q_nxt cd i (pc + len) = true := by
  unfold q_sop at h
  split at h <;> simp only [q_okI, Bool.and_eq_true, Nat.beq_eq, decide_eq_true_eq] at hI
  · obtain ⟨rfl, hn⟩ := hI; cases h; exact ⟨lv_iconst hx hb hd rfl kk, hn⟩
  · obtain ⟨rfl, hn⟩ := hI; cases h; exact ⟨lv_bipush hx hb hd rfl kk, hn⟩
  · obtain ⟨rfl, hn⟩ := hI; cases h; exact ⟨lv_sipush hx hb hd rfl kk, hn⟩
  · obtain ⟨rfl, hn⟩ := hI; cases h; exact ⟨lv_lconst hx hb hd rfl kk, hn⟩
  · obtain ⟨⟨rfl, hn⟩, hw⟩ := hI; cases h; exact ⟨lv_ldcw hx hb hown (hts _ (q_w_in hw rfl)) hd kk, hn⟩
  · obtain ⟨⟨rfl, hn⟩, hw⟩ := hI; cases h; exact ⟨lv_ldc2 hx hb hown (hts _ (q_w_in hw rfl)) hd kk, hn⟩
  · obtain ⟨rfl, hn⟩ := hI; obtain ⟨x, y, r, rfl, rfl⟩ := q_bin_of h; exact ⟨lv_iadd hx hb hd kk, hn⟩
  · obtain ⟨rfl, hn⟩ := hI; obtain ⟨x, y, r, rfl, rfl⟩ := q_bin_of h; exact ⟨lv_isub hx hb hd kk, hn⟩
  · obtain ⟨rfl, hn⟩ := hI; obtain ⟨x, y, r, rfl, rfl⟩ := q_bin_of h; exact ⟨lv_imul hx hb hd kk, hn⟩
  · obtain ⟨rfl, hn⟩ := hI
    split at h
    · obtain ⟨hy, h⟩ := q_ck_of h; cases h; exact ⟨lv_idiv hx hb hd (by simpa using hy) kk, hn⟩
    · cases h
  · obtain ⟨rfl, hn⟩ := hI
    split at h
    · obtain ⟨hy, h⟩ := q_ck_of h; cases h; exact ⟨lv_irem hx hb hd (by simpa using hy) kk, hn⟩
    · cases h
  · obtain ⟨rfl, hn⟩ := hI; obtain ⟨x, y, r, rfl, rfl⟩ := q_bin_of h; exact ⟨lv_iand hx hb hd kk, hn⟩
  · obtain ⟨rfl, hn⟩ := hI; obtain ⟨x, y, r, rfl, rfl⟩ := q_bin_of h; exact ⟨lv_ior hx hb hd kk, hn⟩
  · obtain ⟨rfl, hn⟩ := hI; obtain ⟨x, y, r, rfl, rfl⟩ := q_bin_of h; exact ⟨lv_ixor hx hb hd kk, hn⟩
  · obtain ⟨rfl, hn⟩ := hI; obtain ⟨x, y, r, rfl, rfl⟩ := q_bin_of h; exact ⟨lv_ishl hx hb hd kk, hn⟩
  · obtain ⟨rfl, hn⟩ := hI; obtain ⟨x, y, r, rfl, rfl⟩ := q_bin_of h; exact ⟨lv_ishr hx hb hd kk, hn⟩
  · obtain ⟨rfl, hn⟩ := hI; obtain ⟨x, y, r, rfl, rfl⟩ := q_bin_of h; exact ⟨lv_iushr hx hb hd rfl kk, hn⟩
  · obtain ⟨rfl, hn⟩ := hI; obtain ⟨x, y, r, rfl, rfl⟩ := q_binL_of h; exact ⟨lv_land hx hb hd kk, hn⟩
  · obtain ⟨rfl, hn⟩ := hI; obtain ⟨x, y, r, rfl, rfl⟩ := q_binL_of h; exact ⟨lv_lor hx hb hd kk, hn⟩
  · obtain ⟨rfl, hn⟩ := hI; obtain ⟨x, y, r, rfl, rfl⟩ := q_shL_of h; exact ⟨lv_lshl hx hb hd rfl kk, hn⟩
  · obtain ⟨rfl, hn⟩ := hI; obtain ⟨x, y, r, rfl, rfl⟩ := q_shL_of h; exact ⟨lv_lshr hx hb hd rfl kk, hn⟩
  · obtain ⟨rfl, hn⟩ := hI; obtain ⟨x, y, r, rfl, rfl⟩ := q_shL_of h; exact ⟨lv_lushr hx hb hd rfl kk, hn⟩
  · obtain ⟨rfl, hn⟩ := hI
    split at h
    · cases h; exact ⟨W.lcmp hx hb hd kk, hn⟩
    · cases h
  · obtain ⟨rfl, hn⟩ := hI
    split at h
    · cases h; exact ⟨lv_i2l hx hb hd rfl kk, hn⟩
    · cases h
  · obtain ⟨rfl, hn⟩ := hI
    split at h
    · cases h; exact ⟨lv_l2i hx hb hd rfl kk, hn⟩
    · cases h
  · obtain ⟨rfl, hn⟩ := hI
    split at h
    · obtain ⟨hy, h⟩ := q_ck_of h; cases h; exact ⟨lv_dup hx hb hd (by rw [q_cv_cat]; exact Nat.eq_of_beq_eq_true hy) kk, hn⟩
    · cases h
  · obtain ⟨rfl, hn⟩ := hI
    split at h
    · obtain ⟨hy, h⟩ := q_ck_of h; cases h
      rw [Bool.and_eq_true] at hy
      exact ⟨lv_dup2_11 hx hb hd (by rw [q_cv_cat]; exact Nat.eq_of_beq_eq_true hy.1) (by rw [q_cv_cat]; exact Nat.eq_of_beq_eq_true hy.2) kk, hn⟩
    · cases h
  · obtain ⟨rfl, hn⟩ := hI
    split at h
    · obtain ⟨hy, h⟩ := q_ck_of h; cases h; exact ⟨lv_pop hx hb hd (by rw [q_cv_cat]; exact Nat.eq_of_beq_eq_true hy) kk, hn⟩
    · cases h
  · cases h
theorem q_sop_nx {k : Nat} {own : String} {init : Bool} {cd : List q_Ent} {i len : Nat} {ins : Instr} {a b' c' d' : Nat} (hI : q_okI k own init cd i pc len ins a b' c' d' = true) {st st' : List Value} (h : q_sop ins a st = some st') : q_nxt cd i (pc + len) = true := by
  unfold q_sop at h
  split at h <;> simp only [q_okI, Bool.and_eq_true, Nat.beq_eq, decide_eq_true_eq] at hI <;> first | (obtain ⟨⟨rfl, hn⟩, -⟩ := hI; exact hn) | (obtain ⟨rfl, hn⟩ := hI; exact hn) | cases h
end QS
end
section
/-! the things behind a step -/
theorem q_cF_eq {base : Nat} {M M' : Nat → Nat → Int32} {id : Nat} (h : M' id = M id) (fs : List (Option (Option Nat))) : q_cF base M' id fs = q_cF base M id fs := by
  funext k
  simp only [q_cF]
  split
  · rename_i o _
    cases o with
    | none => simp only [q_fv, h]
    | some o => cases o <;> rfl
  · rfl
theorem q_cell.kept {G : q_G} {base id : Nat} {M M' : Nat → Nat → Int32} {sh : q_Sh} {H H' : Heap} (h : q_cell G base M id sh H) (hq : H'[base + id]? = H[base + id]?) (hM : M' id = M id) : q_cell G base M' id sh H' := by
  match sh, h with
  | .inl (bo, n), h => simp only [q_cell] at h ⊢; rw [hq, hM]; exact h
  | .inr (.inl (ci, fs)), h =>
    obtain ⟨r, h1, h2⟩ := h
    exact ⟨r, h1, by rw [q_cF_eq hM]; exact h2.kept hq⟩
  | .inr (.inr (ci, rs)), h => simp only [q_cell] at h ⊢; rw [hq]; exact h
theorem q_R_put0 {G : q_G} {base id : Nat} {mm : q_Mm} {M' : Nat → Nat → Int32} {H H' : Heap} {sh : q_Sh} (hR : q_R G base mm H) (hi : mm.1[id]? = some sh) (e2 : H'.size = H.size) (e3 : ∀ q, q ≠ base + id → H'[q]? = H[q]?) (hc : q_cell G base M' id sh H') (hM : ∀ j, j ≠ id → M' j = mm.2 j) : q_R G base (mm.1, M') H' := by
  refine ⟨by rw [e2]; exact hR.1, fun j sj hj => ?_⟩
  by_cases e : j = id
  · subst e
    cases hi.symm.trans hj
    exact hc
  · exact (hR.2 j sj hj).kept (e3 _ (by omega)) (hM j e)
theorem q_R_put {G : q_G} {base id : Nat} {mm : q_Mm} {M' : Nat → Nat → Int32} {H H' : Heap} {sh : q_Sh} (hR : q_R G base mm H) (hi : id < mm.1.length) (e2 : H'.size = H.size) (e3 : ∀ q, q ≠ base + id → H'[q]? = H[q]?) (hc : q_cell G base M' id sh H') (hM : ∀ j, j ≠ id → M' j = mm.2 j) : q_R G base (mm.1.set id sh, M') H' := by
  refine ⟨by rw [e2, List.length_set]; exact hR.1, fun j sj hj => ?_⟩
  rw [List.getElem?_set] at hj
  split at hj
  · rename_i e
    subst e
    cases hj
    exact hc
  · rename_i e
    exact (hR.2 j sj hj).kept (e3 _ (by omega)) (hM j (Ne.symm e))
theorem q_R_push {G : q_G} {base : Nat} {mm : q_Mm} {M' : Nat → Nat → Int32} {H H' : Heap} {sh : q_Sh} (hR : q_R G base mm H) (e2 : H'.size = H.size + 1) (e3 : ∀ q, q < H.size → H'[q]? = H[q]?) (hc : q_cell G base M' mm.1.length sh H') (hM : ∀ j, j ≠ mm.1.length → M' j = mm.2 j) : q_R G base (mm.1 ++ [sh], M') H' := by
  refine ⟨by rw [e2, hR.1, List.length_append]; rfl, fun j sj hj => ?_⟩
  by_cases e : j < mm.1.length
  · rw [List.getElem?_append_left e] at hj
    exact (hR.2 j sj hj).kept (e3 _ (by rw [hR.1]; omega)) (hM j (by omega))
  · rw [List.getElem?_append_right (by omega)] at hj
    have hz : j - mm.1.length < 1 := (List.getElem?_eq_some_iff.mp hj).1
    have hj2 : j = mm.1.length := by omega
    subst hj2
    rw [Nat.sub_self] at hj
    cases hj
    exact hc
theorem q_H.put {base id i : Nat} {s : State} {H H' : Heap} {locs : List Loc} (h : q_H base s H locs) (e2 : H'.size = H.size) (e3 : ∀ q, q ≠ base + id → H'[q]? = H[q]?) : q_H base s H' (locs ++ [⟨base + id, i⟩]) := by
  refine ⟨fun q hq => (e3 q (by omega)).trans (h.1 q hq), fun x hx => ?_, by rw [e2]; exact h.2.2⟩
  rcases List.mem_append.mp hx with hx | hx
  · exact h.2.1 x hx
  · rw [List.mem_singleton.mp hx]; exact Nat.le_add_right _ _
theorem q_H.push {base : Nat} {s : State} {H H' : Heap} {locs : List Loc} (h : q_H base s H locs) (hb : base ≤ H.size) (e2 : H'.size = H.size + 1) (e3 : ∀ q, q < H.size → H'[q]? = H[q]?) : q_H base s H' locs :=
  ⟨fun q hq => (e3 q (by omega)).trans (h.1 q hq), h.2.1, by rw [e2]; exact Nat.le_succ_of_le h.2.2⟩
theorem q_in_of {i : Int32} {n : Nat} (h : q_in i n = true) : vp_in i n ∧ i.toNatClampNeg < n := by
  simp only [q_in, Bool.and_eq_true, Bool.not_eq_true', decide_eq_false_iff_not, Nat.blt_eq] at h
  exact ⟨fun q => q.elim h.1 (fun z => Nat.not_le.mpr h.2 z), h.2⟩
theorem q_up_at (M : Nat → Nat → Int32) (i : Nat) (f : Nat → Int32) : q_up M i f i = f := by simp [q_up]
theorem q_up_ne (M : Nat → Nat → Int32) {i j : Nat} (f : Nat → Int32) (h : j ≠ i) : q_up M i f j = M j := by simp [q_up, h]
/-- what the tables say of a class -/
def q_cls (r : vw_C) : Prop := (∀ w ∈ u_ws r.1 r.2.1 r.2.2, w ∈ q_tb) ∧ (∀ a, a < r.2.2 → ∀ b, b < r.2.2 → a ≠ b → (r.2.1 a).2.1 ≠ (r.2.1 b).2.1) ∧
  ∃ ty : Nat → FieldType, (∀ j, j < r.2.2 → parseFieldDescriptor (r.2.1 j).2.2.1 = some (ty j)) ∧ ∀ j, j < r.2.2 → ty j = .int ∨ (ty j).isReference = true
set_option maxRecDepth 100000 in
theorem q_cls0 : q_cls (RX0, TX0, 6) := ⟨by decide +kernel, nmX0, tyX0, tyX0_ok, by decide +kernel⟩
set_option maxRecDepth 100000 in
theorem q_cls1 : q_cls (RX1, TX1, 1) := ⟨by decide +kernel, nmX1, tyX1, tyX1_ok, by decide +kernel⟩
set_option maxRecDepth 100000 in
theorem q_cls2 : q_cls (RX2, TX2, 2) := ⟨by decide +kernel, nmX2, tyX2, tyX2_ok, by decide +kernel⟩
set_option maxRecDepth 100000 in
theorem q_cls3 : q_cls (RX3, TX3, 8) := ⟨by decide +kernel, nmX3, tyX3, tyX3_ok, by decide +kernel⟩
set_option maxRecDepth 100000 in
theorem q_cls4 : q_cls (RX4, TX4, 1) := ⟨by decide +kernel, nmX4, tyX4, tyX4_ok, by decide +kernel⟩
set_option maxRecDepth 100000 in
theorem q_cls5 : q_cls (RX5, TX5, 5) := ⟨by decide +kernel, nmX5, tyX5, tyX5_ok, by decide +kernel⟩
set_option maxRecDepth 100000 in
theorem q_cls6 : q_cls (RX6, TX6, 4) := ⟨by decide +kernel, nmX6, tyX6, tyX6_ok, by decide +kernel⟩
set_option maxRecDepth 100000 in
theorem q_cls7 : q_cls (RX7, TX7, 2) := ⟨by decide +kernel, nmX7, tyX7, tyX7_ok, by decide +kernel⟩
set_option maxRecDepth 100000 in
theorem q_cls8 : q_cls (RX8, TX8, 10) := ⟨by decide +kernel, nmX8, tyX8, tyX8_ok, by decide +kernel⟩
set_option maxRecDepth 100000 in
theorem q_cls9 : q_cls (RX9, TX9, 29) := ⟨by decide +kernel, nmX9, tyX9, tyX9_ok, by decide +kernel⟩
theorem q_cls_ok : ∀ (ci : Nat) (r : vw_C), vwCl[ci]? = some r → q_cls r := by
  intro ci r h
  match ci, h with
  | 0, h => cases h; exact q_cls0
  | 1, h => cases h; exact q_cls1
  | 2, h => cases h; exact q_cls2
  | 3, h => cases h; exact q_cls3
  | 4, h => cases h; exact q_cls4
  | 5, h => cases h; exact q_cls5
  | 6, h => cases h; exact q_cls6
  | 7, h => cases h; exact q_cls7
  | 8, h => cases h; exact q_cls8
  | 9, h => cases h; exact q_cls9
  | n + 10, h => simp [vwCl] at h
theorem q_fv_cv {base b b' : Nat} {M : Nat → Nat → Int32} {id k : Nat} {o : Option (Option Nat)} : q_cv base b (q_fv M id k o) = q_cv base b' (q_fv M id k o) := by
  match o with
  | none => rfl
  | some none => rfl
  | some (some q) => rfl
theorem q_ra_cv {base b b' : Nat} {o : Option Nat} : q_cv base b (q_ra o) = q_cv base b' (q_ra o) := by
  match o with
  | none => rfl
  | some q => rfl
section QM
variable {p : Program} {l : Launch} {e : Env} {R : Room} {s : State} {m : MethodId} {args : Array Value} {below : List Frame} {meth : Method} {c : Code} {H : Heap} {locs : List Loc} {cells slots : Nat} {Q : State → Prop}
variable {cc : ByteArray} {pc : Nat} {ls : Array Slot} {base b : Nat} {G : q_G} {mm : q_Mm} {rest : List Value}
theorem q_w_get (hx : p.tables.exec = Jvm.exec) (hb : c.code = cc) {own : String} (hown : s.vm.findClass own = some m.cls) (hts : ∀ w ∈ q_tb, w.before args s = true) (hK : q_K G s) (hR : q_R G base mm H)
    {id ci k idx wp : Nat} {fs : List (Option (Option Nat))} {o : Option (Option Nat)} (hs : mm.1[id]? = some (.inr (.inl (ci, fs)))) (ho : fs[k]? = some o) (hF : q_okF own idx ci k wp = true) (hd : decode cc pc = .ok (.getfield idx, 3))
    (kk : W p l e R s m args below meth c H locs cells slots Q (F0 m (pc + 3) ls (q_cv base b (q_fv mm.2 id k o) :: rest))) : W p l e R s m args below meth c H locs cells slots Q (F0 m pc ls (.ref (base + id) :: rest)) := by
  obtain ⟨r, hr, cell, q1, q2, q3, q4⟩ := hR.2 _ _ hs
  obtain ⟨C, T, N⟩ := r
  simp only [q_okF, hr, Bool.and_eq_true, Nat.blt_eq, decide_eq_true_eq] at hF
  obtain ⟨hS, hfc, kC, hkC, hkind⟩ := hK.1 ci _ hr
  obtain ⟨cf, kf, fi, f, hi, hsl⟩ := hS k hF.1
  refine W.getf hx hb hown (hts _ (q_w_in hF.2 rfl)) hi (u_facts hfc hkC (u_lays hts (q_cls_ok _ _ hr).1 hF.1) hi).1 q1 (by rw [q3]; exact fun h => by cases h) (v := q_cv base b (q_fv mm.2 id k o)) ?_ rfl rfl hd kk
  rw [hsl, q4 k hF.1]
  simp only [q_cF, ho]
  rw [q_fv_cv]
theorem q_nr {ty : FieldType} {q : Nat} (h : ty.isReference = true) : narrow ty (.ref q) = .ref q ∧ fits ty (.ref q) = true := by
  cases ty <;> first | exact ⟨rfl, rfl⟩ | cases h
theorem q_w_put (hx : p.tables.exec = Jvm.exec) (hb : c.code = cc) {own : String} (hown : s.vm.findClass own = some m.cls) (hts : ∀ w ∈ q_tb, w.before args s = true) (hK : q_K G s) (hR : q_R G base mm H)
    {id ci k idx wp dd : Nat} {init : Bool} {fs : List (Option (Option Nat))} {v : Value} (hs : mm.1[id]? = some (.inr (.inl (ci, fs)))) (hF : q_okF own idx ci k wp = true) (hPp : q_okP own init ci k dd = true) (hin : init = true → meth.name = "<init>")
    (hv : (dd = 0 ∧ ∃ x, v = .int x) ∨ (dd = 1 ∧ ∃ q, v = .ref q)) (hd : decode cc pc = .ok (.putfield idx, 3))
    (kk : ∀ (H' : Heap) (i : Nat), H'.size = H.size → (∀ q, q ≠ base + id → H'[q]? = H[q]?) → (∃ r : vw_C, vwCl[ci]? = some r ∧ t_OB (base + id) (G.1 ci) r.2.2 (G.2.1 ci) H' (updV (q_cF base mm.2 id fs) k v)) →
      W p l e R s m args below meth c H' (locs ++ [⟨base + id, i⟩]) cells slots Q (F0 m (pc + 3) ls rest)) : W p l e R s m args below meth c H locs cells slots Q (F0 m pc ls (v :: .ref (base + id) :: rest)) := by
  obtain ⟨r, hr, cell, q1, q2, q3, q4⟩ := hR.2 _ _ hs
  obtain ⟨hin1, hnm, ty0, hty, hty2⟩ := q_cls_ok _ _ hr
  obtain ⟨C, T, N⟩ := r
  simp only [q_okF, hr, Bool.and_eq_true, Nat.blt_eq, decide_eq_true_eq] at hF
  simp only [q_okP, hr, Bool.and_eq_true] at hPp
  have hk := hF.1
  have hap := va_apart (own := own) (D := (G.1, G.2.1)) (tys := []) hts hin1 ty0 hty hnm ⟨hK.1, fun k q h => by simp at h⟩ hr
  obtain ⟨hS, hfc, kC, hkC, hkind⟩ := hK.1 ci _ hr
  obtain ⟨cf, kf, fi, f, hi, hsl⟩ := hS k hk
  have hst := (u_facts hfc hkC (u_lays hts hin1 hk) hi).1
  have hdt : ∃ ty, parseFieldDescriptor (T k).2.2.1 = some ty ∧ narrow ty v = v ∧ fits ty v = true := by
    have h2 := hPp.2
    refine ⟨ty0 k, hty k hk, ?_⟩
    have e0 := hty k hk
    simp only at e0
    simp only [e0] at h2
    rcases hv with ⟨rfl, x, rfl⟩ | ⟨rfl, q, rfl⟩
    · have : ty0 k = .int := by
        revert h2; cases ty0 k <;> intro h2 <;> first | rfl | cases h2
      rw [this]; exact ⟨rfl, rfl⟩
    · refine q_nr ?_
      revert h2; cases ty0 k <;> intro h2 <;> first | rfl | cases h2
  obtain ⟨ty, hdd, hn, hfit⟩ := hdt
  have hlay := hts _ (hin1 _ (u_in_lay hk))
  unfold u_lay at hlay
  have fin : ∀ H' : Heap, H'[base + id]? = some (cell.setSlot f.slot v) → H'.size = H.size → (∀ q, q ≠ base + id → H'[q]? = H[q]?) → W p l e R s m args below meth c H' (locs ++ [⟨base + id, f.slot⟩]) cells slots Q (F0 m (pc + 3) ls rest) := by
    intro H' e1 e2 e3
    rw [hsl] at e1 ⊢
    exact kk H' _ e2 e3 ⟨_, hr, _, e1, q2, q3, t_set q4 hap hk v⟩
  by_cases hfin : (T k).2.2.2 = true
  · simp only [hfin] at hPp
    rw [if_pos hfin] at hlay
    have hh : init = true ∧ (T k).1 = own := by simpa using hPp.1
    have hcf : m.cls = cf := by
      obtain ⟨_, _, c', _, _, _, -, -, hf', -, -, -, hown2, -⟩ := Cond.laysFinal_spec hlay
      have e1 : c' = cf := by have := hi.symm.trans hf'; simp at this; exact this.1.symm
      rw [hh.2] at hown2
      rw [← e1]; exact Option.some.inj (hown.symm.trans hown2)
    have h6 := u_fits hfc hkC hkind (Or.inr hlay) hi hdd hn hfit
    exact W.putFinK hx hb hown (hts _ (q_w_in hF.2 rfl)) hi hst hcf (hin hh.1) (by rw [q2]; exact h6) q1 q3 (by rw [hsl]; exact k2_hasslot (q4 k hk)) rfl rfl hd fin
  · rw [if_neg hfin] at hlay
    have h6 := u_store hfc hkC hkind hlay hi hdd hn hfit
    exact W.putK hx hb (f := f) ⟨hown, hts _ (q_w_in hF.2 rfl), ⟨_, _, _, hi⟩, hst⟩ (by rw [q2]; exact h6) q1 q3 (by rw [hsl]; exact k2_hasslot (q4 k hk)) rfl rfl hd fin
end QM
end
section
section QA
variable {p : Program} {l : Launch} {e : Env} {R : Room} {s : State} {m : MethodId} {args : Array Value} {below : List Frame} {meth : Method} {c : Code} {H : Heap} {locs : List Loc} {cells slots : Nat} {Q : State → Prop}
variable {cc : ByteArray} {pc : Nat} {ls : Array Slot} {base b : Nat} {G : q_G} {mm : q_Mm} {rest : List Value}
theorem q_w_iald (hx : p.tables.exec = Jvm.exec) (hb : c.code = cc) (hK : q_K G s) (hR : q_R G base mm H) {id n : Nat} {bo : Bool} {i : Int32} (hs : mm.1[id]? = some (.inl (bo, n))) (hi : q_in i n = true) (hd : decode cc pc = .ok (bif bo then .baload else .iaload, 1))
    (kk : W p l e R s m args below meth c H locs cells slots Q (F0 m (pc + 1) ls (.int (mm.2 id i.toNatClampNeg) :: rest))) : W p l e R s m args below meth c H locs cells slots Q (F0 m pc ls (.int i :: .ref (base + id) :: rest)) := by
  have hc := hR.2 _ _ hs
  obtain ⟨h1, h2⟩ := q_in_of hi
  cases bo with
  | false => exact W.iald (v := .int (mm.2 id i.toNatClampNeg)) hx hb hc (hK.2.1.1 n _) (fun q => by cases q) (by show ¬ (i < 0 ∨ (arrV _ _ _).slots.size ≤ _); rw [arrV_size]; exact h1) (by rw [arrV_read _ _ h2]) rfl rfl hd kk
  | true => exact W.zald (v := .int (mm.2 id i.toNatClampNeg)) hx hb hc (hK.2.2.1.1 n _) (fun q => by cases q) (by show ¬ (i < 0 ∨ (arrV _ _ _).slots.size ≤ _); rw [arrV_size]; exact h1) (by rw [arrV_read _ _ h2]) rfl rfl hd kk
theorem q_w_iast (hx : p.tables.exec = Jvm.exec) (hb : c.code = cc) (hK : q_K G s) (hR : q_R G base mm H) (hH : q_H base s H locs) {id n : Nat} {bo : Bool} {i x : Int32} (hs : mm.1[id]? = some (.inl (bo, n))) (hi : q_in i n = true) (hd : decode cc pc = .ok (bif bo then .bastore else .iastore, 1))
    (kk : ∀ H' locs', q_R G base (mm.1, q_up mm.2 id (upd (mm.2 id) i.toNatClampNeg (bif bo then vp_nar .boolean x else x))) H' → q_H base s H' locs' → W p l e R s m args below meth c H' locs' cells slots Q (F0 m (pc + 1) ls rest)) : W p l e R s m args below meth c H locs cells slots Q (F0 m pc ls (.int x :: .int i :: .ref (base + id) :: rest)) := by
  have hc := hR.2 _ _ hs
  obtain ⟨h1, h2⟩ := q_in_of hi
  cases bo with
  | false =>
    refine W.iast hx hb hc (hK.2.1.1 n _) (fun q => by cases q) (by show ¬ (i < 0 ∨ (arrV _ _ _).slots.size ≤ _); rw [arrV_size]; exact h1) rfl rfl hd fun H1 e z oq => ?_
    refine kk H1 _ (q_R_put0 hR hs z oq ?_ (fun j hj => q_up_ne _ _ hj)) (hH.put z oq)
    show H1[base + id]? = _
    rw [e, arrV_store]
    congr 2
    funext j
    rw [q_up_at]
    by_cases hj : j = i.toNatClampNeg
    · subst hj; simp [updV, upd]
    · simp [updV, upd, hj]
  | true =>
    refine W.zast hx hb hc (hK.2.2.1.1 n _) (fun q => by cases q) (by show ¬ (i < 0 ∨ (arrV _ _ _).slots.size ≤ _); rw [arrV_size]; exact h1) rfl rfl hd fun H1 e z oq => ?_
    refine kk H1 _ (q_R_put0 hR hs z oq ?_ (fun j hj => q_up_ne _ _ hj)) (hH.put z oq)
    show H1[base + id]? = _
    rw [e, arrV_store]
    congr 2
    funext j
    rw [q_up_at]
    by_cases hj : j = i.toNatClampNeg
    · subst hj; simp [updV, upd, vp_nar, narrow]
    · simp [updV, upd, hj]
theorem q_w_len (hx : p.tables.exec = Jvm.exec) (hb : c.code = cc) (hK : q_K G s) (hR : q_R G base mm H) {id n : Nat} {bo : Bool} (hs : mm.1[id]? = some (.inl (bo, n))) (hd : decode cc pc = .ok (.arraylength, 1))
    (kk : W p l e R s m args below meth c H locs cells slots Q (F0 m (pc + 1) ls (.int (Int32.ofNat n) :: rest))) : W p l e R s m args below meth c H locs cells slots Q (F0 m pc ls (.ref (base + id) :: rest)) := by
  have hc := hR.2 _ _ hs
  cases bo with
  | false => exact W.alen (n := Int32.ofNat n) hx hb hc (hK.2.1.1 n _) (by rw [arrV_size] <;> rfl) rfl rfl hd kk
  | true => exact W.alen (n := Int32.ofNat n) hx hb hc (hK.2.2.1.1 n _) (by rw [arrV_size] <;> rfl) rfl rfl hd kk
theorem q_w_aald (hx : p.tables.exec = Jvm.exec) (hb : c.code = cc) (hK : q_K G s) (hR : q_R G base mm H) {id ci : Nat} {rs : List (Option Nat)} {i : Int32} (hs : mm.1[id]? = some (.inr (.inr (ci, rs)))) (hci : ci = 0 ∨ ci = 5) (hi : q_in i rs.length = true) (hd : decode cc pc = .ok (.aaload, 1))
    (kk : W p l e R s m args below meth c H locs cells slots Q (F0 m (pc + 1) ls (q_cv base b (q_ra (rs.getD i.toNatClampNeg none)) :: rest))) : W p l e R s m args below meth c H locs cells slots Q (F0 m pc ls (.int i :: .ref (base + id) :: rest)) := by
  have hc := hR.2 _ _ hs
  obtain ⟨h1, h2⟩ := q_in_of hi
  obtain ⟨r, hr⟩ : ∃ r, vwCl[ci]? = some r := by rcases hci with rfl | rfl <;> exact ⟨_, rfl⟩
  exact W.aald (v := q_cv base b (q_ra (rs.getD i.toNatClampNeg none))) (ty := .object r.1) hx hb hc ((hK.2.2.2.1 ci r hci hr).2.1 rs.length _) rfl (fun q => by cases q) (by show ¬ (i < 0 ∨ (arrV _ _ _).slots.size ≤ _); rw [arrV_size]; exact h1) (by rw [arrV_read _ _ h2]; rw [q_ra_cv]) rfl rfl hd kk
theorem q_w_aast (hx : p.tables.exec = Jvm.exec) (hb : c.code = cc) (hK : q_K G s) (hR : q_R G base mm H) (hH : q_H base s H locs) {id ci v : Nat} {rs : List (Option Nat)} {fs : List (Option (Option Nat))} {i : Int32} (hs : mm.1[id]? = some (.inr (.inr (ci, rs)))) (hv : mm.1[v]? = some (.inr (.inl (ci, fs)))) (hci : ci = 0 ∨ ci = 5) (hi : q_in i rs.length = true) (hd : decode cc pc = .ok (.aastore, 1))
    (kk : ∀ H' locs', q_R G base (mm.1.set id (.inr (.inr (ci, rs.set i.toNatClampNeg (some v)))), mm.2) H' → q_H base s H' locs' → W p l e R s m args below meth c H' locs' cells slots Q (F0 m (pc + 1) ls rest)) : W p l e R s m args below meth c H locs cells slots Q (F0 m pc ls (.ref (base + v) :: .int i :: .ref (base + id) :: rest)) := by
  have hc := hR.2 _ _ hs
  obtain ⟨h1, h2⟩ := q_in_of hi
  have h0 : ¬ i < 0 := fun q => h1 (Or.inl q)
  obtain ⟨r, hr, cellV, g1, g2, g3, -⟩ := hR.2 _ _ hv
  have hcls := (hK.1 ci r hr).2
  obtain ⟨kA, comp, k1, k2, k3, -⟩ := (hK.2.2.2.1 ci r hci hr).2.2
  have hcomp : comp = G.1 ci := Option.some.inj (k3.symm.trans hcls.1)
  subst hcomp
  obtain ⟨kC, hkC, -⟩ := hcls.2
  refine W.aast hx hb hc (fun q h => by cases h) (fun h => by cases h) k1 k2 rfl hkC ⟨h0, by show _ < (arrV _ _ _).slots.size; rw [arrV_size]; exact h2⟩ g1 (fun q h => by rw [g3] at h; cases h) (by rw [g2]; exact hkC) (by rw [g2]; exact va_assign hcls) rfl rfl hd fun H1 e z oq => ?_
  refine kk H1 _ (q_R_put hR (List.getElem?_eq_some_iff.mp hs).1 z oq ?_ (fun _ _ => rfl)) (hH.put z oq)
  show H1[base + id]? = _
  rw [e, arrV_store, List.length_set]
  congr 2
  funext j
  by_cases hj : j = i.toNatClampNeg
  · subst hj
    simp [updV, List.getD_eq_getElem?_getD, List.getElem?_set, h2, q_ra, q_cv]
  · have hj' : ¬ i.toNatClampNeg = j := fun q => hj q.symm
    simp [updV, hj, List.getD_eq_getElem?_getD, List.getElem?_set, hj']
theorem q_w_new (hx : p.tables.exec = Jvm.exec) (hb : c.code = cc) {own : String} (hown : s.vm.findClass own = some m.cls) (hts : ∀ w ∈ q_tb, w.before args s = true) (hK : q_K G s) (hR : q_R G base mm H) (hH : q_H base s H locs)
    {idx ci wp : Nat} (hA : q_okA own idx ci wp = true) (hini : ∀ r, vwCl[ci]? = some r → Cond.instantiable r.1 r.2.2 ∈ q_tb ∧ Cond.initialized r.1 ∈ q_tb) (hcells : cells + 1 ≤ R.cells) (hslots : slots + (q_born ci).length ≤ R.slots) (hd : decode cc pc = .ok (.new idx, 3))
    (kk : ∀ H' locs', q_R G base (mm.1 ++ [.inr (.inl (ci, q_born ci))], q_up mm.2 mm.1.length (fun _ => 0)) H' → q_H base s H' locs' → W p l e R s m args below meth c H' locs' (cells + 1) (slots + (q_born ci).length) Q (F0 m (pc + 3) ls (.ref (base + mm.1.length) :: rest))) : W p l e R s m args below meth c H locs cells slots Q (F0 m pc ls rest) := by
  cases hr : vwCl[ci]? with
  | none => simp [q_okA, hr] at hA
  | some r =>
    obtain ⟨hin1, hnm, ty0, hty, hty2⟩ := q_cls_ok _ _ hr
    obtain ⟨hi1, hi2⟩ := hini r hr
    obtain ⟨C, T, N⟩ := r
    simp only [q_okA, hr, decide_eq_true_eq] at hA
    have hKn := hK.1 ci _ hr
    have hlen : (q_born ci).length = N := by simp [q_born, hr]
    rw [hlen] at hslots kk
    refine W.newcK hx hb hown (hts _ (q_w_in hA rfl)) (hts _ hi1) (hts _ hi2) rfl hd hcells hslots hKn.2.1 rfl fun H1 kC hkC e1 z1 o1 => ?_
    rw [hR.1] at e1 z1 o1
    have hg := kk H1 locs (q_R_push hR (by rw [z1, hR.1]) (by rw [hR.1]; exact o1) ⟨_, hr, (u_born ty0 hts hin1 hKn hkC e1 hty).to (fun j hj => ?_)⟩ (fun j hj => q_up_ne _ _ hj)) (hH.push (by rw [hR.1]; omega) (by rw [z1, hR.1]) (by rw [hR.1]; exact o1))
    · show W p l e R s m args below meth c H1 locs (cells + 1) (slots + N) Q (F0 m (pc + 3) ls (.ref (Array.size H) :: rest))
      rw [show Array.size H = base + mm.1.length from hR.1]
      exact hg
    · have e0 := hty j hj
      simp only at e0
      have hb1 : (q_born ci)[j]? = some (match parseFieldDescriptor (T j).2.2.1 with | some .int => none | _ => some none) := by
        simp only [q_born, hr]
        rw [List.getElem?_map, List.getElem?_range hj]
        rfl
      simp only [q_cF, hb1]
      rw [e0]
      have h2 := hty2 j hj
      revert h2
      cases ty0 j <;> intro h2 <;> first | (show _ = q_cv base 0 (.int (q_up mm.2 mm.1.length (fun _ => 0) mm.1.length j)); rw [q_up_at]; rfl) | rfl | (rcases h2 with h2 | h2 <;> cases h2)
theorem q_w_nar (hx : p.tables.exec = Jvm.exec) (hb : c.code = cc) (hts : ∀ w ∈ q_tb, w.before args s = true) (hK : q_K G s) (hR : q_R G base mm H) (hH : q_H base s H locs)
    {n : Int32} {bo : Bool} (hn : ¬ n < 0) (hbytes : n.toNatClampNeg ≤ 100000) (hcells : cells + 1 ≤ R.cells) (hslots : slots + n.toNatClampNeg ≤ R.slots) (hd : decode cc pc = .ok (.newarray (bif bo then .boolean else .int), 2))
    (hw : Cond.arrayClass .int ∈ q_tb ∧ Cond.arrayClass .boolean ∈ q_tb)
    (kk : ∀ H' locs', q_R G base (mm.1 ++ [.inl (bo, n.toNatClampNeg)], q_up mm.2 mm.1.length (fun _ => 0)) H' → q_H base s H' locs' → W p l e R s m args below meth c H' locs' (cells + 1) (slots + n.toNatClampNeg) Q (F0 m (pc + 2) ls (.ref (base + mm.1.length) :: rest))) : W p l e R s m args below meth c H locs cells slots Q (F0 m pc ls (.int n :: rest)) := by
  cases bo with
  | false =>
    refine va_newaK (atype := .int) hx hb (hts _ hw.1) rfl hd rfl hn rfl (by show _ * 4 ≤ _; omega) hcells hslots hR.1 fun H1 cA e1 z1 o1 hAr hNm => ?_
    have hcA : cA = G.2.2 0 := Option.some.inj (hNm.symm.trans hK.2.1.2)
    subst hcA
    refine kk H1 locs (q_R_push hR (by rw [z1, hR.1]) (by rw [hR.1]; exact o1) ?_ (fun j hj => q_up_ne _ _ hj)) (hH.push (by rw [hR.1]; omega) (by rw [z1, hR.1]) (by rw [hR.1]; exact o1))
    show H1[_]? = _
    rw [e1, q_up_at]; rfl
  | true =>
    refine va_newaK (atype := .boolean) hx hb (hts _ hw.2) rfl hd rfl hn rfl (by show _ * 1 ≤ _; omega) hcells hslots hR.1 fun H1 cA e1 z1 o1 hAr hNm => ?_
    have hcA : cA = G.2.2 1 := Option.some.inj (hNm.symm.trans hK.2.2.1.2)
    subst hcA
    refine kk H1 locs (q_R_push hR (by rw [z1, hR.1]) (by rw [hR.1]; exact o1) ?_ (fun j hj => q_up_ne _ _ hj)) (hH.push (by rw [hR.1]; omega) (by rw [z1, hR.1]) (by rw [hR.1]; exact o1))
    show H1[_]? = _
    rw [e1, q_up_at]; rfl
theorem q_w_nqr (hx : p.tables.exec = Jvm.exec) (hb : c.code = cc) {own : String} (hown : s.vm.findClass own = some m.cls) (hts : ∀ w ∈ q_tb, w.before args s = true) (hK : q_K G s) (hR : q_R G base mm H) (hH : q_H base s H locs)
    {n : Int32} {idx ci wp : Nat} (hA : q_okA own idx ci wp = true) (hci : ci = 0 ∨ ci = 5) (hn : ¬ n < 0) (hbytes : n.toNatClampNeg ≤ 100000) (hcells : cells + 1 ≤ R.cells) (hslots : slots + n.toNatClampNeg ≤ R.slots) (hd : decode cc pc = .ok (.anewarray idx, 3))
    (kk : ∀ H' locs', q_R G base (mm.1 ++ [.inr (.inr (ci, List.replicate n.toNatClampNeg none))], q_up mm.2 mm.1.length (fun _ => 0)) H' → q_H base s H' locs' → W p l e R s m args below meth c H' locs' (cells + 1) (slots + n.toNatClampNeg) Q (F0 m (pc + 3) ls (.ref (base + mm.1.length) :: rest))) : W p l e R s m args below meth c H locs cells slots Q (F0 m pc ls (.int n :: rest)) := by
  cases hr : vwCl[ci]? with
  | none => simp [q_okA, hr] at hA
  | some r =>
    obtain ⟨C, T, N⟩ := r
    simp only [q_okA, hr, decide_eq_true_eq] at hA
    have hq := hK.2.2.2.1 ci _ hci hr
    refine W.anew hx hb hown (hts _ (q_w_in hA rfl)) (va_AO.use hq.1) rfl hd rfl hn (by omega) hcells hslots fun cA kA comp f1 f2 f3 f4 => ?_
    generalize hH1 : H.push ({ cls := cA, slots := Array.replicate n.toNatClampNeg .null, vm := .none } : Cell) = H1
    have z1 : H1.size = H.size + 1 := by rw [← hH1, Array.size_push]
    have e1 : H1[H.size]? = some (arrV cA n.toNatClampNeg (fun _ => .null)) := by rw [← hH1, Array.getElem?_push_size, ← arrV_new]
    have o1 : ∀ q : Nat, q < H.size → H1[q]? = H[q]? := fun q hq => by rw [← hH1, Array.getElem?_push, if_neg (Nat.ne_of_lt hq)]
    obtain ⟨_, _, _, _, _, hfc⟩ := hq.2.2
    have hcA : cA = G.2.2 (2 + ci) := Option.some.inj (f1.symm.trans hfc)
    subst hcA
    have hg := kk H1 locs (q_R_push hR z1 o1 ?_ (fun j hj => q_up_ne _ _ hj)) (hH.push (by rw [hR.1]; omega) z1 o1)
    · show W p l e R s m args below meth c H1 locs (cells + 1) (slots + _) Q (F0 m (pc + 3) ls (.ref (Array.size H) :: rest))
      rw [show Array.size H = base + mm.1.length from hR.1]
      exact hg
    · show H1[_]? = _
      rw [← hR.1, e1, List.length_replicate]
      congr 2
      funext j
      by_cases hj : j < n.toNatClampNeg
      · simp [List.getD_eq_getElem?_getD, List.getElem?_replicate, hj, q_ra, q_cv]
      · simp [List.getD_eq_getElem?_getD, List.getElem?_replicate, hj, q_ra, q_cv]
theorem q_w_copy (hx : p.tables.exec = Jvm.exec) (hb : c.code = cc) (hml : c.maxLocals = ls.size) {own : String} (hown : s.vm.findClass own = some m.cls) (hts : ∀ w ∈ q_tb, w.before args s = true) (hK : q_K G s) (hR : q_R G base mm H) (hH : q_H base s H locs)
    {idx wp sr ds ns nd : Nat} (hw : q_w wp = some (.methodLink own idx arraycopyName)) (hws : Cond.native arraycopyName ∈ q_tb ∧ Cond.static arraycopyName ∈ q_tb ∧ Cond.initialized "java/lang/System" ∈ q_tb)
    (h0 : mm.1[sr]? = some (.inl (false, ns))) (h1 : mm.1[ds]? = some (.inl (false, nd))) {sp dp n : Int32} (hsp : ¬ sp < 0) (hdp : ¬ dp < 0) (hn : ¬ n < 0) (h4 : sp.toNatClampNeg + n.toNatClampNeg ≤ ns) (h5 : dp.toNatClampNeg + n.toNatClampNeg ≤ nd)
    (hframes : 1 ≤ R.frames) (hlocals : q_cs rest + 18 ≤ R.locals) (hd : decode cc pc = .ok (.invokestatic idx, 3))
    (kk : ∀ H' locs', q_R G base (mm.1, q_up mm.2 ds (va_cpy (mm.2 sr) (mm.2 ds) sp.toNatClampNeg dp.toNatClampNeg n.toNatClampNeg)) H' → q_H base s H' locs' → W p l e R s m args below meth c H' locs' cells slots Q (F0 m (pc + 3) ls rest)) : W p l e R s m args below meth c H locs cells slots Q (F0 m pc ls (.int n :: .int dp :: .ref (base + ds) :: .int sp :: .ref (base + sr) :: rest)) := by
  have nn : ∀ z : Int32, ¬ z < 0 → z.toInt = (z.toNatClampNeg : Int) := by
    intro z hz
    have hz0 : (0 : Int) ≤ z.toInt := by
      have := Int32.not_lt.mp hz
      simpa using Int32.le_iff_toInt_le.mp this
    show z.toInt = ((z.toInt.toNat : Nat) : Int)
    omega
  intro T hT X
  have hc0 := hR.2 _ _ h0
  have hc1 := hR.2 _ _ h1
  simp only [q_cell, cond_false] at hc0 hc1
  obtain ⟨-, k0, hk0, cm0, hkk0⟩ := hK.2.1.1 ns (fun j => .int (mm.2 sr j))
  obtain ⟨-, k1, hk1, cm1, hkk1⟩ := hK.2.1.1 nd (fun j => .int (mm.2 ds j))
  obtain ⟨vm', X', step⟩ := X.arraycopy hx hown (hts _ (q_w_in hw rfl)) (hts _ hws.1) (hts _ hws.2.1) (hts _ hws.2.2) (src := base + sr) (dst := base + ds) (srcPos := sp) (destPos := dp) (n := n) (by rw [hT]; exact hc0) (by rw [hT]; exact hc1)
    (fun _ h => by cases h) (fun _ h => by cases h) (fun h => by cases h) (fun h => by cases h) hk0 hk1 hkk0 hkk1 (by simp [refKind]) hsp hdp hn
    (by rw [nn sp hsp, nn n hn, arrV_size]; omega)
    (by rw [nn dp hdp, nn n hn, arrV_size]; omega)
    (fun vm₁ _ i hi => by
      have e : (arrV (G.2.2 0) ns (fun j => .int (mm.2 sr j))).slots.getD (sp.toNatClampNeg + i) .null = .int (mm.2 sr (sp.toNatClampNeg + i)) := by
        rw [Array.getD_eq_getD_getElem?, arrV_read _ _ (by omega)]
        rfl
      refine ⟨?_, ?_⟩
      · rw [e]; rfl
      · rw [e]; exact trivial)
    (g := F0 m pc ls (.int n :: .int dp :: .ref (base + ds) :: .int sp :: .ref (base + sr) :: rest)) rfl (by rw [hml]) (rest := rest) rfl (by rw [hb]; exact hd) hframes (by
      have e1 : nativeFrameWords "java/lang/System" "arraycopy" 5 = 7 := by decide +kernel
      show 2 * 0 + q_cs rest + (nativeFrameWords "java/lang/System" "arraycopy" 5 + 11) ≤ _
      rw [e1]; omega)
  have e1 : copied (arrV (G.2.2 0) ns (fun j => .int (mm.2 sr j))) (arrV (G.2.2 0) nd (fun j => .int (mm.2 ds j))) sp dp n = arrV (G.2.2 0) nd (fun j => .int (va_cpy (mm.2 sr) (mm.2 ds) sp.toNatClampNeg dp.toNatClampNeg n.toNatClampNeg j)) := va_copied (fun z => .int z) _ _ _ _ h4
  rw [e1] at X' step
  have hl : base + ds < H.size := (Array.getElem?_eq_some_iff.mp hc1).1
  generalize hcell : arrV (G.2.2 0) nd (fun j => .int (va_cpy (mm.2 sr) (mm.2 ds) sp.toNatClampNeg dp.toNatClampNeg n.toNatClampNeg j)) = cell at X' step
  have hheap : ((T.setVm vm').setCell (base + ds) cell).heap = H.setIfInBounds (base + ds) cell := by rw [← hT]; rfl
  have oq : ∀ q : Nat, q ≠ base + ds → (H.setIfInBounds (base + ds) cell)[q]? = H[q]? := fun q hq => by simp [Array.getElem?_setIfInBounds, Ne.symm hq]
  obtain ⟨t, a1, b1⟩ := kk _ _ (q_R_put0 hR h1 (by simp) oq (by
      show (H.setIfInBounds (base + ds) cell)[base + ds]? = _
      rw [q_up_at, ← hcell]
      simp [Array.getElem?_setIfInBounds, hl]) (fun j hj => q_up_ne _ _ hj)) ⟨fun q hq => (oq q (by omega)).trans (hH.1 q hq), fun q hq => by
      rcases List.mem_append.mp hq with h | h
      · exact hH.2.1 q h
      · obtain ⟨z, -, hz⟩ := List.mem_map.mp h
        rw [← hz]
        exact Nat.le_add_right _ _, by rw [Array.size_setIfInBounds]; exact hH.2.2⟩ _ hheap X'
  exact ⟨t, step t a1, b1⟩
end QA
end
section
theorem q_nxt_of {cd : List q_Ent} {i n : Nat} (h : q_nxt cd i n = true) : ∃ e, cd[i + 1]? = some e ∧ e.1 = n := by
  unfold q_nxt at h
  split at h
  · rename_i e he; exact ⟨e, he, Nat.eq_of_beq_eq_true h⟩
  · cases h
theorem q_tgt_of {cd : List q_Ent} {a pc : Nat} {off : Int} (h : q_tgt cd a pc off = true) : ∃ e, cd[a]? = some e ∧ (pc : Int) + off = (e.1 : Int) := by
  unfold q_tgt at h
  split at h
  · rename_i e he; exact ⟨e, he, of_decide_eq_true h⟩
  · cases h
theorem q_bif {α : Type} {b : Bool} {x : Option α} {y : α} (h : (bif b then x else none) = some y) : b = true ∧ x = some y := by
  cases b
  · cases h
  · exact ⟨rfl, h⟩
theorem q_ld_of {ty n : Nat} {fr : q_Fr} {m : q_Mm} {o : q_Out} (h : q_ld ty n fr m = some o) : ∃ v, fr.2.1[n]? = some (some v) ∧ q_ty v = ty ∧ o = .inl (q_nx fr (v :: fr.2.2.1), m) := by
  unfold q_ld at h
  split at h
  · rename_i v hv
    obtain ⟨h1, h2⟩ := q_bif h
    cases h2
    exact ⟨v, hv, Nat.eq_of_beq_eq_true h1, rfl⟩
  · cases h
theorem q_sto_of {ty n : Nat} {fr : q_Fr} {m : q_Mm} {o : q_Out} (h : q_sto ty n fr m = some o) : ∃ v r, fr.2.2.1 = v :: r ∧ q_ty v = ty ∧ q_okst fr.2.1 n = true ∧ n < fr.2.1.length ∧ o = .inl ((fr.1 + 1, fr.2.1.set n (some v), r, fr.2.2.2), m) := by
  unfold q_sto at h
  split at h
  · rename_i v r hv
    obtain ⟨h1, h2⟩ := q_bif h
    cases h2
    simp only [Bool.and_eq_true, Nat.blt_eq] at h1
    exact ⟨v, r, hv, Nat.eq_of_beq_eq_true h1.1, h1.2.1, h1.2.2, rfl⟩
  · cases h
theorem q_ty0 {v : Value} (h : q_ty v = 0) : ∃ x, v = .int x := by
  cases v <;> first | exact ⟨_, rfl⟩ | cases h
theorem q_ty1 {v : Value} (h : q_ty v = 1) : ∃ x, v = .long x := by
  cases v <;> first | exact ⟨_, rfl⟩ | cases h
theorem q_ty2 {v : Value} (h : q_ty v = 2) (base b : Nat) : (∃ x, q_cv base b v = .ref x) ∧ v.category = 1 := by
  cases v <;> first | exact ⟨⟨_, rfl⟩, rfl⟩ | cases h
theorem q_inst_ok : ∀ (ci : Nat) (r : vw_C), vwCl[ci]? = some r → Cond.instantiable r.1 r.2.2 ∈ q_tb ∧ Cond.initialized r.1 ∈ q_tb := by
  intro ci r h
  match ci, h with
  | 0, h => cases h; decide +kernel
  | 1, h => cases h; decide +kernel
  | 2, h => cases h; decide +kernel
  | 3, h => cases h; decide +kernel
  | 4, h => cases h; decide +kernel
  | 5, h => cases h; decide +kernel
  | 6, h => cases h; decide +kernel
  | 7, h => cases h; decide +kernel
  | 8, h => cases h; decide +kernel
  | 9, h => cases h; decide +kernel
  | n + 10, h => simp [vwCl] at h
theorem q_arr_ok : Cond.arrayClass .int ∈ q_tb ∧ Cond.arrayClass .boolean ∈ q_tb := by decide +kernel
theorem q_cpy_ok : Cond.native arraycopyName ∈ q_tb ∧ Cond.static arraycopyName ∈ q_tb ∧ Cond.initialized "java/lang/System" ∈ q_tb := by decide +kernel
theorem q_min_ok : Cond.static Lib.Math.min.name ∈ q_tb ∧ Cond.initialized "java/lang/Math" ∈ q_tb ∧ Cond.code Lib.Math.min.name Lib.Math.min.code 2 (some .int) ∈ q_tb := by decide +kernel
theorem q_obj_ok : Cond.instanceMethod objectInit ∈ q_tb ∧ Cond.code objectInit ⟨#[0xb1]⟩ 1 none ∈ q_tb := by decide +kernel
theorem q_inv_no {k a b c : Nat} {fr : q_Fr} {m : q_Mm} {x : q_Fr × q_Mm} (h : q_inv k a b c fr m = some (.inl x)) : False := by
  unfold q_inv at h
  obtain ⟨-, h⟩ := q_bif h
  cases h
theorem q_cs_map (base b : Nat) (r : List Value) : q_cs (r.map (q_cv base b)) = q_cs r := by
  unfold q_cs
  rw [List.map_map]
  congr 1
  exact List.map_congr_left fun v _ => q_cv_cat base b v
section QT
variable {p : Program} {l : Launch} {e : Env} {s : State} {m : MethodId} {args : Array Value} {below : List Frame} {meth : Method} {c : Code} {Q : State → Prop}
variable {base b : Nat} {G : q_G} {X : q_X} {k : Nat}
/-- the walk of method k from an abstract state -/
def q_W (G : q_G) (base b k : Nat) (p : Program) (l : Launch) (e : Env) (s : State) (m : MethodId) (args : Array Value) (below : List Frame) (meth : Method) (c : Code) (Q : State → Prop) (fr : q_Fr) (mm : q_Mm) : Prop :=
  ∀ ent : q_Ent, (q_cd k)[fr.1]? = some ent → ∀ (H : Heap) (locs : List Loc) (ls : Array Slot), q_R G base mm H → q_H base s H locs → q_L base b ls (q_mi k).2.2.1 fr.2.1 →
    W p l e (q_rm k) s m args below meth c H locs fr.2.2.2.1 fr.2.2.2.2 Q (F0 m ent.1 ls (fr.2.2.1.map (q_cv base b)))
set_option maxHeartbeats 8000000 in
theorem q_step_ok (hk : k ≤ 205) (C : q_C G base b X k p s m args meth c) {fr fr' : q_Fr} {mm mm' : q_Mm} (h : q_step X k fr mm = some (.inl (fr', mm'))) (kk : q_W G base b k p l e s m args below meth c Q fr' mm') : q_W G base b k p l e s m args below meth c Q fr mm := by
  intro ent he H locs ls hR hH hL
  obtain ⟨hx, hb, hml, hown, hts, hinit, hK, hbase, hX⟩ := C
  have hE := q_okE_at k hk _ _ he
  simp only [q_step, he] at h
  obtain ⟨pc, len, ins, a, b', c', d'⟩ := ent
  obtain ⟨i, al, st, cu, su⟩ := fr
  simp only [q_okE, Bool.and_eq_true, decide_eq_true_eq] at hE
  obtain ⟨hd, hI⟩ := hE
  dsimp only at h hd hI hL ⊢
  have nx : ∀ {n : Nat} {al2 : List (Option Value)} {st2 : List Value} {cu2 su2 : Nat}, q_nxt (q_cd k) i n = true → fr' = (i + 1, al2, st2, cu2, su2) → ∀ (H' : Heap) (locs' : List Loc) (ls' : Array Slot), q_R G base mm' H' → q_H base s H' locs' → q_L base b ls' (q_mi k).2.2.1 al2 →
      W p l e (q_rm k) s m args below meth c H' locs' cu2 su2 Q (F0 m n ls' (st2.map (q_cv base b))) := by
    intro n al2 st2 cu2 su2 hn hf H' locs' ls' r1 r2 r3
    subst hf
    obtain ⟨e', h1, h2⟩ := q_nxt_of hn
    rw [← h2]
    exact kk e' h1 H' locs' ls' r1 r2 r3
  unfold q_ins at h
  split at h
  · -- iload_n
    simp only [q_okI, Bool.and_eq_true, Nat.beq_eq] at hI
    obtain ⟨rfl, hn⟩ := hI
    obtain ⟨v, h1, h2, h3⟩ := q_ld_of h
    obtain ⟨x, rfl⟩ := q_ty0 h2
    cases h3
    exact lv_iload_n hx hb hd rfl (hL.2.2.2 _ _ h1) (nx hn rfl _ _ _ hR hH hL)
  · -- iload
    simp only [q_okI, Bool.and_eq_true, Nat.beq_eq] at hI
    obtain ⟨rfl, hn⟩ := hI
    obtain ⟨v, h1, h2, h3⟩ := q_ld_of h
    obtain ⟨x, rfl⟩ := q_ty0 h2
    cases h3
    exact lv_iload hx hb hd (hL.2.2.2 _ _ h1) (nx hn rfl _ _ _ hR hH hL)
  · -- lload_n
    simp only [q_okI, Bool.and_eq_true, Nat.beq_eq] at hI
    obtain ⟨rfl, hn⟩ := hI
    obtain ⟨v, h1, h2, h3⟩ := q_ld_of h
    obtain ⟨x, rfl⟩ := q_ty1 h2
    cases h3
    exact lv_lload_n hx hb hd rfl (hL.2.2.2 _ _ h1) (nx hn rfl _ _ _ hR hH hL)
  · -- lload
    simp only [q_okI, Bool.and_eq_true, Nat.beq_eq] at hI
    obtain ⟨rfl, hn⟩ := hI
    obtain ⟨v, h1, h2, h3⟩ := q_ld_of h
    obtain ⟨x, rfl⟩ := q_ty1 h2
    cases h3
    exact lv_lload hx hb hd (hL.2.2.2 _ _ h1) (nx hn rfl _ _ _ hR hH hL)
  · -- aload_n
    simp only [q_okI, Bool.and_eq_true, Nat.beq_eq] at hI
    obtain ⟨rfl, hn⟩ := hI
    obtain ⟨v, h1, h2, h3⟩ := q_ld_of h
    obtain ⟨⟨x, hv⟩, -⟩ := q_ty2 h2 base b
    cases h3
    have hl := hL.2.2.2 _ _ h1
    have kk1 := nx hn rfl _ _ _ hR hH hL
    simp only [q_nx, List.map_cons, hv] at hl kk1
    exact lv_aload_n hx hb hd rfl hl kk1
  · -- istore_n
    simp only [q_okI, Bool.and_eq_true, Nat.beq_eq] at hI
    obtain ⟨rfl, hn⟩ := hI
    obtain ⟨v, r, h0, h1, h2, h3, h4⟩ := q_sto_of h
    obtain ⟨x, rfl⟩ := q_ty0 h1
    cases h4
    dsimp only at h0 h2 h3
    subst h0
    exact lv_istore_n hx hb hd rfl (q_al_has hL) (by rw [← hL.2.2.1]; exact h3) rfl (fun ls' h' => nx hn rfl _ _ _ hR hH (q_L_of hL h2 h3 h'))
  · -- istore
    simp only [q_okI, Bool.and_eq_true, Nat.beq_eq] at hI
    obtain ⟨rfl, hn⟩ := hI
    obtain ⟨v, r, h0, h1, h2, h3, h4⟩ := q_sto_of h
    obtain ⟨x, rfl⟩ := q_ty0 h1
    cases h4
    dsimp only at h0 h2 h3
    subst h0
    exact lv_istore hx hb hd (q_al_has hL) (by rw [← hL.2.2.1]; exact h3) rfl (fun ls' h' => nx hn rfl _ _ _ hR hH (q_L_of hL h2 h3 h'))
  · -- astore_n
    simp only [q_okI, Bool.and_eq_true, Nat.beq_eq] at hI
    obtain ⟨rfl, hn⟩ := hI
    obtain ⟨v, r, h0, h1, h2, h3, h4⟩ := q_sto_of h
    obtain ⟨⟨x, hv⟩, -⟩ := q_ty2 h1 base b
    cases h4
    dsimp only at h0 h2 h3
    subst h0
    simp only [List.map_cons, hv]
    exact lv_astore_n hx hb hd rfl (q_al_has hL) (by rw [← hL.2.2.1]; exact h3) rfl (fun ls' h' => nx hn rfl _ _ _ hR hH (q_L_of hL h2 h3 (by rw [hv]; exact h')))
  · -- iinc
    simp only [q_okI, Bool.and_eq_true, Nat.beq_eq] at hI
    obtain ⟨rfl, hn⟩ := hI
    unfold q_inc at h
    split at h
    · rename_i x hxv
      obtain ⟨h1, h2⟩ := q_bif h
      cases h2
      simp only [Bool.and_eq_true, Nat.blt_eq] at h1
      obtain ⟨j, hj⟩ := List.getElem?_of_mem (q_al_mem (base := base) (b := b) hxv)
      exact lv_iinc hx hb hd (q_al_has hL) hj rfl (by rw [← hL.2.2.1]; exact h1.2) rfl (fun ls' h' => nx hn rfl _ _ _ hR hH (q_L_of hL h1.1 h1.2 h'))
    · cases h
  · -- getfield
    simp only [q_okI, Bool.and_eq_true, Nat.beq_eq] at hI
    obtain ⟨⟨rfl, hn⟩, hF⟩ := hI
    unfold q_get at h
    split at h
    · rename_i id r hst
      split at h
      · rename_i cj fs hs
        have hz := q_bif h; clear h; obtain ⟨h1, h⟩ := hz
        obtain rfl := Nat.eq_of_beq_eq_true h1
        split at h
        · rename_i o ho
          cases h
          dsimp only at hst
          subst hst
          exact q_w_get hx hb hown hts hK hR hs ho hF hd (nx hn rfl _ _ _ hR hH hL)
        · cases h
      · cases h
    · cases h
  · -- putfield
    simp only [q_okI, Bool.and_eq_true, Nat.beq_eq] at hI
    obtain ⟨⟨⟨rfl, hn⟩, hF⟩, hPp⟩ := hI
    unfold q_put at h
    split at h
    · rename_i v id r hst
      split at h
      · rename_i cj fs hs
        have hz := q_bif h; clear h; obtain ⟨h1, h⟩ := hz
        obtain rfl := Nat.eq_of_beq_eq_true h1
        dsimp only at hst
        subst hst
        split at h
        · rename_i x hfs
          have hz := q_bif h; clear h; obtain ⟨h2, h⟩ := hz
          have h2 := Nat.eq_of_beq_eq_true h2
          cases h
          refine q_w_put hx hb hown hts hK hR hs hF hPp (fun q => hinit (of_decide_eq_true q)) (Or.inl ⟨h2, x, rfl⟩) hd (fun H' j e2 e3 hc => nx hn rfl _ _ _ (q_R_put0 hR hs e2 e3 ?_ (fun j hj => q_up_ne _ _ hj)) (hH.put e2 e3) hL)
          obtain ⟨r', hr', ho⟩ := hc
          refine ⟨r', hr', ho.to (fun j hj => ?_)⟩
          by_cases e : j = b'
          · subst e
            simp only [updV, if_pos, q_cF, hfs, q_fv, q_up_at, upd, q_cv]
          · simp only [updV, if_neg e, q_cF]
            split
            · rename_i o _
              cases o with
              | none => simp only [q_fv, q_up_at, upd, if_neg e]
              | some o => cases o <;> rfl
            · rfl
        · rename_i o q hfs
          have hz := q_bif h; clear h; obtain ⟨h2, h⟩ := hz
          have h2 := Nat.eq_of_beq_eq_true h2
          cases h
          have hlt := (List.getElem?_eq_some_iff.mp hs).1
          refine q_w_put hx hb hown hts hK hR hs hF hPp (fun q => hinit (of_decide_eq_true q)) (Or.inr ⟨h2, _, rfl⟩) hd (fun H' j e2 e3 hc => nx hn rfl _ _ _ (q_R_put hR hlt e2 e3 ?_ (fun _ _ => rfl)) (hH.put e2 e3) hL)
          obtain ⟨r', hr', ho⟩ := hc
          refine ⟨r', hr', ho.to (fun j hj => ?_)⟩
          have hbl := (List.getElem?_eq_some_iff.mp hfs).1
          by_cases e : j = b'
          · subst e
            simp [updV, q_cF, List.getElem?_set, hbl, q_fv, q_cv]
          · have e' : ¬ b' = j := fun z => e z.symm
            simp only [updV, if_neg e, q_cF, List.getElem?_set, if_neg e']
        · cases h
      · cases h
    · cases h
  · -- iaload
    simp only [q_okI, Bool.and_eq_true, Nat.beq_eq] at hI
    obtain ⟨rfl, hn⟩ := hI
    unfold q_ald at h
    split at h
    · rename_i j id r hst
      split at h
      · rename_i bb n hs
        have hz := q_bif h; clear h; obtain ⟨h1, h⟩ := hz
        rw [Bool.and_eq_true] at h1
        obtain rfl := eq_of_beq h1.1
        cases h
        dsimp only at hst
        subst hst
        exact q_w_iald (bo := false) hx hb hK hR hs h1.2 hd (nx hn rfl _ _ _ hR hH hL)
      · cases h
    · rename_i j z r hst
      split at h
      · rename_i n xs
        have hz := q_bif h; clear h; obtain ⟨h1, h⟩ := hz
        rw [Bool.and_eq_true] at h1
        cases h
        dsimp only at hst
        subst hst
        obtain ⟨hX1, hX2⟩ := hX _ _ rfl
        exact va_sld (A := fun q => base ≤ q) (H0 := s.heap) hx hb hX1 (Nat.lt_of_lt_of_le hX2 hbase) (Nat.not_le.mpr hX2) ⟨hH.2.2, fun q _ h2 => hH.1 q (Nat.not_le.mp h2), hH.2.1⟩ (q_in_of h1.2).1 hd (nx hn rfl _ _ _ hR hH hL)
      · cases h
    · cases h
  · -- baload
    simp only [q_okI, Bool.and_eq_true, Nat.beq_eq] at hI
    obtain ⟨rfl, hn⟩ := hI
    unfold q_ald at h
    split at h
    · rename_i j id r hst
      split at h
      · rename_i bb n hs
        have hz := q_bif h; clear h; obtain ⟨h1, h⟩ := hz
        rw [Bool.and_eq_true] at h1
        obtain rfl := eq_of_beq h1.1
        cases h
        dsimp only at hst
        subst hst
        exact q_w_iald (bo := true) hx hb hK hR hs h1.2 hd (nx hn rfl _ _ _ hR hH hL)
      · cases h
    · rename_i j z r hst
      split at h
      · rename_i n xs
        have hz := q_bif h; clear h; obtain ⟨h1, h⟩ := hz
        rw [Bool.and_eq_true] at h1
        exact absurd h1.1 (by decide)
      · cases h
    · cases h
  · -- iastore
    simp only [q_okI, Bool.and_eq_true, Nat.beq_eq] at hI
    obtain ⟨rfl, hn⟩ := hI
    unfold q_ast at h
    split at h
    · rename_i x j id r hst
      split at h
      · rename_i bb n hs
        have hz := q_bif h; clear h; obtain ⟨h1, h⟩ := hz
        rw [Bool.and_eq_true] at h1
        obtain rfl := eq_of_beq h1.1
        cases h
        dsimp only at hst
        subst hst
        exact q_w_iast (bo := false) hx hb hK hR hH hs h1.2 hd (fun H' locs' r1 r2 => nx hn rfl _ _ _ r1 r2 hL)
      · cases h
    · cases h
  · -- bastore
    simp only [q_okI, Bool.and_eq_true, Nat.beq_eq] at hI
    obtain ⟨rfl, hn⟩ := hI
    unfold q_ast at h
    split at h
    · rename_i x j id r hst
      split at h
      · rename_i bb n hs
        have hz := q_bif h; clear h; obtain ⟨h1, h⟩ := hz
        rw [Bool.and_eq_true] at h1
        obtain rfl := eq_of_beq h1.1
        cases h
        dsimp only at hst
        subst hst
        exact q_w_iast (bo := true) hx hb hK hR hH hs h1.2 hd (fun H' locs' r1 r2 => nx hn rfl _ _ _ r1 r2 hL)
      · cases h
    · cases h
  · -- aaload
    simp only [q_okI, Bool.and_eq_true, Nat.beq_eq] at hI
    obtain ⟨rfl, hn⟩ := hI
    unfold q_qld at h
    split at h
    · rename_i j id r hst
      split at h
      · rename_i ci rs hs
        have hz := q_bif h; clear h; obtain ⟨h1, h⟩ := hz
        simp only [Bool.and_eq_true, Bool.or_eq_true, Nat.beq_eq] at h1
        cases h
        dsimp only at hst
        subst hst
        exact q_w_aald hx hb hK hR hs h1.1 h1.2 hd (nx hn rfl _ _ _ hR hH hL)
      · cases h
    · cases h
  · -- aastore
    simp only [q_okI, Bool.and_eq_true, Nat.beq_eq] at hI
    obtain ⟨rfl, hn⟩ := hI
    unfold q_qst at h
    split at h
    · rename_i v j id r hst
      split at h
      · rename_i ci rs cj fs hs hv
        have hz := q_bif h; clear h; obtain ⟨h1, h⟩ := hz
        simp only [Bool.and_eq_true, Bool.or_eq_true, Nat.beq_eq] at h1
        obtain ⟨hci, rfl, hin⟩ := h1
        cases h
        dsimp only at hst
        subst hst
        exact q_w_aast hx hb hK hR hH hs hv hci hin hd (fun H' locs' r1 r2 => nx hn rfl _ _ _ r1 r2 hL)
      · cases h
    · cases h
  · -- arraylength
    simp only [q_okI, Bool.and_eq_true, Nat.beq_eq] at hI
    obtain ⟨rfl, hn⟩ := hI
    unfold q_len at h
    split at h
    · rename_i id r hst
      split at h
      · rename_i bb n hs
        cases h
        dsimp only at hst
        subst hst
        exact q_w_len hx hb hK hR hs hd (nx hn rfl _ _ _ hR hH hL)
      · cases h
    · rename_i z r hst
      split at h
      · rename_i n xs
        cases h
        dsimp only at hst
        subst hst
        obtain ⟨hX1, hX2⟩ := hX _ _ rfl
        exact va_slen (A := fun q => base ≤ q) (H0 := s.heap) hx hb hX1 (Nat.lt_of_lt_of_le hX2 hbase) (Nat.not_le.mpr hX2) ⟨hH.2.2, fun q _ h2 => hH.1 q (Nat.not_le.mp h2), hH.2.1⟩ hd (nx hn rfl _ _ _ hR hH hL)
      · cases h
    · cases h
  · -- new
    simp only [q_okI, Bool.and_eq_true, Nat.beq_eq] at hI
    obtain ⟨⟨rfl, hn⟩, hA⟩ := hI
    have hz := q_bif h; clear h; obtain ⟨h1, h⟩ := hz
    simp only [Bool.and_eq_true, Nat.ble_eq] at h1
    cases h
    exact q_w_new hx hb hown hts hK hR hH hA (q_inst_ok _) h1.1 h1.2 hd (fun H' locs' r1 r2 => nx hn rfl _ _ _ r1 r2 hL)
  · -- newarray
    rename_i t
    simp only [q_okI, Bool.and_eq_true, Nat.beq_eq] at hI
    obtain ⟨⟨rfl, hn⟩, hA⟩ := hI
    unfold q_nar at h
    split at h
    · rename_i n r hst
      have hz := q_bif h; clear h; obtain ⟨h1, h⟩ := hz
      have hz := q_bif h; clear h; obtain ⟨h2, h⟩ := hz
      simp only [Bool.and_eq_true, Nat.ble_eq, Bool.not_eq_true', decide_eq_false_iff_not] at h1 h2
      cases h
      dsimp only at hst
      subst hst
      refine q_w_nar (bo := Nat.beq a 1) hx hb hts hK hR hH h1.1 h1.2 h2.1 h2.2 ?_ q_arr_ok (fun H' locs' r1 r2 => nx hn rfl _ _ _ r1 r2 hL)
      rw [hd]
      cases t <;> simp only [Nat.beq_eq] at hA <;> first | (subst hA; rfl) | cases hA
    · cases h
  · -- anewarray
    simp only [q_okI, Bool.and_eq_true, Nat.beq_eq, Bool.or_eq_true] at hI
    obtain ⟨⟨⟨rfl, hn⟩, hA⟩, hci⟩ := hI
    unfold q_nqr at h
    split at h
    · rename_i n r hst
      have hz := q_bif h; clear h; obtain ⟨h1, h⟩ := hz
      have hz := q_bif h; clear h; obtain ⟨h2, h⟩ := hz
      simp only [Bool.and_eq_true, Nat.ble_eq, Bool.not_eq_true', decide_eq_false_iff_not] at h1 h2
      cases h
      dsimp only at hst
      subst hst
      exact q_w_nqr hx hb hown hts hK hR hH hA hci h1.1 h1.2 h2.1 h2.2 hd (fun H' locs' r1 r2 => nx hn rfl _ _ _ r1 r2 hL)
    · cases h
  · -- goto
    simp only [q_okI, Bool.and_eq_true, Nat.beq_eq] at hI
    obtain ⟨rfl, hn⟩ := hI
    obtain ⟨e', h1, h2⟩ := q_tgt_of hn
    cases h
    exact lv_goto hx hb hd h2 (kk e' h1 _ _ _ hR hH hL)
  · -- ifCond
    rename_i cnd off
    simp only [q_okI, Bool.and_eq_true, Nat.beq_eq] at hI
    obtain ⟨⟨rfl, hn⟩, ht⟩ := hI
    obtain ⟨e', h1, h2⟩ := q_tgt_of ht
    split at h
    · rename_i x r hst
      cases h
      dsimp only at hst kk nx
      subst hst
      have kt : q_cmp cnd x 0 = true → W p l e (q_rm k) s m args below meth c H locs cu su Q (F0 m e'.1 ls (r.map (q_cv base b))) := by
        intro hc
        rw [hc] at kk
        exact kk e' h1 _ _ _ hR hH hL
      have kf : q_cmp cnd x 0 = false → W p l e (q_rm k) s m args below meth c H locs cu su Q (F0 m (pc + 3) ls (r.map (q_cv base b))) := by
        intro hc
        rw [hc] at nx
        exact nx hn rfl _ _ _ hR hH hL
      cases cnd
      · exact lv_if_eq hx hb hd h2 (fun q => kt (by simpa [q_cmp] using q)) (fun q => kf (by simpa [q_cmp] using q))
      · exact lv_if_ne hx hb hd h2 (fun q => kt (by simpa [q_cmp] using q)) (fun q => kf (by simpa [q_cmp] using q))
      · exact lv_if_lt hx hb hd h2 (fun q => kt (by simpa [q_cmp] using q)) (fun q => kf (by simpa [q_cmp] using q))
      · exact lv_if_ge hx hb hd h2 (fun q => kt (by simpa [q_cmp] using q)) (fun q => kf (by simpa [q_cmp] using q))
      · exact lv_if_gt hx hb hd h2 (fun q => kt (by simpa [q_cmp] using q)) (fun q => kf (by simpa [q_cmp] using q))
      · exact lv_if_le hx hb hd h2 (fun q => kt (by simpa [q_cmp] using q)) (fun q => kf (by simpa [q_cmp] using q))
    · cases h
  · -- if_icmp
    rename_i cnd off
    simp only [q_okI, Bool.and_eq_true, Nat.beq_eq] at hI
    obtain ⟨⟨rfl, hn⟩, ht⟩ := hI
    obtain ⟨e', h1, h2⟩ := q_tgt_of ht
    split at h
    · rename_i y x r hst
      cases h
      dsimp only at hst kk nx
      subst hst
      have kt : q_cmp cnd x y = true → W p l e (q_rm k) s m args below meth c H locs cu su Q (F0 m e'.1 ls (r.map (q_cv base b))) := by
        intro hc
        rw [hc] at kk
        exact kk e' h1 _ _ _ hR hH hL
      have kf : q_cmp cnd x y = false → W p l e (q_rm k) s m args below meth c H locs cu su Q (F0 m (pc + 3) ls (r.map (q_cv base b))) := by
        intro hc
        rw [hc] at nx
        exact nx hn rfl _ _ _ hR hH hL
      cases cnd
      · exact lv_icmp_eq hx hb hd h2 (fun q => kt (by simpa [q_cmp] using q)) (fun q => kf (by simpa [q_cmp] using q))
      · exact lv_icmp_ne hx hb hd h2 (fun q => kt (by simpa [q_cmp] using q)) (fun q => kf (by simpa [q_cmp] using q))
      · exact lv_icmp_lt hx hb hd h2 (fun q => kt (by simpa [q_cmp] using q)) (fun q => kf (by simpa [q_cmp] using q))
      · exact lv_icmp_ge hx hb hd h2 (fun q => kt (by simpa [q_cmp] using q)) (fun q => kf (by simpa [q_cmp] using q))
      · exact lv_icmp_gt hx hb hd h2 (fun q => kt (by simpa [q_cmp] using q)) (fun q => kf (by simpa [q_cmp] using q))
      · exact lv_icmp_le hx hb hd h2 (fun q => kt (by simpa [q_cmp] using q)) (fun q => kf (by simpa [q_cmp] using q))
    · cases h
  · -- tableswitch
    rename_i d lo hi offs
    split at h
    · rename_i x r hst
      dsimp only at hst
      subst hst
      unfold q_sw at h
      split at h
      · rename_i off ho
        split at h
        · rename_i t hat
          cases h
          obtain ⟨hlt, hp, -⟩ := List.findIdx?_eq_some_iff_getElem.mp hat
          have he' : (q_cd k)[t]? = some (q_cd k)[t] := List.getElem?_eq_getElem hlt
          have h2 : (pc : Int) + off = ((q_cd k)[t].1 : Int) := (of_decide_eq_true hp).symm
          have kk1 := kk _ he' _ _ _ hR hH hL
          unfold q_swo at ho
          cases hc : (decide (x.toInt < lo) || decide (hi < x.toInt)) with
          | true =>
            rw [hc] at ho
            cases ho
            simp only [Bool.or_eq_true, decide_eq_true_eq] at hc
            exact lv_tableOut hx hb hd hc h2 kk1
          | false =>
            rw [hc] at ho
            simp only [Bool.or_eq_false_iff, decide_eq_false_iff_not] at hc
            exact lv_tableIn hx hb hd hc.1 hc.2 ho h2 kk1
        · cases h
      · cases h
    · cases h
  · -- lookupswitch
    rename_i d ps
    simp only [q_okI] at hI
    split at h
    · rename_i x r hst
      dsimp only at hst
      subst hst
      unfold q_sw at h
      split at h
      · rename_i off ho
        split at h
        · rename_i t hat
          cases h
          obtain ⟨hlt, hp, -⟩ := List.findIdx?_eq_some_iff_getElem.mp hat
          have he' : (q_cd k)[t]? = some (q_cd k)[t] := List.getElem?_eq_getElem hlt
          have h2 : (pc : Int) + off = ((q_cd k)[t].1 : Int) := (of_decide_eq_true hp).symm
          exact lv_lookup hx hb hd hI (Option.some.inj ho) h2 (kk _ he' _ _ _ hR hH hL)
        · cases h
      · cases h
    · cases h
  · -- ireturn
    split at h
    · obtain ⟨-, h⟩ := q_bif h; cases h
    · cases h
  · -- areturn
    split at h
    · obtain ⟨-, h⟩ := q_bif h; cases h
    · cases h
  · -- return
    split at h
    · obtain ⟨-, h⟩ := q_bif h; cases h
    · cases h
  · -- invokevirtual
    obtain ⟨-, h⟩ := q_bif h
    exact (q_inv_no h).elim
  · -- invokestatic
    simp only [q_okI, Bool.and_eq_true, Nat.beq_eq] at hI
    obtain ⟨⟨rfl, hn⟩, hI⟩ := hI
    cases h7 : Nat.beq c' 7 with
    | true =>
      rw [h7] at h hI
      simp only [cond_true, Bool.and_eq_true, decide_eq_true_eq, Nat.ble_eq] at h hI
      unfold q_copy at h
      split at h
      · rename_i n dp d sp sr r hst
        split at h
        · rename_i ns nd hs0 hs1
          have hz := q_bif h; clear h; obtain ⟨h1, h⟩ := hz
          simp only [Bool.and_eq_true, Nat.ble_eq, Bool.not_eq_true', decide_eq_false_iff_not] at h1
          cases h
          dsimp only at hst
          subst hst
          exact q_w_copy hx hb (by rw [hml]; exact hL.1.symm) hown hts hK hR hH hI.1.1 q_cpy_ok hs0 hs1 h1.1.1 h1.1.2.1 h1.1.2.2 h1.2.1 h1.2.2.1 hI.1.2 (by rw [q_cs_map]; have := hI.2; have := h1.2.2.2; show _ ≤ q_nu k 4; omega) hd (fun H' locs' r1 r2 => nx hn rfl _ _ _ r1 r2 hL)
        · cases h
      · cases h
    | false =>
      rw [h7] at h hI
      simp only [cond_false] at h hI
      cases h8 : Nat.beq c' 8 with
      | true =>
        rw [h8] at h hI
        simp only [cond_true, Bool.and_eq_true, decide_eq_true_eq, Nat.ble_eq] at h hI
        unfold q_min at h
        split at h
        · rename_i y x r hst
          have hz := q_bif h; clear h; obtain ⟨h1, h⟩ := hz
          simp only [Bool.and_eq_true, Nat.ble_eq] at h1
          cases h
          dsimp only at hst h1
          subst hst
          exact va_mmin hx hb (by rw [hml]; exact hL.1.symm) hown (hts _ (q_w_in hI.1.1 rfl)) (hts _ q_min_ok.1) (hts _ q_min_ok.2.1) (hts _ q_min_ok.2.2) hI.1.2 (by
            have e1 := q_cs_map base b r
            unfold q_cs at e1
            rw [e1]
            have := hI.2; have h2 := h1.1; unfold q_cs at h2; show _ ≤ q_nu k 4; omega) h1.2.1 h1.2.2 hd (nx hn rfl _ _ _ hR hH hL)
        · cases h
      | false =>
        rw [h8] at h
        simp only [cond_false] at h
        obtain ⟨-, h⟩ := q_bif h
        exact (q_inv_no h).elim
  · -- invokespecial
    simp only [q_okI, Bool.and_eq_true, Nat.beq_eq] at hI
    obtain ⟨⟨rfl, hn⟩, hI⟩ := hI
    cases h6 : Nat.beq c' 6 with
    | true =>
      rw [h6] at h hI
      simp only [cond_true, Bool.and_eq_true, decide_eq_true_eq, Nat.ble_eq] at h hI
      unfold q_obi at h
      split at h
      · rename_i id r hst
        have hz := q_bif h; clear h; obtain ⟨h1, h⟩ := hz
        have h1 := Nat.le_of_ble_eq_true h1
        cases h
        dsimp only at hst
        subst hst
        refine W.objInit hx hb hown (hts _ (q_w_in hI.1.1 rfl)) (hts _ q_obj_ok.1) (hts _ q_obj_ok.2) rfl (by rw [hml]; exact hL.1) rfl hd hI.1.2 ?_ (nx hn rfl _ _ _ hR hH hL)
        have e1 := q_cs_map base b r
        unfold q_cs at e1 h1
        have := hI.2
        show 2 * 0 + ((r.map (q_cv base b)).map fun v => v.category).sum + 12 ≤ q_nu k 4
        rw [e1]; omega
      · cases h
    | false =>
      rw [h6] at h
      simp only [cond_false] at h
      obtain ⟨-, h⟩ := q_bif h
      exact (q_inv_no h).elim
  · -- the rest
    split at h
    · rename_i st' hs
      cases h
      have hn : q_nxt (q_cd k) i (pc + len) = true := q_sop_nx hI hs
      exact (q_sop_ok hx hb hown hts hI hd hs (nx hn rfl _ _ _ hR hH hL)).1
    · cases h
end QT
end
section
theorem q_okM_of {a : Nat} (ha : a < 205) : (q_w (q_nu a 7) = some (.code (q_mi a).1 (q_mi a).2.1 (q_mi a).2.2.1 (q_mi a).2.2.2)) ∧ q_w (q_nu a 8) = some (.initialized (q_mi a).1.cls) ∧
    ((q_mi a).1.cls ≠ "java/lang/invoke/MethodHandle" ∧ (q_mi a).1.cls ≠ "java/lang/invoke/VarHandle") ∧ plainName (q_mi a).1.cls = true ∧
    (q_nu a 0 = 0 → q_w (q_nu a 10) = some (.static (q_mi a).1) ∧ (parseMethodDescriptor (q_mi a).1.desc).map (fun d => d.parameters.length) = some (q_nu a 2)) ∧
    (q_nu a 0 ≠ 0 → q_w (q_nu a 9) = some (.instanceMethod (q_mi a).1) ∧ 0 < q_nu a 2 ∧ (parseMethodDescriptor (q_mi a).1.desc).map (fun d => d.parameters.length) = some (q_nu a 2 - 1)) ∧
    (q_nu a 0 = 1 → q_w (q_nu a 10) = some (.selects (q_mi a).1.cls (q_mi a).1 (q_mi a).1) ∧ (vwCl[q_nu a 1]?).map (fun q => q.1) = some (q_mi a).1.cls) ∧
    (q_nu a 0 = 2 → (q_mi a).1.name = "<init>" ∧ (q_mi a).2.2.2 = none) := by
  have h := q_okM_all a ha
  simp only [q_okM, Bool.and_eq_true, decide_eq_true_eq] at h
  obtain ⟨h1, h2, h3, h4, h5⟩ := h
  refine ⟨h1, h2, h3, h4, fun q => ?_, fun q => ?_, fun q => ?_, fun q => ?_⟩
  · rw [q] at h5
    simpa using h5
  · have q' : Nat.beq (q_nu a 0) 0 = false := by
      cases hb : Nat.beq (q_nu a 0) 0 with
      | false => rfl
      | true => exact absurd (Nat.eq_of_beq_eq_true hb) q
    rw [q'] at h5
    simp only [cond_false, Bool.and_eq_true, decide_eq_true_eq, Nat.blt_eq] at h5
    exact ⟨h5.1, h5.2.1, h5.2.2.1⟩
  · rw [q] at h5
    simp only [show Nat.beq 1 0 = false from rfl, show Nat.beq 1 1 = true from rfl, cond_false, cond_true, Bool.and_eq_true, decide_eq_true_eq] at h5
    exact h5.2.2.2
  · rw [q] at h5
    simp only [show Nat.beq 2 0 = false from rfl, show Nat.beq 2 1 = false from rfl, cond_false, cond_true, Bool.and_eq_true, decide_eq_true_eq] at h5
    exact h5.2.2.2
/-! the entry -/
theorem q_lay_len (base b : Nat) : ∀ as : List Value, (lg_sl (as.map (q_cv base b))).length = (q_lay as).length
  | [] => rfl
  | v :: r => by
    have ih := q_lay_len base b r
    simp only [lg_sl, List.map_cons, List.flatMap_cons, List.length_append, q_lay] at ih ⊢
    rw [ih, q_cv_cat]
    rcases lv_cat v with h | h
    · rw [h]; simp [show Nat.beq 1 2 = false from rfl, Nat.add_comm]
    · rw [h]; simp [show Nat.beq 2 2 = true from rfl]; omega
theorem q_lay_mem (base b : Nat) : ∀ (as : List Value) (o i : Nat) (v : Value), (q_lay as)[i]? = some (some v) → (o + i, q_cv base b v) ∈ lv_args o (as.map (q_cv base b))
  | [], _, _, _, h => by simp [q_lay] at h
  | w :: r, o, i, v, h => by
    simp only [List.map_cons, lv_args, q_cv_cat]
    rcases lv_cat w with hc | hc
    · simp only [q_lay, hc, show Nat.beq 1 2 = false from rfl, cond_false] at h
      rw [if_neg (by omega)]
      cases i with
      | zero => simp only [List.getElem?_cons_zero, Option.some.injEq] at h; subst h; exact List.mem_cons_self
      | succ i =>
        rw [List.getElem?_cons_succ] at h
        have := q_lay_mem base b r (o + 1) i v h
        rw [show o + 1 + i = o + (i + 1) by omega] at this
        exact List.mem_cons_of_mem _ this
    · simp only [q_lay, hc, show Nat.beq 2 2 = true from rfl, cond_true] at h
      rw [if_pos hc]
      cases i with
      | zero => simp only [List.getElem?_cons_zero, Option.some.injEq] at h; subst h; exact List.mem_cons_self
      | succ i =>
        cases i with
        | zero => simp at h
        | succ i =>
          rw [List.getElem?_cons_succ, List.getElem?_cons_succ] at h
          have := q_lay_mem base b r (o + 2) i v h
          rw [show o + 2 + i = o + (i + 1 + 1) by omega] at this
          exact List.mem_cons_of_mem _ this
theorem q_L_entry {base b nL : Nat} {as : List Value} (h : (q_lay as).length ≤ nL) :
    q_L base b ((lg_sl (as.map (q_cv base b)) ++ List.replicate (nL - (lg_sl (as.map (q_cv base b))).length) Slot.unset).toArray) nL (q_lay as ++ List.replicate (nL - (q_lay as).length) none) := by
  have h1 := lv_entry (as.map (q_cv base b)) (n := nL) (by rw [q_lay_len]; exact h)
  refine ⟨h1.1, h1.2.1, by simp; omega, fun i v hv => ?_⟩
  by_cases hi : i < (q_lay as).length
  · rw [List.getElem?_append_left hi] at hv
    have := q_lay_mem base b as 0 i v hv
    rw [Nat.zero_add] at this
    exact h1.2.2 _ this
  · rw [List.getElem?_append_right (by omega), List.getElem?_replicate] at hv
    split at hv <;> cases hv
noncomputable def q_ws (k : Nat) : List Cond := .code (q_mi k).1 (q_mi k).2.1 (q_mi k).2.2.1 (q_mi k).2.2.2 :: q_tb
def q_Pc (G : q_G) (base b : Nat) (as : List Value) (mm : q_Mm) : Array Value → State → Prop := va_Pc (as.map (q_cv base b)) (fun U => q_R G base mm U.heap ∧ q_K G U)
def q_Qc (G : q_G) (base b : Nat) (r : Option Value) (mm : q_Mm) : Array Value → State → Outcome → State → Prop := fun _ st o t => o = .returned (r.map (q_cv base b)) ∧ q_R G base mm t.heap ∧ (∀ q : Nat, q < base → t.heap[q]? = st.heap[q]?) ∧ st.heap.size ≤ t.heap.size
theorem q_Pc_blind {G : q_G} {base b : Nat} {as : List Value} {mm : q_Mm} : FrameBlind (q_Pc G base b as mm) := fun _ _ _ _ h => ⟨h.1, h.2.1, h.2.2.calling⟩
/-- how an answer leaves -/
def q_rets (k : Nat) (ins : Instr) (r : Option Value) : Prop := (ins = .ireturn ∧ ∃ x, r = some (.int x) ∧ q_rok (q_mi k).2.2.2 x = true) ∨ (ins = .areturn ∧ ∃ q, r = some (.ref q)) ∨ (ins = .return_ ∧ r = none)
/-- a whole run, walked -/
def q_Snd (n : Nat) : Prop := ∀ (X : q_X) (k : Nat) (fr : q_Fr) (mm : q_Mm) (r : Option Value) (mm' : q_Mm), k ≤ 205 → q_exec n X k fr mm = some (r, mm') → ∀ {G : q_G} {base b : Nat} {p : Program} {l : Launch} {e : Env} {s : State} {m : MethodId} {args : Array Value} {below : List Frame} {meth : Method} {c : Code} {Q : State → Prop},
  q_C G base b X k p s m args meth c →
  (∀ (ent : q_Ent) (H : Heap) (locs : List Loc) (ls : Array Slot) (cu su : Nat), decode (q_mi k).2.1 ent.1 = .ok (ent.2.2.1, 1) → q_rets k ent.2.2.1 r → (ent.2.2.1 = .areturn → (q_mi k).2.2.2 = some (.object "ThrownMarks$Card")) → (ent.2.2.1 = .return_ → (q_mi k).2.2.2 = none) → q_R G base mm' H → q_H base s H locs → cu ≤ q_mc k → su ≤ q_ms k → W p l e (q_rm k) s m args below meth c H locs cu su Q (F0 m ent.1 ls (r.toList.map (q_cv base b)))) →
  q_W G base b k p l e s m args below meth c Q fr mm
theorem q_met {n k : Nat} (hk : k < 205) (hS : q_Snd n) {l : Launch} {as : List Value} {mm mm' : q_Mm} {r : Option Value} (h : q_exec n none k (q_ent k as) mm = some (r, mm')) (hl : (q_lay as).length ≤ (q_mi k).2.2.1) (G : q_G) (base b : Nat) :
    Met l (q_mi k).1 (q_ws k) (q_rm k) (q_Pc G base b as mm) (q_Qc G base b r mm') (q_mc k) (q_ms k) (fun q => base ≤ q) := by
  obtain ⟨-, -, -, hplain, -, -, -, -⟩ := q_okM_of hk
  refine Met.ofW (cc := (q_mi k).2.1) (maxL := (q_mi k).2.2.1) (ret := (q_mi k).2.2.2) hplain rfl ?_
  intro p e s m args below meth c s₁ B hml hv
  obtain ⟨rfl, hR, hK⟩ := hv
  have hts : ∀ w ∈ q_ws k, w.before (as.map (q_cv base b)).toArray s = true := atoms_spec (ws := q_ws k) B.pre
  have hr := B.returns
  have C : q_C G base b none k p s m (as.map (q_cv base b)).toArray meth c := ⟨B.exec, B.bytes, hml, findClass_of_methodNamed B.named, fun w hw => hts w (List.mem_cons_of_mem _ hw), fun hn => (name_of_methodNamed B.named B.method).1.trans hn, hK, by rw [hR.1]; omega, fun L xs hX => by cases hX⟩
  obtain ⟨e0, he0, hz⟩ := q_cd0 k (Nat.le_of_lt hk)
  rw [lg_entry_eq]
  have := hS none k (q_ent k as) mm r mm' (Nat.le_of_lt hk) h C (l := l) (e := e) (below := below) (Q := MQ below (q_Qc G base b r mm') (as.map (q_cv base b)).toArray s (q_mc k) (q_ms k) (fun q => base ≤ q)) ?_ e0 he0 s.heap [] _ hR ⟨fun _ _ => rfl, fun _ h => absurd h List.not_mem_nil, Nat.le_refl _⟩ (q_L_entry hl)
  · rw [hz] at this
    exact this
  · intro ent H locs ls cu su hd hrt ha hv hR' hH hcu hsu
    refine W.widen hcu hsu ?_
    have hq : ∀ t : State, t.heap = H → s.WarmedH t.vm → q_Qc G base b r mm' (as.map (q_cv base b)).toArray s (.returned (r.map (q_cv base b))) t := fun t ht _ => ⟨rfl, by rw [ht]; exact hR', fun q hq => by rw [ht]; exact hH.1 q hq, by rw [ht]; exact hH.2.2⟩
    have hlocks := B.notSynchronized
    rcases hrt with ⟨hi, x, rfl, hx⟩ | ⟨hi, q, rfl⟩ | ⟨hi, rfl⟩
    · rw [hi] at hd
      cases hrt : (q_mi k).2.2.2 with
      | none => rw [hrt] at hx; cases hx
      | some ty =>
        rw [hrt] at hr hx
        refine W.zret (ty := ty) B.exec B.bytes hr ?_ hq hH.2.1 hd hlocks
        revert hx
        cases ty <;> intro hx <;> first | rfl | cases hx | skip
        simp only [q_rok, Bool.or_eq_true, decide_eq_true_eq] at hx
        rcases hx with rfl | rfl <;> rfl
    · have hty := ha hi
      rw [hi] at hd
      exact W.aret (rt := .object "ThrownMarks$Card") B.exec B.bytes (hr.trans hty) (Or.inl ⟨_, rfl⟩) (Or.inr ⟨_, rfl⟩) hq hH.2.1 hd hlocks
    · have hty := hv hi
      rw [hi] at hd
      exact W.vret B.exec B.bytes (hr.trans hty) hq hH.2.1 hd hlocks
theorem q_tb_good : ∀ w ∈ q_tb, w ∈ q_tb ∧ ((w.onTables && w.keeps) = true ∨ ∃ ty, w = .arrayClass ty) := fun w hw => ⟨hw, good_of_word (List.mem_filter.mp hw).2⟩
section QE
variable {p : Program} {l : Launch} {e : Env} {s : State} {m : MethodId} {args : Array Value} {below : List Frame} {meth : Method} {c : Code} {Q : State → Prop} {R : Room} {H : Heap} {locs : List Loc} {cells slots : Nat}
variable {base b : Nat} {G : q_G} {X : q_X} {k : Nat} {pc : Nat} {ls : Array Slot}
/-- behind a call -/
theorem q_w_ret {mc ms : Nat} {st0 rest : List Value} {r : Option Value} {mm' : q_Mm} {a : Array Value} (hr : va_Run p l e R s m args below meth c H locs cells slots mc ms (F0 m pc ls st0) (rest.map (q_cv base b)) (q_Qc G base b r mm' a) (fun q => base ≤ q)) (hH : q_H base s H locs)
    (kk : ∀ H' locs', q_R G base mm' H' → q_H base s H' locs' → W p l e R s m args below meth c H' locs' (cells + mc) (slots + ms) Q (F0 m (pc + 3) ls ((r.toList ++ rest).map (q_cv base b)))) : W p l e R s m args below meth c H locs cells slots Q (F0 m pc ls st0) := by
  intro T hT X
  obtain ⟨v, st₀, t, T', L, h0, X', hL, e1, e2, ⟨hv, hR', hfr, hsz⟩, st⟩ := hr T hT X
  cases hv
  obtain ⟨t2, a1, b1⟩ := kk t.heap (locs ++ L) hR' ⟨fun q hq => by rw [hfr q hq, h0]; exact hH.1 q hq, fun x hx => by
      rcases List.mem_append.mp hx with h | h
      · exact hH.2.1 x h
      · exact hL x h, by rw [h0] at hsz; exact Nat.le_trans hH.2.2 hsz⟩ T' e1 X'
  refine ⟨t2, st t2 ?_, b1⟩
  have e3 : (r.map (q_cv base b)).toList ++ rest.map (q_cv base b) = (r.toList ++ rest).map (q_cv base b) := by cases r <;> simp
  show Steps p.tables e below (T'.setTop (F0 m (pc + 3) ls ((r.map (q_cv base b)).toList ++ rest.map (q_cv base b)))) t2
  rw [e3]
  exact a1
/-- what a call wants -/
theorem q_cb (C : q_C G base b X k p s m args meth c) {a nb : Nat} (ha : a < 205) (hR : q_okR k a nb = true) {n : Nat} (hn : (parseMethodDescriptor (q_mi a).1.desc).map (fun d => d.parameters.length) = some n) {idx : Nat} (hl : (Cond.methodLink (q_mi k).1.cls idx (q_mi a).1).before args s = true) :
    CallB (q_rm k) s args (q_mi k).1.cls idx (q_mi a).1 (q_mi a).2.1 (q_mi a).2.2.1 (q_mi a).2.2.2 (q_ws a) (q_rm a) (q_mc a) (q_ms a) n := by
  obtain ⟨hx, hb, hml, hown, hts, hinit, hK, hbase, hX⟩ := C
  obtain ⟨h1, h2, h3, -⟩ := q_okM_of ha
  simp only [q_okR, Bool.and_eq_true, Nat.ble_eq] at hR
  exact callB_of (Ts := q_tb) n hts (fun w hw => by
    rcases List.mem_cons.mp hw with rfl | hw
    · exact q_tb_good _ (q_w_in h1 rfl)
    · exact q_tb_good _ hw) rfl rfl rfl (hts _ (q_w_in h2 rfl)) hl ⟨h3.1, h3.2, hn⟩ ⟨hR.2.2.1, hR.2.2.2⟩
theorem q_cn (C : q_C G base b X k p s m args meth c) {a nb : Nat} (ha : a < 205) (hR : q_okR k a nb = true) {n : Nat} (hn : (parseMethodDescriptor (q_mi a).1.desc).map (fun d => d.parameters.length) = some n) {idx : Nat} (hl : va_Nw (.methodLinkNest (q_mi k).1.cls idx (q_mi a).1 "ThrownMarks") s) :
    va_CN (q_rm k) s args (q_mi k).1.cls idx (q_mi a).1 "ThrownMarks" (q_mi a).2.1 (q_mi a).2.2.1 (q_mi a).2.2.2 (q_ws a) (q_rm a) (q_mc a) (q_ms a) n := by
  obtain ⟨hx, hb, hml, hown, hts, hinit, hK, hbase, hX⟩ := C
  obtain ⟨h1, h2, h3, -⟩ := q_okM_of ha
  simp only [q_okR, Bool.and_eq_true, Nat.ble_eq] at hR
  exact va_cnB (Ts := q_tb) n hts (fun w hw => by
    rcases List.mem_cons.mp hw with rfl | hw
    · exact q_tb_good _ (q_w_in h1 rfl)
    · exact q_tb_good _ hw) rfl rfl rfl hl (hts _ (q_w_in h2 rfl)) ⟨h3.1, h3.2, hn⟩ ⟨hR.2.2.1, hR.2.2.2⟩
theorem q_inv_of {a nb c' : Nat} {fr fr' : q_Fr} {mm : q_Mm} {a2 : Nat} {as : List Value} (h : q_inv k a nb c' fr mm = some (.inr (.inr (a2, as, fr')))) : a2 = a ∧ as = (fr.2.2.1.take nb).reverse ∧ fr' = (fr.1 + 1, fr.2.1, fr.2.2.1.drop nb, fr.2.2.2.1 + q_mc a, fr.2.2.2.2 + q_ms a) ∧ nb ≤ fr.2.2.1.length ∧ q_cs (fr.2.2.1.drop nb) ≤ 8 ∧
    (q_lay as).length ≤ (q_mi a).2.2.1 ∧ q_pre c' (q_nu a 1) as mm = true ∧ fr.2.2.2.1 + q_mc a ≤ q_mc k ∧ fr.2.2.2.2 + q_ms a ≤ q_ms k := by
  unfold q_inv at h
  obtain ⟨h1, h2⟩ := q_bif h
  simp only [Bool.and_eq_true, Nat.ble_eq] at h1
  cases h2
  exact ⟨rfl, rfl, rfl, h1.1, h1.2.1, h1.2.2.1, h1.2.2.2.1, h1.2.2.2.2.1, h1.2.2.2.2.2⟩
theorem q_sop_no {fr : q_Fr} {mm : q_Mm} {ins : Instr} {a : Nat} {x : Option Value ⊕ (Nat × List Value × q_Fr)} (h : (match q_sop ins a fr.2.2.1 with | some st => q_go (q_nx fr st) mm | none => none) = some (.inr x)) : False := by
  split at h <;> cases h
/-- a step that isn't a plain one: an answer or a call -/
theorem q_step_rest (hk : k ≤ 205) {fr : q_Fr} {mm : q_Mm} {x : Option Value ⊕ (Nat × List Value × q_Fr)} (h : q_step X k fr mm = some (.inr x)) {ent : q_Ent} (he : (q_cd k)[fr.1]? = some ent) :
    (∃ v, x = .inl v ∧ fr.2.2.1 = v.toList ∧ q_rets k ent.2.2.1 v ∧ fr.2.2.2.1 ≤ q_mc k ∧ fr.2.2.2.2 ≤ q_ms k) ∨
    (∃ idx, (ent.2.2.1 = .invokevirtual idx ∧ ent.2.2.2.2.2.1 = 0 ∨ ent.2.2.1 = .invokestatic idx ∧ (ent.2.2.2.2.2.1 = 1 ∨ ent.2.2.2.2.2.1 = 4) ∨ ent.2.2.1 = .invokespecial idx ∧ (ent.2.2.2.2.2.1 = 2 ∨ ent.2.2.2.2.2.1 = 5)) ∧ q_inv k ent.2.2.2.1 ent.2.2.2.2.1 ent.2.2.2.2.2.1 fr mm = some (.inr x)) := by
  simp only [q_step, he] at h
  obtain ⟨pc, len, ins, a, b', c', d'⟩ := ent
  dsimp only at h ⊢
  unfold q_ins at h
  split at h
  · unfold q_ld at h; (exfalso; clear he; repeat' first | (cases h; done) | (replace h := (q_bif h).2) | split at h)
  · unfold q_ld at h; (exfalso; clear he; repeat' first | (cases h; done) | (replace h := (q_bif h).2) | split at h)
  · unfold q_ld at h; (exfalso; clear he; repeat' first | (cases h; done) | (replace h := (q_bif h).2) | split at h)
  · unfold q_ld at h; (exfalso; clear he; repeat' first | (cases h; done) | (replace h := (q_bif h).2) | split at h)
  · unfold q_ld at h; (exfalso; clear he; repeat' first | (cases h; done) | (replace h := (q_bif h).2) | split at h)
  · unfold q_sto at h; (exfalso; clear he; repeat' first | (cases h; done) | (replace h := (q_bif h).2) | split at h)
  · unfold q_sto at h; (exfalso; clear he; repeat' first | (cases h; done) | (replace h := (q_bif h).2) | split at h)
  · unfold q_sto at h; (exfalso; clear he; repeat' first | (cases h; done) | (replace h := (q_bif h).2) | split at h)
  · unfold q_inc at h; (exfalso; clear he; repeat' first | (cases h; done) | (replace h := (q_bif h).2) | split at h)
  · unfold q_get at h; (exfalso; clear he; repeat' first | (cases h; done) | (replace h := (q_bif h).2) | split at h)
  · unfold q_put at h; (exfalso; clear he; repeat' first | (cases h; done) | (replace h := (q_bif h).2) | split at h)
  · unfold q_ald at h; (exfalso; clear he; repeat' first | (cases h; done) | (replace h := (q_bif h).2) | split at h)
  · unfold q_ald at h; (exfalso; clear he; repeat' first | (cases h; done) | (replace h := (q_bif h).2) | split at h)
  · unfold q_ast at h; (exfalso; clear he; repeat' first | (cases h; done) | (replace h := (q_bif h).2) | split at h)
  · unfold q_ast at h; (exfalso; clear he; repeat' first | (cases h; done) | (replace h := (q_bif h).2) | split at h)
  · unfold q_qld at h; (exfalso; clear he; repeat' first | (cases h; done) | (replace h := (q_bif h).2) | split at h)
  · unfold q_qst at h; (exfalso; clear he; repeat' first | (cases h; done) | (replace h := (q_bif h).2) | split at h)
  · unfold q_len at h; (exfalso; clear he; repeat' first | (cases h; done) | (replace h := (q_bif h).2) | split at h)
  · unfold q_mk at h; (exfalso; clear he; repeat' first | (cases h; done) | (replace h := (q_bif h).2) | split at h)
  · unfold q_nar at h; (exfalso; clear he; repeat' first | (cases h; done) | (replace h := (q_bif h).2) | split at h | unfold q_mk at h)
  · unfold q_nqr at h; (exfalso; clear he; repeat' first | (cases h; done) | (replace h := (q_bif h).2) | split at h | unfold q_mk at h)
  · (exfalso; clear he; repeat' first | (cases h; done) | (replace h := (q_bif h).2) | split at h)
  · (exfalso; clear he; repeat' first | (cases h; done) | (replace h := (q_bif h).2) | split at h)
  · (exfalso; clear he; repeat' first | (cases h; done) | (replace h := (q_bif h).2) | split at h)
  · (exfalso; clear he; repeat' first | (cases h; done) | (replace h := (q_bif h).2) | split at h | unfold q_sw at h)
  · (exfalso; clear he; repeat' first | (cases h; done) | (replace h := (q_bif h).2) | split at h | unfold q_sw at h)
  · split at h
    · rename_i x0 hst
      obtain ⟨h1, h⟩ := q_bif h
      simp only [Bool.and_eq_true, Nat.ble_eq] at h1
      cases h
      exact Or.inl ⟨_, rfl, hst, Or.inl ⟨rfl, _, rfl, h1.1⟩, h1.2⟩
    · cases h
  · split at h
    · rename_i x0 hst
      obtain ⟨h1, h⟩ := q_bif h
      simp only [Bool.and_eq_true, Nat.ble_eq] at h1
      cases h
      exact Or.inl ⟨_, rfl, hst, Or.inr (Or.inl ⟨rfl, _, rfl⟩), h1⟩
    · cases h
  · split at h
    · rename_i hst
      obtain ⟨h1, h⟩ := q_bif h
      simp only [Bool.and_eq_true, Nat.ble_eq] at h1
      cases h
      exact Or.inl ⟨_, rfl, hst, Or.inr (Or.inr ⟨rfl, rfl⟩), h1⟩
    · cases h
  · rename_i idx
    obtain ⟨h1, h⟩ := q_bif h
    exact Or.inr ⟨idx, Or.inl ⟨rfl, Nat.eq_of_beq_eq_true h1⟩, h⟩
  · rename_i idx
    cases h7 : Nat.beq c' 7 with
    | true =>
      rw [h7] at h
      simp only [cond_true] at h
      unfold q_copy at h
      (exfalso; clear he; repeat' first | (cases h; done) | (replace h := (q_bif h).2) | split at h)
    | false =>
      rw [h7] at h
      simp only [cond_false] at h
      cases h8 : Nat.beq c' 8 with
      | true =>
        rw [h8] at h
        simp only [cond_true] at h
        unfold q_min at h
        (exfalso; clear he; repeat' first | (cases h; done) | (replace h := (q_bif h).2) | split at h)
      | false =>
        rw [h8] at h
        simp only [cond_false] at h
        obtain ⟨h1, h⟩ := q_bif h
        simp only [Bool.or_eq_true, Nat.beq_eq] at h1
        exact Or.inr ⟨idx, Or.inr (Or.inl ⟨rfl, h1⟩), h⟩
  · rename_i idx
    cases h6 : Nat.beq c' 6 with
    | true =>
      rw [h6] at h
      simp only [cond_true] at h
      unfold q_obi at h
      (exfalso; clear he; repeat' first | (cases h; done) | (replace h := (q_bif h).2) | split at h)
    | false =>
      rw [h6] at h
      simp only [cond_false] at h
      obtain ⟨h1, h⟩ := q_bif h
      simp only [Bool.or_eq_true, Nat.beq_eq] at h1
      exact Or.inr ⟨idx, Or.inr (Or.inr ⟨rfl, h1⟩), h⟩
  · exact (q_sop_no h).elim
set_option maxHeartbeats 8000000 in
theorem q_sound : ∀ n, q_Snd n := by
  intro n
  induction n with
  | zero => intro X k fr mm r mm' hk h; cases h
  | succ n ih =>
    intro X k fr mm r mm' hk h G base b p l e s m args below meth c Q C hfin
    simp only [q_exec] at h
    cases hst : q_step X k fr mm with
    | none => rw [hst] at h; cases h
    | some o =>
      rw [hst] at h
      cases o with
      | inl y => exact q_step_ok hk C hst (ih X k y.1 y.2 r mm' hk h C hfin)
      | inr x =>
        intro ent he H locs ls hR hH hL
        have hE := q_okE_at k hk _ _ he
        have hx := C.1
        have hb := C.2.1
        have hts := C.2.2.2.2.1
        have hK := C.2.2.2.2.2.2.1
        rcases q_step_rest hk hst he with ⟨v, rfl, hv, hrt, hcu, hsu⟩ | ⟨idx, hi, hinv⟩
        · simp only [Option.some.injEq, Prod.mk.injEq] at h
          obtain ⟨rfl, rfl⟩ := h
          simp only [q_okE, Bool.and_eq_true, decide_eq_true_eq] at hE
          have hl1 : ent.2.1 = 1 ∧ (ent.2.2.1 = .areturn → (q_mi k).2.2.2 = some (.object "ThrownMarks$Card")) ∧ (ent.2.2.1 = .return_ → (q_mi k).2.2.2 = none) := by
            have hI := hE.2
            rcases hrt with ⟨hi, -⟩ | ⟨hi, -⟩ | ⟨hi, -⟩
            · rw [hi] at hI ⊢
              simp only [q_okI, Bool.and_eq_true, Nat.beq_eq] at hI
              exact ⟨hI.1, (fun q => by cases q), (fun q => by cases q)⟩
            · rw [hi] at hI ⊢
              simp only [q_okI, Bool.and_eq_true, Nat.beq_eq, decide_eq_true_eq] at hI
              exact ⟨hI.1, (fun _ => hI.2), (fun q => by cases q)⟩
            · rw [hi] at hI ⊢
              simp only [q_okI, Bool.and_eq_true, Nat.beq_eq, decide_eq_true_eq] at hI
              exact ⟨hI.1, (fun q => by cases q), (fun _ => hI.2)⟩
          rw [hv]
          exact hfin ent H locs ls _ _ (by rw [hE.1, hl1.1]) hrt hl1.2.1 hl1.2.2 hR hH hcu hsu
        · match x, hinv with
          | .inl v, hinv => unfold q_inv at hinv; have := (q_bif hinv).2; cases this
          | .inr (a2, as, fr'), hinv =>
            obtain ⟨rfl, has, hfr, hnb, hcs, hlay, hpre, hmc, hms⟩ := q_inv_of hinv
            simp only at h
            cases hca : q_exec n none ent.2.2.2.1 (q_ent ent.2.2.2.1 as) mm with
            | none => rw [hca] at h; cases h
            | some w =>
              obtain ⟨v, mm1⟩ := w
              rw [hca] at h
              simp only at h
              have kk := ih X k (q_ret v fr') mm1 r mm' hk h C hfin
              obtain ⟨pc, len, ins, a, nb, c', d'⟩ := ent
              obtain ⟨i, al, st, cu, su⟩ := fr
              simp only [q_okE, Bool.and_eq_true, decide_eq_true_eq] at hE
              obtain ⟨hd, hI⟩ := hE
              dsimp only at *
              subst hfr
              have fin : ∀ {c2 : Bool} {As : List Value} {st0 : List Value}, q_nxt (q_cd k) i (pc + 3) = true → va_Run p l e (q_rm k) s m args below meth c H locs cu su (q_mc a) (q_ms a) (F0 m pc ls (st.map (q_cv base b))) ((st.drop nb).map (q_cv base b)) (q_Qc G base b v mm1 (as.map (q_cv base b)).toArray) (fun q => base ≤ q) →
                  W p l e (q_rm k) s m args below meth c H locs cu su Q (F0 m pc ls (st.map (q_cv base b))) := by
                intro _ _ _ hn hr
                obtain ⟨e', h1, h2⟩ := q_nxt_of hn
                refine q_w_ret hr hH (fun H' locs' r1 r2 => ?_)
                have := kk e' h1 H' locs' ls r1 r2 hL
                rw [h2] at this
                exact this
              obtain ⟨-, -, hml, hown, -⟩ := id C
              have hsz : ls.size = (q_mi k).2.2.1 := hL.1
              have hroom : (((st.drop nb).map (q_cv base b)).map fun v => v.category).sum ≤ 8 := by
                have e1 := q_cs_map base b (st.drop nb)
                unfold q_cs at e1 hcs
                rw [e1]; exact hcs
              have htk : st.take nb = as.reverse := by rw [has, List.reverse_reverse]
              have hlen : as.length = nb := by rw [has, List.length_reverse, List.length_take]; omega
              have hstk : st.map (q_cv base b) = (as.map (q_cv base b)).reverse ++ (st.drop nb).map (q_cv base b) := by
                have e1 : st = as.reverse ++ st.drop nb := by rw [← htk, List.take_append_drop]
                rw [← List.map_reverse, ← List.map_append, ← e1]
              rcases hi with ⟨rfl, rfl⟩ | ⟨rfl, hc⟩ | ⟨rfl, hc⟩
              · simp only [q_okI, Bool.and_eq_true, Nat.beq_eq, q_okL, decide_eq_true_eq] at hI
                obtain ⟨⟨⟨⟨rfl, hn⟩, hokR⟩, hlk⟩, hkind⟩ := hI
                have hokR' := hokR
                simp only [q_okR, Bool.and_eq_true, Nat.blt_eq, Nat.beq_eq] at hokR'
                obtain ⟨ha, hnb2, -⟩ := hokR'
                obtain ⟨-, -, -, -, -, hin, hse, -⟩ := q_okM_of ha
                obtain ⟨hi1, hi2, hi3⟩ := hin (by omega)
                obtain ⟨hs1, hs2⟩ := hse hkind
                change q_rcv (q_nu a 1) as mm = true at hpre
                unfold q_rcv at hpre
                split at hpre
                · rename_i id as1
                  split at hpre
                  · rename_i cj fs hsh
                    have hcj := Nat.eq_of_beq_eq_true hpre
                    obtain ⟨r', hr', cell, q1, q2, q3, -⟩ := hR.2 _ _ hsh
                    rw [hcj, hr'] at hs2
                    have hC : r'.1 = (q_mi a).1.cls := Option.some.inj hs2
                    have hfc := (hK.1 cj r' hr').2.1
                    refine fin (c2 := true) (As := []) (st0 := []) hn ?_
                    refine va_runV (C := (q_mi a).1.cls) (As := as1.map (q_cv base b)) (n := q_nu a 2 - 1) ⟨hx, hb, hml, hown, hts⟩ (q_met ha ih hca hlay G base b) ⟨q_cb C ha hokR hi3 (hts _ (q_w_in hlk rfl)), hts _ (q_w_in hi1 rfl), hts _ (q_w_in hs1 rfl)⟩ ⟨q_Pc_blind, ⟨cell, q1, by rw [q3]; rfl, by rw [← hC, hfc, q2]⟩, fun U hU hW => ⟨rfl, by rw [hU]; exact hR, hK.warm hW⟩⟩ rfl ?_ hsz ?_ (lv_room hroom) hd ⟨hmc, hms⟩
                    · rw [List.length_map]; rw [List.length_cons] at hlen; omega
                    · show st.map (q_cv base b) = _
                      rw [hstk]; simp [q_cv]
                  · cases hpre
                · cases hpre
              · simp only [q_okI, Bool.and_eq_true, Nat.beq_eq] at hI
                obtain ⟨⟨rfl, hn⟩, hI⟩ := hI
                have h7 : Nat.beq c' 7 = false := by rcases hc with rfl | rfl <;> rfl
                have h8 : Nat.beq c' 8 = false := by rcases hc with rfl | rfl <;> rfl
                simp only [h7, h8, cond_false, Bool.and_eq_true, Nat.beq_eq] at hI
                obtain ⟨⟨hokR, hkind⟩, hlk⟩ := hI
                have hokR' := hokR
                simp only [q_okR, Bool.and_eq_true, Nat.blt_eq, Nat.beq_eq] at hokR'
                obtain ⟨ha, hnb2, -⟩ := hokR'
                obtain ⟨-, -, -, -, hsta, -, -, -⟩ := q_okM_of ha
                obtain ⟨hs1, hs2⟩ := hsta hkind
                rcases hc with rfl | rfl
                · simp only [show Nat.beq 1 1 = true from rfl, cond_true, q_okL, decide_eq_true_eq] at hlk
                  refine fin (c2 := true) (As := []) (st0 := []) hn ?_
                  exact va_runS (As := as.map (q_cv base b)) (n := q_nu a 2) ⟨hx, hb, hml, hown, hts⟩ (q_met ha ih hca hlay G base b) ⟨q_cb C ha hokR hs2 (hts _ (q_w_in hlk rfl)), hts _ (q_w_in hs1 rfl)⟩ ⟨q_Pc_blind, fun U hU hW => ⟨rfl, by rw [hU]; exact hR, hK.warm hW⟩⟩ rfl (by rw [List.length_map]; omega) hsz hstk (lv_room hroom) hd ⟨hmc, hms⟩
                · simp only [show Nat.beq 4 1 = false from rfl, cond_false, q_okN, decide_eq_true_eq] at hlk
                  refine fin (c2 := true) (As := []) (st0 := []) hn ?_
                  exact va_runSN (As := as.map (q_cv base b)) (n := q_nu a 2) ⟨hx, hb, hml, hown, hts⟩ (q_met ha ih hca hlay G base b) ⟨q_cn C ha hokR hs2 (hK.2.2.2.2 _ _ _ _ (List.mem_of_getElem? hlk)), hts _ (q_w_in hs1 rfl), trivial⟩ ⟨q_Pc_blind, fun U hU hW => ⟨rfl, by rw [hU]; exact hR, hK.warm hW⟩⟩ rfl (by rw [List.length_map]; omega) hsz hstk (lv_room hroom) hd ⟨hmc, hms⟩
              · simp only [q_okI, Bool.and_eq_true, Nat.beq_eq] at hI
                obtain ⟨⟨rfl, hn⟩, hI⟩ := hI
                have h6 : Nat.beq c' 6 = false := by rcases hc with rfl | rfl <;> rfl
                simp only [h6, cond_false, Bool.and_eq_true, Nat.beq_eq] at hI
                obtain ⟨⟨hokR, hkind⟩, hlk⟩ := hI
                have hokR' := hokR
                simp only [q_okR, Bool.and_eq_true, Nat.blt_eq, Nat.beq_eq] at hokR'
                obtain ⟨ha, hnb2, -⟩ := hokR'
                obtain ⟨-, -, -, -, -, hin, -, hini⟩ := q_okM_of ha
                obtain ⟨hi1, hi2, hi3⟩ := hin (by omega)
                obtain ⟨hn1, hn2⟩ := hini hkind
                have hisr : q_isr as = true := by
                  rcases hc with rfl | rfl
                  · exact hpre
                  · exact hpre
                unfold q_isr at hisr
                split at hisr
                · rename_i id as1
                  rcases hc with rfl | rfl
                  · simp only [show Nat.beq 2 2 = true from rfl, cond_true, q_okL, decide_eq_true_eq] at hlk
                    have hcb := q_cb C ha hokR hi3 (hts _ (q_w_in hlk rfl))
                    rw [hn2] at hcb
                    refine fin (c2 := true) (As := []) (st0 := []) hn ?_
                    refine va_runI (As := as1.map (q_cv base b)) (n := q_nu a 2 - 1) ⟨hx, hb, hml, hown, hts⟩ (q_met ha ih hca hlay G base b) ⟨hcb, hn1, hts _ (q_w_in hi1 rfl)⟩ ⟨q_Pc_blind, fun U hU hW => ⟨rfl, by rw [hU]; exact hR, hK.warm hW⟩⟩ rfl ?_ hsz ?_ (lv_room hroom) hd ⟨hmc, hms⟩
                    · rw [List.length_map]; rw [List.length_cons] at hlen; omega
                    · show st.map (q_cv base b) = _
                      rw [hstk]; simp [q_cv]
                  · simp only [show Nat.beq 5 2 = false from rfl, cond_false, q_okN, decide_eq_true_eq] at hlk
                    have hcb := q_cn C ha hokR hi3 (hK.2.2.2.2 _ _ _ _ (List.mem_of_getElem? hlk))
                    rw [hn2] at hcb
                    refine fin (c2 := true) (As := []) (st0 := []) hn ?_
                    refine va_runIN (As := as1.map (q_cv base b)) (n := q_nu a 2 - 1) ⟨hx, hb, hml, hown, hts⟩ (q_met ha ih hca hlay G base b) ⟨hcb, hn1, hts _ (q_w_in hi1 rfl)⟩ ⟨q_Pc_blind, fun U hU hW => ⟨rfl, by rw [hU]; exact hR, hK.warm hW⟩⟩ rfl ?_ hsz ?_ (lv_room hroom) hd ⟨hmc, hms⟩
                    · rw [List.length_map]; rw [List.length_cons] at hlen; omega
                    · show st.map (q_cv base b) = _
                      rw [hstk]; simp [q_cv]
                · cases hisr
end QE
end
section
/-! what there is behind the two constructors; the calculus over it -/
def q_S : List q_Sh := [
  .inr (.inl (8, [some (some 1), some (some 5), some (some 9), some (some 11), some (some 12), some (some 16), some (some 20), some (some 24), some (some 35), some (some 69)])),
  .inr (.inl (0, [some (some 2), some (some 3), some (some 4), none, none, none])),
  .inl (false, 28),
  .inl (false, 7),
  .inl (false, 4),
  .inr (.inl (0, [some (some 6), some (some 7), some (some 8), none, none, none])),
  .inl (false, 28),
  .inl (false, 7),
  .inl (false, 4),
  .inr (.inl (7, [some (some 10), none])),
  .inl (false, 16),
  .inr (.inr (5, [some 71, some 75, some 79])),
  .inr (.inl (5, [some (some 13), some (some 14), some (some 15), none, none])),
  .inl (false, 3),
  .inl (false, 3),
  .inl (false, 21),
  .inr (.inl (6, [some (some 17), some (some 19), none, none])),
  .inr (.inl (4, [some (some 18)])),
  .inl (false, 7),
  .inl (false, 12),
  .inr (.inl (6, [some (some 21), some (some 23), none, none])),
  .inr (.inl (4, [some (some 22)])),
  .inl (false, 7),
  .inl (false, 12),
  .inr (.inl (3, [some (some 25), some (some 27), some (some 31), some (some 32), some (some 33), some (some 34), none, none])),
  .inr (.inl (4, [some (some 26)])),
  .inl (false, 7),
  .inr (.inl (0, [some (some 28), some (some 29), some (some 30), none, none, none])),
  .inl (false, 28),
  .inl (false, 7),
  .inl (false, 4),
  .inl (false, 72),
  .inl (false, 144),
  .inl (true, 3),
  .inl (false, 4),
  .inr (.inl (2, [some (some 36), none])),
  .inr (.inr (0, [some 37, some 41, some 45, some 49, some 53, some 57, some 61, some 65])),
  .inr (.inl (0, [some (some 38), some (some 39), some (some 40), none, none, none])),
  .inl (false, 28),
  .inl (false, 7),
  .inl (false, 4),
  .inr (.inl (0, [some (some 42), some (some 43), some (some 44), none, none, none])),
  .inl (false, 28),
  .inl (false, 7),
  .inl (false, 4),
  .inr (.inl (0, [some (some 46), some (some 47), some (some 48), none, none, none])),
  .inl (false, 28),
  .inl (false, 7),
  .inl (false, 4),
  .inr (.inl (0, [some (some 50), some (some 51), some (some 52), none, none, none])),
  .inl (false, 28),
  .inl (false, 7),
  .inl (false, 4),
  .inr (.inl (0, [some (some 54), some (some 55), some (some 56), none, none, none])),
  .inl (false, 28),
  .inl (false, 7),
  .inl (false, 4),
  .inr (.inl (0, [some (some 58), some (some 59), some (some 60), none, none, none])),
  .inl (false, 28),
  .inl (false, 7),
  .inl (false, 4),
  .inr (.inl (0, [some (some 62), some (some 63), some (some 64), none, none, none])),
  .inl (false, 28),
  .inl (false, 7),
  .inl (false, 4),
  .inr (.inl (0, [some (some 66), some (some 67), some (some 68), none, none, none])),
  .inl (false, 28),
  .inl (false, 7),
  .inl (false, 4),
  .inr (.inl (1, [some (some 70)])),
  .inl (false, 512),
  .inr (.inl (5, [some (some 72), some (some 73), some (some 74), none, none])),
  .inl (false, 3),
  .inl (false, 3),
  .inl (false, 21),
  .inr (.inl (5, [some (some 76), some (some 77), some (some 78), none, none])),
  .inl (false, 3),
  .inl (false, 3),
  .inl (false, 21),
  .inr (.inl (5, [some (some 80), some (some 81), some (some 82), none, none])),
  .inl (false, 3),
  .inl (false, 3),
  .inl (false, 21),
  .inr (.inl (9, [none, none, none, some (some 84), some (some 85), some (some 86), some (some 87), some (some 88), some (some 89), some (some 90), none, none, some (some 91), some (some 92), some (some 93), some (some 94), some (some 95), some (some 96), some (some 97), some (some 98), some (some 99), some (some 100), none, some (some 101), some (some 102), some (some 103), some (some 104), some (some 105), some (some 106)])),
  .inl (false, 7),
  .inl (false, 4),
  .inl (false, 28),
  .inl (true, 7),
  .inl (false, 28),
  .inl (true, 7),
  .inl (false, 16),
  .inl (false, 3),
  .inl (false, 3),
  .inl (false, 21),
  .inl (false, 4),
  .inl (false, 12),
  .inl (false, 12),
  .inl (false, 84),
  .inl (false, 12),
  .inl (false, 7),
  .inl (false, 4),
  .inl (false, 8),
  .inl (false, 8),
  .inl (false, 56),
  .inl (false, 32),
  .inl (false, 224),
  .inl (true, 56)]
theorem q_exec_mono : ∀ (n d : Nat) (X : q_X) (k : Nat) (fr : q_Fr) (m : q_Mm) (w : Option Value × q_Mm), q_exec n X k fr m = some w → q_exec (n + d) X k fr m = some w := by
  intro n
  induction n with
  | zero => intro d X k fr m w h; cases h
  | succ n ih =>
    intro d X k fr m w h
    rw [show n + 1 + d = (n + d) + 1 by omega]
    simp only [q_exec] at h ⊢
    cases hs : q_step X k fr m with
    | none => rw [hs] at h; cases h
    | some o =>
      rw [hs] at h
      match o, h with
      | .inl (fr', m'), h => exact ih d X k fr' m' w h
      | .inr (.inl v), h => exact h
      | .inr (.inr (k', as, fr')), h =>
        simp only at h ⊢
        cases hc : q_exec n none k' (q_ent k' as) m with
        | none => rw [hc] at h; cases h
        | some z =>
          obtain ⟨v, m'⟩ := z
          rw [hc] at h
          rw [ih d none k' _ m _ hc]
          exact ih d X k _ m' w h
def q_Wp (X : q_X) (k : Nat) (fr : q_Fr) (mm : q_Mm) (Q : Option Value → q_Mm → Prop) : Prop := ∃ n r mm', q_exec n X k fr mm = some (r, mm') ∧ Q r mm'
theorem q_Wp.step {X : q_X} {k : Nat} {fr fr' : q_Fr} {mm mm' : q_Mm} {Q : Option Value → q_Mm → Prop} (h : q_step X k fr mm = some (.inl (fr', mm'))) (kk : q_Wp X k fr' mm' Q) : q_Wp X k fr mm Q := by
  obtain ⟨n, r, m2, h1, h2⟩ := kk
  exact ⟨n + 1, r, m2, by simp only [q_exec, h]; exact h1, h2⟩
theorem q_Wp.ret {X : q_X} {k : Nat} {fr : q_Fr} {mm : q_Mm} {v : Option Value} {Q : Option Value → q_Mm → Prop} (h : q_step X k fr mm = some (.inr (.inl v))) (kk : Q v mm) : q_Wp X k fr mm Q :=
  ⟨1, v, mm, by simp only [q_exec, h], kk⟩
theorem q_Wp.call {X : q_X} {k k' : Nat} {fr fr' : q_Fr} {mm : q_Mm} {as : List Value} {Q : Option Value → q_Mm → Prop} (h : q_step X k fr mm = some (.inr (.inr (k', as, fr')))) (kk : q_Wp none k' (q_ent k' as) mm (fun v m' => q_Wp X k (q_ret v fr') m' Q)) : q_Wp X k fr mm Q := by
  obtain ⟨n1, v, m1, h1, n2, r, m2, h2, h3⟩ := kk
  refine ⟨n1 + n2 + 1, r, m2, ?_, h3⟩
  simp only [q_exec, h]
  rw [q_exec_mono n1 n2 _ _ _ _ _ h1]
  simp only
  rw [show n1 + n2 = n2 + n1 by omega]
  exact q_exec_mono n2 n1 _ _ _ _ _ h2
theorem q_Wp.mono {X : q_X} {k : Nat} {fr : q_Fr} {mm : q_Mm} {Q Q' : Option Value → q_Mm → Prop} (h : q_Wp X k fr mm Q) (hq : ∀ r m', Q r m' → Q' r m') : q_Wp X k fr mm Q' := by
  obtain ⟨n, r, m2, h1, h2⟩ := h
  exact ⟨n, r, m2, h1, hq _ _ h2⟩
/-- the ints of all things -/
abbrev MM : Type := Nat → Nat → Int32
/-- where nothing is made: method k at place i -/
def WPg (X : q_X) (cu su k i : Nat) (al : List (Option Value)) (st : List Value) (M : MM) (Q : Option Value → MM → Prop) : Prop := q_Wp X k (i, al, st, cu, su) (q_S, M) (fun r mm' => mm'.1 = q_S ∧ Q r mm'.2)
abbrev WP (k i : Nat) (al : List (Option Value)) (st : List Value) (M : MM) (Q : Option Value → MM → Prop) : Prop := WPg none 0 0 k i al st M Q
/-- a whole call -/
noncomputable def Ca (k : Nat) (as : List Value) (M : MM) (Q : Option Value → MM → Prop) : Prop := WP k 0 (q_ent k as).2.1 [] M Q
theorem WP.mono {k i : Nat} {al : List (Option Value)} {st : List Value} {M : MM} {Q Q' : Option Value → MM → Prop} (h : WP k i al st M Q) (hq : ∀ r M', Q r M' → Q' r M') : WP k i al st M Q' := q_Wp.mono h fun r m' h => ⟨h.1, hq _ _ h.2⟩
theorem Ca.mono {k : Nat} {as : List Value} {M : MM} {Q Q' : Option Value → MM → Prop} (h : Ca k as M Q) (hq : ∀ r M', Q r M' → Q' r M') : Ca k as M Q' := WP.mono h hq
/-! numbers -/
def q_int (n : Int) : Int32 := match n with
  | .ofNat k => nI k
  | .negSucc k => Int32.ofInt (.negSucc k)
theorem q_int_eq (n : Int) : q_int n = Int32.ofInt n := by
  cases n with
  | ofNat k => rfl
  | negSucc k => rfl
theorem q_b8 : ∀ k : Nat, k < 128 → (Int8.ofInt (Int.ofNat k)).toInt32 = nI k := by decide +kernel
theorem q_s16 : ∀ k : Nat, k < 600 → (Int16.ofInt (Int.ofNat k)).toInt32 = nI k := by decide +kernel
theorem q_b8n : ∀ k : Nat, k < 128 → (Int8.ofInt (Int.negSucc k)).toInt32 = Int32.ofInt (.negSucc k) := by decide +kernel
def q_set (al : List (Option Value)) (n : Nat) (v : Value) (st : List Value) : Option (List (Option Value) × List Value) := bif q_okst al n && Nat.blt n al.length then some (al.set n (some v), st) else none
/-- a simple instruction: what lies in the locals, on the stack behind it -/
def q_sim (ins : Instr) (a : Nat) (al : List (Option Value)) (st : List Value) : Option (List (Option Value) × List Value) := match ins with
  | .iload_n n => match al[n.val]? with
    | some (some (.int x)) => some (al, .int x :: st)
    | _ => none
  | .iload n => match al[n]? with
    | some (some (.int x)) => some (al, .int x :: st)
    | _ => none
  | .lload_n n => match al[n.val]? with
    | some (some (.long x)) => some (al, .long x :: st)
    | _ => none
  | .lload n => match al[n]? with
    | some (some (.long x)) => some (al, .long x :: st)
    | _ => none
  | .aload_n n => match al[n.val]? with
    | some (some (.ref x)) => some (al, .ref x :: st)
    | some (some (.retAddr x)) => some (al, .retAddr x :: st)
    | _ => none
  | .istore_n n => match st with
    | .int x :: r => q_set al n.val (.int x) r
    | _ => none
  | .istore n => match st with
    | .int x :: r => q_set al n (.int x) r
    | _ => none
  | .astore_n n => match st with
    | .ref x :: r => q_set al n.val (.ref x) r
    | _ => none
  | .iinc n d => match al[n]? with
    | some (some (.int x)) => match d with
      | .ofNat e => q_set al n (.int (x + nI e)) st
      | .negSucc e => q_set al n (.int (x + Int32.ofInt (.negSucc e))) st
    | _ => none
  | .iconst n => match n with
    | .ofNat e => some (al, .int (nI e) :: st)
    | .negSucc e => some (al, .int (Int32.ofInt (.negSucc e)) :: st)
  | .bipush n => match n with
    | .ofNat k => bif Nat.blt k 128 then some (al, .int (nI k) :: st) else none
    | .negSucc k => bif Nat.blt k 128 then some (al, .int (Int32.ofInt (.negSucc k)) :: st) else none
  | .sipush n => match n with
    | .ofNat k => bif Nat.blt k 600 then some (al, .int (nI k) :: st) else none
    | _ => none
  | .lconst n => some (al, .long (Int64.ofNat n.val) :: st)
  | .ldc_w _ => some (al, .int (Int32.ofNat a) :: st)
  | .ldc2_w _ => some (al, .long (Int64.ofNat a) :: st)
  | .iadd => match st with
    | .int y :: .int x :: r => some (al, .int (x + y) :: r)
    | _ => none
  | .isub => match st with
    | .int y :: .int x :: r => some (al, .int (x - y) :: r)
    | _ => none
  | .imul => match st with
    | .int y :: .int x :: r => some (al, .int (x * y) :: r)
    | _ => none
  | .iand => match st with
    | .int y :: .int x :: r => some (al, .int (x &&& y) :: r)
    | _ => none
  | .ior => match st with
    | .int y :: .int x :: r => some (al, .int (x ||| y) :: r)
    | _ => none
  | .ixor => match st with
    | .int y :: .int x :: r => some (al, .int (x ^^^ y) :: r)
    | _ => none
  | .ishl => match st with
    | .int y :: .int x :: r => some (al, .int (x <<< (y &&& 31)) :: r)
    | _ => none
  | .ishr => match st with
    | .int y :: .int x :: r => some (al, .int (x >>> (y &&& 31)) :: r)
    | _ => none
  | .iushr => match st with
    | .int y :: .int x :: r => some (al, .int ((x.toUInt32 >>> (y.toUInt32 &&& Int32.toUInt32 31)).toInt32) :: r)
    | _ => none
  | .land => match st with
    | .long y :: .long x :: r => some (al, .long (x &&& y) :: r)
    | _ => none
  | .lor => match st with
    | .long y :: .long x :: r => some (al, .long (x ||| y) :: r)
    | _ => none
  | .lshl => match st with
    | .int y :: .long x :: r => some (al, .long (x <<< (y.toInt64 &&& 63)) :: r)
    | _ => none
  | .lshr => match st with
    | .int y :: .long x :: r => some (al, .long (x >>> (y.toInt64 &&& 63)) :: r)
    | _ => none
  | .lushr => match st with
    | .int y :: .long x :: r => some (al, .long ((x.toUInt64 >>> (y.toInt64.toUInt64 &&& Int64.toUInt64 63)).toInt64) :: r)
    | _ => none
  | .lcmp => match st with
    | .long y :: .long x :: r => some (al, .int (lg_cmp x y) :: r)
    | _ => none
  | .i2l => match st with
    | .int x :: r => some (al, .long x.toInt64 :: r)
    | _ => none
  | .l2i => match st with
    | .long x :: r => some (al, .int x.toInt32 :: r)
    | _ => none
  | .dup => match st with
    | .int x :: r => some (al, .int x :: .int x :: r)
    | .ref x :: r => some (al, .ref x :: .ref x :: r)
    | _ => none
  | .dup2 => match st with
    | .int x :: .ref y :: r => some (al, .int x :: .ref y :: .int x :: .ref y :: r)
    | _ => none
  | .pop => match st with
    | .int _ :: r => some (al, r)
    | .ref _ :: r => some (al, r)
    | _ => none
  | _ => none
section WPS
variable {k i pc len a b c d : Nat} {cd : List q_Ent} {al al' : List (Option Value)} {st st' : List Value} {M : MM} {Q : Option Value → MM → Prop}
theorem q_set_of {n : Nat} {v : Value} {st2 : List Value} {o : List (Option Value) × List Value} (h : q_set al n v st2 = some o) : (q_okst al n && Nat.blt n al.length) = true ∧ o = (al.set n (some v), st2) := by
  unfold q_set at h
  obtain ⟨h1, h2⟩ := q_bif h
  cases h2
  exact ⟨h1, rfl⟩
theorem q_sim_ok {X : q_X} {cu su : Nat} {mm : q_Mm} {ins : Instr} (hk : q_cd k = cd) (h : cd[i]? = some (pc, len, ins, a, b, c, d)) (hs : q_sim ins a al st = some (al', st')) : q_step X k (i, al, st, cu, su) mm = some (.inl ((i + 1, al', st', cu, su), mm)) := by
  subst hk
  simp only [q_step, h]
  unfold q_sim at hs
  split at hs
  all_goals try (split at hs)
  all_goals try (split at hs)
  all_goals first
    | (cases hs; done)
    | (obtain ⟨h1, h2⟩ := q_set_of hs; cases h2; simp only [q_ins, q_sto, q_inc, q_ty, *, q_int_eq, show Nat.beq 0 0 = true from rfl, show Nat.beq 2 2 = true from rfl, Bool.true_and, cond_true]; rfl)
    | (cases hs; simp only [q_ins, q_ld, q_ty, *, show Nat.beq 0 0 = true from rfl, show Nat.beq 1 1 = true from rfl, show Nat.beq 2 2 = true from rfl, cond_true]; rfl)
    | (cases hs; simp only [q_ins, q_sop, q_bin, q_binL, q_shL]; rfl)
    | (obtain ⟨h1, h2⟩ := q_bif hs; cases h2; simp only [q_ins, q_sop]; rw [q_b8 _ (Nat.blt_eq.mp h1)]; rfl)
    | (obtain ⟨h1, h2⟩ := q_bif hs; cases h2; simp only [q_ins, q_sop]; rw [q_b8n _ (Nat.blt_eq.mp h1)]; rfl)
    | (obtain ⟨h1, h2⟩ := q_bif hs; cases h2; simp only [q_ins, q_sop]; rw [q_s16 _ (Nat.blt_eq.mp h1)]; rfl)
end WPS
end
section
theorem q_nadd (a b : Nat) : nI a + nI b = nI (a + b) := by simp [nI]
theorem q_nmul (a b : Nat) : nI a * nI b = nI (a * b) := by simp [nI]
theorem q_nsub {a b : Nat} (h : b ≤ a) : nI a - nI b = nI (a - b) := by
  have h1 : nI a = nI (a - b) + nI b := by rw [q_nadd, Nat.sub_add_cancel h]
  rw [h1, Int32.add_sub_cancel]
theorem q_nint (a : Nat) : q_int (Int.ofNat a) = nI a := rfl
theorem q_ninj {a b : Nat} (ha : a < 2 ^ 31) (hb : b < 2 ^ 31) : nI a = nI b ↔ a = b := by
  constructor
  · intro h
    have h1 := nI_clamp ha
    rw [h, nI_clamp hb] at h1
    exact h1.symm
  · intro h; rw [h]
theorem q_nle {a b : Nat} (ha : a < 2 ^ 31) (hb : b < 2 ^ 31) : nI a ≤ nI b ↔ a ≤ b := by
  constructor
  · intro h
    rcases Nat.lt_or_ge b a with g | g
    · exact absurd h (nI_ge g ha)
    · exact g
  · intro h; exact nI_le h hb
theorem q_nlt {a b : Nat} (ha : a < 2 ^ 31) (hb : b < 2 ^ 31) : nI a < nI b ↔ a < b := by
  constructor
  · intro h
    rcases Nat.lt_or_ge a b with g | g
    · exact g
    · exact absurd h (nI_nlt g ha)
  · intro h; exact nI_lt h hb
theorem q_in_n {n j : Nat} (hl : j < n) (hn : n < 1000) : q_in (nI j) n = true ∧ (nI j).toNatClampNeg = j := by
  have h1 : (nI j).toNatClampNeg = j := nI_clamp (by omega)
  refine ⟨?_, h1⟩
  simp only [q_in, h1, Bool.and_eq_true, Bool.not_eq_true', decide_eq_false_iff_not, Nat.blt_eq]
  exact ⟨nI_pos (by omega), hl⟩
theorem q_S_small : ∀ (id : Nat) (bo : Bool) (n : Nat), q_S[id]? = some (.inl (bo, n)) → n < 1000 := by
  have h : q_S.all (fun sh => match sh with | .inl (_, n) => Nat.blt n 1000 | _ => true) = true := by decide +kernel
  intro id bo n hs
  have := List.all_eq_true.mp h _ (List.mem_of_getElem? hs)
  simpa using this
section WPL
variable {X : q_X} {cu su k i pc len a b c d : Nat} {cd : List q_Ent} {al al' : List (Option Value)} {st st' : List Value} {M : MM} {Q : Option Value → MM → Prop}
theorem wp_s {ins : Instr} (hk : q_cd k = cd) (h : cd[i]? = some (pc, len, ins, a, b, c, d)) (hs : q_sim ins a al st = some (al', st')) (kk : WPg X cu su k (i + 1) al' st' M Q) : WPg X cu su k i al st M Q := q_Wp.step (q_sim_ok hk h hs) kk
theorem wp_goto {off : Int} (hk : q_cd k = cd) (h : cd[i]? = some (pc, len, .goto off, a, b, c, d)) (kk : WPg X cu su k a al st M Q) : WPg X cu su k i al st M Q := q_Wp.step (by subst hk; simp only [q_step, h]; rfl) kk
theorem wp_geti {id idx ci : Nat} {fs : List (Option (Option Nat))} (hk : q_cd k = cd) (h : cd[i]? = some (pc, len, .getfield idx, a, b, c, d)) (hS : q_S[id]? = some (.inr (.inl (ci, fs)))) (hc : Nat.beq a ci = true) (hf : fs[b]? = some none) (kk : WPg X cu su k (i + 1) al (.int (M id b) :: st) M Q) : WPg X cu su k i al (.ref id :: st) M Q :=
  q_Wp.step (by subst hk; simp only [q_step, h, q_ins, q_get, hS, hc, hf, cond_true]; rfl) kk
theorem wp_getr {id idx ci q : Nat} {fs : List (Option (Option Nat))} (hk : q_cd k = cd) (h : cd[i]? = some (pc, len, .getfield idx, a, b, c, d)) (hS : q_S[id]? = some (.inr (.inl (ci, fs)))) (hc : Nat.beq a ci = true) (hf : fs[b]? = some (some (some q))) (kk : WPg X cu su k (i + 1) al (.ref q :: st) M Q) : WPg X cu su k i al (.ref id :: st) M Q :=
  q_Wp.step (by subst hk; simp only [q_step, h, q_ins, q_get, hS, hc, hf, cond_true]; rfl) kk
theorem wp_put {id idx ci : Nat} {x : Int32} {fs : List (Option (Option Nat))} (hk : q_cd k = cd) (h : cd[i]? = some (pc, len, .putfield idx, a, b, c, d)) (hS : q_S[id]? = some (.inr (.inl (ci, fs)))) (hc : Nat.beq a ci = true) (hf : fs[b]? = some none) (hd : Nat.beq d 0 = true) (kk : WPg X cu su k (i + 1) al st (q_up M id (upd (M id) b x)) Q) : WPg X cu su k i al (.int x :: .ref id :: st) M Q :=
  q_Wp.step (by subst hk; simp only [q_step, h, q_ins, q_put, hS, hc, hf, hd, cond_true]; rfl) kk
theorem wp_ald {id n jx : Nat} {x : Int32} (hk : q_cd k = cd) (h : cd[i]? = some (pc, len, .iaload, a, b, c, d)) (hS : q_S[id]? = some (.inl (false, n))) (hx : x = nI jx) (hl : jx < n) (kk : WPg X cu su k (i + 1) al (.int (M id jx) :: st) M Q) : WPg X cu su k i al (.int x :: .ref id :: st) M Q := by
  subst hx
  obtain ⟨h1, h2⟩ := q_in_n hl (q_S_small _ _ _ hS)
  exact q_Wp.step (by subst hk; simp only [q_step, h, q_ins, q_ald, hS, h1, h2, cond_true, beq_self_eq_true, Bool.and_self]; rfl) kk
theorem wp_bld {id n jx : Nat} {x : Int32} (hk : q_cd k = cd) (h : cd[i]? = some (pc, len, .baload, a, b, c, d)) (hS : q_S[id]? = some (.inl (true, n))) (hx : x = nI jx) (hl : jx < n) (kk : WPg X cu su k (i + 1) al (.int (M id jx) :: st) M Q) : WPg X cu su k i al (.int x :: .ref id :: st) M Q := by
  subst hx
  obtain ⟨h1, h2⟩ := q_in_n hl (q_S_small _ _ _ hS)
  exact q_Wp.step (by subst hk; simp only [q_step, h, q_ins, q_ald, hS, h1, h2, cond_true, beq_self_eq_true, Bool.and_self]; rfl) kk
theorem wp_ast {id n jx : Nat} {x v : Int32} (hk : q_cd k = cd) (h : cd[i]? = some (pc, len, .iastore, a, b, c, d)) (hS : q_S[id]? = some (.inl (false, n))) (hx : x = nI jx) (hl : jx < n) (kk : WPg X cu su k (i + 1) al st (q_up M id (upd (M id) jx v)) Q) : WPg X cu su k i al (.int v :: .int x :: .ref id :: st) M Q := by
  subst hx
  obtain ⟨h1, h2⟩ := q_in_n hl (q_S_small _ _ _ hS)
  exact q_Wp.step (by subst hk; simp only [q_step, h, q_ins, q_ast, hS, h1, h2, cond_true, cond_false, beq_self_eq_true, Bool.and_self]; rfl) kk
theorem wp_bst {id n jx : Nat} {x v : Int32} (hk : q_cd k = cd) (h : cd[i]? = some (pc, len, .bastore, a, b, c, d)) (hS : q_S[id]? = some (.inl (true, n))) (hx : x = nI jx) (hl : jx < n) (hv : v = 0 ∨ v = 1) (kk : WPg X cu su k (i + 1) al st (q_up M id (upd (M id) jx v)) Q) : WPg X cu su k i al (.int v :: .int x :: .ref id :: st) M Q := by
  subst hx
  obtain ⟨h1, h2⟩ := q_in_n hl (q_S_small _ _ _ hS)
  have h3 : vp_nar .boolean v = v := by rcases hv with rfl | rfl <;> rfl
  exact q_Wp.step (by subst hk; simp only [q_step, h, q_ins, q_ast, hS, h1, h2, h3, cond_true, beq_self_eq_true, Bool.and_self]; rfl) kk
theorem wp_qld {id ci jx q : Nat} {rs : List (Option Nat)} {x : Int32} (hk : q_cd k = cd) (h : cd[i]? = some (pc, len, .aaload, a, b, c, d)) (hS : q_S[id]? = some (.inr (.inr (ci, rs)))) (hci : (Nat.beq ci 0 || Nat.beq ci 5) = true) (hx : x = nI jx) (hq : rs[jx]? = some (some q)) (hn : rs.length < 1000) (kk : WPg X cu su k (i + 1) al (.ref q :: st) M Q) : WPg X cu su k i al (.int x :: .ref id :: st) M Q := by
  subst hx
  have hl : jx < rs.length := (List.getElem?_eq_some_iff.mp hq).1
  obtain ⟨h1, h2⟩ := q_in_n hl hn
  have h3 : rs.getD jx none = some q := by rw [List.getD_eq_getElem?_getD, hq]; rfl
  exact q_Wp.step (by subst hk; simp only [q_step, h, q_ins, q_qld, hS, h1, h2, h3, hci, cond_true, Bool.and_self]; rfl) kk
theorem wp_len {id n : Nat} {bo : Bool} (hk : q_cd k = cd) (h : cd[i]? = some (pc, len, .arraylength, a, b, c, d)) (hS : q_S[id]? = some (.inl (bo, n))) (kk : WPg X cu su k (i + 1) al (.int (nI n) :: st) M Q) : WPg X cu su k i al (.ref id :: st) M Q :=
  q_Wp.step (by subst hk; simp only [q_step, h, q_ins, q_len, hS]; rfl) kk
theorem wp_div {x y : Int32} (hk : q_cd k = cd) (h : cd[i]? = some (pc, len, .idiv, a, b, c, d)) (hy : ¬ y = 0) (kk : WPg X cu su k (i + 1) al (.int (x / y) :: st) M Q) : WPg X cu su k i al (.int y :: .int x :: st) M Q :=
  q_Wp.step (by subst hk; simp only [q_step, h, q_ins, q_sop, hy, decide_false, Bool.not_false]; rfl) kk
theorem wp_rem {x y : Int32} (hk : q_cd k = cd) (h : cd[i]? = some (pc, len, .irem, a, b, c, d)) (hy : ¬ y = 0) (kk : WPg X cu su k (i + 1) al (.int (x - x / y * y) :: st) M Q) : WPg X cu su k i al (.int y :: .int x :: st) M Q :=
  q_Wp.step (by subst hk; simp only [q_step, h, q_ins, q_sop, hy, decide_false, Bool.not_false]; rfl) kk
theorem wp_iceq {x y : Int32} {off : Int} (hk : q_cd k = cd) (h : cd[i]? = some (pc, len, .if_icmp .eq off, a, b, c, d)) (kt : x = y → WPg X cu su k a al st M Q) (kf : ¬ (x = y) → WPg X cu su k (i + 1) al st M Q) : WPg X cu su k i al (.int y :: .int x :: st) M Q := by
  by_cases hc : x = y
  · exact q_Wp.step (by subst hk; simp only [q_step, h, q_ins, q_cmp, hc, decide_true, decide_false, Bool.not_false, cond_true, not_false_eq_true]; rfl) (kt hc)
  · exact q_Wp.step (by subst hk; (try simp only [Classical.not_not] at hc); simp only [q_step, h, q_ins, q_cmp, hc, decide_true, decide_false, Bool.not_true, cond_false]; rfl) (kf hc)
theorem wp_ifeq {x : Int32} {off : Int} (hk : q_cd k = cd) (h : cd[i]? = some (pc, len, .ifCond .eq off, a, b, c, d)) (kt : x = 0 → WPg X cu su k a al st M Q) (kf : ¬ (x = 0) → WPg X cu su k (i + 1) al st M Q) : WPg X cu su k i al (.int x :: st) M Q := by
  by_cases hc : x = 0
  · exact q_Wp.step (by subst hk; simp only [q_step, h, q_ins, q_cmp, hc, decide_true, decide_false, Bool.not_false, cond_true, not_false_eq_true]; rfl) (kt hc)
  · exact q_Wp.step (by subst hk; (try simp only [Classical.not_not] at hc); simp only [q_step, h, q_ins, q_cmp, hc, decide_true, decide_false, Bool.not_true, cond_false]; rfl) (kf hc)
theorem wp_iceqN {x y : Int32} {u v : Nat} {off : Int} (hk : q_cd k = cd) (h : cd[i]? = some (pc, len, .if_icmp .eq off, a, b, c, d)) (hx : x = nI u) (hy : y = nI v) (hu : u < 2 ^ 31) (hv : v < 2 ^ 31) (kt : u = v → WPg X cu su k a al st M Q) (kf : ¬ (u = v) → WPg X cu su k (i + 1) al st M Q) : WPg X cu su k i al (.int y :: .int x :: st) M Q := by
  subst hx; subst hy
  exact wp_iceq hk h (fun q => kt ((q_ninj hu hv).mp q)) (fun q => kf (fun z => q ((q_ninj hu hv).mpr z)))
theorem wp_icne {x y : Int32} {off : Int} (hk : q_cd k = cd) (h : cd[i]? = some (pc, len, .if_icmp .ne off, a, b, c, d)) (kt : ¬ x = y → WPg X cu su k a al st M Q) (kf : ¬ (¬ x = y) → WPg X cu su k (i + 1) al st M Q) : WPg X cu su k i al (.int y :: .int x :: st) M Q := by
  by_cases hc : ¬ x = y
  · exact q_Wp.step (by subst hk; simp only [q_step, h, q_ins, q_cmp, hc, decide_true, decide_false, Bool.not_false, cond_true, not_false_eq_true]; rfl) (kt hc)
  · exact q_Wp.step (by subst hk; (try simp only [Classical.not_not] at hc); simp only [q_step, h, q_ins, q_cmp, hc, decide_true, decide_false, Bool.not_true, cond_false]; rfl) (kf hc)
theorem wp_ifne {x : Int32} {off : Int} (hk : q_cd k = cd) (h : cd[i]? = some (pc, len, .ifCond .ne off, a, b, c, d)) (kt : ¬ x = 0 → WPg X cu su k a al st M Q) (kf : ¬ (¬ x = 0) → WPg X cu su k (i + 1) al st M Q) : WPg X cu su k i al (.int x :: st) M Q := by
  by_cases hc : ¬ x = 0
  · exact q_Wp.step (by subst hk; simp only [q_step, h, q_ins, q_cmp, hc, decide_true, decide_false, Bool.not_false, cond_true, not_false_eq_true]; rfl) (kt hc)
  · exact q_Wp.step (by subst hk; (try simp only [Classical.not_not] at hc); simp only [q_step, h, q_ins, q_cmp, hc, decide_true, decide_false, Bool.not_true, cond_false]; rfl) (kf hc)
theorem wp_icneN {x y : Int32} {u v : Nat} {off : Int} (hk : q_cd k = cd) (h : cd[i]? = some (pc, len, .if_icmp .ne off, a, b, c, d)) (hx : x = nI u) (hy : y = nI v) (hu : u < 2 ^ 31) (hv : v < 2 ^ 31) (kt : ¬ u = v → WPg X cu su k a al st M Q) (kf : ¬ (¬ u = v) → WPg X cu su k (i + 1) al st M Q) : WPg X cu su k i al (.int y :: .int x :: st) M Q := by
  subst hx; subst hy
  exact wp_icne hk h (fun q => kt ((not_congr (q_ninj hu hv)).mp q)) (fun q => kf (fun z => q ((not_congr (q_ninj hu hv)).mpr z)))
theorem wp_iclt {x y : Int32} {off : Int} (hk : q_cd k = cd) (h : cd[i]? = some (pc, len, .if_icmp .lt off, a, b, c, d)) (kt : x < y → WPg X cu su k a al st M Q) (kf : ¬ (x < y) → WPg X cu su k (i + 1) al st M Q) : WPg X cu su k i al (.int y :: .int x :: st) M Q := by
  by_cases hc : x < y
  · exact q_Wp.step (by subst hk; simp only [q_step, h, q_ins, q_cmp, hc, decide_true, decide_false, Bool.not_false, cond_true, not_false_eq_true]; rfl) (kt hc)
  · exact q_Wp.step (by subst hk; (try simp only [Classical.not_not] at hc); simp only [q_step, h, q_ins, q_cmp, hc, decide_true, decide_false, Bool.not_true, cond_false]; rfl) (kf hc)
theorem wp_iflt {x : Int32} {off : Int} (hk : q_cd k = cd) (h : cd[i]? = some (pc, len, .ifCond .lt off, a, b, c, d)) (kt : x < 0 → WPg X cu su k a al st M Q) (kf : ¬ (x < 0) → WPg X cu su k (i + 1) al st M Q) : WPg X cu su k i al (.int x :: st) M Q := by
  by_cases hc : x < 0
  · exact q_Wp.step (by subst hk; simp only [q_step, h, q_ins, q_cmp, hc, decide_true, decide_false, Bool.not_false, cond_true, not_false_eq_true]; rfl) (kt hc)
  · exact q_Wp.step (by subst hk; (try simp only [Classical.not_not] at hc); simp only [q_step, h, q_ins, q_cmp, hc, decide_true, decide_false, Bool.not_true, cond_false]; rfl) (kf hc)
theorem wp_icltN {x y : Int32} {u v : Nat} {off : Int} (hk : q_cd k = cd) (h : cd[i]? = some (pc, len, .if_icmp .lt off, a, b, c, d)) (hx : x = nI u) (hy : y = nI v) (hu : u < 2 ^ 31) (hv : v < 2 ^ 31) (kt : u < v → WPg X cu su k a al st M Q) (kf : ¬ (u < v) → WPg X cu su k (i + 1) al st M Q) : WPg X cu su k i al (.int y :: .int x :: st) M Q := by
  subst hx; subst hy
  exact wp_iclt hk h (fun q => kt ((q_nlt hu hv).mp q)) (fun q => kf (fun z => q ((q_nlt hu hv).mpr z)))
theorem wp_icge {x y : Int32} {off : Int} (hk : q_cd k = cd) (h : cd[i]? = some (pc, len, .if_icmp .ge off, a, b, c, d)) (kt : y ≤ x → WPg X cu su k a al st M Q) (kf : ¬ (y ≤ x) → WPg X cu su k (i + 1) al st M Q) : WPg X cu su k i al (.int y :: .int x :: st) M Q := by
  by_cases hc : y ≤ x
  · exact q_Wp.step (by subst hk; simp only [q_step, h, q_ins, q_cmp, hc, decide_true, decide_false, Bool.not_false, cond_true, not_false_eq_true]; rfl) (kt hc)
  · exact q_Wp.step (by subst hk; (try simp only [Classical.not_not] at hc); simp only [q_step, h, q_ins, q_cmp, hc, decide_true, decide_false, Bool.not_true, cond_false]; rfl) (kf hc)
theorem wp_ifge {x : Int32} {off : Int} (hk : q_cd k = cd) (h : cd[i]? = some (pc, len, .ifCond .ge off, a, b, c, d)) (kt : 0 ≤ x → WPg X cu su k a al st M Q) (kf : ¬ (0 ≤ x) → WPg X cu su k (i + 1) al st M Q) : WPg X cu su k i al (.int x :: st) M Q := by
  by_cases hc : 0 ≤ x
  · exact q_Wp.step (by subst hk; simp only [q_step, h, q_ins, q_cmp, hc, decide_true, decide_false, Bool.not_false, cond_true, not_false_eq_true]; rfl) (kt hc)
  · exact q_Wp.step (by subst hk; (try simp only [Classical.not_not] at hc); simp only [q_step, h, q_ins, q_cmp, hc, decide_true, decide_false, Bool.not_true, cond_false]; rfl) (kf hc)
theorem wp_icgeN {x y : Int32} {u v : Nat} {off : Int} (hk : q_cd k = cd) (h : cd[i]? = some (pc, len, .if_icmp .ge off, a, b, c, d)) (hx : x = nI u) (hy : y = nI v) (hu : u < 2 ^ 31) (hv : v < 2 ^ 31) (kt : v ≤ u → WPg X cu su k a al st M Q) (kf : ¬ (v ≤ u) → WPg X cu su k (i + 1) al st M Q) : WPg X cu su k i al (.int y :: .int x :: st) M Q := by
  subst hx; subst hy
  exact wp_icge hk h (fun q => kt ((q_nle hv hu).mp q)) (fun q => kf (fun z => q ((q_nle hv hu).mpr z)))
theorem wp_icgt {x y : Int32} {off : Int} (hk : q_cd k = cd) (h : cd[i]? = some (pc, len, .if_icmp .gt off, a, b, c, d)) (kt : y < x → WPg X cu su k a al st M Q) (kf : ¬ (y < x) → WPg X cu su k (i + 1) al st M Q) : WPg X cu su k i al (.int y :: .int x :: st) M Q := by
  by_cases hc : y < x
  · exact q_Wp.step (by subst hk; simp only [q_step, h, q_ins, q_cmp, hc, decide_true, decide_false, Bool.not_false, cond_true, not_false_eq_true]; rfl) (kt hc)
  · exact q_Wp.step (by subst hk; (try simp only [Classical.not_not] at hc); simp only [q_step, h, q_ins, q_cmp, hc, decide_true, decide_false, Bool.not_true, cond_false]; rfl) (kf hc)
theorem wp_ifgt {x : Int32} {off : Int} (hk : q_cd k = cd) (h : cd[i]? = some (pc, len, .ifCond .gt off, a, b, c, d)) (kt : 0 < x → WPg X cu su k a al st M Q) (kf : ¬ (0 < x) → WPg X cu su k (i + 1) al st M Q) : WPg X cu su k i al (.int x :: st) M Q := by
  by_cases hc : 0 < x
  · exact q_Wp.step (by subst hk; simp only [q_step, h, q_ins, q_cmp, hc, decide_true, decide_false, Bool.not_false, cond_true, not_false_eq_true]; rfl) (kt hc)
  · exact q_Wp.step (by subst hk; (try simp only [Classical.not_not] at hc); simp only [q_step, h, q_ins, q_cmp, hc, decide_true, decide_false, Bool.not_true, cond_false]; rfl) (kf hc)
theorem wp_icgtN {x y : Int32} {u v : Nat} {off : Int} (hk : q_cd k = cd) (h : cd[i]? = some (pc, len, .if_icmp .gt off, a, b, c, d)) (hx : x = nI u) (hy : y = nI v) (hu : u < 2 ^ 31) (hv : v < 2 ^ 31) (kt : v < u → WPg X cu su k a al st M Q) (kf : ¬ (v < u) → WPg X cu su k (i + 1) al st M Q) : WPg X cu su k i al (.int y :: .int x :: st) M Q := by
  subst hx; subst hy
  exact wp_icgt hk h (fun q => kt ((q_nlt hv hu).mp q)) (fun q => kf (fun z => q ((q_nlt hv hu).mpr z)))
theorem wp_icle {x y : Int32} {off : Int} (hk : q_cd k = cd) (h : cd[i]? = some (pc, len, .if_icmp .le off, a, b, c, d)) (kt : x ≤ y → WPg X cu su k a al st M Q) (kf : ¬ (x ≤ y) → WPg X cu su k (i + 1) al st M Q) : WPg X cu su k i al (.int y :: .int x :: st) M Q := by
  by_cases hc : x ≤ y
  · exact q_Wp.step (by subst hk; simp only [q_step, h, q_ins, q_cmp, hc, decide_true, decide_false, Bool.not_false, cond_true, not_false_eq_true]; rfl) (kt hc)
  · exact q_Wp.step (by subst hk; (try simp only [Classical.not_not] at hc); simp only [q_step, h, q_ins, q_cmp, hc, decide_true, decide_false, Bool.not_true, cond_false]; rfl) (kf hc)
theorem wp_ifle {x : Int32} {off : Int} (hk : q_cd k = cd) (h : cd[i]? = some (pc, len, .ifCond .le off, a, b, c, d)) (kt : x ≤ 0 → WPg X cu su k a al st M Q) (kf : ¬ (x ≤ 0) → WPg X cu su k (i + 1) al st M Q) : WPg X cu su k i al (.int x :: st) M Q := by
  by_cases hc : x ≤ 0
  · exact q_Wp.step (by subst hk; simp only [q_step, h, q_ins, q_cmp, hc, decide_true, decide_false, Bool.not_false, cond_true, not_false_eq_true]; rfl) (kt hc)
  · exact q_Wp.step (by subst hk; (try simp only [Classical.not_not] at hc); simp only [q_step, h, q_ins, q_cmp, hc, decide_true, decide_false, Bool.not_true, cond_false]; rfl) (kf hc)
theorem wp_icleN {x y : Int32} {u v : Nat} {off : Int} (hk : q_cd k = cd) (h : cd[i]? = some (pc, len, .if_icmp .le off, a, b, c, d)) (hx : x = nI u) (hy : y = nI v) (hu : u < 2 ^ 31) (hv : v < 2 ^ 31) (kt : u ≤ v → WPg X cu su k a al st M Q) (kf : ¬ (u ≤ v) → WPg X cu su k (i + 1) al st M Q) : WPg X cu su k i al (.int y :: .int x :: st) M Q := by
  subst hx; subst hy
  exact wp_icle hk h (fun q => kt ((q_nle hu hv).mp q)) (fun q => kf (fun z => q ((q_nle hu hv).mpr z)))
def q_cal (b : Nat) (st : List Value) : Option (List Value × List Value) := match b, st with
  | 0, r => some ([], r)
  | 1, v1 :: r => some ([v1], r)
  | 2, v2 :: v1 :: r => some ([v1, v2], r)
  | 3, v3 :: v2 :: v1 :: r => some ([v1, v2, v3], r)
  | 4, v4 :: v3 :: v2 :: v1 :: r => some ([v1, v2, v3, v4], r)
  | 5, v5 :: v4 :: v3 :: v2 :: v1 :: r => some ([v1, v2, v3, v4, v5], r)
  | _, _ => none
theorem q_cal_of {b : Nat} {st as r : List Value} (h : q_cal b st = some (as, r)) : Nat.ble b st.length = true ∧ (st.take b).reverse = as ∧ st.drop b = r := by
  unfold q_cal at h
  split at h <;> first | (cases h; done) | (cases h; exact ⟨by simp, rfl, rfl⟩)
noncomputable def q_chk (k a : Nat) (as r : List Value) : Bool := Nat.ble (q_cs r) 8 && (Nat.ble (q_lay as).length (q_mi a).2.2.1 && (Nat.beq (q_mc a) 0 && Nat.beq (q_ms a) 0))
theorem q_call_in {as r : List Value} (hs : q_cal b st = some (as, r)) (hch : q_chk k a as r = true) (hp : q_pre c (q_nu a 1) as (q_S, M) = true) (kk : Ca a as M (fun v M' => WPg X cu su k (i + 1) al (v.toList ++ r) M' Q))
    (hcu : Nat.ble cu (q_mc k) = true) (hsu : Nat.ble su (q_ms k) = true) (hst : q_step X k (i, al, st, cu, su) (q_S, M) = q_inv k a b c (i, al, st, cu, su) (q_S, M)) : WPg X cu su k i al st M Q := by
  obtain ⟨h1, h2, h3⟩ := q_cal_of hs
  simp only [q_chk, Bool.and_eq_true, Nat.beq_eq] at hch
  obtain ⟨g1, g2, g3, g4⟩ := hch
  have hin : q_inv k a b c (i, al, st, cu, su) (q_S, M) = some (.inr (.inr (a, as, (i + 1, al, r, cu, su)))) := by
    simp only [q_inv, h1, h2, h3, g1, g2, g3, g4, hp, Nat.add_zero, Bool.true_and, Bool.and_self, hcu, hsu, cond_true]
  refine q_Wp.call (hst.trans hin) (q_Wp.mono kk (fun v m' h => ?_))
  obtain ⟨e, h⟩ := h
  obtain ⟨s1, M1⟩ := m'
  simp only at e
  subst e
  exact h
theorem wp_callVg {id idx ci : Nat} {fs : List (Option (Option Nat))} {as r : List Value} (hk : q_cd k = cd) (h : cd[i]? = some (pc, len, .invokevirtual idx, a, b, c, d)) (hc : Nat.beq c 0 = true) (hs : q_cal b st = some (.ref id :: as, r)) (hch : q_chk k a (.ref id :: as) r = true) (hS : q_S[id]? = some (.inr (.inl (ci, fs)))) (hci : Nat.beq (q_nu a 1) ci = true) (hcu : Nat.ble cu (q_mc k) = true) (hsu : Nat.ble su (q_ms k) = true) (kk : Ca a (.ref id :: as) M (fun v M' => WPg X cu su k (i + 1) al (v.toList ++ r) M' Q)) : WPg X cu su k i al st M Q := by
  refine q_call_in (c := c) hs hch (by simp only [q_pre, hc, cond_true, q_rcv, hS, hci]) kk hcu hsu ?_
  subst hk; simp only [q_step, h, q_ins, hc, cond_true]
theorem q_b0 (n : Nat) : Nat.ble 0 n = true := Nat.ble_eq.mpr (Nat.zero_le _)
theorem wp_callV {id idx ci : Nat} {fs : List (Option (Option Nat))} {as r : List Value} (hk : q_cd k = cd) (h : cd[i]? = some (pc, len, .invokevirtual idx, a, b, c, d)) (hc : Nat.beq c 0 = true) (hs : q_cal b st = some (.ref id :: as, r)) (hch : q_chk k a (.ref id :: as) r = true) (hS : q_S[id]? = some (.inr (.inl (ci, fs)))) (hci : Nat.beq (q_nu a 1) ci = true) (kk : Ca a (.ref id :: as) M (fun v M' => WP k (i + 1) al (v.toList ++ r) M' Q)) : WP k i al st M Q := wp_callVg hk h hc hs hch hS hci (q_b0 _) (q_b0 _) kk
theorem wp_callS {idx : Nat} {as r : List Value} (hk : q_cd k = cd) (h : cd[i]? = some (pc, len, .invokestatic idx, a, b, c, d)) (hc : (Nat.beq c 1 || Nat.beq c 4) = true) (hs : q_cal b st = some (as, r)) (hch : q_chk k a as r = true) (kk : Ca a as M (fun v M' => WP k (i + 1) al (v.toList ++ r) M' Q)) : WP k i al st M Q := by
  have hc' : c = 1 ∨ c = 4 := by simpa only [Bool.or_eq_true, Nat.beq_eq] using hc
  refine q_call_in (c := c) hs hch ?_ kk (q_b0 _) (q_b0 _) ?_
  · rcases hc' with rfl | rfl <;> rfl
  · subst hk
    rcases hc' with rfl | rfl <;> simp only [q_step, h, q_ins] <;> rfl
theorem wp_min {idx : Nat} {x y : Int32} (hk : q_cd k = cd) (h : cd[i]? = some (pc, len, .invokestatic idx, a, b, c, d)) (hc : Nat.beq c 8 = true) (hr : Nat.ble (q_cs st) 8 = true) (kk : WP k (i + 1) al (.int (if y < x then y else x) :: st) M Q) : WP k i al (.int y :: .int x :: st) M Q := by
  have hc' : c = 8 := Nat.eq_of_beq_eq_true hc
  subst hc'
  refine q_Wp.step (fr' := (i + 1, al, .int (if y < x then y else x) :: st, 0, 0)) ?_ kk
  subst hk
  simp only [q_step, h, q_ins, q_min, show Nat.beq 8 7 = false from rfl, show Nat.beq 8 8 = true from rfl, hr, cond_true, cond_false, Bool.true_and, show Nat.ble 0 (q_mc k) = true from Nat.ble_eq.mpr (Nat.zero_le _), show Nat.ble 0 (q_ms k) = true from Nat.ble_eq.mpr (Nat.zero_le _), Bool.and_self]
  rfl
theorem wp_copy {idx sr ds ns nd n : Nat} (hk : q_cd k = cd) (h : cd[i]? = some (pc, len, .invokestatic idx, a, b, c, d)) (hc : Nat.beq c 7 = true) (hr : Nat.ble (q_cs st) 8 = true) (h0 : q_S[sr]? = some (.inl (false, ns))) (h1 : q_S[ds]? = some (.inl (false, nd))) (hn : n ≤ ns) (hn2 : n ≤ nd)
    (kk : WP k (i + 1) al st (q_up M ds (va_cpy (M sr) (M ds) 0 0 n)) Q) : WP k i al (.int (nI n) :: .int (nI 0) :: .ref ds :: .int (nI 0) :: .ref sr :: st) M Q := by
  have hc' : c = 7 := Nat.eq_of_beq_eq_true hc
  subst hc'
  have hb := q_S_small _ _ _ h0
  have e1 : (nI n).toNatClampNeg = n := nI_clamp (by omega)
  have e0 : (nI 0).toNatClampNeg = 0 := nI_clamp (by omega)
  have p0 : ¬ nI 0 < 0 := nI_pos (by omega)
  have p1 : ¬ nI n < 0 := nI_pos (by omega)
  refine q_Wp.step (fr' := (i + 1, al, st, 0, 0)) ?_ kk
  subst hk
  simp only [q_step, h, q_ins, q_copy, show Nat.beq 7 7 = true from rfl, h0, h1, e1, e0, p0, p1, hr, decide_false, Bool.not_false, Bool.and_self, Nat.zero_add, Nat.ble_eq.mpr hn, Nat.ble_eq.mpr hn2, cond_true]
  rfl
theorem wp_irg {x : Int32} (hk : q_cd k = cd) (h : cd[i]? = some (pc, len, .ireturn, a, b, c, d)) (hr : q_rok (q_mi k).2.2.2 x = true) (hcu : Nat.ble cu (q_mc k) = true) (hsu : Nat.ble su (q_ms k) = true) (kk : Q (some (.int x)) M) : WPg X cu su k i al [.int x] M Q :=
  q_Wp.ret (by subst hk; simp only [q_step, h, q_ins, hr, hcu, hsu, Bool.and_self, cond_true]) ⟨rfl, kk⟩
theorem wp_sld {n jx : Nat} {xs : Nat → Int32} {x : Int32} {z : Nat} (hk : q_cd k = cd) (h : cd[i]? = some (pc, len, .iaload, a, b, c, d)) (hx : x = nI jx) (hl : jx < n) (hn : n < 2 ^ 31) (kk : WPg (some (n, xs)) cu su k (i + 1) al (.int (xs jx) :: st) M Q) : WPg (some (n, xs)) cu su k i al (.int x :: .retAddr z :: st) M Q := by
  subst hx
  have h2 : (nI jx).toNatClampNeg = jx := nI_clamp (by omega)
  have h1 : q_in (nI jx) n = true := by
    simp only [q_in, h2, Bool.and_eq_true, Bool.not_eq_true', decide_eq_false_iff_not, Nat.blt_eq]
    exact ⟨nI_pos (by omega), hl⟩
  exact q_Wp.step (by subst hk; simp only [q_step, h, q_ins, q_ald, h1, h2, cond_true, beq_self_eq_true, Bool.and_self]; rfl) kk
theorem wp_slen {n z : Nat} {xs : Nat → Int32} (hk : q_cd k = cd) (h : cd[i]? = some (pc, len, .arraylength, a, b, c, d)) (kk : WPg (some (n, xs)) cu su k (i + 1) al (.int (nI n) :: st) M Q) : WPg (some (n, xs)) cu su k i al (.retAddr z :: st) M Q :=
  q_Wp.step (by subst hk; simp only [q_step, h, q_ins, q_len]; rfl) kk
theorem wp_tab {x : Int32} {dd lo hi : Int} {offs : Array Int} {off : Int} {t : Nat} (hk : q_cd k = cd) (h : cd[i]? = some (pc, len, .tableswitch dd lo hi offs, a, b, c, d)) (ho : q_swo lo hi dd offs x = some off) (ht : q_at cd ((pc : Int) + off) = some t) (kk : WPg X cu su k t al st M Q) : WPg X cu su k i al (.int x :: st) M Q :=
  q_Wp.step (by subst hk; simp only [q_step, h, q_ins, q_sw, ho, ht]; rfl) kk
theorem wp_lok {x : Int32} {dd : Int} {ps : Array (Int × Int)} {t : Nat} (hk : q_cd k = cd) (h : cd[i]? = some (pc, len, .lookupswitch dd ps, a, b, c, d)) (ht : q_at cd ((pc : Int) + Op.lookupswitch.offset ps.toList dd x.toInt) = some t) (kk : WPg X cu su k t al st M Q) : WPg X cu su k i al (.int x :: st) M Q :=
  q_Wp.step (by subst hk; simp only [q_step, h, q_ins, q_sw, ht]; rfl) kk
theorem wp_ir {x : Int32} (hk : q_cd k = cd) (h : cd[i]? = some (pc, len, .ireturn, a, b, c, d)) (hr : q_rok (q_mi k).2.2.2 x = true) (kk : Q (some (.int x)) M) : WP k i al [.int x] M Q :=
  q_Wp.ret (by subst hk; simp only [q_step, h, q_ins, hr, show Nat.ble 0 (q_mc k) = true from Nat.ble_eq.mpr (Nat.zero_le _), show Nat.ble 0 (q_ms k) = true from Nat.ble_eq.mpr (Nat.zero_le _), Bool.and_self, cond_true]) ⟨rfl, kk⟩
theorem wp_ar {q : Nat} (hk : q_cd k = cd) (h : cd[i]? = some (pc, len, .areturn, a, b, c, d)) (kk : Q (some (.ref q)) M) : WP k i al [.ref q] M Q :=
  q_Wp.ret (by subst hk; simp only [q_step, h, q_ins, show Nat.ble 0 (q_mc k) = true from Nat.ble_eq.mpr (Nat.zero_le _), show Nat.ble 0 (q_ms k) = true from Nat.ble_eq.mpr (Nat.zero_le _), Bool.and_self, cond_true]) ⟨rfl, kk⟩
theorem wp_vr (hk : q_cd k = cd) (h : cd[i]? = some (pc, len, .return_, a, b, c, d)) (kk : Q none M) : WP k i al [] M Q :=
  q_Wp.ret (by subst hk; simp only [q_step, h, q_ins, show Nat.ble 0 (q_mc k) = true from Nat.ble_eq.mpr (Nat.zero_le _), show Nat.ble 0 (q_ms k) = true from Nat.ble_eq.mpr (Nat.zero_le _), Bool.and_self, cond_true]) ⟨rfl, kk⟩
end WPL
end
section
noncomputable def q_m0 : q_Mm := ([.inr (.inl (8, q_born 8))], q_up (fun _ _ => 0) 0 (fun _ => 0))
noncomputable def q_w1 : Option (Option Value × q_Mm) := q_exec 3000 none 86 (q_ent 86 [.ref 0]) q_m0
noncomputable def q_next (o : Option (Option Value × q_Mm)) : q_Mm := match o with
  | some w => (w.2.1 ++ [.inr (.inl (9, q_born 9))], q_up w.2.2 w.2.1.length (fun _ => 0))
  | none => ([], fun _ _ => 0)
noncomputable def q_m1 : q_Mm := q_next q_w1
noncomputable def q_w2 : Option (Option Value × q_Mm) := q_exec 1000 none 133 (q_ent 133 [.ref 83]) q_m1
def q_sheq (x y : q_Sh) : Bool := match x, y with
  | .inl a, .inl b => decide (a = b)
  | .inr (.inl a), .inr (.inl b) => decide (a = b)
  | .inr (.inr a), .inr (.inr b) => decide (a = b)
  | _, _ => false
theorem q_sheq_of {x y : q_Sh} (h : q_sheq x y = true) : x = y := by
  unfold q_sheq at h
  split at h
  · rw [of_decide_eq_true h]
  · rw [of_decide_eq_true h]
  · rw [of_decide_eq_true h]
  · cases h
def q_leq : List q_Sh → List q_Sh → Bool
  | [], [] => true
  | x :: xs, y :: ys => q_sheq x y && q_leq xs ys
  | _, _ => false
theorem q_leq_of : ∀ {x y : List q_Sh}, q_leq x y = true → x = y
  | [], [], _ => rfl
  | x :: xs, y :: ys, h => by
    simp only [q_leq, Bool.and_eq_true] at h
    rw [q_sheq_of h.1, q_leq_of h.2]
  | [], _ :: _, h => by cases h
  | _ :: _, [], h => by cases h
/-- the ints at the start -/
def q_iv (id j : Nat) : Int32 := if id = 1 ∨ id = 5 ∨ id = 83 then (if id = 83 then (if j = 1 then 5 else if j = 2 then 3 else 0) else if j = 3 then 5 else if j = 4 then 3 else 0)
  else if id = 12 ∨ id = 71 ∨ id = 75 ∨ id = 79 then (if j = 3 then 1 else 0) else if id = 94 then (if j < 4 then 1 else 0) else 0
def q_Init (M : MM) : Prop := ∀ id, id < 107 → ∀ j, j < 30 → M id j = q_iv id j
set_option maxRecDepth 100000 in
theorem q_w1_len : (q_w1.map (fun w => (w.1, decide (w.2.1.length = 83)))) = some (none, true) := by decide +kernel
set_option maxRecDepth 100000 in
theorem q_w2_S : (q_w2.map (fun w => (w.1, q_leq w.2.1 q_S))) = some (none, true) := by decide +kernel
set_option maxRecDepth 100000 in
theorem q_w2_M : (q_w2.map (fun w => (List.range 107).all fun id => (List.range 30).all fun j => decide (w.2.2 id j = q_iv id j))) = some true := by decide +kernel
theorem q_w2_of : ∃ M, q_w2 = some (none, (q_S, M)) ∧ q_Init M := by
  have h1 := q_w2_S
  have h2 := q_w2_M
  cases hw : q_w2 with
  | none => rw [hw] at h1; cases h1
  | some w =>
    obtain ⟨v, sh, M⟩ := w
    rw [hw] at h1 h2
    simp only [Option.map_some, Option.some.injEq, Prod.mk.injEq] at h1 h2
    obtain ⟨rfl, h1⟩ := h1
    obtain rfl := q_leq_of h1
    refine ⟨M, rfl, fun id hi j hj => ?_⟩
    have := List.all_eq_true.mp (List.all_eq_true.mp h2 id (List.mem_range.mpr hi)) j (List.mem_range.mpr hj)
    exact of_decide_eq_true this
theorem q_w1_of : ∃ sh M, q_w1 = some (none, (sh, M)) ∧ sh.length = 83 ∧ q_m1 = (sh ++ [.inr (.inl (9, q_born 9))], q_up M 83 (fun _ => 0)) := by
  have h1 := q_w1_len
  cases hw : q_w1 with
  | none => rw [hw] at h1; cases h1
  | some w =>
    obtain ⟨v, sh, M⟩ := w
    rw [hw] at h1
    simp only [Option.map_some, Option.some.injEq, Prod.mk.injEq, decide_eq_true_eq] at h1
    obtain ⟨rfl, h1⟩ := h1
    refine ⟨sh, M, rfl, h1, ?_⟩
    unfold q_m1
    rw [hw]
    simp only [q_next, h1]
set_option maxRecDepth 100000 in
theorem q_law_nums : Nat.ble (0 + 1) (q_mc 205) = true ∧ Nat.ble (0 + (q_born 8).length) (q_ms 205) = true ∧ (q_born 8).length = 10 ∧ (q_born 9).length = 29 ∧ q_mc 205 = 600000 ∧ q_ms 205 = 7302250 ∧ q_mc 86 = 82 ∧ q_ms 86 = 1454 ∧ q_mc 133 = 23 ∧ q_ms 133 = 643 := by decide +kernel
theorem q_law_start (X : q_X) (Q : Option Value → q_Mm → Prop) (h : ∀ M, q_Init M → q_Wp X 205 (10, [some (.retAddr 0), some (.ref 0), some (.ref 83), some (.int (nI 0))], [], 107, 2136) (q_S, M) Q) : q_Wp X 205 (q_ent 205 [.retAddr 0]) ([], fun _ _ => 0) Q := by
  obtain ⟨n1, n2, n3, n4, n5, n6, n7, n8, n9, n10⟩ := q_law_nums
  have hk : q_cd 205 = kd_L_law := rfl
  obtain ⟨sh1, M1, e1, l1, e2⟩ := q_w1_of
  obtain ⟨M2, e3, i3⟩ := q_w2_of
  show q_Wp X 205 (0, [some (.retAddr 0), none, none, none], [], 0, 0) ([], fun _ _ => 0) Q
  refine q_Wp.step (fr' := (1, [some (.retAddr 0), none, none, none], [.ref 0], 1, 10)) (mm' := q_m0) ?_ ?_
  · have h0 : (q_cd 205)[0]? = some (0, 3, .new 7, 8, 0, 69, 0) := rfl
    simp only [q_step, h0, q_ins, q_mk, n1, n2, Bool.and_self, cond_true, n3]
    rfl
  refine q_Wp.step (q_sim_ok hk rfl rfl) ?_
  refine q_Wp.call (k' := 86) (as := [.ref 0]) (fr' := (3, [some (.retAddr 0), none, none, none], [.ref 0], 83, 1464)) ?_ ?_
  · have h0 : (q_cd 205)[2]? = some (4, 3, .invokespecial 9, 86, 1, 2, 71) := rfl
    show q_step X 205 (2, [some (.retAddr 0), none, none, none], [.ref 0, .ref 0], 1, 10) q_m0 = _
    simp only [q_step, h0, q_ins, show Nat.beq 2 6 = false from rfl, show Nat.beq 2 2 = true from rfl, cond_false, cond_true, Bool.true_or, q_inv, n5, n6, n7, n8]
    rfl
  refine ⟨3000, none, (sh1, M1), e1, ?_⟩
  show q_Wp X 205 (3, [some (.retAddr 0), none, none, none], [.ref 0], 83, 1464) (sh1, M1) Q
  refine q_Wp.step (q_sim_ok hk rfl rfl) ?_
  refine q_Wp.step (fr' := (5, [some (.retAddr 0), some (.ref 0), none, none], [.ref 83], 84, 1493)) (mm' := q_m1) ?_ ?_
  · have h0 : (q_cd 205)[4]? = some (8, 3, .new 10, 9, 0, 799, 0) := rfl
    show q_step X 205 (4, [some (.retAddr 0), some (.ref 0), none, none], [], 83, 1464) (sh1, M1) = _
    simp only [q_step, h0, q_ins, q_mk, n4, n5, n6, l1, e2, show (Nat.ble (83 + 1) 600000 && Nat.ble (1464 + 29) 7302250) = true from rfl, cond_true]
    rfl
  refine q_Wp.step (q_sim_ok hk rfl rfl) ?_
  refine q_Wp.call (k' := 133) (as := [.ref 83]) (fr' := (7, [some (.retAddr 0), some (.ref 0), none, none], [.ref 83], 107, 2136)) ?_ ?_
  · have h0 : (q_cd 205)[6]? = some (12, 3, .invokespecial 12, 133, 1, 2, 801) := rfl
    show q_step X 205 (6, [some (.retAddr 0), some (.ref 0), none, none], [.ref 83, .ref 83], 84, 1493) q_m1 = _
    simp only [q_step, h0, q_ins, show Nat.beq 2 6 = false from rfl, show Nat.beq 2 2 = true from rfl, cond_false, cond_true, Bool.true_or, q_inv, n5, n6, n9, n10]
    rfl
  refine ⟨1000, none, (q_S, M2), e3, ?_⟩
  show q_Wp X 205 (7, [some (.retAddr 0), some (.ref 0), none, none], [.ref 83], 107, 2136) (q_S, M2) Q
  refine q_Wp.step (q_sim_ok hk rfl rfl) ?_
  refine q_Wp.step (q_sim_ok hk rfl rfl) ?_
  refine q_Wp.step (q_sim_ok hk rfl rfl) ?_
  exact h M2 i3
end
section
/-! what is meant -/
def sumN (f : Nat → Nat) : Nat → Nat
  | 0 => 0
  | n + 1 => sumN f n + f n
def pt (a b : Nat) : Nat := if b < a then 2 else if a = b then 1 else 0
def wRanks (n m : Nat) (cnt : Nat → Bool) (mk : Nat → Nat → Nat) (s : Nat) : Nat := sumN (fun j => if cnt j then sumN (fun o => if o = s then 0 else pt (mk j s) (mk j o)) m else 0) n
def wMore (n : Nat) (cnt : Nat → Bool) (mk : Nat → Nat → Nat) (a b : Nat) : Nat := sumN (fun j => if cnt j = true ∧ mk j b < mk j a then 1 else 0) n
def wPairs (n m : Nat) (cnt : Nat → Bool) (mk : Nat → Nat → Nat) (s : Nat) : Nat := sumN (fun o => if o = s then 0 else pt (wMore n cnt mk s o) (wMore n cnt mk o s)) m
def wWei (n : Nat) (cnt : Nat → Bool) (mk : Nat → Nat → Nat) (fig : Nat → Nat) (s : Nat) : Nat := sumN (fun j => if cnt j then mk j s * fig j else 0) n
def updN (f : Nat → Nat) (k v : Nat) : Nat → Nat := fun j => if j = k then v else f j
def insA (row : Nat → Nat) : Nat → Nat → (Nat → Nat)
  | 0, v => updN row 0 v
  | a + 1, v => if v < row a then insA (updN row (a + 1) (row a)) a v else updN row (a + 1) v
def srt (cnt : Nat → Bool) (col : Nat → Nat) : Nat → (Nat → Nat) × Nat
  | 0 => (fun _ => 0, 0)
  | j + 1 => if cnt j then (insA (srt cnt col j).1 (srt cnt col j).2 (col j), (srt cnt col j).2 + 1) else srt cnt col j
def wStruck (n : Nat) (cnt : Nat → Bool) (mk : Nat → Nat → Nat) (k s : Nat) : Nat := sumN (fun i => if k ≤ i then (srt cnt (fun j => mk j s) n).1 i else 0) ((srt cnt (fun j => mk j s) n).2 - k)
def wMid (n : Nat) (cnt : Nat → Bool) (mk : Nat → Nat → Nat) (s : Nat) : Nat :=
  if (srt cnt (fun j => mk j s) n).2 = 0 then 0 else (srt cnt (fun j => mk j s) n).1 (((srt cnt (fun j => mk j s) n).2 - 1) / 2) + (srt cnt (fun j => mk j s) n).1 ((srt cnt (fun j => mk j s) n).2 / 2)
/-- a rule: parts, their kinds, strikes, figures -/
abbrev Ru : Type := Nat × (Nat → Nat) × (Nat → Nat) × (Nat → Nat → Nat)
def worthW (n m : Nat) (cnt : Nat → Bool) (mk : Nat → Nat → Nat) (R : Ru) (i s : Nat) : Nat := match R.2.1 i with
  | 0 => wStruck n cnt mk (R.2.2.1 i) s
  | 1 => wMid n cnt mk s
  | 2 => wRanks n m cnt mk s
  | 3 => wPairs n m cnt mk s
  | _ => wWei n cnt mk (R.2.2.2 i) s
def aheadW (w : Nat → Nat → Nat) (a b : Nat) : Nat → Nat → Bool
  | _, 0 => false
  | i, d + 1 => if w i a = w i b then aheadW w a b (i + 1) d else decide (w i b < w i a)
def placeW (w : Nat → Nat → Nat) (parts m s : Nat) : Nat := 1 + sumN (fun o => if aheadW w o s 0 parts then 1 else 0) m
def b2n (b : Bool) : Nat := if b then 1 else 0
theorem sumN_le {f : Nat → Nat} {c : Nat} : ∀ {n : Nat}, (∀ j, j < n → f j ≤ c) → sumN f n ≤ n * c
  | 0, _ => by simp [sumN]
  | n + 1, h => by
    have h1 := sumN_le (n := n) (fun j hj => h j (by omega))
    have h2 := h n (by omega)
    simp only [sumN, Nat.add_mul, Nat.one_mul]
    omega
theorem sumN_congr {f g : Nat → Nat} : ∀ {n : Nat}, (∀ j, j < n → f j = g j) → sumN f n = sumN g n
  | 0, _ => rfl
  | n + 1, h => by simp only [sumN, sumN_congr (n := n) (fun j hj => h j (by omega)), h n (by omega)]
/-! signs of differences -/
theorem q_toInt {a : Nat} (h : a < 2 ^ 31) : (nI a).toInt = (a : Int) := nI_toInt h
theorem q_dInt {a b : Nat} (ha : a < 2 ^ 30) (hb : b < 2 ^ 30) : (nI a - nI b).toInt = (a : Int) - (b : Int) := by
  rw [Int32.toInt_sub, q_toInt (by omega), q_toInt (by omega)]
  exact Int.bmod_eq_of_le (by omega) (by omega)
theorem q_d_le {a b : Nat} (ha : a < 2 ^ 30) (hb : b < 2 ^ 30) : nI a - nI b ≤ 0 ↔ a ≤ b := by
  rw [Int32.le_iff_toInt_le, q_dInt ha hb]; simp <;> omega
theorem q_d_lt {a b : Nat} (ha : a < 2 ^ 30) (hb : b < 2 ^ 30) : nI a - nI b < 0 ↔ a < b := by
  rw [Int32.lt_iff_toInt_lt, q_dInt ha hb]; simp <;> omega
theorem q_d_ge {a b : Nat} (ha : a < 2 ^ 30) (hb : b < 2 ^ 30) : 0 ≤ nI a - nI b ↔ b ≤ a := by
  rw [Int32.le_iff_toInt_le, q_dInt ha hb]; simp <;> omega
theorem q_d_gt {a b : Nat} (ha : a < 2 ^ 30) (hb : b < 2 ^ 30) : 0 < nI a - nI b ↔ b < a := by
  rw [Int32.lt_iff_toInt_lt, q_dInt ha hb]; simp <;> omega
theorem q_d_eq {a b : Nat} (ha : a < 2 ^ 30) (hb : b < 2 ^ 30) : nI a - nI b = 0 ↔ a = b := by
  rw [← Int32.toInt_inj, q_dInt ha hb]; simp <;> omega
theorem q_z_eq {a : Nat} (ha : a < 2 ^ 31) : nI a = 0 ↔ a = 0 := by rw [← nI_0, q_ninj ha (by omega)]
theorem q_z_le {a : Nat} (ha : a < 2 ^ 31) : nI a ≤ 0 ↔ a = 0 := by rw [← nI_0, q_nle ha (by omega)]; omega
theorem q_z_gt {a : Nat} (ha : a < 2 ^ 31) : 0 < nI a ↔ 0 < a := by rw [← nI_0, q_nlt (by omega) ha]
theorem q_z_lt {a : Nat} (ha : a < 2 ^ 31) : ¬ nI a < 0 := nI_pos ha
theorem q_z_ge {a : Nat} (ha : a < 2 ^ 31) : 0 ≤ nI a := nI_pos' ha
theorem q_dec (j : Nat) : nI (j + 1) + Int32.ofInt (.negSucc 0) = nI j := by
  have h : nI (j + 1) = nI j + 1 := nI_succ j
  rw [h, show (Int32.ofInt (.negSucc 0)) = -1 by decide, Int32.add_assoc, show (1 : Int32) + -1 = 0 by decide, Int32.add_zero]
section WPD
variable {X : q_X} {cu su k i pc len a b c d : Nat} {cd : List q_Ent} {al : List (Option Value)} {st : List Value} {M : MM} {Q : Option Value → MM → Prop}
theorem wp_ifeqD {x : Int32} {u v : Nat} {off : Int} (hk : q_cd k = cd) (h : cd[i]? = some (pc, len, .ifCond .eq off, a, b, c, d)) (hx : x = nI u - nI v) (hu : u < 2 ^ 30) (hv : v < 2 ^ 30) (kt : u = v → WPg X cu su k a al st M Q) (kf : ¬ (u = v) → WPg X cu su k (i + 1) al st M Q) : WPg X cu su k i al (.int x :: st) M Q := by
  subst hx
  exact wp_ifeq hk h (fun q => kt ((q_d_eq hu hv).mp q)) (fun q => kf (fun z => q ((q_d_eq hu hv).mpr z)))
theorem wp_ifneD {x : Int32} {u v : Nat} {off : Int} (hk : q_cd k = cd) (h : cd[i]? = some (pc, len, .ifCond .ne off, a, b, c, d)) (hx : x = nI u - nI v) (hu : u < 2 ^ 30) (hv : v < 2 ^ 30) (kt : ¬ u = v → WPg X cu su k a al st M Q) (kf : ¬ (¬ u = v) → WPg X cu su k (i + 1) al st M Q) : WPg X cu su k i al (.int x :: st) M Q := by
  subst hx
  exact wp_ifne hk h (fun q => kt ((not_congr (q_d_eq hu hv)).mp q)) (fun q => kf (fun z => q ((not_congr (q_d_eq hu hv)).mpr z)))
theorem wp_ifltD {x : Int32} {u v : Nat} {off : Int} (hk : q_cd k = cd) (h : cd[i]? = some (pc, len, .ifCond .lt off, a, b, c, d)) (hx : x = nI u - nI v) (hu : u < 2 ^ 30) (hv : v < 2 ^ 30) (kt : u < v → WPg X cu su k a al st M Q) (kf : ¬ (u < v) → WPg X cu su k (i + 1) al st M Q) : WPg X cu su k i al (.int x :: st) M Q := by
  subst hx
  exact wp_iflt hk h (fun q => kt ((q_d_lt hu hv).mp q)) (fun q => kf (fun z => q ((q_d_lt hu hv).mpr z)))
theorem wp_ifgeD {x : Int32} {u v : Nat} {off : Int} (hk : q_cd k = cd) (h : cd[i]? = some (pc, len, .ifCond .ge off, a, b, c, d)) (hx : x = nI u - nI v) (hu : u < 2 ^ 30) (hv : v < 2 ^ 30) (kt : v ≤ u → WPg X cu su k a al st M Q) (kf : ¬ (v ≤ u) → WPg X cu su k (i + 1) al st M Q) : WPg X cu su k i al (.int x :: st) M Q := by
  subst hx
  exact wp_ifge hk h (fun q => kt ((q_d_ge hu hv).mp q)) (fun q => kf (fun z => q ((q_d_ge hu hv).mpr z)))
theorem wp_ifgtD {x : Int32} {u v : Nat} {off : Int} (hk : q_cd k = cd) (h : cd[i]? = some (pc, len, .ifCond .gt off, a, b, c, d)) (hx : x = nI u - nI v) (hu : u < 2 ^ 30) (hv : v < 2 ^ 30) (kt : v < u → WPg X cu su k a al st M Q) (kf : ¬ (v < u) → WPg X cu su k (i + 1) al st M Q) : WPg X cu su k i al (.int x :: st) M Q := by
  subst hx
  exact wp_ifgt hk h (fun q => kt ((q_d_gt hu hv).mp q)) (fun q => kf (fun z => q ((q_d_gt hu hv).mpr z)))
theorem wp_ifleD {x : Int32} {u v : Nat} {off : Int} (hk : q_cd k = cd) (h : cd[i]? = some (pc, len, .ifCond .le off, a, b, c, d)) (hx : x = nI u - nI v) (hu : u < 2 ^ 30) (hv : v < 2 ^ 30) (kt : u ≤ v → WPg X cu su k a al st M Q) (kf : ¬ (u ≤ v) → WPg X cu su k (i + 1) al st M Q) : WPg X cu su k i al (.int x :: st) M Q := by
  subst hx
  exact wp_ifle hk h (fun q => kt ((q_d_le hu hv).mp q)) (fun q => kf (fun z => q ((q_d_le hu hv).mpr z)))
theorem wp_ifeqN {x : Int32} {u : Nat} {off : Int} (hk : q_cd k = cd) (h : cd[i]? = some (pc, len, .ifCond .eq off, a, b, c, d)) (hx : x = nI u) (hu : u < 2 ^ 31) (kt : u = 0 → WPg X cu su k a al st M Q) (kf : ¬ (u = 0) → WPg X cu su k (i + 1) al st M Q) : WPg X cu su k i al (.int x :: st) M Q := by
  subst hx
  exact wp_ifeq hk h (fun q => kt ((q_z_eq hu).mp q)) (fun q => kf (fun z => q ((q_z_eq hu).mpr z)))
theorem wp_ifneN {x : Int32} {u : Nat} {off : Int} (hk : q_cd k = cd) (h : cd[i]? = some (pc, len, .ifCond .ne off, a, b, c, d)) (hx : x = nI u) (hu : u < 2 ^ 31) (kt : ¬ u = 0 → WPg X cu su k a al st M Q) (kf : ¬ (¬ u = 0) → WPg X cu su k (i + 1) al st M Q) : WPg X cu su k i al (.int x :: st) M Q := by
  subst hx
  exact wp_ifne hk h (fun q => kt ((not_congr (q_z_eq hu)).mp q)) (fun q => kf (fun z => q ((not_congr (q_z_eq hu)).mpr z)))
theorem wp_ifgtN {x : Int32} {u : Nat} {off : Int} (hk : q_cd k = cd) (h : cd[i]? = some (pc, len, .ifCond .gt off, a, b, c, d)) (hx : x = nI u) (hu : u < 2 ^ 31) (kt : 0 < u → WPg X cu su k a al st M Q) (kf : ¬ (0 < u) → WPg X cu su k (i + 1) al st M Q) : WPg X cu su k i al (.int x :: st) M Q := by
  subst hx
  exact wp_ifgt hk h (fun q => kt ((q_z_gt hu).mp q)) (fun q => kf (fun z => q ((q_z_gt hu).mpr z)))
theorem wp_ifleN {x : Int32} {u : Nat} {off : Int} (hk : q_cd k = cd) (h : cd[i]? = some (pc, len, .ifCond .le off, a, b, c, d)) (hx : x = nI u) (hu : u < 2 ^ 31) (kt : u = 0 → WPg X cu su k a al st M Q) (kf : ¬ (u = 0) → WPg X cu su k (i + 1) al st M Q) : WPg X cu su k i al (.int x :: st) M Q := by
  subst hx
  exact wp_ifle hk h (fun q => kt ((q_z_le hu).mp q)) (fun q => kf (fun z => q ((q_z_le hu).mpr z)))
/-- a boolean that was laid away -/
theorem wp_ifeqB {x : Int32} {u : Bool} {off : Int} (hk : q_cd k = cd) (h : cd[i]? = some (pc, len, .ifCond .eq off, a, b, c, d)) (hx : x = nI (b2n u)) (kt : u = false → WPg X cu su k a al st M Q) (kf : u = true → WPg X cu su k (i + 1) al st M Q) : WPg X cu su k i al (.int x :: st) M Q := by
  refine wp_ifeqN hk h hx (by cases u <;> decide) (fun q => kt ?_) (fun q => kf ?_)
  · cases u; rfl; cases q
  · cases u; exact absurd rfl q; rfl
theorem wp_ifneB {x : Int32} {u : Bool} {off : Int} (hk : q_cd k = cd) (h : cd[i]? = some (pc, len, .ifCond .ne off, a, b, c, d)) (hx : x = nI (b2n u)) (kt : u = true → WPg X cu su k a al st M Q) (kf : u = false → WPg X cu su k (i + 1) al st M Q) : WPg X cu su k i al (.int x :: st) M Q := by
  refine wp_ifneN hk h hx (by cases u <;> decide) (fun q => kt ?_) (fun q => kf ?_)
  · cases u; exact absurd rfl q; rfl
  · cases u; rfl; exact absurd (fun z => by cases z) q
end WPD
end
section
/-! the states: a card (judges, skaters, the lost ones as bits, marks, lands of judges, of skaters) -/
abbrev Vw : Type := Nat × Nat × Nat × (Nat → Nat → Nat) × (Nat → Nat) × (Nat → Nat)
def vn (V : Vw) : Nat := V.1
def vm (V : Vw) : Nat := V.2.1
def vL (V : Vw) : Nat := V.2.2.1
def vk (V : Vw) : Nat → Nat → Nat := V.2.2.2.1
def vj (V : Vw) : Nat → Nat := V.2.2.2.2.1
def vs (V : Vw) : Nat → Nat := V.2.2.2.2.2
/-- whose marks count -/
def vc (V : Vw) (j : Nat) : Bool := decide (j < vn V) && !(vL V).testBit j
def VOK (V : Vw) : Prop := 1 ≤ vn V ∧ vn V ≤ 7 ∧ 1 ≤ vm V ∧ vm V ≤ 4 ∧ vL V < 128 ∧ (∀ j, j < 7 → ∀ s, s < 4 → vk V j s ≤ 5) ∧ (∀ j, j < 7 → vj V j ≤ 3) ∧ ∀ s, s < 4 → vs V s ≤ 3
/-- the class's card at c -/
def CardIs (M : MM) (c : Nat) (V : Vw) : Prop := M c 3 = nI (vn V) ∧ M c 4 = nI (vm V) ∧ M c 5 = nI (vL V) ∧ (∀ j, j < 7 → ∀ s, s < 4 → M (c + 1) (4 * j + s) = nI (vk V j s)) ∧ (∀ j, j < 7 → M (c + 2) j = nI (vj V j)) ∧ ∀ s, s < 4 → M (c + 3) s = nI (vs V s)
/-- the reference's card -/
def RefCard (M : MM) (V : Vw) : Prop := M 83 1 = nI (vn V) ∧ M 83 2 = nI (vm V) ∧ (∀ j, j < 7 → M 87 j = nI (b2n ((vL V).testBit j))) ∧ (∀ j, j < 7 → ∀ s, s < 4 → M 86 (4 * j + s) = nI (vk V j s)) ∧ (∀ j, j < 7 → M 84 j = nI (vj V j)) ∧ ∀ s, s < 4 → M 85 s = nI (vs V s)
def RuOK (R : Ru) : Prop := 1 ≤ R.1 ∧ R.1 ≤ 3 ∧ (∀ i, i < R.1 → R.2.1 i ≤ 4) ∧ (∀ i, i < R.1 → R.2.1 i = 0 → R.2.2.1 i ≤ 3) ∧ ∀ i, i < R.1 → R.2.1 i = 4 → ∀ j, j < 7 → R.2.2.2 i j ≤ 9
/-- the class's rule at z -/
def SchIs (M : MM) (z : Nat) (R : Ru) : Prop := M z 3 = nI R.1 ∧ (∀ i, i < R.1 → M (z + 1) i = nI (R.2.1 i)) ∧ (∀ i, i < R.1 → R.2.1 i = 0 → M (z + 2) i = nI (R.2.2.1 i)) ∧ ∀ i, i < R.1 → R.2.1 i = 4 → ∀ j, j < 7 → M (z + 3) (7 * i + j) = nI (R.2.2.2 i j)
/-- the reference's rule r -/
def RefRu (M : MM) (r : Nat) (R : Ru) : Prop := M 94 r = nI R.1 ∧ (∀ i, i < R.1 → M 95 (3 * r + i) = nI (R.2.1 i)) ∧ (∀ i, i < R.1 → R.2.1 i = 0 → M 96 (3 * r + i) = nI (R.2.2.1 i)) ∧ ∀ i, i < R.1 → R.2.1 i = 4 → ∀ j, j < 7 → M 97 (21 * r + 7 * i + j) = nI (R.2.2.2 i j)
/-- the text, the rules, the past -/
abbrev St : Type := Vw × (Nat × (Nat → Nat)) × (Nat → Ru) × Nat × (Nat → Vw)
def sV (S : St) : Vw := S.1
def sT (S : St) : Nat × (Nat → Nat) := S.2.1
def sR (S : St) : Nat → Ru := S.2.2.1
def sN (S : St) : Nat := S.2.2.2.1
def sP (S : St) : Nat → Vw := S.2.2.2.2
def StOK (S : St) : Prop := VOK (sV S) ∧ ((sT S).1 ≤ 16 ∧ ∀ i, i < (sT S).1 → (sT S).2 i < 256) ∧ (∀ r, r < 3 → RuOK (sR S r)) ∧ sN S ≤ 8 ∧ ∀ i, i < sN S → VOK (sP S i)
def RefPast (M : MM) (i : Nat) (V : Vw) : Prop := M 101 i = nI (vn V) ∧ M 102 i = nI (vm V) ∧ (∀ j, j < 7 → M 103 (7 * i + j) = nI (vj V j)) ∧ (∀ s, s < 4 → M 104 (4 * i + s) = nI (vs V s)) ∧ (∀ j, j < 7 → ∀ s, s < 4 → M 105 (28 * i + 4 * j + s) = nI (vk V j s)) ∧ ∀ j, j < 7 → M 106 (7 * i + j) = nI (b2n ((vL V).testBit j))
def ClsInv (M : MM) (S : St) : Prop := CardIs M 1 (sV S) ∧ (M 9 1 = nI (sT S).1 ∧ ∀ i, i < (sT S).1 → M 10 i = nI ((sT S).2 i)) ∧ (∀ r, r < 3 → SchIs M (71 + 4 * r) (sR S r)) ∧ M 35 1 = nI (sN S) ∧ ∀ i, i < sN S → CardIs M (37 + 4 * i) (sP S i)
def RefInv (M : MM) (S : St) : Prop := RefCard M (sV S) ∧ (M 83 10 = nI (sT S).1 ∧ ∀ i, i < (sT S).1 → M 90 i = nI ((sT S).2 i)) ∧ ((∀ r, r < 3 → RefRu M r (sR S r)) ∧ M 94 3 = nI 1 ∧ M 95 9 = nI 0) ∧ M 83 22 = nI (sN S) ∧ ∀ i, i < sN S → RefPast M i (sP S i)
/-- what lies apart stays -/
def Kp (M M' : MM) (ids : List Nat) : Prop := ∀ i, i ∉ ids → M' i = M i
theorem Kp.rf (M : MM) (ids : List Nat) : Kp M M ids := fun _ _ => rfl
theorem Kp.tr {M M1 M2 : MM} {ids : List Nat} (h1 : Kp M M1 ids) (h2 : Kp M1 M2 ids) : Kp M M2 ids := fun i hi => (h2 i hi).trans (h1 i hi)
theorem Kp.up {M M1 : MM} {ids : List Nat} {i : Nat} {f : Nat → Int32} (h : Kp M M1 ids) (hi : i ∈ ids) : Kp M (q_up M1 i f) ids := fun j hj => by
  rw [q_up_ne M1 f (show j ≠ i from fun e => hj (by rw [e]; exact hi))]; exact h j hj
theorem Kp.mono {M M' : MM} {a b : List Nat} (h : Kp M M' a) (hs : ∀ i ∈ a, i ∈ b) : Kp M M' b := fun i hi => h i (fun z => hi (hs i z))
theorem upd_at (f : Nat → Int32) (k : Nat) (x : Int32) : upd f k x k = x := by simp [upd]
theorem upd_ne (f : Nat → Int32) {k j : Nat} (x : Int32) (h : j ≠ k) : upd f k x j = f j := by simp [upd, h]
/-- a loop that counts up -/
theorem q_dn {n : Nat} {P : Nat → Prop} (hend : P n) (hstep : ∀ j, j < n → P (j + 1) → P j) : ∀ j, j ≤ n → P j := by
  have h : ∀ d j, j + d = n → P j := by
    intro d
    induction d with
    | zero => intro j hj; rw [show j = n by omega]; exact hend
    | succ d ih => intro j hj; exact hstep j (by omega) (ih (j + 1) (by omega))
  intro j hj
  exact h (n - j) j (by omega)
/-! is an int one of the first n? -/
def isN (x : Int32) (n : Nat) : Bool := decide (0 ≤ x) && decide (x < nI n)
theorem isN_nI {j n : Nat} (hj : j < 2 ^ 31) (hn : n < 2 ^ 31) : isN (nI j) n = decide (j < n) := by
  simp only [isN, q_z_ge hj, q_nlt hj hn, decide_true, Bool.true_and]
theorem isN_of {x : Int32} {n : Nat} (hn : n < 2 ^ 31) (h : isN x n = true) : ∃ j, j < n ∧ x = nI j := by
  simp only [isN, Bool.and_eq_true, decide_eq_true_eq] at h
  have h0 : 0 ≤ x.toInt := by have := Int32.le_iff_toInt_le.mp h.1; simpa using this
  have h1 : x.toInt < n := by have := Int32.lt_iff_toInt_lt.mp h.2; rwa [q_toInt hn] at this
  refine ⟨x.toInt.toNat, by omega, ?_⟩
  rw [← Int32.toInt_inj, q_toInt (by omega)]
  omega
theorem q_in64 {x : Int32} {lo hi : Nat} (h1 : lo < 2 ^ 31) (h2 : hi < 2 ^ 31) : (decide (Int64.ofNat lo ≤ x.toInt64) && decide (x.toInt64 ≤ Int64.ofNat hi)) = (decide (nI lo ≤ x) && decide (x ≤ nI hi)) := by
  have e1 : (Int64.ofNat lo).toInt = (lo : Int) := Int64.toInt_ofNat_of_lt (by omega)
  have e2 : (Int64.ofNat hi).toInt = (hi : Int) := Int64.toInt_ofNat_of_lt (by omega)
  have e3 : x.toInt64.toInt = x.toInt := Int32.toInt_toInt64 x
  congr 1
  · rw [decide_eq_decide, Int64.le_iff_toInt_le, Int32.le_iff_toInt_le, e1, e3, q_toInt h1]
  · rw [decide_eq_decide, Int64.le_iff_toInt_le, Int32.le_iff_toInt_le, e2, e3, q_toInt h2]
theorem q_in0 {x : Int32} {n : Nat} (h1 : 1 ≤ n) (h2 : n < 2 ^ 31) : (decide (Int64.ofNat 0 ≤ x.toInt64) && decide (x.toInt64 ≤ (nI (n - 1)).toInt64)) = isN x n := by
  have e1 : (Int64.ofNat 0).toInt = 0 := Int64.toInt_ofNat_of_lt (by omega)
  have e3 : x.toInt64.toInt = x.toInt := Int32.toInt_toInt64 x
  have e4 : (nI (n - 1)).toInt64.toInt = ((n - 1 : Nat) : Int) := by rw [Int32.toInt_toInt64, q_toInt (by omega)]
  unfold isN
  congr 1
  · rw [decide_eq_decide, Int64.le_iff_toInt_le, Int32.le_iff_toInt_le, e1, e3]; simp
  · rw [decide_eq_decide, Int64.le_iff_toInt_le, Int32.lt_iff_toInt_lt, e4, e3, q_toInt h2]; omega
theorem q_isN_le {x : Int32} {n : Nat} (h2 : n + 1 < 2 ^ 31) : (decide (nI 0 ≤ x) && decide (x ≤ nI n)) = isN x (n + 1) := by
  unfold isN
  rw [nI_0]
  congr 1
  rw [decide_eq_decide, Int32.le_iff_toInt_le, Int32.lt_iff_toInt_lt, q_toInt (by omega), q_toInt h2]; omega
theorem lg_lt {x y : Int64} : lg_cmp x y < 0 ↔ x < y := by
  unfold lg_cmp
  by_cases h : x > y
  · rw [if_pos h]
    exact ⟨fun z => absurd z (by decide), fun z => absurd (Int64.lt_trans h z) (Int64.lt_irrefl)⟩
  · rw [if_neg h]
    by_cases e : x = y
    · rw [if_pos e]
      subst e
      exact ⟨fun z => absurd z (by decide), fun z => absurd z Int64.lt_irrefl⟩
    · rw [if_neg e]
      refine ⟨fun _ => ?_, fun _ => by decide⟩
      rcases Int64.lt_or_eq_of_le (Int64.not_lt.mp h) with z | z
      · exact z
      · exact absurd z e
theorem lg_gt {x y : Int64} : 0 < lg_cmp x y ↔ y < x := by
  unfold lg_cmp
  by_cases h : x > y
  · rw [if_pos h]
    exact ⟨fun _ => h, fun _ => by decide⟩
  · rw [if_neg h]
    by_cases e : x = y
    · rw [if_pos e]; exact ⟨fun z => absurd z (by decide), fun z => absurd z h⟩
    · rw [if_neg e]; exact ⟨fun z => absurd z (by decide), fun z => absurd z h⟩
end
section
theorem q_ndiv {a b : Nat} (ha : a < 2 ^ 31) (h0 : 0 < b) (hb : b < 2 ^ 31) : nI a / nI b = nI (a / b) := by
  have hlt : a / b ≤ a := Nat.div_le_self a b
  rw [← Int32.toInt_inj, Int32.toInt_div, q_toInt ha, q_toInt hb, q_toInt (by omega)]
  have e : ((a : Int).tdiv (b : Int)) = ((a / b : Nat) : Int) := by rw [Int.ofNat_tdiv]
  rw [e]
  generalize a / b = c at hlt
  exact Int.bmod_eq_of_le (by omega) (by omega)
theorem q_nrem {a b : Nat} (ha : a < 2 ^ 31) (h0 : 0 < b) (hb : b < 2 ^ 31) : nI a - nI a / nI b * nI b = nI (a % b) := by
  have h : a / b * b ≤ a := Nat.div_mul_le_self a b
  rw [q_ndiv ha h0 hb, q_nmul, q_nsub h]
  congr 1
  have := Nat.div_add_mod a b
  rw [Nat.mul_comm] at this
  omega
theorem q_shl1 : ∀ n, n < 8 → nI 1 <<< (nI n &&& 31) = nI (2 ^ n) := by decide +kernel
theorem m_in {v lo hi : Int64} {M : MM} {Q : Option Value → MM → Prop} (kk : Q (some (.int (nI (b2n (decide (lo ≤ v) && decide (v ≤ hi)))))) M) : Ca 134 [.long v, .long lo, .long hi] M Q := by
  have hk : q_cd 134 = kd_X9_in := rfl
  show WP 134 0 [some (.long v), none, some (.long lo), none, some (.long hi), none] [] M Q
  repeat (first | refine wp_s hk rfl rfl ?_ | refine wp_goto hk rfl ?_ | refine wp_geti hk rfl rfl rfl rfl ?_ | refine wp_getr hk rfl rfl rfl rfl ?_)
  refine wp_iflt hk rfl (fun h => ?_) (fun h => ?_)
  · repeat (first | refine wp_s hk rfl rfl ?_ | refine wp_goto hk rfl ?_ | refine wp_geti hk rfl rfl rfl rfl ?_ | refine wp_getr hk rfl rfl rfl rfl ?_)
    refine wp_ir hk rfl rfl ?_
    rw [show decide (lo ≤ v) = false from decide_eq_false (Int64.not_le.mpr (lg_lt.mp h))] at kk
    exact kk
  · repeat (first | refine wp_s hk rfl rfl ?_ | refine wp_goto hk rfl ?_ | refine wp_geti hk rfl rfl rfl rfl ?_ | refine wp_getr hk rfl rfl rfl rfl ?_)
    refine wp_ifgt hk rfl (fun h1 => ?_) (fun h1 => ?_)
    · repeat (first | refine wp_s hk rfl rfl ?_ | refine wp_goto hk rfl ?_ | refine wp_geti hk rfl rfl rfl rfl ?_ | refine wp_getr hk rfl rfl rfl rfl ?_)
      refine wp_ir hk rfl rfl ?_
      rw [show decide (v ≤ hi) = false from decide_eq_false (Int64.not_le.mpr (lg_gt.mp h1)), Bool.and_false] at kk
      exact kk
    · repeat (first | refine wp_s hk rfl rfl ?_ | refine wp_goto hk rfl ?_ | refine wp_geti hk rfl rfl rfl rfl ?_ | refine wp_getr hk rfl rfl rfl rfl ?_)
      refine wp_ir hk rfl rfl ?_
      rw [show decide (lo ≤ v) = true from decide_eq_true (Int64.not_lt.mp (fun z => h (lg_lt.mpr z))), show decide (v ≤ hi) = true from decide_eq_true (Int64.not_lt.mp (fun z => h1 (lg_gt.mpr z)))] at kk
      exact kk
theorem m_noJudge {x : Int32} {n : Nat} {M : MM} {Q : Option Value → MM → Prop} (hn : M 83 1 = nI n) (h1 : 1 ≤ n) (h7 : n ≤ 7) (kk : Q (some (.int (nI (b2n (!isN x n))))) M) : Ca 135 [.ref 83, .int x] M Q := by
  have hk : q_cd 135 = kd_X9_noJudge := rfl
  show WP 135 0 [some (.ref 83), some (.int x)] [] M Q
  repeat (first | refine wp_s hk rfl rfl ?_ | refine wp_goto hk rfl ?_ | refine wp_geti hk rfl rfl rfl rfl ?_ | refine wp_getr hk rfl rfl rfl rfl ?_)
  rw [hn, q_nsub h1]
  refine wp_callS hk rfl rfl rfl rfl ?_
  refine m_in ?_
  refine wp_ifneB (u := isN x n) hk rfl (congrArg (fun z => nI (b2n z)) (q_in0 h1 (by omega))) (fun h => ?_) (fun h => ?_) <;> rw [h] at kk
  · repeat (first | refine wp_s hk rfl rfl ?_ | refine wp_goto hk rfl ?_ | refine wp_geti hk rfl rfl rfl rfl ?_ | refine wp_getr hk rfl rfl rfl rfl ?_)
    exact wp_ir hk rfl rfl kk
  · repeat (first | refine wp_s hk rfl rfl ?_ | refine wp_goto hk rfl ?_ | refine wp_geti hk rfl rfl rfl rfl ?_ | refine wp_getr hk rfl rfl rfl rfl ?_)
    exact wp_ir hk rfl rfl kk
theorem m_noSkater {x : Int32} {n : Nat} {M : MM} {Q : Option Value → MM → Prop} (hn : M 83 2 = nI n) (h1 : 1 ≤ n) (h7 : n ≤ 7) (kk : Q (some (.int (nI (b2n (!isN x n))))) M) : Ca 136 [.ref 83, .int x] M Q := by
  have hk : q_cd 136 = kd_X9_noSkater := rfl
  show WP 136 0 [some (.ref 83), some (.int x)] [] M Q
  repeat (first | refine wp_s hk rfl rfl ?_ | refine wp_goto hk rfl ?_ | refine wp_geti hk rfl rfl rfl rfl ?_ | refine wp_getr hk rfl rfl rfl rfl ?_)
  rw [hn, q_nsub h1]
  refine wp_callS hk rfl rfl rfl rfl ?_
  refine m_in ?_
  refine wp_ifneB (u := isN x n) hk rfl (congrArg (fun z => nI (b2n z)) (q_in0 h1 (by omega))) (fun h => ?_) (fun h => ?_) <;> rw [h] at kk
  · repeat (first | refine wp_s hk rfl rfl ?_ | refine wp_goto hk rfl ?_ | refine wp_geti hk rfl rfl rfl rfl ?_ | refine wp_getr hk rfl rfl rfl rfl ?_)
    exact wp_ir hk rfl rfl kk
  · repeat (first | refine wp_s hk rfl rfl ?_ | refine wp_goto hk rfl ?_ | refine wp_geti hk rfl rfl rfl rfl ?_ | refine wp_getr hk rfl rfl rfl rfl ?_)
    exact wp_ir hk rfl rfl kk
theorem m_noRule {x : Int32} {M : MM} {Q : Option Value → MM → Prop} (kk : Q (some (.int (nI (b2n (!isN x 3))))) M) : Ca 137 [.int x] M Q := by
  have hk : q_cd 137 = kd_X9_noRule := rfl
  show WP 137 0 [some (.int x)] [] M Q
  repeat (first | refine wp_s hk rfl rfl ?_ | refine wp_goto hk rfl ?_ | refine wp_geti hk rfl rfl rfl rfl ?_ | refine wp_getr hk rfl rfl rfl rfl ?_)
  refine wp_callS hk rfl rfl rfl rfl ?_
  refine m_in ?_
  refine wp_ifneB (u := isN x 3) hk rfl (congrArg (fun z => nI (b2n z)) ((q_in64 (by omega) (by omega)).trans (q_isN_le (n := 2) (by omega)))) (fun h => ?_) (fun h => ?_) <;> rw [h] at kk
  · repeat (first | refine wp_s hk rfl rfl ?_ | refine wp_goto hk rfl ?_ | refine wp_geti hk rfl rfl rfl rfl ?_ | refine wp_getr hk rfl rfl rfl rfl ?_)
    exact wp_ir hk rfl rfl kk
  · repeat (first | refine wp_s hk rfl rfl ?_ | refine wp_goto hk rfl ?_ | refine wp_geti hk rfl rfl rfl rfl ?_ | refine wp_getr hk rfl rfl rfl rfl ?_)
    exact wp_ir hk rfl rfl kk
theorem m_noSet {x : Int32} {n : Nat} {M : MM} {Q : Option Value → MM → Prop} (hn : M 83 1 = nI n) (h1 : 1 ≤ n) (h7 : n ≤ 7) (kk : Q (some (.int (nI (b2n (!isN x (2 ^ n)))))) M) : Ca 138 [.ref 83, .int x] M Q := by
  have hp : 1 ≤ 2 ^ n := Nat.one_le_two_pow
  have hp2 : 2 ^ n ≤ 2 ^ 7 := Nat.pow_le_pow_right (by omega) h7
  have hk : q_cd 138 = kd_X9_noSet := rfl
  show WP 138 0 [some (.ref 83), some (.int x)] [] M Q
  repeat (first | refine wp_s hk rfl rfl ?_ | refine wp_goto hk rfl ?_ | refine wp_geti hk rfl rfl rfl rfl ?_ | refine wp_getr hk rfl rfl rfl rfl ?_)
  rw [hn, q_shl1 n (by omega), q_nsub hp]
  refine wp_callS hk rfl rfl rfl rfl ?_
  refine m_in ?_
  refine wp_ifneB (u := isN x (2 ^ n)) hk rfl (congrArg (fun z => nI (b2n z)) (q_in0 hp (by omega))) (fun h => ?_) (fun h => ?_) <;> rw [h] at kk
  · repeat (first | refine wp_s hk rfl rfl ?_ | refine wp_goto hk rfl ?_ | refine wp_geti hk rfl rfl rfl rfl ?_ | refine wp_getr hk rfl rfl rfl rfl ?_)
    exact wp_ir hk rfl rfl kk
  · repeat (first | refine wp_s hk rfl rfl ?_ | refine wp_goto hk rfl ?_ | refine wp_geti hk rfl rfl rfl rfl ?_ | refine wp_getr hk rfl rfl rfl rfl ?_)
    exact wp_ir hk rfl rfl kk
theorem m_cards {m : Nat} {M : MM} {Q : Option Value → MM → Prop} (hm : M 83 2 = nI m) (h4 : m ≤ 4) (kk : Q (some (.int (nI (6 ^ m)))) M) : Ca 139 [.ref 83] M Q := by
  have hk : q_cd 139 = kd_X9_cards := rfl
  show WP 139 0 [some (.ref 83), none, none] [] M Q
  have loop := q_dn (n := m) (P := fun j => WP 139 7 [some (.ref 83), some (.int (nI (6 ^ j))), some (.int (nI j))] [.int (M 83 2), .int (nI j)] M Q) (by
    refine wp_icgeN hk rfl rfl hm (by first | omega | decide) (by first | omega | decide) (fun _ => ?_) (fun h => absurd h (by omega))
    repeat (first | refine wp_s hk rfl rfl ?_ | refine wp_goto hk rfl ?_ | refine wp_geti hk rfl rfl rfl rfl ?_ | refine wp_getr hk rfl rfl rfl rfl ?_)
    exact wp_ir hk rfl rfl kk) (by
    intro j hj ih
    refine wp_icgeN hk rfl rfl hm (by first | omega | decide) (by first | omega | decide) (fun h => absurd h (by omega)) (fun _ => ?_)
    repeat (first | refine wp_s hk rfl rfl ?_ | refine wp_goto hk rfl ?_ | refine wp_geti hk rfl rfl rfl rfl ?_ | refine wp_getr hk rfl rfl rfl rfl ?_)
    rw [q_nadd j 1, q_nmul, ← Nat.pow_succ]
    exact ih)
  repeat (first | refine wp_s hk rfl rfl ?_ | refine wp_goto hk rfl ?_ | refine wp_geti hk rfl rfl rfl rfl ?_ | refine wp_getr hk rfl rfl rfl rfl ?_)
  exact loop 0 (Nat.zero_le _)
/-- what the reference's own table of marks and of who counts holds -/
def RefV (M : MM) (n m : Nat) (cnt : Nat → Bool) (mk : Nat → Nat → Nat) : Prop := M 83 1 = nI n ∧ M 83 2 = nI m ∧ n ≤ 7 ∧ m ≤ 4 ∧ (∀ j, j < 7 → M 89 j = nI (b2n (cnt j))) ∧ (∀ j, j < 7 → ∀ s, s < 4 → M 88 (4 * j + s) = nI (mk j s)) ∧ ∀ j, j < 7 → ∀ s, s < 4 → mk j s ≤ 5
theorem m_ranks {M : MM} {n m : Nat} {cnt : Nat → Bool} {mk : Nat → Nat → Nat} {s : Nat} {Q : Option Value → MM → Prop} (H : RefV M n m cnt mk) (hs : s < m) (kk : Q (some (.int (nI (wRanks n m cnt mk s)))) M) : Ca 157 [.ref 83, .int (nI s)] M Q := by
  obtain ⟨hn, hm, hn7, hm4, hc, hq, hb⟩ := H
  have hk : q_cd 157 = kd_X9_ranks := rfl
  show WP 157 0 [some (.ref 83), some (.int (nI s)), none, none, none, none] [] M Q
  have inner : ∀ j, j < n → cnt j = true → ∀ acc0, (∀ acc x5, acc = nI (acc0 + sumN (fun o => if o = s then 0 else pt (mk j s) (mk j o)) m) → WP 157 56 [some (.ref 83), some (.int (nI s)), some (.int acc), some (.int (nI j)), some (.int (nI m)), x5] [] M Q) →
      ∀ d o acc x5, o + d = m → acc = nI (acc0 + sumN (fun o => if o = s then 0 else pt (mk j s) (mk j o)) o) → WP 157 13 [some (.ref 83), some (.int (nI s)), some (.int acc), some (.int (nI j)), some (.int (nI o)), x5] [.int (M 83 2), .int (nI o)] M Q := by
    intro j hj hcj acc0 kx d
    induction d with
    | zero =>
      intro o acc x5 ho ha
      obtain rfl : o = m := by omega
      exact wp_icgeN hk rfl rfl hm (by first | omega | decide) (by first | omega | decide) (fun _ => kx _ _ ha) (fun h => absurd (Nat.le_refl o) h)
    | succ d ih =>
      intro o acc x5 ho ha
      refine wp_icgeN hk rfl rfl hm (by first | omega | decide) (by first | omega | decide) (fun h => absurd h (by omega)) (fun _ => ?_)
      repeat (first | refine wp_s hk rfl rfl ?_ | refine wp_goto hk rfl ?_ | refine wp_geti hk rfl rfl rfl rfl ?_ | refine wp_getr hk rfl rfl rfl rfl ?_)
      refine wp_bld hk rfl rfl rfl (by omega) ?_
      refine wp_ifeqB hk rfl (hc j (by omega)) (fun h => by rw [hcj] at h; cases h) (fun _ => ?_)
      repeat (first | refine wp_s hk rfl rfl ?_ | refine wp_goto hk rfl ?_ | refine wp_geti hk rfl rfl rfl rfl ?_ | refine wp_getr hk rfl rfl rfl rfl ?_)
      refine wp_ald (jx := 4 * j + s) hk rfl rfl (by simp only [q_nadd, q_nmul]) (by omega) ?_
      rw [hq j (by omega) s (by omega)]
      repeat (first | refine wp_s hk rfl rfl ?_ | refine wp_goto hk rfl ?_ | refine wp_geti hk rfl rfl rfl rfl ?_ | refine wp_getr hk rfl rfl rfl rfl ?_)
      refine wp_ald (jx := 4 * j + o) hk rfl rfl (by simp only [q_nadd, q_nmul]) (by omega) ?_
      rw [hq j (by omega) o (by omega)]
      have b1 := hb j (by omega) s (by omega)
      have b2 := hb j (by omega) o (by omega)
      have fin : ∀ z : Nat, z = (if o = s then 0 else pt (mk j s) (mk j o)) → ∀ x5, WP 157 52 [some (.ref 83), some (.int (nI s)), some (.int acc), some (.int (nI j)), some (.int (nI o)), x5] [.int (nI z), .int acc] M Q := by
        intro z hz x5
        repeat (first | refine wp_s hk rfl rfl ?_ | refine wp_goto hk rfl ?_ | refine wp_geti hk rfl rfl rfl rfl ?_ | refine wp_getr hk rfl rfl rfl rfl ?_)
        rw [q_nadd o 1]
        refine ih (o + 1) _ _ (by omega) ?_
        rw [ha, q_nadd, hz]
        simp only [sumN]
        rw [Nat.add_assoc]
      repeat (first | refine wp_s hk rfl rfl ?_ | refine wp_goto hk rfl ?_ | refine wp_geti hk rfl rfl rfl rfl ?_ | refine wp_getr hk rfl rfl rfl rfl ?_)
      refine wp_icneN hk rfl rfl rfl (by first | omega | decide) (by first | omega | decide) (fun h => ?_) (fun h => ?_)
      · repeat (first | refine wp_s hk rfl rfl ?_ | refine wp_goto hk rfl ?_ | refine wp_geti hk rfl rfl rfl rfl ?_ | refine wp_getr hk rfl rfl rfl rfl ?_)
        refine wp_ifleD hk rfl rfl (by first | omega | decide) (by first | omega | decide) (fun h1 => ?_) (fun h1 => ?_)
        · repeat (first | refine wp_s hk rfl rfl ?_ | refine wp_goto hk rfl ?_ | refine wp_geti hk rfl rfl rfl rfl ?_ | refine wp_getr hk rfl rfl rfl rfl ?_)
          refine wp_ifneD hk rfl rfl (by first | omega | decide) (by first | omega | decide) (fun h2 => ?_) (fun h2 => ?_)
          · refine wp_s hk rfl rfl ?_
            exact fin 0 (by simp only [pt]; split <;> (try split) <;> (try split) <;> omega) _
          · refine wp_s hk rfl rfl ?_
            refine wp_goto hk rfl ?_
            exact fin 1 (by simp only [pt]; split <;> (try split) <;> (try split) <;> omega) _
        · refine wp_s hk rfl rfl ?_
          refine wp_goto hk rfl ?_
          exact fin 2 (by simp only [pt]; split <;> (try split) <;> (try split) <;> omega) _
      · refine wp_s hk rfl rfl ?_
        refine wp_goto hk rfl ?_
        exact fin 0 (by rw [if_pos (by omega)]) _
  have outer : ∀ d j acc x4 x5, j + d = n → acc = nI (sumN (fun j => if cnt j then sumN (fun o => if o = s then 0 else pt (mk j s) (mk j o)) m else 0) j) → WP 157 7 [some (.ref 83), some (.int (nI s)), some (.int acc), some (.int (nI j)), x4, x5] [.int (M 83 1), .int (nI j)] M Q := by
    intro d
    induction d with
    | zero =>
      intro j acc x4 x5 hj ha
      refine wp_icgeN hk rfl rfl hn (by first | omega | decide) (by first | omega | decide) (fun _ => ?_) (fun h => absurd h (by omega))
      repeat (first | refine wp_s hk rfl rfl ?_ | refine wp_goto hk rfl ?_ | refine wp_geti hk rfl rfl rfl rfl ?_ | refine wp_getr hk rfl rfl rfl rfl ?_)
      refine wp_ir hk rfl rfl ?_
      rw [ha, show j = n by omega]
      exact kk
    | succ d ih =>
      intro j acc x4 x5 hj ha
      refine wp_icgeN hk rfl rfl hn (by first | omega | decide) (by first | omega | decide) (fun h => absurd h (by omega)) (fun _ => ?_)
      repeat (first | refine wp_s hk rfl rfl ?_ | refine wp_goto hk rfl ?_ | refine wp_geti hk rfl rfl rfl rfl ?_ | refine wp_getr hk rfl rfl rfl rfl ?_)
      have nextj : ∀ acc x4 x5, acc = nI (sumN (fun j => if cnt j then sumN (fun o => if o = s then 0 else pt (mk j s) (mk j o)) m else 0) (j + 1)) → WP 157 56 [some (.ref 83), some (.int (nI s)), some (.int acc), some (.int (nI j)), x4, x5] [] M Q := by
        intro acc x4 x5 ha
        repeat (first | refine wp_s hk rfl rfl ?_ | refine wp_goto hk rfl ?_ | refine wp_geti hk rfl rfl rfl rfl ?_ | refine wp_getr hk rfl rfl rfl rfl ?_)
        rw [q_nadd j 1]
        exact ih (j + 1) _ _ _ (by omega) ha
      cases hcj : cnt j with
      | true =>
        refine inner j (by omega) hcj _ (fun acc' x5 h' => nextj _ _ _ ?_) m 0 _ _ (by omega) ha
        rw [h']
        simp only [sumN, hcj, if_pos]
      | false =>
        refine wp_icgeN hk rfl rfl hm (by first | omega | decide) (by first | omega | decide) (fun h => ?_) (fun _ => ?_)
        · exact nextj _ _ _ (by rw [ha]; simp [sumN, hcj])
        · repeat (first | refine wp_s hk rfl rfl ?_ | refine wp_goto hk rfl ?_ | refine wp_geti hk rfl rfl rfl rfl ?_ | refine wp_getr hk rfl rfl rfl rfl ?_)
          refine wp_bld hk rfl rfl rfl (by omega) ?_
          refine wp_ifeqB hk rfl (hc j (by omega)) (fun h => ?_) (fun h => by rw [hcj] at h; cases h)
          exact nextj _ _ _ (by rw [ha]; simp [sumN, hcj])
  repeat (first | refine wp_s hk rfl rfl ?_ | refine wp_goto hk rfl ?_ | refine wp_geti hk rfl rfl rfl rfl ?_ | refine wp_getr hk rfl rfl rfl rfl ?_)
  exact outer n 0 _ _ _ (by omega) rfl
theorem insA_le {v c : Nat} (hv : v ≤ c) : ∀ {a : Nat} {row : Nat → Nat}, (∀ i, row i ≤ c) → ∀ i, insA row a v i ≤ c
  | 0, row, h, i => by simp only [insA, updN]; split <;> first | exact hv | exact h i
  | a + 1, row, h, i => by
    simp only [insA]
    split
    · exact insA_le hv (fun i => by simp only [updN]; split <;> exact h _) i
    · simp only [updN]; split <;> first | exact hv | exact h i
theorem srt_le {cnt : Nat → Bool} {col : Nat → Nat} {c : Nat} : ∀ {j : Nat}, (∀ i, i < j → col i ≤ c) → ∀ i, (srt cnt col j).1 i ≤ c
  | 0, _, i => Nat.zero_le _
  | j + 1, h, i => by
    simp only [srt]
    split
    · exact insA_le (h j (by omega)) (srt_le (fun i hi => h i (by omega))) i
    · exact srt_le (fun i hi => h i (by omega)) i
theorem srt_n {cnt : Nat → Bool} {col : Nat → Nat} : ∀ {j : Nat}, (srt cnt col j).2 ≤ j
  | 0 => Nat.le_refl _
  | j + 1 => by
    have := srt_n (cnt := cnt) (col := col) (j := j)
    simp only [srt]
    split <;> omega
theorem RefV.kp {M M' : MM} {n m : Nat} {cnt : Nat → Bool} {mk : Nat → Nat → Nat} {ids : List Nat} (H : RefV M n m cnt mk) (h : Kp M M' ids) (h1 : 83 ∉ ids) (h2 : 88 ∉ ids) (h3 : 89 ∉ ids) : RefV M' n m cnt mk := by
  unfold RefV
  rw [h 83 h1, h 88 h2, h 89 h3]
  exact H
/-- the sorted marks lie in the row -/
theorem m_sort {M : MM} {n m : Nat} {cnt : Nat → Bool} {mk : Nat → Nat → Nat} {s : Nat} {Q : Option Value → MM → Prop} (H : RefV M n m cnt mk) (hs : s < 4)
    (kk : ∀ M', Kp M M' [99] → (∀ i, i < (srt cnt (fun j => mk j s) n).2 → M' 99 i = nI ((srt cnt (fun j => mk j s) n).1 i)) → Q (some (.int (nI (srt cnt (fun j => mk j s) n).2))) M') : Ca 154 [.ref 83, .int (nI s)] M Q := by
  obtain ⟨hn, hm, hn7, hm4, hc, hq, hb⟩ := H
  have hk : q_cd 154 = kd_X9_sort := rfl
  show WP 154 0 [some (.ref 83), some (.int (nI s)), none, none, none] [] M Q
  have outer := q_dn (n := n) (P := fun j => ∀ M1 x4, Kp M M1 [99] → (∀ i, i < (srt cnt (fun j => mk j s) j).2 → M1 99 i = nI ((srt cnt (fun j => mk j s) j).1 i)) → WP 154 7 [some (.ref 83), some (.int (nI s)), some (.int (nI (srt cnt (fun j => mk j s) j).2)), some (.int (nI j)), x4] [.int (M1 83 1), .int (nI j)] M1 Q) (by
    intro M1 x4 hK hr
    refine wp_icgeN hk rfl rfl ((congrFun (hK 83 (by decide)) 1).trans hn) (by first | omega | decide) (by first | omega | decide) (fun _ => ?_) (fun h => absurd h (by omega))
    repeat (first | refine wp_s hk rfl rfl ?_ | refine wp_goto hk rfl ?_ | refine wp_geti hk rfl rfl rfl rfl ?_ | refine wp_getr hk rfl rfl rfl rfl ?_)
    exact wp_ir hk rfl rfl (kk M1 hK hr)) (by
    intro j hj ih M1 x4 hK hr
    refine wp_icgeN hk rfl rfl ((congrFun (hK 83 (by decide)) 1).trans hn) (by first | omega | decide) (by first | omega | decide) (fun h => absurd h (by omega)) (fun _ => ?_)
    repeat (first | refine wp_s hk rfl rfl ?_ | refine wp_goto hk rfl ?_ | refine wp_geti hk rfl rfl rfl rfl ?_ | refine wp_getr hk rfl rfl rfl rfl ?_)
    refine wp_bld (jx := j) hk rfl rfl rfl (by omega) ?_
    rw [hK 89 (by decide)]
    have hsn := srt_n (cnt := cnt) (col := fun j => mk j s) (j := j)
    have hsl := srt_le (cnt := cnt) (col := fun j => mk j s) (c := 5) (j := j) (fun i hi => hb i (by omega) s hs)
    refine wp_ifeqB hk rfl (hc j (by omega)) (fun h => ?_) (fun h => ?_)
    · repeat (first | refine wp_s hk rfl rfl ?_ | refine wp_goto hk rfl ?_ | refine wp_geti hk rfl rfl rfl rfl ?_ | refine wp_getr hk rfl rfl rfl rfl ?_)
      rw [q_nadd j 1]
      have e : srt cnt (fun j => mk j s) (j + 1) = srt cnt (fun j => mk j s) j := by simp only [srt, h]; rfl
      have := ih M1 x4 hK
      rw [e] at this
      exact this hr
    · have e : srt cnt (fun j => mk j s) (j + 1) = (insA (srt cnt (fun j => mk j s) j).1 (srt cnt (fun j => mk j s) j).2 (mk j s), (srt cnt (fun j => mk j s) j).2 + 1) := by simp only [srt, h, if_true]
      have ih' := ih
      rw [e] at ih'
      generalize hrow : (srt cnt (fun j => mk j s) j).1 = row at hr hsl ih'
      generalize hmany : (srt cnt (fun j => mk j s) j).2 = many at hr hsn ih'
      have hbj := hb j (by omega) s hs
      have inner : ∀ a row' M2, a ≤ many → Kp M M2 [99] → (∀ i, row' i ≤ 5) → (∀ i, i ≤ many → i ≠ a → M2 99 i = nI (row' i)) → insA row' a (mk j s) = insA row many (mk j s) → WP 154 16 [some (.ref 83), some (.int (nI s)), some (.int (nI many)), some (.int (nI j)), some (.int (nI a))] [.int (nI a)] M2 Q := by
        intro a
        have stop : ∀ a row' M2, a ≤ many → Kp M M2 [99] → (∀ i, i ≤ many → i ≠ a → M2 99 i = nI (row' i)) → updN row' a (mk j s) = insA row many (mk j s) → WP 154 44 [some (.ref 83), some (.int (nI s)), some (.int (nI many)), some (.int (nI j)), some (.int (nI a))] [] M2 Q := by
          intro a row' M2 ha hK2 hr2 he
          repeat (first | refine wp_s hk rfl rfl ?_ | refine wp_goto hk rfl ?_ | refine wp_geti hk rfl rfl rfl rfl ?_ | refine wp_getr hk rfl rfl rfl rfl ?_)
          refine wp_ald (jx := 4 * j + s) hk rfl rfl (by simp only [q_nadd, q_nmul]) (by omega) ?_
          rw [show M2 88 (4 * j + s) = nI (mk j s) by rw [hK2 88 (by decide)]; exact hq j (by omega) s hs]
          refine wp_ast (jx := a) hk rfl rfl rfl (by omega) ?_
          repeat (first | refine wp_s hk rfl rfl ?_ | refine wp_goto hk rfl ?_ | refine wp_geti hk rfl rfl rfl rfl ?_ | refine wp_getr hk rfl rfl rfl rfl ?_)
          rw [q_nadd many 1, q_nadd j 1]
          refine ih' _ _ (hK2.up (by decide)) (fun i hi => ?_)
          rw [q_up_at, ← he]
          by_cases e1 : i = a
          · subst e1; rw [upd_at]; simp only [updN, if_true]
          · rw [upd_ne _ _ e1, hr2 i (by omega) e1]; simp only [updN, if_neg e1]
        induction a with
        | zero =>
          intro row' M2 ha hK2 hl hr2 he
          refine wp_ifleN hk rfl rfl (by first | omega | decide) (fun _ => ?_) (fun h => absurd rfl h)
          exact stop 0 row' M2 ha hK2 hr2 he
        | succ a iha =>
          intro row' M2 ha hK2 hl hr2 he
          refine wp_ifleN hk rfl rfl (by first | omega | decide) (fun h => absurd h (by omega)) (fun _ => ?_)
          repeat (first | refine wp_s hk rfl rfl ?_ | refine wp_goto hk rfl ?_ | refine wp_geti hk rfl rfl rfl rfl ?_ | refine wp_getr hk rfl rfl rfl rfl ?_)
          rw [q_nsub (Nat.le_add_left 1 a), Nat.add_sub_cancel]
          refine wp_ald (jx := a) hk rfl rfl rfl (by omega) ?_
          repeat (first | refine wp_s hk rfl rfl ?_ | refine wp_goto hk rfl ?_ | refine wp_geti hk rfl rfl rfl rfl ?_ | refine wp_getr hk rfl rfl rfl rfl ?_)
          refine wp_ald (jx := 4 * j + s) hk rfl rfl (by simp only [q_nadd, q_nmul]) (by omega) ?_
          have b1 := hl a
          refine wp_icleN (u := row' a) (v := mk j s) hk rfl (hr2 a (by omega) (by omega)) (by rw [hK2 88 (by decide)]; exact hq j (by omega) s hs) (by omega) (by omega) (fun h => ?_) (fun h => ?_)
          · refine stop (a + 1) row' M2 ha hK2 hr2 ?_
            rw [← he]
            simp only [insA]
            rw [if_neg (by omega)]
          · repeat (first | refine wp_s hk rfl rfl ?_ | refine wp_goto hk rfl ?_ | refine wp_geti hk rfl rfl rfl rfl ?_ | refine wp_getr hk rfl rfl rfl rfl ?_)
            rw [q_nsub (Nat.le_add_left 1 a), Nat.add_sub_cancel]
            refine wp_ald (jx := a) hk rfl rfl rfl (by omega) ?_
            refine wp_ast (jx := a + 1) hk rfl rfl rfl (by omega) ?_
            repeat (first | refine wp_s hk rfl rfl ?_ | refine wp_goto hk rfl ?_ | refine wp_geti hk rfl rfl rfl rfl ?_ | refine wp_getr hk rfl rfl rfl rfl ?_)
            rw [q_dec a]
            refine iha (updN row' (a + 1) (row' a)) _ (by omega) (hK2.up (by decide)) (fun i => by simp only [updN]; split <;> exact hl _) (fun i hi hia => ?_) ?_
            · rw [q_up_at]
              by_cases e1 : i = a + 1
              · subst e1; rw [upd_at, hr2 a (by omega) (by omega)]; simp only [updN, if_true]
              · rw [upd_ne _ _ e1, hr2 i hi e1]; simp only [updN, if_neg e1]
            · rw [← he]
              simp only [insA]
              rw [if_pos (by omega)]
      repeat (first | refine wp_s hk rfl rfl ?_ | refine wp_goto hk rfl ?_ | refine wp_geti hk rfl rfl rfl rfl ?_ | refine wp_getr hk rfl rfl rfl rfl ?_)
      exact inner many row M1 (Nat.le_refl _) hK hsl (fun i hi hia => hr i (by omega)) rfl)
  repeat (first | refine wp_s hk rfl rfl ?_ | refine wp_goto hk rfl ?_ | refine wp_geti hk rfl rfl rfl rfl ?_ | refine wp_getr hk rfl rfl rfl rfl ?_)
  exact outer 0 (Nat.zero_le _) M _ (Kp.rf _ _) (fun i hi => absurd hi (Nat.not_lt_zero _))
end
section
theorem sumN_zero {f : Nat → Nat} : ∀ {n : Nat}, (∀ j, j < n → f j = 0) → sumN f n = 0
  | 0, _ => rfl
  | n + 1, h => by simp only [sumN, sumN_zero (n := n) (fun j hj => h j (by omega)), h n (by omega)]
theorem m_struck {M : MM} {n m : Nat} {cnt : Nat → Bool} {mk : Nat → Nat → Nat} {s k : Nat} {Q : Option Value → MM → Prop} (H : RefV M n m cnt mk) (hs : s < 4) (hk3 : k ≤ 3)
    (kk : ∀ M', Kp M M' [99] → Q (some (.int (nI (wStruck n cnt mk k s)))) M') : Ca 155 [.ref 83, .int (nI s), .int (nI k)] M Q := by
  have hn7 : n ≤ 7 := H.2.2.1
  have hk : q_cd 155 = kd_X9_struck := rfl
  show WP 155 0 [some (.ref 83), some (.int (nI s)), some (.int (nI k)), none, none, none] [] M Q
  repeat (first | refine wp_s hk rfl rfl ?_ | refine wp_goto hk rfl ?_ | refine wp_geti hk rfl rfl rfl rfl ?_ | refine wp_getr hk rfl rfl rfl rfl ?_)
  refine wp_callV hk rfl rfl rfl rfl rfl rfl ?_
  refine m_sort H hs (fun M1 hK hr => ?_)
  have hsn := srt_n (cnt := cnt) (col := fun j => mk j s) (j := n)
  have kk' := kk
  unfold wStruck at kk'
  generalize (srt cnt (fun j => mk j s) n).1 = row at hr kk'
  generalize (srt cnt (fun j => mk j s) n).2 = many at hr hsn kk'
  repeat (first | refine wp_s hk rfl rfl ?_ | refine wp_goto hk rfl ?_ | refine wp_geti hk rfl rfl rfl rfl ?_ | refine wp_getr hk rfl rfl rfl rfl ?_)
  by_cases hkm : k ≤ many
  · have loop := q_dn (n := many - k) (P := fun i => k ≤ i → WP 155 12 [some (.ref 83), some (.int (nI s)), some (.int (nI k)), some (.int (nI many)), some (.int (nI (sumN (fun i => if k ≤ i then row i else 0) i))), some (.int (nI i))] [.int (nI many - nI k), .int (nI i)] M1 Q) (by
      intro hi
      refine wp_icgeN hk rfl rfl (q_nsub hkm) (by first | omega | decide) (by first | omega | decide) (fun _ => ?_) (fun h => absurd h (by omega))
      repeat (first | refine wp_s hk rfl rfl ?_ | refine wp_goto hk rfl ?_ | refine wp_geti hk rfl rfl rfl rfl ?_ | refine wp_getr hk rfl rfl rfl rfl ?_)
      exact wp_ir hk rfl rfl (kk' M1 hK)) (by
      intro i hi ih hki
      refine wp_icgeN hk rfl rfl (q_nsub hkm) (by first | omega | decide) (by first | omega | decide) (fun h => absurd h (by omega)) (fun _ => ?_)
      repeat (first | refine wp_s hk rfl rfl ?_ | refine wp_goto hk rfl ?_ | refine wp_geti hk rfl rfl rfl rfl ?_ | refine wp_getr hk rfl rfl rfl rfl ?_)
      refine wp_ald (jx := i) hk rfl rfl rfl (by omega) ?_
      rw [hr i (by omega)]
      repeat (first | refine wp_s hk rfl rfl ?_ | refine wp_goto hk rfl ?_ | refine wp_geti hk rfl rfl rfl rfl ?_ | refine wp_getr hk rfl rfl rfl rfl ?_)
      rw [q_nadd, q_nadd i 1]
      have := ih (by omega)
      simp only [sumN, if_pos hki] at this
      exact this)
    by_cases hk2 : k ≤ many - k
    · have := loop k hk2 (Nat.le_refl _)
      rw [sumN_zero (fun j hj => by rw [if_neg (by omega)])] at this
      exact this
    · refine wp_icgeN hk rfl rfl (q_nsub hkm) (by first | omega | decide) (by first | omega | decide) (fun _ => ?_) (fun h => absurd h (by omega))
      repeat (first | refine wp_s hk rfl rfl ?_ | refine wp_goto hk rfl ?_ | refine wp_geti hk rfl rfl rfl rfl ?_ | refine wp_getr hk rfl rfl rfl rfl ?_)
      refine wp_ir hk rfl rfl ?_
      have := kk' M1 hK
      rw [sumN_zero (fun j hj => by rw [if_neg (by omega)])] at this
      exact this
  · refine wp_icge hk rfl (fun _ => ?_) (fun h => absurd ?_ h)
    · repeat (first | refine wp_s hk rfl rfl ?_ | refine wp_goto hk rfl ?_ | refine wp_geti hk rfl rfl rfl rfl ?_ | refine wp_getr hk rfl rfl rfl rfl ?_)
      refine wp_ir hk rfl rfl ?_
      have := kk' M1 hK
      rw [show many - k = 0 by omega] at this
      exact this
    · rw [Int32.le_iff_toInt_le, q_dInt (by omega) (by omega), q_toInt (by omega)]; omega
theorem m_middle {M : MM} {n m : Nat} {cnt : Nat → Bool} {mk : Nat → Nat → Nat} {s : Nat} {Q : Option Value → MM → Prop} (H : RefV M n m cnt mk) (hs : s < 4)
    (kk : ∀ M', Kp M M' [99] → Q (some (.int (nI (wMid n cnt mk s)))) M') : Ca 156 [.ref 83, .int (nI s)] M Q := by
  have hn7 : n ≤ 7 := H.2.2.1
  have hk : q_cd 156 = kd_X9_middle := rfl
  show WP 156 0 [some (.ref 83), some (.int (nI s)), none] [] M Q
  repeat (first | refine wp_s hk rfl rfl ?_ | refine wp_goto hk rfl ?_ | refine wp_geti hk rfl rfl rfl rfl ?_ | refine wp_getr hk rfl rfl rfl rfl ?_)
  refine wp_callV hk rfl rfl rfl rfl rfl rfl ?_
  refine m_sort H hs (fun M1 hK hr => ?_)
  have hsn := srt_n (cnt := cnt) (col := fun j => mk j s) (j := n)
  have kk' := kk
  unfold wMid at kk'
  generalize (srt cnt (fun j => mk j s) n).1 = row at hr kk'
  generalize (srt cnt (fun j => mk j s) n).2 = many at hr hsn kk'
  repeat (first | refine wp_s hk rfl rfl ?_ | refine wp_goto hk rfl ?_ | refine wp_geti hk rfl rfl rfl rfl ?_ | refine wp_getr hk rfl rfl rfl rfl ?_)
  refine wp_ifneN hk rfl rfl (by omega) (fun h => ?_) (fun h => ?_)
  · repeat (first | refine wp_s hk rfl rfl ?_ | refine wp_goto hk rfl ?_ | refine wp_geti hk rfl rfl rfl rfl ?_ | refine wp_getr hk rfl rfl rfl rfl ?_)
    rw [q_nsub (show 1 ≤ many by omega)]
    refine wp_div hk rfl (by decide) ?_
    rw [q_ndiv (b := 2) (by omega) (by omega) (by omega)]
    refine wp_ald (jx := (many - 1) / 2) hk rfl rfl rfl (by omega) ?_
    rw [hr _ (by omega)]
    repeat (first | refine wp_s hk rfl rfl ?_ | refine wp_goto hk rfl ?_ | refine wp_geti hk rfl rfl rfl rfl ?_ | refine wp_getr hk rfl rfl rfl rfl ?_)
    refine wp_div hk rfl (by decide) ?_
    rw [q_ndiv (b := 2) (by omega) (by omega) (by omega)]
    refine wp_ald (jx := many / 2) hk rfl rfl rfl (by omega) ?_
    rw [hr _ (by omega)]
    repeat (first | refine wp_s hk rfl rfl ?_ | refine wp_goto hk rfl ?_ | refine wp_geti hk rfl rfl rfl rfl ?_ | refine wp_getr hk rfl rfl rfl rfl ?_)
    rw [q_nadd]
    refine wp_ir hk rfl rfl ?_
    have := kk' M1 hK
    rw [if_neg h] at this
    exact this
  · repeat (first | refine wp_s hk rfl rfl ?_ | refine wp_goto hk rfl ?_ | refine wp_geti hk rfl rfl rfl rfl ?_ | refine wp_getr hk rfl rfl rfl rfl ?_)
    refine wp_ir hk rfl rfl ?_
    have := kk' M1 hK
    rw [if_pos (by omega)] at this
    exact this
theorem q_up1 (a b : Nat) : nI a - nI b + nI 1 = nI (a + 1) - nI b := by rw [← q_nadd]; grind
theorem q_dn1 (a b : Nat) : nI a - nI b + Int32.ofInt (.negSucc 0) = nI a - nI (b + 1) := by
  rw [← q_nadd, show Int32.ofInt (.negSucc 0) = -1 by decide, show nI 1 = 1 by decide]; grind
theorem m_pairs {M : MM} {n m : Nat} {cnt : Nat → Bool} {mk : Nat → Nat → Nat} {s : Nat} {Q : Option Value → MM → Prop} (H : RefV M n m cnt mk) (hs : s < m) (kk : Q (some (.int (nI (wPairs n m cnt mk s)))) M) : Ca 158 [.ref 83, .int (nI s)] M Q := by
  obtain ⟨hn, hm, hn7, hm4, hc, hq, hb⟩ := H
  have hk : q_cd 158 = kd_X9_pairs := rfl
  show WP 158 0 [some (.ref 83), some (.int (nI s)), none, none, none, none, none] [] M Q
  have outer := q_dn (n := m) (P := fun o => ∀ x4 x5 x6, WP 158 7 [some (.ref 83), some (.int (nI s)), some (.int (nI (sumN (fun o => if o = s then 0 else pt (wMore n cnt mk s o) (wMore n cnt mk o s)) o))), some (.int (nI o)), x4, x5, x6] [.int (M 83 2), .int (nI o)] M Q) (by
    intro x4 x5 x6
    refine wp_icgeN hk rfl rfl hm (by first | omega | decide) (by first | omega | decide) (fun _ => ?_) (fun h => absurd h (by omega))
    repeat (first | refine wp_s hk rfl rfl ?_ | refine wp_goto hk rfl ?_ | refine wp_geti hk rfl rfl rfl rfl ?_ | refine wp_getr hk rfl rfl rfl rfl ?_)
    exact wp_ir hk rfl rfl kk) (by
    intro o ho ih x4 x5 x6
    refine wp_icgeN hk rfl rfl hm (by first | omega | decide) (by first | omega | decide) (fun h => absurd h (by omega)) (fun _ => ?_)
    repeat (first | refine wp_s hk rfl rfl ?_ | refine wp_goto hk rfl ?_ | refine wp_geti hk rfl rfl rfl rfl ?_ | refine wp_getr hk rfl rfl rfl rfl ?_)
    have inner := q_dn (n := n) (P := fun j => ∀ x6, WP 158 15 [some (.ref 83), some (.int (nI s)), some (.int (nI (sumN (fun o => if o = s then 0 else pt (wMore n cnt mk s o) (wMore n cnt mk o s)) o))), some (.int (nI o)), some (.int (nI (wMore j cnt mk s o) - nI (wMore j cnt mk o s))), some (.int (nI j)), x6] [.int (M 83 1), .int (nI j)] M Q) (by
      intro x6
      refine wp_icgeN hk rfl rfl hn (by first | omega | decide) (by first | omega | decide) (fun _ => ?_) (fun h => absurd h (by omega))
      have fin : ∀ z : Nat, z = (if o = s then 0 else pt (wMore n cnt mk s o) (wMore n cnt mk o s)) → WP 158 70 [some (.ref 83), some (.int (nI s)), some (.int (nI (sumN (fun o => if o = s then 0 else pt (wMore n cnt mk s o) (wMore n cnt mk o s)) o))), some (.int (nI o)), some (.int (nI (wMore n cnt mk s o) - nI (wMore n cnt mk o s))), some (.int (nI n)), x6] [.int (nI z), .int (nI (sumN (fun o => if o = s then 0 else pt (wMore n cnt mk s o) (wMore n cnt mk o s)) o))] M Q := by
        intro z hz
        repeat (first | refine wp_s hk rfl rfl ?_ | refine wp_goto hk rfl ?_ | refine wp_geti hk rfl rfl rfl rfl ?_ | refine wp_getr hk rfl rfl rfl rfl ?_)
        rw [q_nadd, q_nadd o 1, hz]
        exact ih _ _ _
      have l1 : wMore n cnt mk s o ≤ n * 1 := sumN_le (fun j hj => by split <;> omega)
      have l2 : wMore n cnt mk o s ≤ n * 1 := sumN_le (fun j hj => by split <;> omega)
      generalize wMore n cnt mk s o = p1 at l1 fin ⊢
      generalize wMore n cnt mk o s = p2 at l2 fin ⊢
      repeat (first | refine wp_s hk rfl rfl ?_ | refine wp_goto hk rfl ?_ | refine wp_geti hk rfl rfl rfl rfl ?_ | refine wp_getr hk rfl rfl rfl rfl ?_)
      refine wp_icneN hk rfl rfl rfl (by first | omega | decide) (by first | omega | decide) (fun h => ?_) (fun h => ?_)
      · repeat (first | refine wp_s hk rfl rfl ?_ | refine wp_goto hk rfl ?_ | refine wp_geti hk rfl rfl rfl rfl ?_ | refine wp_getr hk rfl rfl rfl rfl ?_)
        refine wp_ifleD hk rfl rfl (by omega) (by omega) (fun h1 => ?_) (fun h1 => ?_)
        · repeat (first | refine wp_s hk rfl rfl ?_ | refine wp_goto hk rfl ?_ | refine wp_geti hk rfl rfl rfl rfl ?_ | refine wp_getr hk rfl rfl rfl rfl ?_)
          refine wp_ifneD hk rfl rfl (by omega) (by omega) (fun h2 => ?_) (fun h2 => ?_)
          · refine wp_s hk rfl rfl ?_
            exact fin 0 (by simp only [pt]; split <;> (try split) <;> (try split) <;> omega)
          · refine wp_s hk rfl rfl ?_
            refine wp_goto hk rfl ?_
            exact fin 1 (by simp only [pt]; split <;> (try split) <;> (try split) <;> omega)
        · refine wp_s hk rfl rfl ?_
          refine wp_goto hk rfl ?_
          exact fin 2 (by simp only [pt]; split <;> (try split) <;> (try split) <;> omega)
      · refine wp_s hk rfl rfl ?_
        refine wp_goto hk rfl ?_
        exact fin 0 (by rw [if_pos (by omega)])) (by
      intro j hj ihj x6
      refine wp_icgeN hk rfl rfl hn (by first | omega | decide) (by first | omega | decide) (fun h => absurd h (by omega)) (fun _ => ?_)
      repeat (first | refine wp_s hk rfl rfl ?_ | refine wp_goto hk rfl ?_ | refine wp_geti hk rfl rfl rfl rfl ?_ | refine wp_getr hk rfl rfl rfl rfl ?_)
      refine wp_ald (jx := 4 * j + s) hk rfl rfl (by simp only [q_nadd, q_nmul]) (by omega) ?_
      rw [hq j (by omega) s (by omega)]
      repeat (first | refine wp_s hk rfl rfl ?_ | refine wp_goto hk rfl ?_ | refine wp_geti hk rfl rfl rfl rfl ?_ | refine wp_getr hk rfl rfl rfl rfl ?_)
      refine wp_ald (jx := 4 * j + o) hk rfl rfl (by simp only [q_nadd, q_nmul]) (by omega) ?_
      rw [hq j (by omega) o (by omega)]
      have b1 := hb j (by omega) s (by omega)
      have b2 := hb j (by omega) o (by omega)
      repeat (first | refine wp_s hk rfl rfl ?_ | refine wp_goto hk rfl ?_ | refine wp_geti hk rfl rfl rfl rfl ?_ | refine wp_getr hk rfl rfl rfl rfl ?_)
      refine wp_bld (jx := j) hk rfl rfl rfl (by omega) ?_
      have e1 : wMore (j + 1) cnt mk s o = wMore j cnt mk s o + (if cnt j = true ∧ mk j o < mk j s then 1 else 0) := rfl
      have e2 : wMore (j + 1) cnt mk o s = wMore j cnt mk o s + (if cnt j = true ∧ mk j s < mk j o then 1 else 0) := rfl
      rw [e1, e2] at ihj
      refine wp_ifneB hk rfl (hc j (by omega)) (fun h => ?_) (fun h => ?_)
      · simp only [h, true_and] at ihj
        repeat (first | refine wp_s hk rfl rfl ?_ | refine wp_goto hk rfl ?_ | refine wp_geti hk rfl rfl rfl rfl ?_ | refine wp_getr hk rfl rfl rfl rfl ?_)
        refine wp_ifleD hk rfl rfl (by omega) (by omega) (fun h1 => ?_) (fun h1 => ?_)
        · repeat (first | refine wp_s hk rfl rfl ?_ | refine wp_goto hk rfl ?_ | refine wp_geti hk rfl rfl rfl rfl ?_ | refine wp_getr hk rfl rfl rfl rfl ?_)
          refine wp_ifgeD hk rfl rfl (by omega) (by omega) (fun h2 => ?_) (fun h2 => ?_)
          · rw [if_neg (by omega), if_neg (by omega)] at ihj
            repeat (first | refine wp_s hk rfl rfl ?_ | refine wp_goto hk rfl ?_ | refine wp_geti hk rfl rfl rfl rfl ?_ | refine wp_getr hk rfl rfl rfl rfl ?_)
            rw [q_nadd j 1, nI_0, Int32.add_zero]
            exact ihj _
          · rw [if_neg (by omega), if_pos (by omega)] at ihj
            repeat (first | refine wp_s hk rfl rfl ?_ | refine wp_goto hk rfl ?_ | refine wp_geti hk rfl rfl rfl rfl ?_ | refine wp_getr hk rfl rfl rfl rfl ?_)
            rw [q_nadd j 1, q_dn1]
            exact ihj _
        · rw [if_pos (by omega), if_neg (by omega)] at ihj
          repeat (first | refine wp_s hk rfl rfl ?_ | refine wp_goto hk rfl ?_ | refine wp_geti hk rfl rfl rfl rfl ?_ | refine wp_getr hk rfl rfl rfl rfl ?_)
          rw [q_nadd j 1, q_up1]
          exact ihj _
      · simp only [h, Bool.false_eq_true, false_and, if_false] at ihj
        repeat (first | refine wp_s hk rfl rfl ?_ | refine wp_goto hk rfl ?_ | refine wp_geti hk rfl rfl rfl rfl ?_ | refine wp_getr hk rfl rfl rfl rfl ?_)
        rw [q_nadd j 1, nI_0, Int32.add_zero]
        exact ihj _)
    have e0 : nI (wMore 0 cnt mk s o) - nI (wMore 0 cnt mk o s) = nI 0 := by show nI 0 - nI 0 = nI 0; decide
    have hin := inner 0 (Nat.zero_le _) x6
    rw [e0] at hin
    exact hin)
  repeat (first | refine wp_s hk rfl rfl ?_ | refine wp_goto hk rfl ?_ | refine wp_geti hk rfl rfl rfl rfl ?_ | refine wp_getr hk rfl rfl rfl rfl ?_)
  exact outer 0 (Nat.zero_le _) _ _ _
theorem m_weighed {M : MM} {n m : Nat} {cnt : Nat → Bool} {mk : Nat → Nat → Nat} {s at_ : Nat} {fig : Nat → Nat} {Q : Option Value → MM → Prop} (H : RefV M n m cnt mk) (hs : s < 4) (ha : at_ < 12) (hf : ∀ j, j < 7 → M 97 (7 * at_ + j) = nI (fig j)) (kk : Q (some (.int (nI (wWei n cnt mk fig s)))) M) : Ca 159 [.ref 83, .int (nI s), .int (nI at_)] M Q := by
  obtain ⟨hn, hm, hn7, hm4, hc, hq, hb⟩ := H
  have hk : q_cd 159 = kd_X9_weighed := rfl
  show WP 159 0 [some (.ref 83), some (.int (nI s)), some (.int (nI at_)), none, none] [] M Q
  have outer := q_dn (n := n) (P := fun j => WP 159 7 [some (.ref 83), some (.int (nI s)), some (.int (nI at_)), some (.int (nI (wWei j cnt mk fig s))), some (.int (nI j))] [.int (M 83 1), .int (nI j)] M Q) (by
    refine wp_icgeN hk rfl rfl hn (by first | omega | decide) (by first | omega | decide) (fun _ => ?_) (fun h => absurd h (by omega))
    repeat (first | refine wp_s hk rfl rfl ?_ | refine wp_goto hk rfl ?_ | refine wp_geti hk rfl rfl rfl rfl ?_ | refine wp_getr hk rfl rfl rfl rfl ?_)
    exact wp_ir hk rfl rfl kk) (by
    intro j hj ih
    refine wp_icgeN hk rfl rfl hn (by first | omega | decide) (by first | omega | decide) (fun h => absurd h (by omega)) (fun _ => ?_)
    repeat (first | refine wp_s hk rfl rfl ?_ | refine wp_goto hk rfl ?_ | refine wp_geti hk rfl rfl rfl rfl ?_ | refine wp_getr hk rfl rfl rfl rfl ?_)
    refine wp_bld (jx := j) hk rfl rfl rfl (by omega) ?_
    have e1 : wWei (j + 1) cnt mk fig s = wWei j cnt mk fig s + (if cnt j = true then mk j s * fig j else 0) := rfl
    rw [e1] at ih
    refine wp_ifeqB hk rfl (hc j (by omega)) (fun h => ?_) (fun h => ?_)
    · rw [if_neg (by rw [h]; exact Bool.false_ne_true)] at ih
      repeat (first | refine wp_s hk rfl rfl ?_ | refine wp_goto hk rfl ?_ | refine wp_geti hk rfl rfl rfl rfl ?_ | refine wp_getr hk rfl rfl rfl rfl ?_)
      rw [q_nadd j 1, q_nadd]
      exact ih
    · rw [if_pos h] at ih
      repeat (first | refine wp_s hk rfl rfl ?_ | refine wp_goto hk rfl ?_ | refine wp_geti hk rfl rfl rfl rfl ?_ | refine wp_getr hk rfl rfl rfl rfl ?_)
      refine wp_ald (jx := 4 * j + s) hk rfl rfl (by simp only [q_nadd, q_nmul]) (by omega) ?_
      rw [hq j (by omega) s (by omega)]
      repeat (first | refine wp_s hk rfl rfl ?_ | refine wp_goto hk rfl ?_ | refine wp_geti hk rfl rfl rfl rfl ?_ | refine wp_getr hk rfl rfl rfl rfl ?_)
      refine wp_ald (jx := 7 * at_ + j) hk rfl rfl (by simp only [q_nadd, q_nmul]) (by omega) ?_
      rw [hf j (by omega)]
      repeat (first | refine wp_s hk rfl rfl ?_ | refine wp_goto hk rfl ?_ | refine wp_geti hk rfl rfl rfl rfl ?_ | refine wp_getr hk rfl rfl rfl rfl ?_)
      rw [q_nmul, q_nadd j 1, q_nadd]
      exact ih)
  repeat (first | refine wp_s hk rfl rfl ?_ | refine wp_goto hk rfl ?_ | refine wp_geti hk rfl rfl rfl rfl ?_ | refine wp_getr hk rfl rfl rfl rfl ?_)
  exact outer 0 (Nat.zero_le _)
end
section
theorem pt_le (a b : Nat) : pt a b ≤ 2 := by simp only [pt]; split <;> (try split) <;> omega
theorem worth_le {n m : Nat} {cnt : Nat → Bool} {mk : Nat → Nat → Nat} {R : Ru} {i s : Nat} (hn : n ≤ 7) (hm : m ≤ 4) (hs : s < 4) (hb : ∀ j, j < 7 → ∀ s, s < 4 → mk j s ≤ 5) (hR : RuOK R) (hi : i < R.1) : worthW n m cnt mk R i s ≤ 400 := by
  have hk4 := hR.2.2.1 i hi
  have hw := hR.2.2.2.2 i hi
  unfold worthW
  split
  · have := sumN_le (f := fun i_1 => if R.2.2.1 i ≤ i_1 then (srt cnt (fun j => mk j s) n).1 i_1 else 0) (c := 5) (n := (srt cnt (fun j => mk j s) n).2 - R.2.2.1 i) (fun j _ => by
      have := srt_le (cnt := cnt) (col := fun j => mk j s) (c := 5) (j := n) (fun i hi => hb i (by omega) s hs) j
      split <;> omega)
    have h2 := srt_n (cnt := cnt) (col := fun j => mk j s) (j := n)
    unfold wStruck
    omega
  · have h := srt_le (cnt := cnt) (col := fun j => mk j s) (c := 5) (j := n) (fun i hi => hb i (by omega) s hs)
    unfold wMid
    split
    · omega
    · have h1 := h (((srt cnt (fun j => mk j s) n).2 - 1) / 2)
      have h2 := h ((srt cnt (fun j => mk j s) n).2 / 2)
      omega
  · have := sumN_le (f := fun j => if cnt j then sumN (fun o => if o = s then 0 else pt (mk j s) (mk j o)) m else 0) (c := 8) (n := n) (fun j _ => by
      have := sumN_le (f := fun o => if o = s then 0 else pt (mk j s) (mk j o)) (c := 2) (n := m) (fun o _ => by
        have := pt_le (mk j s) (mk j o); split <;> omega)
      split <;> omega)
    unfold wRanks
    omega
  · have := sumN_le (f := fun o => if o = s then 0 else pt (wMore n cnt mk s o) (wMore n cnt mk o s)) (c := 2) (n := m) (fun o _ => by
      have := pt_le (wMore n cnt mk s o) (wMore n cnt mk o s); split <;> omega)
    unfold wPairs
    omega
  · rename_i h0 h1 h2 h3
    have hk : R.2.1 i = 4 := by
      rcases Nat.lt_or_ge (R.2.1 i) 4 with z | z
      · generalize R.2.1 i = q at *
        match q, z with
        | 0, _ => exact absurd rfl h0
        | 1, _ => exact absurd rfl h1
        | 2, _ => exact absurd rfl h2
        | 3, _ => exact absurd rfl h3
      · omega
    have := sumN_le (f := fun j => if cnt j then mk j s * R.2.2.2 i j else 0) (c := 45) (n := n) (fun j hj => by
      have b1 := hb j (by omega) s hs
      have b2 := hw hk j (by omega)
      split
      · exact Nat.mul_le_mul b1 b2
      · omega)
    unfold wWei
    omega
theorem m_worthOf {M : MM} {n m : Nat} {cnt : Nat → Bool} {mk : Nat → Nat → Nat} {R : Ru} {r i s : Nat} {Q : Option Value → MM → Prop} (H : RefV M n m cnt mk) (hr : r ≤ 3) (hR : RefRu M r R) (hO : RuOK R) (hi : i < R.1) (hs : s < m)
    (kk : ∀ M', Kp M M' [99] → Q (some (.int (nI (worthW n m cnt mk R i s)))) M') : Ca 160 [.ref 83, .int (nI r), .int (nI i), .int (nI s)] M Q := by
  have hm4 : m ≤ 4 := H.2.2.2.1
  have hk4 := hO.2.2.1 i hi
  have hi3 : i < 3 := by have := hO.2.1; omega
  obtain ⟨h1, h2, h3, h4⟩ := hR
  have hk : q_cd 160 = kd_X9_worthOf := rfl
  show WP 160 0 [some (.ref 83), some (.int (nI r)), some (.int (nI i)), some (.int (nI s)), none] [] M Q
  repeat (first | refine wp_s hk rfl rfl ?_ | refine wp_goto hk rfl ?_ | refine wp_geti hk rfl rfl rfl rfl ?_ | refine wp_getr hk rfl rfl rfl rfl ?_)
  rw [q_nmul, q_nadd]
  refine wp_ald (jx := 3 * r + i) hk rfl rfl rfl (by omega) ?_
  rw [h2 i hi]
  have hst := h3 i hi
  have hfg := h4 i hi
  have hos := hO.2.2.2.1 i hi
  unfold worthW at kk
  generalize R.2.1 i = kd at *
  match kd, hk4 with
  | 0, _ =>
    refine wp_tab hk rfl rfl rfl ?_
    repeat (first | refine wp_s hk rfl rfl ?_ | refine wp_goto hk rfl ?_ | refine wp_geti hk rfl rfl rfl rfl ?_ | refine wp_getr hk rfl rfl rfl rfl ?_)
    refine wp_ald (jx := 3 * r + i) hk rfl rfl rfl (by omega) ?_
    rw [hst rfl]
    refine wp_callV hk rfl rfl rfl rfl rfl rfl ?_
    refine m_struck H (by omega) (hos rfl) (fun M' hM => ?_)
    exact wp_ir hk rfl rfl (kk M' hM)
  | 1, _ =>
    refine wp_tab hk rfl rfl rfl ?_
    repeat (first | refine wp_s hk rfl rfl ?_ | refine wp_goto hk rfl ?_ | refine wp_geti hk rfl rfl rfl rfl ?_ | refine wp_getr hk rfl rfl rfl rfl ?_)
    refine wp_callV hk rfl rfl rfl rfl rfl rfl ?_
    refine m_middle H (by omega) (fun M' hM => ?_)
    exact wp_ir hk rfl rfl (kk M' hM)
  | 2, _ =>
    refine wp_tab hk rfl rfl rfl ?_
    repeat (first | refine wp_s hk rfl rfl ?_ | refine wp_goto hk rfl ?_ | refine wp_geti hk rfl rfl rfl rfl ?_ | refine wp_getr hk rfl rfl rfl rfl ?_)
    refine wp_callV hk rfl rfl rfl rfl rfl rfl ?_
    refine m_ranks H hs ?_
    exact wp_ir hk rfl rfl (kk M (Kp.rf _ _))
  | 3, _ =>
    refine wp_tab hk rfl rfl rfl ?_
    repeat (first | refine wp_s hk rfl rfl ?_ | refine wp_goto hk rfl ?_ | refine wp_geti hk rfl rfl rfl rfl ?_ | refine wp_getr hk rfl rfl rfl rfl ?_)
    refine wp_callV hk rfl rfl rfl rfl rfl rfl ?_
    refine m_pairs H hs ?_
    exact wp_ir hk rfl rfl (kk M (Kp.rf _ _))
  | 4, _ =>
    refine wp_tab hk rfl rfl rfl ?_
    repeat (first | refine wp_s hk rfl rfl ?_ | refine wp_goto hk rfl ?_ | refine wp_geti hk rfl rfl rfl rfl ?_ | refine wp_getr hk rfl rfl rfl rfl ?_)
    refine wp_callV hk rfl rfl rfl rfl rfl rfl ?_
    refine m_weighed (at_ := 3 * r + i) (fig := R.2.2.2 i) H (by omega) (by omega) (fun j hj => ?_) ?_
    · rw [show 7 * (3 * r + i) + j = 21 * r + 7 * i + j by omega]; exact hfg rfl j hj
    · exact wp_ir hk rfl rfl (kk M (Kp.rf _ _))
/-- the worths lie in their row -/
def RefW (M : MM) (r parts m : Nat) (w : Nat → Nat → Nat) : Prop := M 94 r = nI parts ∧ M 83 2 = nI m ∧ parts ≤ 3 ∧ m ≤ 4 ∧ (∀ i, i < parts → ∀ s, s < m → M 98 (4 * i + s) = nI (w i s)) ∧ ∀ i, i < parts → ∀ s, s < m → w i s ≤ 400
theorem RefRu.kp {M M' : MM} {r : Nat} {R : Ru} {ids : List Nat} (H : RefRu M r R) (h : Kp M M' ids) (h1 : 94 ∉ ids) (h2 : 95 ∉ ids) (h3 : 96 ∉ ids) (h4 : 97 ∉ ids) : RefRu M' r R := by
  unfold RefRu
  rw [h 94 h1, h 95 h2, h 96 h3, h 97 h4]
  exact H
theorem m_lay {M : MM} {n m : Nat} {cnt : Nat → Bool} {mk : Nat → Nat → Nat} {R : Ru} {r : Nat} {Q : Option Value → MM → Prop} (H : RefV M n m cnt mk) (hr : r ≤ 3) (hR : RefRu M r R) (hO : RuOK R)
    (kk : ∀ M', Kp M M' [98, 99] → RefW M' r R.1 m (worthW n m cnt mk R) → Q none M') : Ca 161 [.ref 83, .int (nI r)] M Q := by
  have hm := H.2.1
  have hn7 := H.2.2.1
  have hm4 := H.2.2.2.1
  have hb := H.2.2.2.2.2.2
  have hp := hR.1
  have hp3 := hO.2.1
  have hk : q_cd 161 = kd_X9_lay := rfl
  show WP 161 0 [some (.ref 83), some (.int (nI r)), none, none] [] M Q
  have outer := q_dn (n := R.1) (P := fun i => ∀ M1 x3, Kp M M1 [98, 99] → (∀ i', i' < i → ∀ s, s < m → M1 98 (4 * i' + s) = nI (worthW n m cnt mk R i' s)) → WP 161 7 [some (.ref 83), some (.int (nI r)), some (.int (nI i)), x3] [.int (M1 94 r), .int (nI i)] M1 Q) (by
    intro M1 x3 hK hw
    refine wp_icgeN hk rfl rfl ((congrFun (hK 94 (by decide)) r).trans hp) (by first | omega | decide) (by first | omega | decide) (fun _ => ?_) (fun h => absurd h (by omega))
    exact wp_vr hk rfl (kk M1 hK ⟨(congrFun (hK 94 (by decide)) r).trans hp, (congrFun (hK 83 (by decide)) 2).trans hm, hp3, hm4, hw, fun i hi s hs => worth_le hn7 hm4 (by omega) hb hO hi⟩)) (by
    intro i hi ih M1 x3 hK hw
    refine wp_icgeN hk rfl rfl ((congrFun (hK 94 (by decide)) r).trans hp) (by first | omega | decide) (by first | omega | decide) (fun h => absurd h (by omega)) (fun _ => ?_)
    repeat (first | refine wp_s hk rfl rfl ?_ | refine wp_goto hk rfl ?_ | refine wp_geti hk rfl rfl rfl rfl ?_ | refine wp_getr hk rfl rfl rfl rfl ?_)
    have inner := q_dn (n := m) (P := fun s => ∀ M2, Kp M M2 [98, 99] → (∀ i', i' < i → ∀ s, s < m → M2 98 (4 * i' + s) = nI (worthW n m cnt mk R i' s)) → (∀ s', s' < s → M2 98 (4 * i + s') = nI (worthW n m cnt mk R i s')) → WP 161 13 [some (.ref 83), some (.int (nI r)), some (.int (nI i)), some (.int (nI s))] [.int (M2 83 2), .int (nI s)] M2 Q) (by
      intro M2 hK2 hw2 hw3
      refine wp_icgeN hk rfl rfl ((congrFun (hK2 83 (by decide)) 2).trans hm) (by first | omega | decide) (by first | omega | decide) (fun _ => ?_) (fun h => absurd h (by omega))
      repeat (first | refine wp_s hk rfl rfl ?_ | refine wp_goto hk rfl ?_ | refine wp_geti hk rfl rfl rfl rfl ?_ | refine wp_getr hk rfl rfl rfl rfl ?_)
      rw [q_nadd i 1]
      refine wp_ald (jx := r) hk rfl rfl rfl (by omega) ?_
      refine ih M2 _ hK2 (fun i' hi' s hs => ?_)
      by_cases e : i' = i
      · subst e; exact hw3 s hs
      · exact hw2 i' (by omega) s hs) (by
      intro s hs ihs M2 hK2 hw2 hw3
      refine wp_icgeN hk rfl rfl ((congrFun (hK2 83 (by decide)) 2).trans hm) (by first | omega | decide) (by first | omega | decide) (fun h => absurd h (by omega)) (fun _ => ?_)
      repeat (first | refine wp_s hk rfl rfl ?_ | refine wp_goto hk rfl ?_ | refine wp_geti hk rfl rfl rfl rfl ?_ | refine wp_getr hk rfl rfl rfl rfl ?_)
      refine wp_callV hk rfl rfl rfl rfl rfl rfl ?_
      refine m_worthOf (H.kp hK2 (by decide) (by decide) (by decide)) hr (hR.kp hK2 (by decide) (by decide) (by decide) (by decide)) hO hi hs (fun M3 hK3 => ?_)
      refine wp_ast (jx := 4 * i + s) hk rfl rfl (by simp only [q_nadd, q_nmul]) (by omega) ?_
      repeat (first | refine wp_s hk rfl rfl ?_ | refine wp_goto hk rfl ?_ | refine wp_geti hk rfl rfl rfl rfl ?_ | refine wp_getr hk rfl rfl rfl rfl ?_)
      rw [q_nadd s 1]
      have h98 : M3 98 = M2 98 := hK3 98 (by decide)
      refine ihs _ ((hK2.tr (hK3.mono (by decide))).up (by decide)) (fun i' hi' s' hs' => ?_) (fun s' hs' => ?_)
      · rw [q_up_at, upd_ne _ _ (by omega), h98]; exact hw2 i' hi' s' hs'
      · rw [q_up_at]
        by_cases e : s' = s
        · subst e; rw [upd_at]
        · rw [upd_ne _ _ (by omega), h98]; exact hw3 s' (by omega))
    exact inner 0 (Nat.zero_le _) M1 hK hw (fun s' hs' => absurd hs' (Nat.not_lt_zero _)))
  repeat (first | refine wp_s hk rfl rfl ?_ | refine wp_goto hk rfl ?_ | refine wp_geti hk rfl rfl rfl rfl ?_ | refine wp_getr hk rfl rfl rfl rfl ?_)
  refine wp_ald (jx := r) hk rfl rfl rfl (by omega) ?_
  exact outer 0 (Nat.zero_le _) M _ (Kp.rf _ _) (fun i' hi' => absurd hi' (Nat.not_lt_zero _))
/-- the sign of two skaters -/
def sgW (a b : Bool) : Int32 := if a then nI 1 else if b then Int32.ofInt (.negSucc 0) else nI 0
theorem m_by {M : MM} {r parts m : Nat} {w : Nat → Nat → Nat} {a b : Nat} {Q : Option Value → MM → Prop} (H : RefW M r parts m w) (hr : r ≤ 3) (ha : a < m) (hb : b < m) (kk : Q (some (.int (sgW (aheadW w a b 0 parts) (aheadW w b a 0 parts)))) M) : Ca 162 [.ref 83, .int (nI r), .int (nI a), .int (nI b)] M Q := by
  obtain ⟨hp, hm, hp3, hm4, hw, hl⟩ := H
  have hk : q_cd 162 = kd_X9_by := rfl
  show WP 162 0 [some (.ref 83), some (.int (nI r)), some (.int (nI a)), some (.int (nI b)), none, none] [] M Q
  have loop := q_dn (n := parts) (P := fun i => ∀ x5, Q (some (.int (sgW (aheadW w a b i (parts - i)) (aheadW w b a i (parts - i))))) M → WP 162 7 [some (.ref 83), some (.int (nI r)), some (.int (nI a)), some (.int (nI b)), some (.int (nI i)), x5] [.int (M 94 r), .int (nI i)] M Q) (by
    intro x5 hQ
    refine wp_icgeN hk rfl rfl hp (by first | omega | decide) (by first | omega | decide) (fun _ => ?_) (fun h => absurd h (by omega))
    repeat (first | refine wp_s hk rfl rfl ?_ | refine wp_goto hk rfl ?_ | refine wp_geti hk rfl rfl rfl rfl ?_ | refine wp_getr hk rfl rfl rfl rfl ?_)
    refine wp_ir hk rfl rfl ?_
    rw [Nat.sub_self] at hQ
    exact hQ) (by
    intro i hi ih x5 hQ
    refine wp_icgeN hk rfl rfl hp (by first | omega | decide) (by first | omega | decide) (fun h => absurd h (by omega)) (fun _ => ?_)
    rw [show parts - i = (parts - (i + 1)) + 1 by omega] at hQ
    simp only [aheadW] at hQ
    have b1 := hl i hi a ha
    have b2 := hl i hi b hb
    repeat (first | refine wp_s hk rfl rfl ?_ | refine wp_goto hk rfl ?_ | refine wp_geti hk rfl rfl rfl rfl ?_ | refine wp_getr hk rfl rfl rfl rfl ?_)
    refine wp_ald (jx := 4 * i + a) hk rfl rfl (by simp only [q_nadd, q_nmul]) (by omega) ?_
    rw [hw i hi a ha]
    repeat (first | refine wp_s hk rfl rfl ?_ | refine wp_goto hk rfl ?_ | refine wp_geti hk rfl rfl rfl rfl ?_ | refine wp_getr hk rfl rfl rfl rfl ?_)
    refine wp_ald (jx := 4 * i + b) hk rfl rfl (by simp only [q_nadd, q_nmul]) (by omega) ?_
    rw [hw i hi b hb]
    repeat (first | refine wp_s hk rfl rfl ?_ | refine wp_goto hk rfl ?_ | refine wp_geti hk rfl rfl rfl rfl ?_ | refine wp_getr hk rfl rfl rfl rfl ?_)
    refine wp_ifeqD hk rfl rfl (by omega) (by omega) (fun h => ?_) (fun h => ?_)
    · repeat (first | refine wp_s hk rfl rfl ?_ | refine wp_goto hk rfl ?_ | refine wp_geti hk rfl rfl rfl rfl ?_ | refine wp_getr hk rfl rfl rfl rfl ?_)
      rw [q_nadd i 1]
      refine wp_ald (jx := r) hk rfl rfl rfl (by omega) ?_
      refine ih _ ?_
      rw [if_pos h, if_pos h.symm] at hQ
      exact hQ
    · rw [if_neg h, if_neg (fun z => h z.symm)] at hQ
      repeat (first | refine wp_s hk rfl rfl ?_ | refine wp_goto hk rfl ?_ | refine wp_geti hk rfl rfl rfl rfl ?_ | refine wp_getr hk rfl rfl rfl rfl ?_)
      refine wp_ifleD hk rfl rfl (by omega) (by omega) (fun h1 => ?_) (fun h1 => ?_)
      · repeat (first | refine wp_s hk rfl rfl ?_ | refine wp_goto hk rfl ?_ | refine wp_geti hk rfl rfl rfl rfl ?_ | refine wp_getr hk rfl rfl rfl rfl ?_)
        refine wp_ir hk rfl rfl ?_
        rw [show decide (w i b < w i a) = false from decide_eq_false (by omega), show decide (w i a < w i b) = true from decide_eq_true (by omega)] at hQ
        exact hQ
      · repeat (first | refine wp_s hk rfl rfl ?_ | refine wp_goto hk rfl ?_ | refine wp_geti hk rfl rfl rfl rfl ?_ | refine wp_getr hk rfl rfl rfl rfl ?_)
        refine wp_ir hk rfl rfl ?_
        rw [show decide (w i b < w i a) = true from decide_eq_true (by omega)] at hQ
        exact hQ)
  repeat (first | refine wp_s hk rfl rfl ?_ | refine wp_goto hk rfl ?_ | refine wp_geti hk rfl rfl rfl rfl ?_ | refine wp_getr hk rfl rfl rfl rfl ?_)
  refine wp_ald (jx := r) hk rfl rfl rfl (by omega) ?_
  exact loop 0 (Nat.zero_le _) _ kk
theorem aheadW_irr {w : Nat → Nat → Nat} {a b : Nat} : ∀ {d i : Nat}, aheadW w a b i d = true → aheadW w b a i d = false
  | 0, _, h => by cases h
  | d + 1, i, h => by
    simp only [aheadW] at h ⊢
    by_cases e : w i a = w i b
    · rw [if_pos e] at h; rw [if_pos e.symm]; exact aheadW_irr h
    · rw [if_neg e] at h; rw [if_neg (fun z => e z.symm)]
      have := of_decide_eq_true h
      exact decide_eq_false (by omega)
theorem sgW_gt {a b : Bool} : 0 < sgW a b ↔ a = true := by
  cases a <;> cases b <;> decide
theorem m_placeOf {M : MM} {r parts m : Nat} {w : Nat → Nat → Nat} {s : Nat} {Q : Option Value → MM → Prop} (H : RefW M r parts m w) (hr : r ≤ 3) (hs : s < m) (kk : Q (some (.int (nI (placeW w parts m s)))) M) : Ca 163 [.ref 83, .int (nI r), .int (nI s)] M Q := by
  have hm := H.2.1
  have hm4 := H.2.2.2.1
  have hk : q_cd 163 = kd_X9_placeOf := rfl
  show WP 163 0 [some (.ref 83), some (.int (nI r)), some (.int (nI s)), none, none] [] M Q
  have loop := q_dn (n := m) (P := fun o => WP 163 7 [some (.ref 83), some (.int (nI r)), some (.int (nI s)), some (.int (nI (placeW w parts o s))), some (.int (nI o))] [.int (M 83 2), .int (nI o)] M Q) (by
    refine wp_icgeN hk rfl rfl hm (by first | omega | decide) (by first | omega | decide) (fun _ => ?_) (fun h => absurd h (by omega))
    repeat (first | refine wp_s hk rfl rfl ?_ | refine wp_goto hk rfl ?_ | refine wp_geti hk rfl rfl rfl rfl ?_ | refine wp_getr hk rfl rfl rfl rfl ?_)
    exact wp_ir hk rfl rfl kk) (by
    intro o ho ih
    refine wp_icgeN hk rfl rfl hm (by first | omega | decide) (by first | omega | decide) (fun h => absurd h (by omega)) (fun _ => ?_)
    have e1 : placeW w parts (o + 1) s = placeW w parts o s + (if aheadW w o s 0 parts = true then 1 else 0) := by simp only [placeW, sumN, Nat.add_assoc]
    rw [e1] at ih
    repeat (first | refine wp_s hk rfl rfl ?_ | refine wp_goto hk rfl ?_ | refine wp_geti hk rfl rfl rfl rfl ?_ | refine wp_getr hk rfl rfl rfl rfl ?_)
    refine wp_callV hk rfl rfl rfl rfl rfl rfl ?_
    refine m_by H hr ho hs ?_
    refine wp_ifle hk rfl (fun h => ?_) (fun h => ?_)
    · rw [if_neg (fun z => Int32.not_lt.mpr h (sgW_gt.mpr z))] at ih
      repeat (first | refine wp_s hk rfl rfl ?_ | refine wp_goto hk rfl ?_ | refine wp_geti hk rfl rfl rfl rfl ?_ | refine wp_getr hk rfl rfl rfl rfl ?_)
      rw [q_nadd o 1, nI_0, Int32.add_zero]
      exact ih
    · rw [if_pos (sgW_gt.mp (Int32.not_le.mp h))] at ih
      repeat (first | refine wp_s hk rfl rfl ?_ | refine wp_goto hk rfl ?_ | refine wp_geti hk rfl rfl rfl rfl ?_ | refine wp_getr hk rfl rfl rfl rfl ?_)
      rw [q_nadd o 1, q_nadd]
      exact ih)
  repeat (first | refine wp_s hk rfl rfl ?_ | refine wp_goto hk rfl ?_ | refine wp_geti hk rfl rfl rfl rfl ?_ | refine wp_getr hk rfl rfl rfl rfl ?_)
  exact loop 0 (Nat.zero_le _)
/-- who is at place 1, as bits -/
def firstW (w : Nat → Nat → Nat) (parts m : Nat) : Nat → Nat
  | 0 => 0
  | s + 1 => firstW w parts m s ||| (if placeW w parts m s = 1 then 2 ^ s else 0)
theorem q_or16 : ∀ a, a < 16 → ∀ b, b < 16 → nI a ||| nI b = nI (a ||| b) := by decide +kernel
theorem q_shl4 : ∀ n, n < 8 → nI 1 <<< (nI n &&& 31) = nI (2 ^ n) := q_shl1
theorem firstW_lt {w : Nat → Nat → Nat} {parts m : Nat} : ∀ {s : Nat}, s ≤ 4 → firstW w parts m s < 2 ^ s
  | 0, _ => by simp [firstW]
  | s + 1, h => by
    have h1 := firstW_lt (w := w) (parts := parts) (m := m) (s := s) (by omega)
    simp only [firstW]
    have h2 : 2 ^ s < 2 ^ (s + 1) := Nat.pow_lt_pow_right (by omega) (by omega)
    exact Nat.or_lt_two_pow (by omega) (by split <;> omega)
theorem m_firsts {M : MM} {r parts m : Nat} {w : Nat → Nat → Nat} {Q : Option Value → MM → Prop} (H : RefW M r parts m w) (hr : r ≤ 3) (kk : Q (some (.int (nI (firstW w parts m m)))) M) : Ca 164 [.ref 83, .int (nI r)] M Q := by
  have hm := H.2.1
  have hm4 := H.2.2.2.1
  have hk : q_cd 164 = kd_X9_firsts := rfl
  show WP 164 0 [some (.ref 83), some (.int (nI r)), none, none] [] M Q
  have loop := q_dn (n := m) (P := fun s => WP 164 7 [some (.ref 83), some (.int (nI r)), some (.int (nI (firstW w parts m s))), some (.int (nI s))] [.int (M 83 2), .int (nI s)] M Q) (by
    refine wp_icgeN hk rfl rfl hm (by first | omega | decide) (by first | omega | decide) (fun _ => ?_) (fun h => absurd h (by omega))
    repeat (first | refine wp_s hk rfl rfl ?_ | refine wp_goto hk rfl ?_ | refine wp_geti hk rfl rfl rfl rfl ?_ | refine wp_getr hk rfl rfl rfl rfl ?_)
    exact wp_ir hk rfl rfl kk) (by
    intro s hs ih
    refine wp_icgeN hk rfl rfl hm (by first | omega | decide) (by first | omega | decide) (fun h => absurd h (by omega)) (fun _ => ?_)
    have h16 := firstW_lt (w := w) (parts := parts) (m := m) (s := s) (by omega)
    have h17 : 2 ^ s ≤ 2 ^ 3 := Nat.pow_le_pow_right (by omega) (by omega)
    simp only [firstW] at ih
    repeat (first | refine wp_s hk rfl rfl ?_ | refine wp_goto hk rfl ?_ | refine wp_geti hk rfl rfl rfl rfl ?_ | refine wp_getr hk rfl rfl rfl rfl ?_)
    refine wp_callV hk rfl rfl rfl rfl rfl rfl ?_
    refine m_placeOf H hr hs ?_
    have hpl : placeW w parts m s ≤ 1 + m * 1 := by
      have := sumN_le (f := fun o => if aheadW w o s 0 parts then 1 else 0) (c := 1) (n := m) (fun j _ => by split <;> omega)
      simp only [placeW]; omega
    repeat (first | refine wp_s hk rfl rfl ?_ | refine wp_goto hk rfl ?_ | refine wp_geti hk rfl rfl rfl rfl ?_ | refine wp_getr hk rfl rfl rfl rfl ?_)
    refine wp_icneN (u := placeW w parts m s) (v := 1) hk rfl rfl rfl (by omega) (by omega) (fun h => ?_) (fun h => ?_)
    · rw [if_neg h] at ih
      repeat (first | refine wp_s hk rfl rfl ?_ | refine wp_goto hk rfl ?_ | refine wp_geti hk rfl rfl rfl rfl ?_ | refine wp_getr hk rfl rfl rfl rfl ?_)
      rw [q_nadd s 1, q_or16 _ (by omega) 0 (by omega)]
      exact ih
    · rw [if_pos (by omega)] at ih
      repeat (first | refine wp_s hk rfl rfl ?_ | refine wp_goto hk rfl ?_ | refine wp_geti hk rfl rfl rfl rfl ?_ | refine wp_getr hk rfl rfl rfl rfl ?_)
      rw [q_nadd s 1, q_shl1 s (by omega), q_or16 _ (by omega) _ (by omega)]
      exact ih)
  repeat (first | refine wp_s hk rfl rfl ?_ | refine wp_goto hk rfl ?_ | refine wp_geti hk rfl rfl rfl rfl ?_ | refine wp_getr hk rfl rfl rfl rfl ?_)
  exact loop 0 (Nat.zero_le _)
end
section
/-- what the reference may change besides its state -/
def RFr (M M' : MM) : Prop := (∀ i, i ∉ [83, 88, 89, 91, 92, 93, 96, 98, 99, 100] → M' i = M i) ∧ (∀ j, j ≠ 0 → j ≠ 11 → M' 83 j = M 83 j) ∧ ∀ j, j ≠ 9 → M' 96 j = M 96 j
theorem RFr.rf (M : MM) : RFr M M := ⟨fun _ _ => rfl, fun _ _ _ => rfl, fun _ _ => rfl⟩
theorem RFr.tr {M M1 M2 : MM} (h1 : RFr M M1) (h2 : RFr M1 M2) : RFr M M2 := ⟨fun i hi => (h2.1 i hi).trans (h1.1 i hi), fun j a b => (h2.2.1 j a b).trans (h1.2.1 j a b), fun j a => (h2.2.2 j a).trans (h1.2.2 j a)⟩
theorem RFr.kp {M M' : MM} {ids : List Nat} (h : Kp M M' ids) (hs : ∀ i ∈ ids, i ∈ [88, 89, 91, 92, 93, 98, 99, 100] := by decide) : RFr M M' := by
  refine ⟨fun i hi => h i (fun z => hi ?_), fun j _ _ => congrFun (h 83 (fun z => ?_)) j, fun j _ => congrFun (h 96 (fun z => ?_)) j⟩
  · have := hs i z
    simp only [List.mem_cons, List.not_mem_nil, or_false] at this ⊢
    omega
  · have := hs 83 z
    simp at this
  · have := hs 96 z
    simp at this
theorem RFr.th (M : MM) (x : Int32) : RFr M (q_up M 83 (upd (M 83) 0 x)) := ⟨fun i hi => q_up_ne _ _ (fun e => hi (by rw [e]; simp)), fun j h _ => by rw [q_up_at, upd_ne _ _ h], fun j _ => by rw [q_up_ne _ _ (by decide)]⟩
theorem RefInv.fr {M M' : MM} {S : St} (I : RefInv M S) (O : StOK S) (F : RFr M M') : RefInv M' S := by
  obtain ⟨⟨a1, a2, a3, a4, a5, a6⟩, ⟨b1, b2⟩, ⟨c1, c2, c3⟩, d1, e1⟩ := I
  obtain ⟨f1, f2, f3⟩ := F
  have g84 := f1 84 (by decide); have g85 := f1 85 (by decide); have g86 := f1 86 (by decide); have g87 := f1 87 (by decide); have g90 := f1 90 (by decide)
  have g94 := f1 94 (by decide); have g95 := f1 95 (by decide); have g97 := f1 97 (by decide)
  have g101 := f1 101 (by decide); have g102 := f1 102 (by decide); have g103 := f1 103 (by decide); have g104 := f1 104 (by decide); have g105 := f1 105 (by decide); have g106 := f1 106 (by decide)
  refine ⟨⟨by rw [f2 1 (by decide) (by decide)]; exact a1, by rw [f2 2 (by decide) (by decide)]; exact a2, by rw [g87]; exact a3, by rw [g86]; exact a4, by rw [g84]; exact a5, by rw [g85]; exact a6⟩,
    ⟨by rw [f2 10 (by decide) (by decide)]; exact b1, by rw [g90]; exact b2⟩, ⟨fun r hr => ?_, by rw [g94]; exact c2, by rw [g95]; exact c3⟩, by rw [f2 22 (by decide) (by decide)]; exact d1, fun i hi => ?_⟩
  · obtain ⟨x1, x2, x3, x4⟩ := c1 r hr
    refine ⟨by rw [g94]; exact x1, by rw [g95]; exact x2, fun i hi hk => ?_, by rw [g97]; exact x4⟩
    have := (O.2.2.1 r hr).2.1
    rw [f3 _ (by omega)]; exact x3 i hi hk
  · have := e1 i hi
    unfold RefPast at this ⊢
    rw [g101, g102, g103, g104, g105, g106]
    exact this
theorem wp_th {k i pc len c idx : Nat} {x : Int32} {cd : List q_Ent} {al : List (Option Value)} {st : List Value} {M : MM} {Q : Option Value → MM → Prop} (hk : q_cd k = cd) (h : cd[i]? = some (pc, len, .putfield idx, 9, 0, c, 0)) (kk : ∀ M0, RFr M M0 → WP k (i + 1) al st M0 Q) : WP k i al (.int x :: .ref 83 :: st) M Q :=
  wp_put hk h rfl rfl rfl rfl (kk _ (RFr.th M x))
/-- an int as a number -/
def i2n (x : Int32) : Nat := x.toNatClampNeg
theorem i2n_nI {n : Nat} (h : n < 2 ^ 31) : i2n (nI n) = n := nI_clamp h
theorem i2n_of {x : Int32} {n : Nat} (hn : n < 2 ^ 31) (h : isN x n = true) : i2n x < n ∧ x = nI (i2n x) := by
  obtain ⟨j, hj, rfl⟩ := isN_of hn h
  rw [i2n_nI (by omega)]
  exact ⟨hj, rfl⟩
def UNK : Int32 := Int32.ofInt (.negSucc 0)
def BAD : Int32 := Int32.ofInt (.negSucc 1)
def LATE : Int32 := Int32.ofInt (.negSucc 2)
def FULL : Int32 := Int32.ofInt (.negSucc 3)
def NON : Int32 := Int32.ofInt (.negSucc 8)
theorem vc_b2n {V : Vw} {j : Nat} (h : j < vn V) : vc V j = !(vL V).testBit j := by simp [vc, h]
theorem m_take {M : MM} {V : Vw} {Q : Option Value → MM → Prop} (I : RefCard M V) (O : VOK V) (kk : ∀ M', Kp M M' [88, 89] → RefV M' (vn V) (vm V) (vc V) (vk V) → Q none M') : Ca 153 [.ref 83] M Q := by
  obtain ⟨a1, a2, a3, a4, a5, a6⟩ := I
  obtain ⟨o1, o2, o3, o4, o5, o6, -⟩ := O
  have hk : q_cd 153 = kd_X9_take := rfl
  show WP 153 0 [some (.ref 83), none] [] M Q
  have l2 := q_dn (n := 28) (P := fun k => ∀ M1, Kp M M1 [88, 89] → (∀ j, j < 7 → M1 89 j = nI (b2n (vc V j))) → (∀ k', k' < k → M1 88 k' = M 86 k') → WP 153 27 [some (.ref 83), some (.int (nI k))] [.int (nI 28), .int (nI k)] M1 Q) (by
    intro M1 hK hc hq
    refine wp_icgeN hk rfl rfl rfl (by first | omega | decide) (by first | omega | decide) (fun _ => ?_) (fun h => absurd h (by omega))
    refine wp_vr hk rfl (kk M1 hK ⟨(congrFun (hK 83 (by decide)) 1).trans a1, (congrFun (hK 83 (by decide)) 2).trans a2, o2, o4, hc, fun j hj s hs => (hq _ (by omega)).trans (a4 j hj s hs), o6⟩)) (by
    intro k hk1 ih M1 hK hc hq
    refine wp_icgeN hk rfl rfl rfl (by first | omega | decide) (by first | omega | decide) (fun h => absurd h (by omega)) (fun _ => ?_)
    repeat (first | refine wp_s hk rfl rfl ?_ | refine wp_goto hk rfl ?_ | refine wp_geti hk rfl rfl rfl rfl ?_ | refine wp_getr hk rfl rfl rfl rfl ?_)
    refine wp_ald (jx := k) hk rfl rfl rfl (by omega) ?_
    rw [hK 86 (by decide)]
    refine wp_ast (jx := k) hk rfl rfl rfl (by omega) ?_
    repeat (first | refine wp_s hk rfl rfl ?_ | refine wp_goto hk rfl ?_ | refine wp_geti hk rfl rfl rfl rfl ?_ | refine wp_getr hk rfl rfl rfl rfl ?_)
    rw [q_nadd k 1]
    refine ih _ (hK.up (by decide)) (fun j hj => by rw [q_up_ne _ _ (by decide)]; exact hc j hj) (fun k' hk' => ?_)
    rw [q_up_at]
    by_cases e : k' = k
    · subst e; rw [upd_at]
    · rw [upd_ne _ _ e]; exact hq k' (by omega))
  have l1 := q_dn (n := 7) (P := fun j => ∀ M1, Kp M M1 [88, 89] → (∀ j', j' < j → M1 89 j' = nI (b2n (vc V j'))) → WP 153 4 [some (.ref 83), some (.int (nI j))] [.int (nI 7), .int (nI j)] M1 Q) (by
    intro M1 hK hc
    refine wp_icgeN hk rfl rfl rfl (by first | omega | decide) (by first | omega | decide) (fun _ => ?_) (fun h => absurd h (by omega))
    repeat (first | refine wp_s hk rfl rfl ?_ | refine wp_goto hk rfl ?_ | refine wp_geti hk rfl rfl rfl rfl ?_ | refine wp_getr hk rfl rfl rfl rfl ?_)
    exact l2 0 (Nat.zero_le _) M1 hK hc (fun k' hk' => absurd hk' (Nat.not_lt_zero _))) (by
    intro j hj ih M1 hK hc
    refine wp_icgeN hk rfl rfl rfl (by first | omega | decide) (by first | omega | decide) (fun h => absurd h (by omega)) (fun _ => ?_)
    have fin : ∀ z : Nat, z = b2n (vc V j) → WP 153 20 [some (.ref 83), some (.int (nI j))] [.int (nI z), .int (nI j), .ref 89] M1 Q := by
      intro z hz
      refine wp_bst (jx := j) hk rfl rfl rfl (by omega) (by rw [hz]; cases vc V j <;> decide) ?_
      repeat (first | refine wp_s hk rfl rfl ?_ | refine wp_goto hk rfl ?_ | refine wp_geti hk rfl rfl rfl rfl ?_ | refine wp_getr hk rfl rfl rfl rfl ?_)
      rw [q_nadd j 1]
      refine ih _ (hK.up (by decide)) (fun j' hj' => ?_)
      rw [q_up_at]
      by_cases e : j' = j
      · subst e; rw [upd_at, hz]
      · rw [upd_ne _ _ e]; exact hc j' (by omega)
    repeat (first | refine wp_s hk rfl rfl ?_ | refine wp_goto hk rfl ?_ | refine wp_geti hk rfl rfl rfl rfl ?_ | refine wp_getr hk rfl rfl rfl rfl ?_)
    refine wp_icgeN hk rfl rfl ((congrFun (hK 83 (by decide)) 1).trans a1) (by first | omega | decide) (by first | omega | decide) (fun h => ?_) (fun h => ?_)
    · refine wp_s hk rfl rfl ?_
      exact fin 0 (by simp [vc, b2n, Nat.not_lt.mpr h])
    · repeat (first | refine wp_s hk rfl rfl ?_ | refine wp_goto hk rfl ?_ | refine wp_geti hk rfl rfl rfl rfl ?_ | refine wp_getr hk rfl rfl rfl rfl ?_)
      refine wp_bld (jx := j) hk rfl rfl rfl (by omega) ?_
      rw [hK 87 (by decide)]
      refine wp_ifneB hk rfl (a3 j (by omega)) (fun h2 => ?_) (fun h2 => ?_)
      · refine wp_s hk rfl rfl ?_
        exact fin 0 (by simp [vc, b2n, h2])
      · refine wp_s hk rfl rfl ?_
        refine wp_goto hk rfl ?_
        exact fin 1 (by rw [vc_b2n (by omega), h2]; rfl))
  repeat (first | refine wp_s hk rfl rfl ?_ | refine wp_goto hk rfl ?_ | refine wp_geti hk rfl rfl rfl rfl ?_ | refine wp_getr hk rfl rfl rfl rfl ?_)
  exact l1 0 (Nat.zero_le _) M (Kp.rf _ _) (fun j' hj' => absurd hj' (Nat.not_lt_zero _))
/-- the worths of a state's card by a rule -/
def wS (V : Vw) (R : Ru) : Nat → Nat → Nat := worthW (vn V) (vm V) (vc V) (vk V) R
def spPlace (S : St) (a b : Int32) : Int32 := if isN a 3 && isN b (vm (sV S)) then nI (placeW (wS (sV S) (sR S (i2n a))) (sR S (i2n a)).1 (vm (sV S)) (i2n b)) else UNK
def spFirst (S : St) (a : Int32) : Int32 := if isN a 3 then nI (firstW (wS (sV S) (sR S (i2n a))) (sR S (i2n a)).1 (vm (sV S)) (vm (sV S))) else UNK
def spWorth (S : St) (a b c : Int32) : Int32 := if isN a 3 && isN b (vm (sV S)) then (if isN c (sR S (i2n a)).1 then nI (wS (sV S) (sR S (i2n a)) (i2n c) (i2n b)) else BAD) else UNK
theorem m_place {M : MM} {S : St} {a b : Int32} {Q : Option Value → MM → Prop} (I : RefInv M S) (O : StOK S) (kk : ∀ M', RFr M M' → Q (some (.int (spPlace S a b))) M') : Ca 166 [.ref 83, .int a, .int b] M Q := by
  have hk : q_cd 166 = kd_X9_place := rfl
  show WP 166 0 [some (.ref 83), some (.int a), some (.int b)] [] M Q
  repeat (first | refine wp_s hk rfl rfl ?_ | refine wp_goto hk rfl ?_ | refine wp_geti hk rfl rfl rfl rfl ?_ | refine wp_getr hk rfl rfl rfl rfl ?_)
  refine wp_th hk rfl (fun M0 F0 => ?_)
  have I0 := I.fr O F0
  repeat (first | refine wp_s hk rfl rfl ?_ | refine wp_goto hk rfl ?_ | refine wp_geti hk rfl rfl rfl rfl ?_ | refine wp_getr hk rfl rfl rfl rfl ?_)
  refine wp_callS hk rfl rfl rfl rfl ?_
  refine m_noRule ?_
  refine wp_ifneB (u := !isN a 3) hk rfl rfl (fun h => ?_) (fun h => ?_)
  · repeat (first | refine wp_s hk rfl rfl ?_ | refine wp_goto hk rfl ?_ | refine wp_geti hk rfl rfl rfl rfl ?_ | refine wp_getr hk rfl rfl rfl rfl ?_)
    refine wp_ir hk rfl rfl ?_
    have h' : isN a 3 = false := by simpa using h
    have := kk M0 F0
    simp only [spPlace, h', Bool.false_and] at this
    exact this
  · have h' : isN a 3 = true := by simpa using h
    repeat (first | refine wp_s hk rfl rfl ?_ | refine wp_goto hk rfl ?_ | refine wp_geti hk rfl rfl rfl rfl ?_ | refine wp_getr hk rfl rfl rfl rfl ?_)
    refine wp_callV hk rfl rfl rfl rfl rfl rfl ?_
    refine m_noSkater I0.1.2.1 O.1.2.2.1 (Nat.le_trans O.1.2.2.2.1 (by omega)) ?_
    refine wp_ifeqB (u := !isN b (vm (sV S))) hk rfl rfl (fun g => ?_) (fun g => ?_)
    · have g' : isN b (vm (sV S)) = true := by simpa using g
      have ho4 := O.1.2.2.2.1
      obtain ⟨hr, ea⟩ := i2n_of (by omega) h'
      obtain ⟨hs, eb⟩ := i2n_of (by omega) g'
      repeat (first | refine wp_s hk rfl rfl ?_ | refine wp_goto hk rfl ?_ | refine wp_geti hk rfl rfl rfl rfl ?_ | refine wp_getr hk rfl rfl rfl rfl ?_)
      refine wp_callV hk rfl rfl rfl rfl rfl rfl ?_
      refine m_take I0.1 O.1 (fun M1 K1 V1 => ?_)
      repeat (first | refine wp_s hk rfl rfl ?_ | refine wp_goto hk rfl ?_ | refine wp_geti hk rfl rfl rfl rfl ?_ | refine wp_getr hk rfl rfl rfl rfl ?_)
      rw [ea]
      refine wp_callV hk rfl rfl rfl rfl rfl rfl ?_
      refine m_lay V1 (by omega) ((I0.2.2.1.1 _ hr).kp K1 (by decide) (by decide) (by decide) (by decide)) (O.2.2.1 _ hr) (fun M2 K2 W2 => ?_)
      repeat (first | refine wp_s hk rfl rfl ?_ | refine wp_goto hk rfl ?_ | refine wp_geti hk rfl rfl rfl rfl ?_ | refine wp_getr hk rfl rfl rfl rfl ?_)
      rw [eb]
      refine wp_callV hk rfl rfl rfl rfl rfl rfl ?_
      refine m_placeOf W2 (by omega) hs ?_
      refine wp_ir hk rfl rfl ?_
      have := kk M2 (F0.tr ((RFr.kp K1).tr (RFr.kp K2)))
      simp only [spPlace, h', g', Bool.and_self, if_true] at this
      exact this
    · repeat (first | refine wp_s hk rfl rfl ?_ | refine wp_goto hk rfl ?_ | refine wp_geti hk rfl rfl rfl rfl ?_ | refine wp_getr hk rfl rfl rfl rfl ?_)
      refine wp_ir hk rfl rfl ?_
      have g' : isN b (vm (sV S)) = false := by simpa using g
      have := kk M0 F0
      simp only [spPlace, h', g', Bool.and_false] at this
      exact this
end
section
theorem m_first {M : MM} {S : St} {a : Int32} {Q : Option Value → MM → Prop} (I : RefInv M S) (O : StOK S) (kk : ∀ M', RFr M M' → Q (some (.int (spFirst S a))) M') : Ca 168 [.ref 83, .int a] M Q := by
  have hk : q_cd 168 = kd_X9_first := rfl
  show WP 168 0 [some (.ref 83), some (.int a)] [] M Q
  repeat (first | refine wp_s hk rfl rfl ?_ | refine wp_goto hk rfl ?_ | refine wp_geti hk rfl rfl rfl rfl ?_ | refine wp_getr hk rfl rfl rfl rfl ?_)
  refine wp_th hk rfl (fun M0 F0 => ?_)
  have I0 := I.fr O F0
  repeat (first | refine wp_s hk rfl rfl ?_ | refine wp_goto hk rfl ?_ | refine wp_geti hk rfl rfl rfl rfl ?_ | refine wp_getr hk rfl rfl rfl rfl ?_)
  refine wp_callS hk rfl rfl rfl rfl ?_
  refine m_noRule ?_
  refine wp_ifeqB (u := !isN a 3) hk rfl rfl (fun h => ?_) (fun h => ?_)
  · have h' : isN a 3 = true := by simpa using h
    obtain ⟨hr, ea⟩ := i2n_of (by omega) h'
    repeat (first | refine wp_s hk rfl rfl ?_ | refine wp_goto hk rfl ?_ | refine wp_geti hk rfl rfl rfl rfl ?_ | refine wp_getr hk rfl rfl rfl rfl ?_)
    refine wp_callV hk rfl rfl rfl rfl rfl rfl ?_
    refine m_take I0.1 O.1 (fun M1 K1 V1 => ?_)
    repeat (first | refine wp_s hk rfl rfl ?_ | refine wp_goto hk rfl ?_ | refine wp_geti hk rfl rfl rfl rfl ?_ | refine wp_getr hk rfl rfl rfl rfl ?_)
    rw [ea]
    refine wp_callV hk rfl rfl rfl rfl rfl rfl ?_
    refine m_lay V1 (by omega) ((I0.2.2.1.1 _ hr).kp K1 (by decide) (by decide) (by decide) (by decide)) (O.2.2.1 _ hr) (fun M2 K2 W2 => ?_)
    repeat (first | refine wp_s hk rfl rfl ?_ | refine wp_goto hk rfl ?_ | refine wp_geti hk rfl rfl rfl rfl ?_ | refine wp_getr hk rfl rfl rfl rfl ?_)
    refine wp_callV hk rfl rfl rfl rfl rfl rfl ?_
    refine m_firsts W2 (by omega) ?_
    refine wp_ir hk rfl rfl ?_
    have hkk := kk M2 (F0.tr ((RFr.kp K1).tr (RFr.kp K2)))
    simp only [spFirst, h', ← ea, Bool.and_self, Bool.true_and, Bool.and_true, Bool.false_and, Bool.and_false, if_true, Bool.false_eq_true, if_false, Bool.not_true, Bool.not_false] at hkk
    exact hkk
  · have h' : isN a 3 = false := by simpa using h
    repeat (first | refine wp_s hk rfl rfl ?_ | refine wp_goto hk rfl ?_ | refine wp_geti hk rfl rfl rfl rfl ?_ | refine wp_getr hk rfl rfl rfl rfl ?_)
    refine wp_ir hk rfl rfl ?_
    have hkk := kk M0 F0
    simp only [spFirst, h', Bool.and_self, Bool.true_and, Bool.and_true, Bool.false_and, Bool.and_false, if_true, Bool.false_eq_true, if_false, Bool.not_true, Bool.not_false] at hkk
    exact hkk
theorem m_worth {M : MM} {S : St} {a b c : Int32} {Q : Option Value → MM → Prop} (I : RefInv M S) (O : StOK S) (kk : ∀ M', RFr M M' → Q (some (.int (spWorth S a b c))) M') : Ca 165 [.ref 83, .int a, .int b, .int c] M Q := by
  have hk : q_cd 165 = kd_X9_worth := rfl
  show WP 165 0 [some (.ref 83), some (.int a), some (.int b), some (.int c)] [] M Q
  have ho4 := O.1.2.2.2.1
  repeat (first | refine wp_s hk rfl rfl ?_ | refine wp_goto hk rfl ?_ | refine wp_geti hk rfl rfl rfl rfl ?_ | refine wp_getr hk rfl rfl rfl rfl ?_)
  refine wp_th hk rfl (fun M0 F0 => ?_)
  have I0 := I.fr O F0
  repeat (first | refine wp_s hk rfl rfl ?_ | refine wp_goto hk rfl ?_ | refine wp_geti hk rfl rfl rfl rfl ?_ | refine wp_getr hk rfl rfl rfl rfl ?_)
  refine wp_callS hk rfl rfl rfl rfl ?_
  refine m_noRule ?_
  refine wp_ifneB (u := !isN a 3) hk rfl rfl (fun h => ?_) (fun h => ?_)
  · have h' : isN a 3 = false := by simpa using h
    repeat (first | refine wp_s hk rfl rfl ?_ | refine wp_goto hk rfl ?_ | refine wp_geti hk rfl rfl rfl rfl ?_ | refine wp_getr hk rfl rfl rfl rfl ?_)
    refine wp_ir hk rfl rfl ?_
    have hkk := kk M0 F0
    simp only [spWorth, h', Bool.and_self, Bool.true_and, Bool.and_true, Bool.false_and, Bool.and_false, if_true, Bool.false_eq_true, if_false, Bool.not_true, Bool.not_false] at hkk
    exact hkk
  have h' : isN a 3 = true := by simpa using h
  obtain ⟨hr, ea⟩ := i2n_of (by omega) h'
  repeat (first | refine wp_s hk rfl rfl ?_ | refine wp_goto hk rfl ?_ | refine wp_geti hk rfl rfl rfl rfl ?_ | refine wp_getr hk rfl rfl rfl rfl ?_)
  refine wp_callV hk rfl rfl rfl rfl rfl rfl ?_
  refine m_noSkater I0.1.2.1 O.1.2.2.1 (Nat.le_trans O.1.2.2.2.1 (by omega)) ?_
  refine wp_ifeqB (u := !isN b (vm (sV S))) hk rfl rfl (fun g => ?_) (fun g => ?_)
  · have g' : isN b (vm (sV S)) = true := by simpa using g
    obtain ⟨hs, eb⟩ := i2n_of (by omega) g'
    have hO := O.2.2.1 _ hr
    repeat (first | refine wp_s hk rfl rfl ?_ | refine wp_goto hk rfl ?_ | refine wp_geti hk rfl rfl rfl rfl ?_ | refine wp_getr hk rfl rfl rfl rfl ?_)
    refine wp_ald (jx := i2n a) hk rfl rfl ea (by omega) ?_
    rw [(I0.2.2.1.1 _ hr).1]
    repeat (first | refine wp_s hk rfl rfl ?_ | refine wp_goto hk rfl ?_ | refine wp_geti hk rfl rfl rfl rfl ?_ | refine wp_getr hk rfl rfl rfl rfl ?_)
    rw [q_nsub hO.1]
    refine wp_callS hk rfl rfl rfl rfl ?_
    refine m_in ?_
    refine wp_ifneB (u := isN c (sR S (i2n a)).1) hk rfl (congrArg (fun z => nI (b2n z)) (q_in0 hO.1 (by have := hO.2.1; omega))) (fun k => ?_) (fun k => ?_)
    · obtain ⟨hi, ec⟩ := i2n_of (by have := hO.2.1; omega) k
      repeat (first | refine wp_s hk rfl rfl ?_ | refine wp_goto hk rfl ?_ | refine wp_geti hk rfl rfl rfl rfl ?_ | refine wp_getr hk rfl rfl rfl rfl ?_)
      refine wp_callV hk rfl rfl rfl rfl rfl rfl ?_
      refine m_take I0.1 O.1 (fun M1 K1 V1 => ?_)
      repeat (first | refine wp_s hk rfl rfl ?_ | refine wp_goto hk rfl ?_ | refine wp_geti hk rfl rfl rfl rfl ?_ | refine wp_getr hk rfl rfl rfl rfl ?_)
      rw [ea, eb, ec]
      refine wp_callV hk rfl rfl rfl rfl rfl rfl ?_
      refine m_worthOf V1 (by omega) ((I0.2.2.1.1 _ hr).kp K1 (by decide) (by decide) (by decide) (by decide)) hO hi hs (fun M2 K2 => ?_)
      refine wp_ir hk rfl rfl ?_
      have hkk := kk M2 (F0.tr ((RFr.kp K1).tr (RFr.kp K2)))
      simp only [spWorth, h', g', k, Bool.and_self, Bool.true_and, Bool.and_true, Bool.false_and, Bool.and_false, if_true, Bool.false_eq_true, if_false, Bool.not_true, Bool.not_false] at hkk
      exact hkk
    · repeat (first | refine wp_s hk rfl rfl ?_ | refine wp_goto hk rfl ?_ | refine wp_geti hk rfl rfl rfl rfl ?_ | refine wp_getr hk rfl rfl rfl rfl ?_)
      refine wp_ir hk rfl rfl ?_
      have hkk := kk M0 F0
      simp only [spWorth, h', g', k, Bool.and_self, Bool.true_and, Bool.and_true, Bool.false_and, Bool.and_false, if_true, Bool.false_eq_true, if_false, Bool.not_true, Bool.not_false] at hkk
      exact hkk
  · have g' : isN b (vm (sV S)) = false := by simpa using g
    repeat (first | refine wp_s hk rfl rfl ?_ | refine wp_goto hk rfl ?_ | refine wp_geti hk rfl rfl rfl rfl ?_ | refine wp_getr hk rfl rfl rfl rfl ?_)
    refine wp_ir hk rfl rfl ?_
    have hkk := kk M0 F0
    simp only [spWorth, h', g', Bool.and_self, Bool.true_and, Bool.and_true, Bool.false_and, Bool.and_false, if_true, Bool.false_eq_true, if_false, Bool.not_true, Bool.not_false] at hkk
    exact hkk
/-- before whom a skater comes, and the i-th -/
def rkW (pl : Nat → Nat) (m s : Nat) : Nat := sumN (fun o => if pl o < pl s ∨ (pl o = pl s ∧ o < s) then 1 else 0) m
def ordW (pl : Nat → Nat) (m : Nat) (x : Int32) : Nat → Nat → Int32
  | _, 0 => NON
  | s, d + 1 => if nI (rkW pl m s) = x then nI s else ordW pl m x (s + 1) d
def spOrder (S : St) (a i : Int32) : Int32 := if isN a 3 then ordW (placeW (wS (sV S) (sR S (i2n a))) (sR S (i2n a)).1 (vm (sV S))) (vm (sV S)) i 0 (vm (sV S)) else UNK
theorem placeW_le {w : Nat → Nat → Nat} {parts m s : Nat} : placeW w parts m s ≤ 1 + m := by
  have := sumN_le (f := fun o => if aheadW w o s 0 parts then 1 else 0) (c := 1) (n := m) (fun j _ => by split <;> omega)
  simp only [placeW]; omega
theorem m_order {M : MM} {S : St} {a x : Int32} {Q : Option Value → MM → Prop} (I : RefInv M S) (O : StOK S) (kk : ∀ M', RFr M M' → Q (some (.int (spOrder S a x))) M') : Ca 167 [.ref 83, .int a, .int x] M Q := by
  have hk : q_cd 167 = kd_X9_order := rfl
  show WP 167 0 [some (.ref 83), some (.int a), some (.int x), none, none, none, none] [] M Q
  have ho4 := O.1.2.2.2.1
  repeat (first | refine wp_s hk rfl rfl ?_ | refine wp_goto hk rfl ?_ | refine wp_geti hk rfl rfl rfl rfl ?_ | refine wp_getr hk rfl rfl rfl rfl ?_)
  refine wp_th hk rfl (fun M0 F0 => ?_)
  have I0 := I.fr O F0
  repeat (first | refine wp_s hk rfl rfl ?_ | refine wp_goto hk rfl ?_ | refine wp_geti hk rfl rfl rfl rfl ?_ | refine wp_getr hk rfl rfl rfl rfl ?_)
  refine wp_callS hk rfl rfl rfl rfl ?_
  refine m_noRule ?_
  refine wp_ifeqB (u := !isN a 3) hk rfl rfl (fun h => ?_) (fun h => ?_)
  · have h' : isN a 3 = true := by simpa using h
    obtain ⟨hr, ea⟩ := i2n_of (by omega) h'
    repeat (first | refine wp_s hk rfl rfl ?_ | refine wp_goto hk rfl ?_ | refine wp_geti hk rfl rfl rfl rfl ?_ | refine wp_getr hk rfl rfl rfl rfl ?_)
    refine wp_callV hk rfl rfl rfl rfl rfl rfl ?_
    refine m_take I0.1 O.1 (fun M1 K1 V1 => ?_)
    repeat (first | refine wp_s hk rfl rfl ?_ | refine wp_goto hk rfl ?_ | refine wp_geti hk rfl rfl rfl rfl ?_ | refine wp_getr hk rfl rfl rfl rfl ?_)
    rw [ea]
    refine wp_callV hk rfl rfl rfl rfl rfl rfl ?_
    refine m_lay V1 (by omega) ((I0.2.2.1.1 _ hr).kp K1 (by decide) (by decide) (by decide) (by decide)) (O.2.2.1 _ hr) (fun M2 K2 W2 => ?_)
    have F2 := F0.tr ((RFr.kp K1).tr (RFr.kp K2))
    have hkk := kk M2 F2
    simp only [spOrder, h', if_true] at hkk
    change RefW M2 _ _ _ (wS (sV S) (sR S (i2n a))) at W2
    generalize wS (sV S) (sR S (i2n a)) = w at W2 hkk
    generalize (sR S (i2n a)).1 = parts at W2 hkk
    generalize i2n a = r at W2 hr hkk
    generalize vm (sV S) = m at W2 hkk ho4
    have hm := W2.2.1
    repeat (first | refine wp_s hk rfl rfl ?_ | refine wp_goto hk rfl ?_ | refine wp_geti hk rfl rfl rfl rfl ?_ | refine wp_getr hk rfl rfl rfl rfl ?_)
    have outer := q_dn (n := m) (P := fun s => ∀ x4 x5 x6, Q (some (.int (ordW (placeW w parts m) m x s (m - s)))) M2 → WP 167 18 [some (.ref 83), some (.int (nI r)), some (.int x), some (.int (nI s)), x4, x5, x6] [.int (M2 83 2), .int (nI s)] M2 Q) (by
      intro x4 x5 x6 hQ
      refine wp_icgeN hk rfl rfl hm (by first | omega | decide) (by first | omega | decide) (fun _ => ?_) (fun h => absurd h (by omega))
      repeat (first | refine wp_s hk rfl rfl ?_ | refine wp_goto hk rfl ?_ | refine wp_geti hk rfl rfl rfl rfl ?_ | refine wp_getr hk rfl rfl rfl rfl ?_)
      refine wp_ir hk rfl rfl ?_
      rw [Nat.sub_self] at hQ
      exact hQ) (by
      intro s hs ih x4 x5 x6 hQ
      refine wp_icgeN hk rfl rfl hm (by first | omega | decide) (by first | omega | decide) (fun h => absurd h (by omega)) (fun _ => ?_)
      rw [show m - s = (m - (s + 1)) + 1 by omega] at hQ
      simp only [ordW] at hQ
      repeat (first | refine wp_s hk rfl rfl ?_ | refine wp_goto hk rfl ?_ | refine wp_geti hk rfl rfl rfl rfl ?_ | refine wp_getr hk rfl rfl rfl rfl ?_)
      have inner := q_dn (n := m) (P := fun o => ∀ x6, WP 167 26 [some (.ref 83), some (.int (nI r)), some (.int x), some (.int (nI s)), some (.int (nI (sumN (fun o => if placeW w parts m o < placeW w parts m s ∨ (placeW w parts m o = placeW w parts m s ∧ o < s) then 1 else 0) o))), some (.int (nI o)), x6] [.int (M2 83 2), .int (nI o)] M2 Q) (by
        intro x6
        refine wp_icgeN hk rfl rfl hm (by first | omega | decide) (by first | omega | decide) (fun _ => ?_) (fun h => absurd h (by omega))
        repeat (first | refine wp_s hk rfl rfl ?_ | refine wp_goto hk rfl ?_ | refine wp_geti hk rfl rfl rfl rfl ?_ | refine wp_getr hk rfl rfl rfl rfl ?_)
        refine wp_icne hk rfl (fun e => ?_) (fun e => ?_)
        · rw [if_neg (show ¬ nI (rkW (placeW w parts m) m s) = x from e)] at hQ
          repeat (first | refine wp_s hk rfl rfl ?_ | refine wp_goto hk rfl ?_ | refine wp_geti hk rfl rfl rfl rfl ?_ | refine wp_getr hk rfl rfl rfl rfl ?_)
          rw [q_nadd s 1]
          exact ih _ _ _ hQ
        · rw [if_pos (show nI (rkW (placeW w parts m) m s) = x from Classical.not_not.mp e)] at hQ
          repeat (first | refine wp_s hk rfl rfl ?_ | refine wp_goto hk rfl ?_ | refine wp_geti hk rfl rfl rfl rfl ?_ | refine wp_getr hk rfl rfl rfl rfl ?_)
          exact wp_ir hk rfl rfl hQ) (by
        intro o ho iho x6
        refine wp_icgeN hk rfl rfl hm (by first | omega | decide) (by first | omega | decide) (fun h => absurd h (by omega)) (fun _ => ?_)
        repeat (first | refine wp_s hk rfl rfl ?_ | refine wp_goto hk rfl ?_ | refine wp_geti hk rfl rfl rfl rfl ?_ | refine wp_getr hk rfl rfl rfl rfl ?_)
        refine wp_callV hk rfl rfl rfl rfl rfl rfl ?_
        refine m_placeOf W2 (by omega) hs ?_
        repeat (first | refine wp_s hk rfl rfl ?_ | refine wp_goto hk rfl ?_ | refine wp_geti hk rfl rfl rfl rfl ?_ | refine wp_getr hk rfl rfl rfl rfl ?_)
        refine wp_callV hk rfl rfl rfl rfl rfl rfl ?_
        refine m_placeOf W2 (by omega) ho ?_
        have l1 := placeW_le (w := w) (parts := parts) (m := m) (s := s)
        have l2 := placeW_le (w := w) (parts := parts) (m := m) (s := o)
        repeat (first | refine wp_s hk rfl rfl ?_ | refine wp_goto hk rfl ?_ | refine wp_geti hk rfl rfl rfl rfl ?_ | refine wp_getr hk rfl rfl rfl rfl ?_)
        have fin : ∀ z : Nat, z = (if placeW w parts m o < placeW w parts m s ∨ (placeW w parts m o = placeW w parts m s ∧ o < s) then 1 else 0) → WP 167 48 [some (.ref 83), some (.int (nI r)), some (.int x), some (.int (nI s)), some (.int (nI (sumN (fun o => if placeW w parts m o < placeW w parts m s ∨ (placeW w parts m o = placeW w parts m s ∧ o < s) then 1 else 0) o))), some (.int (nI o)), some (.int (nI (placeW w parts m s) - nI (placeW w parts m o)))] [.int (nI z), .int (nI (sumN (fun o => if placeW w parts m o < placeW w parts m s ∨ (placeW w parts m o = placeW w parts m s ∧ o < s) then 1 else 0) o))] M2 Q := by
          intro z hz
          repeat (first | refine wp_s hk rfl rfl ?_ | refine wp_goto hk rfl ?_ | refine wp_geti hk rfl rfl rfl rfl ?_ | refine wp_getr hk rfl rfl rfl rfl ?_)
          rw [q_nadd, q_nadd o 1, hz]
          exact iho _
        generalize placeW w parts m s = ps at l1 fin ⊢
        generalize placeW w parts m o = po at l2 fin ⊢
        refine wp_ifgtD hk rfl rfl (by omega) (by omega) (fun g => ?_) (fun g => ?_)
        · refine wp_s hk rfl rfl ?_
          refine wp_goto hk rfl ?_
          exact fin 1 (by rw [if_pos (Or.inl g)])
        · repeat (first | refine wp_s hk rfl rfl ?_ | refine wp_goto hk rfl ?_ | refine wp_geti hk rfl rfl rfl rfl ?_ | refine wp_getr hk rfl rfl rfl rfl ?_)
          refine wp_ifneD hk rfl rfl (by omega) (by omega) (fun g2 => ?_) (fun g2 => ?_)
          · refine wp_s hk rfl rfl ?_
            exact fin 0 (by rw [if_neg (by omega)])
          · repeat (first | refine wp_s hk rfl rfl ?_ | refine wp_goto hk rfl ?_ | refine wp_geti hk rfl rfl rfl rfl ?_ | refine wp_getr hk rfl rfl rfl rfl ?_)
            refine wp_icgeN (u := o) (v := s) hk rfl rfl rfl (by omega) (by omega) (fun g3 => ?_) (fun g3 => ?_)
            · refine wp_s hk rfl rfl ?_
              exact fin 0 (by rw [if_neg (by omega)])
            · refine wp_s hk rfl rfl ?_
              refine wp_goto hk rfl ?_
              exact fin 1 (by rw [if_pos (by omega)]))
      exact inner 0 (Nat.zero_le _) _)
    exact outer 0 (Nat.zero_le _) _ _ _ hkk
  · have h' : isN a 3 = false := by simpa using h
    repeat (first | refine wp_s hk rfl rfl ?_ | refine wp_goto hk rfl ?_ | refine wp_geti hk rfl rfl rfl rfl ?_ | refine wp_getr hk rfl rfl rfl rfl ?_)
    refine wp_ir hk rfl rfl ?_
    have hkk := kk M0 F0
    simp only [spOrder, h', Bool.and_self, Bool.true_and, Bool.and_true, Bool.false_and, Bool.and_false, if_true, Bool.false_eq_true, if_false, Bool.not_true, Bool.not_false] at hkk
    exact hkk
/-- pairs of skaters that two rules put in unlike orders -/
def apW (f g : Nat → Nat → Int32) (m : Nat) : Nat := sumN (fun a => sumN (fun b => if f a b = g a b then 0 else 1) a) m
def sgR (V : Vw) (R : Ru) (a b : Nat) : Int32 := sgW (aheadW (wS V R) a b 0 R.1) (aheadW (wS V R) b a 0 R.1)
def spApart (S : St) (a b : Int32) : Int32 := if isN a 3 && isN b 3 then nI (apW (sgR (sV S) (sR S (i2n a))) (sgR (sV S) (sR S (i2n b))) (vm (sV S))) else UNK
theorem m_apart {M : MM} {S : St} {a b : Int32} {Q : Option Value → MM → Prop} (I : RefInv M S) (O : StOK S) (kk : ∀ M', RFr M M' → Q (some (.int (spApart S a b))) M') : Ca 169 [.ref 83, .int a, .int b] M Q := by
  have hk : q_cd 169 = kd_X9_apart := rfl
  show WP 169 0 [some (.ref 83), some (.int a), some (.int b), none, none, none, none] [] M Q
  have ho4 := O.1.2.2.2.1
  repeat (first | refine wp_s hk rfl rfl ?_ | refine wp_goto hk rfl ?_ | refine wp_geti hk rfl rfl rfl rfl ?_ | refine wp_getr hk rfl rfl rfl rfl ?_)
  refine wp_th hk rfl (fun M0 F0 => ?_)
  have I0 := I.fr O F0
  repeat (first | refine wp_s hk rfl rfl ?_ | refine wp_goto hk rfl ?_ | refine wp_geti hk rfl rfl rfl rfl ?_ | refine wp_getr hk rfl rfl rfl rfl ?_)
  refine wp_callS hk rfl rfl rfl rfl ?_
  refine m_noRule ?_
  refine wp_ifneB (u := !isN a 3) hk rfl rfl (fun h => ?_) (fun h => ?_)
  · have h' : isN a 3 = false := by simpa using h
    repeat (first | refine wp_s hk rfl rfl ?_ | refine wp_goto hk rfl ?_ | refine wp_geti hk rfl rfl rfl rfl ?_ | refine wp_getr hk rfl rfl rfl rfl ?_)
    refine wp_ir hk rfl rfl ?_
    have hkk := kk M0 F0
    simp only [spApart, h', Bool.and_self, Bool.true_and, Bool.and_true, Bool.false_and, Bool.and_false, if_true, Bool.false_eq_true, if_false, Bool.not_true, Bool.not_false] at hkk
    exact hkk
  have h' : isN a 3 = true := by simpa using h
  obtain ⟨hr, ea⟩ := i2n_of (by omega) h'
  repeat (first | refine wp_s hk rfl rfl ?_ | refine wp_goto hk rfl ?_ | refine wp_geti hk rfl rfl rfl rfl ?_ | refine wp_getr hk rfl rfl rfl rfl ?_)
  refine wp_callS hk rfl rfl rfl rfl ?_
  refine m_noRule ?_
  refine wp_ifeqB (u := !isN b 3) hk rfl rfl (fun g => ?_) (fun g => ?_)
  · have g' : isN b 3 = true := by simpa using g
    obtain ⟨hr2, eb⟩ := i2n_of (by omega) g'
    repeat (first | refine wp_s hk rfl rfl ?_ | refine wp_goto hk rfl ?_ | refine wp_geti hk rfl rfl rfl rfl ?_ | refine wp_getr hk rfl rfl rfl rfl ?_)
    refine wp_callV hk rfl rfl rfl rfl rfl rfl ?_
    refine m_take I0.1 O.1 (fun M1 K1 V1 => ?_)
    have F1 := F0.tr (RFr.kp K1)
    have hm := V1.2.1
    have RA := (I0.2.2.1.1 _ hr).kp K1 (by decide) (by decide) (by decide) (by decide)
    have RB := (I0.2.2.1.1 _ hr2).kp K1 (by decide) (by decide) (by decide) (by decide)
    have OA := O.2.2.1 _ hr
    have OB := O.2.2.1 _ hr2
    have hkk := fun M' F => kk M' F
    simp only [spApart, h', g', Bool.and_self, if_true] at hkk
    rw [ea, eb]
    repeat (first | refine wp_s hk rfl rfl ?_ | refine wp_goto hk rfl ?_ | refine wp_geti hk rfl rfl rfl rfl ?_ | refine wp_getr hk rfl rfl rfl rfl ?_)
    have outer := q_dn (n := vm (sV S)) (P := fun x => ∀ M3 x5 x6, Kp M1 M3 [98, 99] → WP 169 20 [some (.ref 83), some (.int (nI (i2n a))), some (.int (nI (i2n b))), some (.int (nI (apW (sgR (sV S) (sR S (i2n a))) (sgR (sV S) (sR S (i2n b))) x))), some (.int (nI x)), x5, x6] [.int (M3 83 2), .int (nI x)] M3 Q) (by
      intro M3 x5 x6 K3
      refine wp_icgeN hk rfl rfl ((congrFun (K3 83 (by decide)) 2).trans hm) (by first | omega | decide) (by first | omega | decide) (fun _ => ?_) (fun h => absurd h (by omega))
      repeat (first | refine wp_s hk rfl rfl ?_ | refine wp_goto hk rfl ?_ | refine wp_geti hk rfl rfl rfl rfl ?_ | refine wp_getr hk rfl rfl rfl rfl ?_)
      exact wp_ir hk rfl rfl (hkk M3 (F1.tr (RFr.kp K3)))) (by
      intro x hx ih M3 x5 x6 K3
      refine wp_icgeN hk rfl rfl ((congrFun (K3 83 (by decide)) 2).trans hm) (by first | omega | decide) (by first | omega | decide) (fun h => absurd h (by omega)) (fun _ => ?_)
      repeat (first | refine wp_s hk rfl rfl ?_ | refine wp_goto hk rfl ?_ | refine wp_geti hk rfl rfl rfl rfl ?_ | refine wp_getr hk rfl rfl rfl rfl ?_)
      have inner := q_dn (n := x) (P := fun y => ∀ M3 x6, Kp M1 M3 [98, 99] → WP 169 25 [some (.ref 83), some (.int (nI (i2n a))), some (.int (nI (i2n b))), some (.int (nI (apW (sgR (sV S) (sR S (i2n a))) (sgR (sV S) (sR S (i2n b))) x + sumN (fun y => if sgR (sV S) (sR S (i2n a)) x y = sgR (sV S) (sR S (i2n b)) x y then 0 else 1) y))), some (.int (nI x)), some (.int (nI y)), x6] [.int (nI x), .int (nI y)] M3 Q) (by
        intro M3 x6 K3
        refine wp_icgeN hk rfl rfl rfl (by first | omega | decide) (by first | omega | decide) (fun _ => ?_) (fun h => absurd h (by omega))
        repeat (first | refine wp_s hk rfl rfl ?_ | refine wp_goto hk rfl ?_ | refine wp_geti hk rfl rfl rfl rfl ?_ | refine wp_getr hk rfl rfl rfl rfl ?_)
        rw [q_nadd x 1]
        exact ih _ _ _ K3) (by
        intro y hy ihy M3 x6 K3
        refine wp_icgeN hk rfl rfl rfl (by first | omega | decide) (by first | omega | decide) (fun h => absurd h (by omega)) (fun _ => ?_)
        repeat (first | refine wp_s hk rfl rfl ?_ | refine wp_goto hk rfl ?_ | refine wp_geti hk rfl rfl rfl rfl ?_ | refine wp_getr hk rfl rfl rfl rfl ?_)
        refine wp_callV hk rfl rfl rfl rfl rfl rfl ?_
        refine m_lay (V1.kp K3 (by decide) (by decide) (by decide)) (by omega) (RA.kp K3 (by decide) (by decide) (by decide) (by decide)) OA (fun M4 K4 W4 => ?_)
        repeat (first | refine wp_s hk rfl rfl ?_ | refine wp_goto hk rfl ?_ | refine wp_geti hk rfl rfl rfl rfl ?_ | refine wp_getr hk rfl rfl rfl rfl ?_)
        refine wp_callV hk rfl rfl rfl rfl rfl rfl ?_
        refine m_by W4 (by omega) hx (by omega) ?_
        repeat (first | refine wp_s hk rfl rfl ?_ | refine wp_goto hk rfl ?_ | refine wp_geti hk rfl rfl rfl rfl ?_ | refine wp_getr hk rfl rfl rfl rfl ?_)
        refine wp_callV hk rfl rfl rfl rfl rfl rfl ?_
        refine m_lay (V1.kp (K3.tr K4) (by decide) (by decide) (by decide)) (by omega) (RB.kp (K3.tr K4) (by decide) (by decide) (by decide) (by decide)) OB (fun M5 K5 W5 => ?_)
        repeat (first | refine wp_s hk rfl rfl ?_ | refine wp_goto hk rfl ?_ | refine wp_geti hk rfl rfl rfl rfl ?_ | refine wp_getr hk rfl rfl rfl rfl ?_)
        refine wp_callV hk rfl rfl rfl rfl rfl rfl ?_
        refine m_by W5 (by omega) hx (by omega) ?_
        refine wp_icne hk rfl (fun e => ?_) (fun e => ?_)
        · repeat (first | refine wp_s hk rfl rfl ?_ | refine wp_goto hk rfl ?_ | refine wp_geti hk rfl rfl rfl rfl ?_ | refine wp_getr hk rfl rfl rfl rfl ?_)
          rw [q_nadd y 1, q_nadd, Nat.add_assoc]
          have := ihy M5 (some (.int (sgR (sV S) (sR S (i2n a)) x y))) ((K3.tr K4).tr K5)
          simp only [sumN] at this
          rw [if_neg (show ¬ sgR (sV S) (sR S (i2n a)) x y = sgR (sV S) (sR S (i2n b)) x y from e)] at this
          exact this
        · repeat (first | refine wp_s hk rfl rfl ?_ | refine wp_goto hk rfl ?_ | refine wp_geti hk rfl rfl rfl rfl ?_ | refine wp_getr hk rfl rfl rfl rfl ?_)
          rw [q_nadd y 1, q_nadd, Nat.add_assoc]
          have := ihy M5 (some (.int (sgR (sV S) (sR S (i2n a)) x y))) ((K3.tr K4).tr K5)
          simp only [sumN] at this
          rw [if_pos (show sgR (sV S) (sR S (i2n a)) x y = sgR (sV S) (sR S (i2n b)) x y from Classical.not_not.mp e)] at this
          exact this)
      exact inner 0 (Nat.zero_le _) M3 _ K3)
    exact outer 0 (Nat.zero_le _) M1 _ _ (Kp.rf _ _)
  · have g' : isN b 3 = false := by simpa using g
    repeat (first | refine wp_s hk rfl rfl ?_ | refine wp_goto hk rfl ?_ | refine wp_geti hk rfl rfl rfl rfl ?_ | refine wp_getr hk rfl rfl rfl rfl ?_)
    refine wp_ir hk rfl rfl ?_
    have hkk := kk M0 F0
    simp only [spApart, h', g', Bool.and_self, Bool.true_and, Bool.and_true, Bool.false_and, Bool.and_false, if_true, Bool.false_eq_true, if_false, Bool.not_true, Bool.not_false] at hkk
    exact hkk
end
section
def dig (m v s : Nat) : Nat := v / 6 ^ (m - 1 - s) % 6
def mkG (mk : Nat → Nat → Nat) (m j v : Nat) : Nat → Nat → Nat := fun j' s' => if j' = j ∧ s' < m then dig m v s' else mk j' s'
def cntG (cnt : Nat → Bool) (j : Nat) : Nat → Bool := fun j' => if j' = j then true else cnt j'
theorem q_dec2 (t : Nat) : nI t + Int32.ofInt (.negSucc 0) = nI t - nI 1 := by
  rw [show Int32.ofInt (.negSucc 0) = -1 by decide, show nI 1 = 1 by decide]; grind
theorem m_give {M : MM} {n m : Nat} {cnt : Nat → Bool} {mk : Nat → Nat → Nat} {j v : Nat} {Q : Option Value → MM → Prop} (H : RefV M n m cnt mk) (h1 : 1 ≤ m) (hj : j < 7) (hv : v < 2000) (kk : ∀ M', Kp M M' [88, 89] → RefV M' n m (cntG cnt j) (mkG mk m j v) → Q none M') : Ca 170 [.ref 83, .int (nI j), .int (nI v)] M Q := by
  obtain ⟨hn, hm, hn7, hm4, hc, hq, hb⟩ := H
  have hk : q_cd 170 = kd_X9_give := rfl
  show WP 170 0 [some (.ref 83), some (.int (nI j)), some (.int (nI v)), none, none] [] M Q
  have loop : ∀ t, t ≤ m → ∀ M1, Kp M M1 [88, 89] → (∀ j', j' < 7 → M1 89 j' = nI (b2n (cnt j'))) → (∀ j', j' < 7 → ∀ s', s' < 4 → M1 88 (4 * j' + s') = nI (if j' = j ∧ t ≤ s' ∧ s' < m then dig m v s' else mk j' s')) → WP 170 8 [some (.ref 83), some (.int (nI j)), some (.int (nI v)), some (.int (nI (v / 6 ^ (m - t)))), some (.int (nI t - nI 1))] [.int (nI t - nI 1)] M1 Q := by
    intro t
    induction t with
    | zero =>
      intro ht M1 hK hc1 hq1
      refine wp_ifltD (u := 0) (v := 1) hk rfl rfl (by omega) (by omega) (fun _ => ?_) (fun h => absurd h (by omega))
      repeat (first | refine wp_s hk rfl rfl ?_ | refine wp_goto hk rfl ?_ | refine wp_geti hk rfl rfl rfl rfl ?_ | refine wp_getr hk rfl rfl rfl rfl ?_)
      refine wp_bst (jx := j) hk rfl rfl rfl (by omega) (Or.inr (by decide)) ?_
      refine wp_vr hk rfl (kk _ (hK.up (by decide)) ⟨?_, ?_, hn7, hm4, fun j' hj' => ?_, fun j' hj' s' hs' => ?_, fun j' hj' s' hs' => ?_⟩)
      · rw [q_up_ne _ _ (by decide)]; exact (congrFun (hK 83 (by decide)) 1).trans hn
      · rw [q_up_ne _ _ (by decide)]; exact (congrFun (hK 83 (by decide)) 2).trans hm
      · rw [q_up_at]
        by_cases e : j' = j
        · subst e; rw [upd_at]; simp [cntG, b2n]
        · rw [upd_ne _ _ e, hc1 j' hj']; simp [cntG, e]
      · rw [q_up_ne _ _ (by decide), hq1 j' hj' s' hs']
        simp only [mkG, Nat.zero_le, true_and]
      · simp only [mkG]
        split
        · have := Nat.mod_lt (v / 6 ^ (m - 1 - s')) (show 0 < 6 by omega); unfold dig; omega
        · exact hb j' hj' s' hs'
    | succ t ih =>
      intro ht M1 hK hc1 hq1
      refine wp_ifltD (u := t + 1) (v := 1) hk rfl rfl (by omega) (by omega) (fun h => absurd h (by omega)) (fun _ => ?_)
      rw [q_nsub (Nat.le_add_left 1 t), Nat.add_sub_cancel]
      have hlt : v / 6 ^ (m - (t + 1)) < 2000 := Nat.lt_of_le_of_lt (Nat.div_le_self _ _) hv
      repeat (first | refine wp_s hk rfl rfl ?_ | refine wp_goto hk rfl ?_ | refine wp_geti hk rfl rfl rfl rfl ?_ | refine wp_getr hk rfl rfl rfl rfl ?_)
      refine wp_rem hk rfl (by decide) ?_
      rw [q_nrem (b := 6) (by omega) (by omega) (by omega)]
      refine wp_ast (jx := 4 * j + t) hk rfl rfl (by simp only [q_nadd, q_nmul]) (by omega) ?_
      repeat (first | refine wp_s hk rfl rfl ?_ | refine wp_goto hk rfl ?_ | refine wp_geti hk rfl rfl rfl rfl ?_ | refine wp_getr hk rfl rfl rfl rfl ?_)
      refine wp_div hk rfl (by decide) ?_
      rw [q_ndiv (b := 6) (by omega) (by omega) (by omega)]
      repeat (first | refine wp_s hk rfl rfl ?_ | refine wp_goto hk rfl ?_ | refine wp_geti hk rfl rfl rfl rfl ?_ | refine wp_getr hk rfl rfl rfl rfl ?_)
      rw [q_dec2]
      have e6 : v / 6 ^ (m - (t + 1)) / 6 = v / 6 ^ (m - t) := by
        rw [Nat.div_div_eq_div_mul, ← Nat.pow_succ, show (m - (t + 1)).succ = m - t by omega]
      rw [e6]
      refine ih (by omega) _ (hK.up (by decide)) (fun j' hj' => by rw [q_up_ne _ _ (by decide)]; exact hc1 j' hj') (fun j' hj' s' hs' => ?_)
      rw [q_up_at]
      by_cases e : j' = j ∧ s' = t
      · obtain ⟨rfl, rfl⟩ := e
        rw [upd_at, if_pos ⟨rfl, Nat.le_refl _, by omega⟩]
        unfold dig
        rw [show m - 1 - s' = m - (s' + 1) by omega]
      · rw [upd_ne _ _ (by omega), hq1 j' hj' s' hs']
        congr 1
        by_cases e2 : j' = j ∧ t + 1 ≤ s' ∧ s' < m
        · rw [if_pos e2, if_pos (by omega)]
        · rw [if_neg e2, if_neg (by omega)]
  repeat (first | refine wp_s hk rfl rfl ?_ | refine wp_goto hk rfl ?_ | refine wp_geti hk rfl rfl rfl rfl ?_ | refine wp_getr hk rfl rfl rfl rfl ?_)
  rw [hm]
  have := loop m (Nat.le_refl _) M (Kp.rf _ _) hc (fun j' hj' s' hs' => by rw [hq j' hj' s' hs', if_neg (by omega)])
  rw [Nat.sub_self, Nat.pow_zero, Nat.div_one] at this
  exact this
/-- the first least of a row -/
def fbW (pl : Nat → Nat) : Nat → Nat × Nat
  | 0 => (5, 0)
  | v + 1 => if pl v < (fbW pl v).1 then (pl v, v) else fbW pl v
theorem fbW_le {pl : Nat → Nat} : ∀ {v : Nat}, (fbW pl v).1 ≤ 5 ∧ (fbW pl v).2 ≤ v
  | 0 => ⟨Nat.le_refl _, Nat.le_refl _⟩
  | v + 1 => by
    have := fbW_le (pl := pl) (v := v)
    simp only [fbW]
    by_cases h : pl v < (fbW pl v).1
    · rw [if_pos h]; exact ⟨by show pl v ≤ 5; omega, by show v ≤ v + 1; omega⟩
    · rw [if_neg h]; exact ⟨this.1, by omega⟩
/-- a skater's place by a judge's row -/
def plG (n m : Nat) (cnt : Nat → Bool) (mk : Nat → Nat → Nat) (R : Ru) (j v s : Nat) : Nat := placeW (worthW n m (cntG cnt j) (mkG mk m j v) R) R.1 m s
theorem m_rows {m : Nat} (h : m ≤ 4) : 6 ^ m ≤ 1296 := by
  have := Nat.pow_le_pow_right (show 0 < 6 by omega) h
  omega
theorem mkG_mk {mk k1 : Nat → Nat → Nat} {m j v : Nat} (h : ∀ j' s', ¬ (j' = j ∧ s' < m) → k1 j' s' = mk j' s') : mkG k1 m j v = mkG mk m j v := by
  funext j' s'
  simp only [mkG]
  split
  · rfl
  · rename_i e; exact h j' s' e
theorem cntG_c {cnt c1 : Nat → Bool} {j : Nat} (h : ∀ j', j' ≠ j → c1 j' = cnt j') : cntG c1 j = cntG cnt j := by
  funext j'
  simp only [cntG]
  split
  · rfl
  · rename_i e; exact h j' e
theorem m_findBest {M : MM} {V : Vw} {R : Ru} {r j s : Nat} {told : Bool} {Q : Option Value → MM → Prop} (I : RefCard M V) (O : VOK V) (hr : r ≤ 3) (hR : RefRu M r R) (hO : RuOK R) (hj : j < 7) (hs : s < vm V)
    (kk : ∀ M', Kp M M' [88, 89, 98, 99] → Q (some (.int (nI (if told then (fbW (fun v => plG (vn V) (vm V) (vc V) (vk V) R j v s) (6 ^ vm V)).2 else (fbW (fun v => plG (vn V) (vm V) (vc V) (vk V) R j v s) (6 ^ vm V)).1)))) M') :
    Ca 171 [.ref 83, .int (nI r), .int (nI j), .int (nI s), .int (nI (b2n told))] M Q := by
  have ho4 := O.2.2.2.1
  have ho1 := O.2.2.1
  have hrows := m_rows ho4
  have hk : q_cd 171 = kd_X9_findBest := rfl
  show WP 171 0 [some (.ref 83), some (.int (nI r)), some (.int (nI j)), some (.int (nI s)), some (.int (nI (b2n told))), none, none, none, none] [] M Q
  repeat (first | refine wp_s hk rfl rfl ?_ | refine wp_goto hk rfl ?_ | refine wp_geti hk rfl rfl rfl rfl ?_ | refine wp_getr hk rfl rfl rfl rfl ?_)
  refine wp_callV hk rfl rfl rfl rfl rfl rfl ?_
  refine m_take I O (fun M0 K0 V0 => ?_)
  repeat (first | refine wp_s hk rfl rfl ?_ | refine wp_goto hk rfl ?_ | refine wp_geti hk rfl rfl rfl rfl ?_ | refine wp_getr hk rfl rfl rfl rfl ?_)
  have loop := q_dn (n := 6 ^ vm V) (P := fun v => ∀ M1 c1 k1 x8, Kp M M1 [88, 89, 98, 99] → RefV M1 (vn V) (vm V) c1 k1 → (∀ j' s', ¬ (j' = j ∧ s' < vm V) → k1 j' s' = vk V j' s') → (∀ j', j' ≠ j → c1 j' = vc V j') →
      WP 171 11 [some (.ref 83), some (.int (nI r)), some (.int (nI j)), some (.int (nI s)), some (.int (nI (b2n told))), some (.int (nI (fbW (fun v => plG (vn V) (vm V) (vc V) (vk V) R j v s) v).1)), some (.int (nI (fbW (fun v => plG (vn V) (vm V) (vc V) (vk V) R j v s) v).2)), some (.int (nI v)), x8] [.int (nI (6 ^ vm V)), .int (nI v)] M1 Q) (by
    intro M1 c1 k1 x8 K1 V1 hk1 hc1
    refine wp_icgeN hk rfl rfl rfl (by first | omega | decide) (by first | omega | decide) (fun _ => ?_) (fun h => absurd h (by omega))
    repeat (first | refine wp_s hk rfl rfl ?_ | refine wp_goto hk rfl ?_ | refine wp_geti hk rfl rfl rfl rfl ?_ | refine wp_getr hk rfl rfl rfl rfl ?_)
    have := kk M1 K1
    refine wp_ifeqB (u := told) hk rfl rfl (fun h => ?_) (fun h => ?_)
    · subst h
      repeat (first | refine wp_s hk rfl rfl ?_ | refine wp_goto hk rfl ?_ | refine wp_geti hk rfl rfl rfl rfl ?_ | refine wp_getr hk rfl rfl rfl rfl ?_)
      exact wp_ir hk rfl rfl this
    · subst h
      repeat (first | refine wp_s hk rfl rfl ?_ | refine wp_goto hk rfl ?_ | refine wp_geti hk rfl rfl rfl rfl ?_ | refine wp_getr hk rfl rfl rfl rfl ?_)
      exact wp_ir hk rfl rfl this) (by
    intro v hv ih M1 c1 k1 x8 K1 V1 hk1 hc1
    refine wp_icgeN hk rfl rfl rfl (by first | omega | decide) (by first | omega | decide) (fun h => absurd h (by omega)) (fun _ => ?_)
    repeat (first | refine wp_s hk rfl rfl ?_ | refine wp_goto hk rfl ?_ | refine wp_geti hk rfl rfl rfl rfl ?_ | refine wp_getr hk rfl rfl rfl rfl ?_)
    refine wp_callV hk rfl rfl rfl rfl rfl rfl ?_
    refine m_give V1 ho1 hj (by omega) (fun M2 K2 V2 => ?_)
    rw [mkG_mk hk1, cntG_c hc1] at V2
    repeat (first | refine wp_s hk rfl rfl ?_ | refine wp_goto hk rfl ?_ | refine wp_geti hk rfl rfl rfl rfl ?_ | refine wp_getr hk rfl rfl rfl rfl ?_)
    refine wp_callV hk rfl rfl rfl rfl rfl rfl ?_
    have K12 : Kp M M2 [88, 89, 98, 99] := K1.tr (K2.mono (by decide))
    refine m_lay V2 hr (hR.kp K12 (by decide) (by decide) (by decide) (by decide)) hO (fun M3 K3 W3 => ?_)
    have K13 : Kp M M3 [88, 89, 98, 99] := K12.tr (K3.mono (by decide))
    repeat (first | refine wp_s hk rfl rfl ?_ | refine wp_goto hk rfl ?_ | refine wp_geti hk rfl rfl rfl rfl ?_ | refine wp_getr hk rfl rfl rfl rfl ?_)
    refine wp_callV hk rfl rfl rfl rfl rfl rfl ?_
    refine m_placeOf W3 hr hs ?_
    repeat (first | refine wp_s hk rfl rfl ?_ | refine wp_goto hk rfl ?_ | refine wp_geti hk rfl rfl rfl rfl ?_ | refine wp_getr hk rfl rfl rfl rfl ?_)
    have hcards : ∀ x, WP 171 8 x [] M3 Q → WP 171 8 x [] M3 Q := fun _ h => h
    have l1 := (fbW_le (pl := fun v => plG (vn V) (vm V) (vc V) (vk V) R j v s) (v := v)).1
    have l2 := placeW_le (w := worthW (vn V) (vm V) (cntG (vc V) j) (mkG (vk V) (vm V) j v) R) (parts := R.1) (m := vm V) (s := s)
    have ih' := fun x8 => ih M3 (cntG (vc V) j) (mkG (vk V) (vm V) j v) x8 K13 (V2.kp K3 (by decide) (by decide) (by decide)) (fun j' s' h => by simp only [mkG]; rw [if_neg h]) (fun j' h => by simp only [cntG]; rw [if_neg h])
    simp only [fbW] at ih'
    refine wp_icgeN (v := (fbW (fun v => plG (vn V) (vm V) (vc V) (vk V) R j v s) v).1) hk rfl rfl rfl (by omega) (by omega) (fun g => ?_) (fun g => ?_)
    · rw [if_neg (show ¬ plG (vn V) (vm V) (vc V) (vk V) R j v s < _ from Nat.not_lt.mpr g)] at ih'
      repeat (first | refine wp_s hk rfl rfl ?_ | refine wp_goto hk rfl ?_ | refine wp_geti hk rfl rfl rfl rfl ?_ | refine wp_getr hk rfl rfl rfl rfl ?_)
      rw [q_nadd v 1]
      refine wp_callV hk rfl rfl rfl rfl rfl rfl ?_
      refine m_cards (V2.kp K3 (by decide) (by decide) (by decide)).2.1 ho4 ?_
      exact ih' _
    · rw [if_pos (show plG (vn V) (vm V) (vc V) (vk V) R j v s < _ from Nat.lt_of_not_le g)] at ih'
      repeat (first | refine wp_s hk rfl rfl ?_ | refine wp_goto hk rfl ?_ | refine wp_geti hk rfl rfl rfl rfl ?_ | refine wp_getr hk rfl rfl rfl rfl ?_)
      rw [q_nadd v 1]
      refine wp_callV hk rfl rfl rfl rfl rfl rfl ?_
      refine m_cards (V2.kp K3 (by decide) (by decide) (by decide)).2.1 ho4 ?_
      exact ih' _)
  refine wp_callV hk rfl rfl rfl rfl rfl rfl ?_
  refine m_cards V0.2.1 ho4 ?_
  exact loop 0 (Nat.zero_le _) M0 _ _ _ (K0.mono (by decide)) V0 (fun _ _ _ => rfl) (fun _ _ => rfl)
def spFB (S : St) (told : Bool) (a b c : Int32) : Int32 := if isN a 3 && (isN b (vn (sV S)) && isN c (vm (sV S))) then nI (if told then (fbW (fun v => plG (vn (sV S)) (vm (sV S)) (vc (sV S)) (vk (sV S)) (sR S (i2n a)) (i2n b) v (i2n c)) (6 ^ vm (sV S))).2 else (fbW (fun v => plG (vn (sV S)) (vm (sV S)) (vc (sV S)) (vk (sV S)) (sR S (i2n a)) (i2n b) v (i2n c)) (6 ^ vm (sV S))).1) else UNK
theorem m_could {M : MM} {S : St} {a b c : Int32} {Q : Option Value → MM → Prop} (I : RefInv M S) (O : StOK S) (kk : ∀ M', RFr M M' → Q (some (.int (spFB S false a b c))) M') : Ca 172 [.ref 83, .int a, .int b, .int c] M Q := by
  have hk : q_cd 172 = kd_X9_could := rfl
  show WP 172 0 [some (.ref 83), some (.int a), some (.int b), some (.int c)] [] M Q
  have ho4 := O.1.2.2.2.1
  have ho7 := O.1.2.1
  repeat (first | refine wp_s hk rfl rfl ?_ | refine wp_goto hk rfl ?_ | refine wp_geti hk rfl rfl rfl rfl ?_ | refine wp_getr hk rfl rfl rfl rfl ?_)
  refine wp_th hk rfl (fun M0 F0 => ?_)
  have I0 := I.fr O F0
  repeat (first | refine wp_s hk rfl rfl ?_ | refine wp_goto hk rfl ?_ | refine wp_geti hk rfl rfl rfl rfl ?_ | refine wp_getr hk rfl rfl rfl rfl ?_)
  refine wp_callS hk rfl rfl rfl rfl ?_
  refine m_noRule ?_
  refine wp_ifneB (u := !isN a 3) hk rfl rfl (fun h => ?_) (fun h => ?_)
  · have h' : isN a 3 = false := by simpa using h
    repeat (first | refine wp_s hk rfl rfl ?_ | refine wp_goto hk rfl ?_ | refine wp_geti hk rfl rfl rfl rfl ?_ | refine wp_getr hk rfl rfl rfl rfl ?_)
    refine wp_ir hk rfl rfl ?_
    have hkk := kk M0 F0
    simp only [spFB, h', Bool.and_self, Bool.true_and, Bool.and_true, Bool.false_and, Bool.and_false, if_true, Bool.false_eq_true, if_false, Bool.not_true, Bool.not_false] at hkk
    exact hkk
  have h' : isN a 3 = true := by simpa using h
  repeat (first | refine wp_s hk rfl rfl ?_ | refine wp_goto hk rfl ?_ | refine wp_geti hk rfl rfl rfl rfl ?_ | refine wp_getr hk rfl rfl rfl rfl ?_)
  refine wp_callV hk rfl rfl rfl rfl rfl rfl ?_
  refine m_noJudge I0.1.1 O.1.1 ho7 ?_
  refine wp_ifneB (u := !isN b (vn (sV S))) hk rfl rfl (fun g => ?_) (fun g => ?_)
  · have g' : isN b (vn (sV S)) = false := by simpa using g
    repeat (first | refine wp_s hk rfl rfl ?_ | refine wp_goto hk rfl ?_ | refine wp_geti hk rfl rfl rfl rfl ?_ | refine wp_getr hk rfl rfl rfl rfl ?_)
    refine wp_ir hk rfl rfl ?_
    have hkk := kk M0 F0
    simp only [spFB, h', g', Bool.and_self, Bool.true_and, Bool.and_true, Bool.false_and, Bool.and_false, if_true, Bool.false_eq_true, if_false, Bool.not_true, Bool.not_false] at hkk
    exact hkk
  have g' : isN b (vn (sV S)) = true := by simpa using g
  repeat (first | refine wp_s hk rfl rfl ?_ | refine wp_goto hk rfl ?_ | refine wp_geti hk rfl rfl rfl rfl ?_ | refine wp_getr hk rfl rfl rfl rfl ?_)
  refine wp_callV hk rfl rfl rfl rfl rfl rfl ?_
  refine m_noSkater I0.1.2.1 O.1.2.2.1 (by omega) ?_
  refine wp_ifeqB (u := !isN c (vm (sV S))) hk rfl rfl (fun k => ?_) (fun k => ?_)
  · have k' : isN c (vm (sV S)) = true := by simpa using k
    obtain ⟨hr, ea⟩ := i2n_of (by omega) h'
    obtain ⟨hj, eb⟩ := i2n_of (by omega) g'
    obtain ⟨hs, ec⟩ := i2n_of (by omega) k'
    repeat (first | refine wp_s hk rfl rfl ?_ | refine wp_goto hk rfl ?_ | refine wp_geti hk rfl rfl rfl rfl ?_ | refine wp_getr hk rfl rfl rfl rfl ?_)
    rw [ea, eb, ec]
    refine wp_callV hk rfl rfl rfl rfl rfl rfl ?_
    refine m_findBest (told := false) I0.1 O.1 (by omega) (I0.2.2.1.1 _ hr) (O.2.2.1 _ hr) (by omega) hs (fun M1 K1 => ?_)
    refine wp_ir hk rfl rfl ?_
    have hkk := kk M1 (F0.tr (RFr.kp K1))
    simp only [spFB, h', g', k', Bool.and_self, Bool.true_and, Bool.and_true, Bool.false_and, Bool.and_false, if_true, Bool.false_eq_true, if_false, Bool.not_true, Bool.not_false] at hkk
    exact hkk
  · have k' : isN c (vm (sV S)) = false := by simpa using k
    repeat (first | refine wp_s hk rfl rfl ?_ | refine wp_goto hk rfl ?_ | refine wp_geti hk rfl rfl rfl rfl ?_ | refine wp_getr hk rfl rfl rfl rfl ?_)
    refine wp_ir hk rfl rfl ?_
    have hkk := kk M0 F0
    simp only [spFB, h', g', k', Bool.and_self, Bool.true_and, Bool.and_true, Bool.false_and, Bool.and_false, if_true, Bool.false_eq_true, if_false, Bool.not_true, Bool.not_false] at hkk
    exact hkk
theorem m_best {M : MM} {S : St} {a b c : Int32} {Q : Option Value → MM → Prop} (I : RefInv M S) (O : StOK S) (kk : ∀ M', RFr M M' → Q (some (.int (spFB S true a b c))) M') : Ca 173 [.ref 83, .int a, .int b, .int c] M Q := by
  have hk : q_cd 173 = kd_X9_best := rfl
  show WP 173 0 [some (.ref 83), some (.int a), some (.int b), some (.int c)] [] M Q
  have ho4 := O.1.2.2.2.1
  have ho7 := O.1.2.1
  repeat (first | refine wp_s hk rfl rfl ?_ | refine wp_goto hk rfl ?_ | refine wp_geti hk rfl rfl rfl rfl ?_ | refine wp_getr hk rfl rfl rfl rfl ?_)
  refine wp_th hk rfl (fun M0 F0 => ?_)
  have I0 := I.fr O F0
  repeat (first | refine wp_s hk rfl rfl ?_ | refine wp_goto hk rfl ?_ | refine wp_geti hk rfl rfl rfl rfl ?_ | refine wp_getr hk rfl rfl rfl rfl ?_)
  refine wp_callS hk rfl rfl rfl rfl ?_
  refine m_noRule ?_
  refine wp_ifneB (u := !isN a 3) hk rfl rfl (fun h => ?_) (fun h => ?_)
  · have h' : isN a 3 = false := by simpa using h
    repeat (first | refine wp_s hk rfl rfl ?_ | refine wp_goto hk rfl ?_ | refine wp_geti hk rfl rfl rfl rfl ?_ | refine wp_getr hk rfl rfl rfl rfl ?_)
    refine wp_ir hk rfl rfl ?_
    have hkk := kk M0 F0
    simp only [spFB, h', Bool.and_self, Bool.true_and, Bool.and_true, Bool.false_and, Bool.and_false, if_true, Bool.false_eq_true, if_false, Bool.not_true, Bool.not_false] at hkk
    exact hkk
  have h' : isN a 3 = true := by simpa using h
  repeat (first | refine wp_s hk rfl rfl ?_ | refine wp_goto hk rfl ?_ | refine wp_geti hk rfl rfl rfl rfl ?_ | refine wp_getr hk rfl rfl rfl rfl ?_)
  refine wp_callV hk rfl rfl rfl rfl rfl rfl ?_
  refine m_noJudge I0.1.1 O.1.1 ho7 ?_
  refine wp_ifneB (u := !isN b (vn (sV S))) hk rfl rfl (fun g => ?_) (fun g => ?_)
  · have g' : isN b (vn (sV S)) = false := by simpa using g
    repeat (first | refine wp_s hk rfl rfl ?_ | refine wp_goto hk rfl ?_ | refine wp_geti hk rfl rfl rfl rfl ?_ | refine wp_getr hk rfl rfl rfl rfl ?_)
    refine wp_ir hk rfl rfl ?_
    have hkk := kk M0 F0
    simp only [spFB, h', g', Bool.and_self, Bool.true_and, Bool.and_true, Bool.false_and, Bool.and_false, if_true, Bool.false_eq_true, if_false, Bool.not_true, Bool.not_false] at hkk
    exact hkk
  have g' : isN b (vn (sV S)) = true := by simpa using g
  repeat (first | refine wp_s hk rfl rfl ?_ | refine wp_goto hk rfl ?_ | refine wp_geti hk rfl rfl rfl rfl ?_ | refine wp_getr hk rfl rfl rfl rfl ?_)
  refine wp_callV hk rfl rfl rfl rfl rfl rfl ?_
  refine m_noSkater I0.1.2.1 O.1.2.2.1 (by omega) ?_
  refine wp_ifeqB (u := !isN c (vm (sV S))) hk rfl rfl (fun k => ?_) (fun k => ?_)
  · have k' : isN c (vm (sV S)) = true := by simpa using k
    obtain ⟨hr, ea⟩ := i2n_of (by omega) h'
    obtain ⟨hj, eb⟩ := i2n_of (by omega) g'
    obtain ⟨hs, ec⟩ := i2n_of (by omega) k'
    repeat (first | refine wp_s hk rfl rfl ?_ | refine wp_goto hk rfl ?_ | refine wp_geti hk rfl rfl rfl rfl ?_ | refine wp_getr hk rfl rfl rfl rfl ?_)
    rw [ea, eb, ec]
    refine wp_callV hk rfl rfl rfl rfl rfl rfl ?_
    refine m_findBest (told := true) I0.1 O.1 (by omega) (I0.2.2.1.1 _ hr) (O.2.2.1 _ hr) (by omega) hs (fun M1 K1 => ?_)
    refine wp_ir hk rfl rfl ?_
    have hkk := kk M1 (F0.tr (RFr.kp K1))
    simp only [spFB, h', g', k', Bool.and_self, Bool.true_and, Bool.and_true, Bool.false_and, Bool.and_false, if_true, Bool.false_eq_true, if_false, Bool.not_true, Bool.not_false] at hkk
    exact hkk
  · have k' : isN c (vm (sV S)) = false := by simpa using k
    repeat (first | refine wp_s hk rfl rfl ?_ | refine wp_goto hk rfl ?_ | refine wp_geti hk rfl rfl rfl rfl ?_ | refine wp_getr hk rfl rfl rfl rfl ?_)
    refine wp_ir hk rfl rfl ?_
    have hkk := kk M0 F0
    simp only [spFB, h', g', k', Bool.and_self, Bool.true_and, Bool.and_true, Bool.false_and, Bool.and_false, if_true, Bool.false_eq_true, if_false, Bool.not_true, Bool.not_false] at hkk
    exact hkk
end
section
def anyN (f : Nat → Bool) : Nat → Bool
  | 0 => false
  | n + 1 => anyN f n || f n
theorem anyN_mono {f : Nat → Bool} {a : Nat} (h : anyN f a = true) : ∀ {b : Nat}, a ≤ b → anyN f b = true := by
  intro b hb
  induction b with
  | zero => rw [show a = 0 by omega] at h; exact h
  | succ b ih =>
    by_cases e : a = b + 1
    · subst e; exact h
    · simp only [anyN, ih (by omega), Bool.true_or]
def bentW (V : Vw) (R : Ru) (j : Nat) : Bool := anyN (fun v => anyN (fun s => decide (vs V s = vj V j) && decide (plG (vn V) (vm V) (vc V) (vk V) R j v s < placeW (wS V R) R.1 (vm V) s)) (vm V)) (6 ^ vm V)
theorem RefCard.kp {M M' : MM} {V : Vw} {ids : List Nat} (H : RefCard M V) (h : Kp M M' ids) (h1 : 83 ∉ ids) (h2 : 84 ∉ ids) (h3 : 85 ∉ ids) (h4 : 86 ∉ ids) (h5 : 87 ∉ ids) : RefCard M' V := by
  unfold RefCard
  rw [h 83 h1, h 84 h2, h 85 h3, h 86 h4, h 87 h5]
  exact H
theorem q_rokB (b : Bool) : q_rok (some .boolean) (nI (b2n b)) = true := by cases b <;> decide
theorem m_isBent {M : MM} {V : Vw} {R : Ru} {r j : Nat} {Q : Option Value → MM → Prop} (I : RefCard M V) (O : VOK V) (hr : r ≤ 3) (hR : RefRu M r R) (hO : RuOK R) (hj : j < 7)
    (kk : ∀ M', Kp M M' [88, 89, 98, 99, 100] → Q (some (.int (nI (b2n (bentW V R j))))) M') : Ca 174 [.ref 83, .int (nI r), .int (nI j)] M Q := by
  have ho4 := O.2.2.2.1
  have ho1 := O.2.2.1
  have hrows := m_rows ho4
  have hl1 := O.2.2.2.2.2.2.1 j hj
  have hl2 := O.2.2.2.2.2.2.2
  have hk : q_cd 174 = kd_X9_isBent := rfl
  show WP 174 0 [some (.ref 83), some (.int (nI r)), some (.int (nI j)), none, none, none] [] M Q
  repeat (first | refine wp_s hk rfl rfl ?_ | refine wp_goto hk rfl ?_ | refine wp_geti hk rfl rfl rfl rfl ?_ | refine wp_getr hk rfl rfl rfl rfl ?_)
  refine wp_callV hk rfl rfl rfl rfl rfl rfl ?_
  refine m_take I O (fun M0 K0 V0 => ?_)
  repeat (first | refine wp_s hk rfl rfl ?_ | refine wp_goto hk rfl ?_ | refine wp_geti hk rfl rfl rfl rfl ?_ | refine wp_getr hk rfl rfl rfl rfl ?_)
  refine wp_callV hk rfl rfl rfl rfl rfl rfl ?_
  refine m_lay V0 hr (hR.kp K0 (by decide) (by decide) (by decide) (by decide)) hO (fun M1 K1 W1 => ?_)
  have K01 : Kp M M1 [88, 89, 98, 99, 100] := (K0.mono (by decide)).tr (K1.mono (by decide))
  have V1 := V0.kp K1 (by decide) (by decide) (by decide)
  change RefW M1 r R.1 (vm V) (wS V R) at W1
  have hret : ∀ M' x4 x5 b, b = bentW V R j → Kp M M' [88, 89, 98, 99, 100] → WP 174 72 [some (.ref 83), some (.int (nI r)), some (.int (nI j)), some (.int (nI (b2n b))), x4, x5] [] M' Q := by
    intro M' x4 x5 b hb hK
    repeat (first | refine wp_s hk rfl rfl ?_ | refine wp_goto hk rfl ?_ | refine wp_geti hk rfl rfl rfl rfl ?_ | refine wp_getr hk rfl rfl rfl rfl ?_)
    refine wp_ir hk rfl (q_rokB _) ?_
    rw [hb]
    exact kk M' hK
  have loop := q_dn (n := 6 ^ vm V) (P := fun v => ∀ M2 c1 k1 x5, Kp M M2 [88, 89, 98, 99, 100] → RefV M2 (vn V) (vm V) c1 k1 → (∀ j' s', ¬ (j' = j ∧ s' < vm V) → k1 j' s' = vk V j' s') → (∀ j', j' ≠ j → c1 j' = vc V j') → (∀ s, s < vm V → M2 100 s = nI (placeW (wS V R) R.1 (vm V) s)) →
      WP 174 28 [some (.ref 83), some (.int (nI r)), some (.int (nI j)), some (.int (nI (b2n (anyN (fun v => anyN (fun s => decide (vs V s = vj V j) && decide (plG (vn V) (vm V) (vc V) (vk V) R j v s < placeW (wS V R) R.1 (vm V) s)) (vm V)) v)))), some (.int (nI v)), x5] [.int (nI (6 ^ vm V)), .int (nI v)] M2 Q) (by
    intro M2 c1 k1 x5 K2 V2 hk1 hc1 hpl
    refine wp_icgeN hk rfl rfl rfl (by first | omega | decide) (by first | omega | decide) (fun _ => ?_) (fun h => absurd h (by omega))
    exact hret M2 _ _ _ rfl K2) (by
    intro v hv ih M2 c1 k1 x5 K2 V2 hk1 hc1 hpl
    refine wp_icgeN hk rfl rfl rfl (by first | omega | decide) (by first | omega | decide) (fun h => absurd h (by omega)) (fun _ => ?_)
    simp only [anyN] at ih
    cases hg : anyN (fun v => anyN (fun s => decide (vs V s = vj V j) && decide (plG (vn V) (vm V) (vc V) (vk V) R j v s < placeW (wS V R) R.1 (vm V) s)) (vm V)) v with
    | true =>
      repeat (first | refine wp_s hk rfl rfl ?_ | refine wp_goto hk rfl ?_ | refine wp_geti hk rfl rfl rfl rfl ?_ | refine wp_getr hk rfl rfl rfl rfl ?_)
      refine wp_ifneB (u := true) hk rfl rfl (fun _ => ?_) (fun h => by cases h)
      exact hret M2 _ _ true (anyN_mono hg (Nat.le_of_lt hv)).symm K2
    | false =>
      rw [hg] at ih
      simp only [Bool.false_or] at ih
      repeat (first | refine wp_s hk rfl rfl ?_ | refine wp_goto hk rfl ?_ | refine wp_geti hk rfl rfl rfl rfl ?_ | refine wp_getr hk rfl rfl rfl rfl ?_)
      refine wp_ifneB (u := false) hk rfl rfl (fun h => by cases h) (fun _ => ?_)
      repeat (first | refine wp_s hk rfl rfl ?_ | refine wp_goto hk rfl ?_ | refine wp_geti hk rfl rfl rfl rfl ?_ | refine wp_getr hk rfl rfl rfl rfl ?_)
      refine wp_callV hk rfl rfl rfl rfl rfl rfl ?_
      refine m_give V2 ho1 hj (by omega) (fun M3 K3 V3 => ?_)
      rw [mkG_mk hk1, cntG_c hc1] at V3
      have K23 : Kp M M3 [88, 89, 98, 99, 100] := K2.tr (K3.mono (by decide))
      repeat (first | refine wp_s hk rfl rfl ?_ | refine wp_goto hk rfl ?_ | refine wp_geti hk rfl rfl rfl rfl ?_ | refine wp_getr hk rfl rfl rfl rfl ?_)
      refine wp_callV hk rfl rfl rfl rfl rfl rfl ?_
      refine m_lay V3 hr (hR.kp K23 (by decide) (by decide) (by decide) (by decide)) hO (fun M4 K4 W4 => ?_)
      have K24 : Kp M M4 [88, 89, 98, 99, 100] := K23.tr (K4.mono (by decide))
      have V4 := V3.kp K4 (by decide) (by decide) (by decide)
      have I4 := I.kp K24 (by decide) (by decide) (by decide) (by decide) (by decide)
      have hpl4 : ∀ s, s < vm V → M4 100 s = nI (placeW (wS V R) R.1 (vm V) s) := fun s hs => by rw [K4 100 (by decide), K3 100 (by decide)]; exact hpl s hs
      repeat (first | refine wp_s hk rfl rfl ?_ | refine wp_goto hk rfl ?_ | refine wp_geti hk rfl rfl rfl rfl ?_ | refine wp_getr hk rfl rfl rfl rfl ?_)
      have inner := q_dn (n := vm V) (P := fun s => WP 174 43 [some (.ref 83), some (.int (nI r)), some (.int (nI j)), some (.int (nI (b2n (anyN (fun s => decide (vs V s = vj V j) && decide (plG (vn V) (vm V) (vc V) (vk V) R j v s < placeW (wS V R) R.1 (vm V) s)) s)))), some (.int (nI v)), some (.int (nI s))] [.int (M4 83 2), .int (nI s)] M4 Q) (by
        refine wp_icgeN hk rfl rfl V4.2.1 (by first | omega | decide) (by first | omega | decide) (fun _ => ?_) (fun h => absurd h (by omega))
        repeat (first | refine wp_s hk rfl rfl ?_ | refine wp_goto hk rfl ?_ | refine wp_geti hk rfl rfl rfl rfl ?_ | refine wp_getr hk rfl rfl rfl rfl ?_)
        rw [q_nadd v 1]
        refine wp_callV hk rfl rfl rfl rfl rfl rfl ?_
        refine m_cards V4.2.1 ho4 ?_
        exact ih M4 _ _ _ K24 V4 (fun j' s' h => by simp only [mkG]; rw [if_neg h]) (fun j' h => by simp only [cntG]; rw [if_neg h]) hpl4) (by
        intro s hs ihs
        refine wp_icgeN hk rfl rfl V4.2.1 (by first | omega | decide) (by first | omega | decide) (fun h => absurd h (by omega)) (fun _ => ?_)
        simp only [anyN] at ihs
        have fin : ∀ z b, b2n b = z → b = (anyN (fun s => decide (vs V s = vj V j) && decide (plG (vn V) (vm V) (vc V) (vk V) R j v s < placeW (wS V R) R.1 (vm V) s)) s || (decide (vs V s = vj V j) && decide (plG (vn V) (vm V) (vc V) (vk V) R j v s < placeW (wS V R) R.1 (vm V) s))) → ∀ x3, WP 174 67 [some (.ref 83), some (.int (nI r)), some (.int (nI j)), x3, some (.int (nI v)), some (.int (nI s))] [.int (nI z)] M4 Q := by
          intro z b hz hb x3
          repeat (first | refine wp_s hk rfl rfl ?_ | refine wp_goto hk rfl ?_ | refine wp_geti hk rfl rfl rfl rfl ?_ | refine wp_getr hk rfl rfl rfl rfl ?_)
          rw [q_nadd s 1, ← hz, hb]
          exact ihs
        have l2 := hl2 s (by omega)
        have l3 := placeW_le (w := wS V R) (parts := R.1) (m := vm V) (s := s)
        have l4 := placeW_le (w := worthW (vn V) (vm V) (cntG (vc V) j) (mkG (vk V) (vm V) j v) R) (parts := R.1) (m := vm V) (s := s)
        repeat (first | refine wp_s hk rfl rfl ?_ | refine wp_goto hk rfl ?_ | refine wp_geti hk rfl rfl rfl rfl ?_ | refine wp_getr hk rfl rfl rfl rfl ?_)
        refine wp_ifneB hk rfl rfl (fun g => ?_) (fun g => ?_)
        · refine wp_s hk rfl rfl ?_
          refine wp_goto hk rfl ?_
          exact fin 1 true rfl (by rw [g, Bool.true_or]) _
        · rw [g] at fin
          simp only [Bool.false_or] at fin
          repeat (first | refine wp_s hk rfl rfl ?_ | refine wp_goto hk rfl ?_ | refine wp_geti hk rfl rfl rfl rfl ?_ | refine wp_getr hk rfl rfl rfl rfl ?_)
          refine wp_ald (jx := s) hk rfl rfl rfl (by omega) ?_
          rw [I4.2.2.2.2.2 s (by omega)]
          repeat (first | refine wp_s hk rfl rfl ?_ | refine wp_goto hk rfl ?_ | refine wp_geti hk rfl rfl rfl rfl ?_ | refine wp_getr hk rfl rfl rfl rfl ?_)
          refine wp_ald (jx := j) hk rfl rfl rfl (by omega) ?_
          rw [I4.2.2.2.2.1 j hj]
          refine wp_icneN hk rfl rfl rfl (by omega) (by omega) (fun g2 => ?_) (fun g2 => ?_)
          · refine wp_s hk rfl rfl ?_
            exact fin 0 false rfl (by rw [decide_eq_false g2, Bool.false_and]) _
          · have g3 : vs V s = vj V j := by omega
            rw [decide_eq_true g3] at fin
            simp only [Bool.true_and] at fin
            repeat (first | refine wp_s hk rfl rfl ?_ | refine wp_goto hk rfl ?_ | refine wp_geti hk rfl rfl rfl rfl ?_ | refine wp_getr hk rfl rfl rfl rfl ?_)
            refine wp_callV hk rfl rfl rfl rfl rfl rfl ?_
            refine m_placeOf W4 hr hs ?_
            repeat (first | refine wp_s hk rfl rfl ?_ | refine wp_goto hk rfl ?_ | refine wp_geti hk rfl rfl rfl rfl ?_ | refine wp_getr hk rfl rfl rfl rfl ?_)
            refine wp_ald (jx := s) hk rfl rfl rfl (by omega) ?_
            rw [hpl4 s hs]
            refine wp_icgeN (u := placeW (worthW (vn V) (vm V) (cntG (vc V) j) (mkG (vk V) (vm V) j v) R) R.1 (vm V) s) hk rfl rfl rfl (by omega) (by omega) (fun g4 => ?_) (fun g4 => ?_)
            · refine wp_s hk rfl rfl ?_
              exact fin 0 false rfl (decide_eq_false (Nat.not_lt.mpr g4)).symm _
            · refine wp_s hk rfl rfl ?_
              refine wp_goto hk rfl ?_
              exact fin 1 true rfl (decide_eq_true (Nat.lt_of_not_le g4)).symm _)
      exact inner 0 (Nat.zero_le _))
  have l0 := q_dn (n := vm V) (P := fun s => ∀ M2, Kp M1 M2 [100] → (∀ s', s' < s → M2 100 s' = nI (placeW (wS V R) R.1 (vm V) s')) → WP 174 10 [some (.ref 83), some (.int (nI r)), some (.int (nI j)), some (.int (nI s)), none, none] [.int (M2 83 2), .int (nI s)] M2 Q) (by
    intro M2 K2 hpl
    have K02 : Kp M M2 [88, 89, 98, 99, 100] := K01.tr (K2.mono (by decide))
    have V2 := V1.kp K2 (by decide) (by decide) (by decide)
    refine wp_icgeN hk rfl rfl V2.2.1 (by first | omega | decide) (by first | omega | decide) (fun _ => ?_) (fun h => absurd h (by omega))
    repeat (first | refine wp_s hk rfl rfl ?_ | refine wp_goto hk rfl ?_ | refine wp_geti hk rfl rfl rfl rfl ?_ | refine wp_getr hk rfl rfl rfl rfl ?_)
    refine wp_callV hk rfl rfl rfl rfl rfl rfl ?_
    refine m_cards V2.2.1 ho4 ?_
    exact loop 0 (Nat.zero_le _) M2 _ _ _ K02 V2 (fun _ _ _ => rfl) (fun _ _ => rfl) hpl) (by
    intro s hs ih M2 K2 hpl
    have V2 := V1.kp K2 (by decide) (by decide) (by decide)
    refine wp_icgeN hk rfl rfl V2.2.1 (by first | omega | decide) (by first | omega | decide) (fun h => absurd h (by omega)) (fun _ => ?_)
    have W2 : RefW M2 r R.1 (vm V) (wS V R) := by
      obtain ⟨w1, w2, w3, w4, w5, w6⟩ := W1
      refine ⟨by rw [K2 94 (by decide)]; exact w1, by rw [K2 83 (by decide)]; exact w2, w3, w4, by rw [K2 98 (by decide)]; exact w5, w6⟩
    repeat (first | refine wp_s hk rfl rfl ?_ | refine wp_goto hk rfl ?_ | refine wp_geti hk rfl rfl rfl rfl ?_ | refine wp_getr hk rfl rfl rfl rfl ?_)
    refine wp_callV hk rfl rfl rfl rfl rfl rfl ?_
    refine m_placeOf W2 hr hs ?_
    refine wp_ast (jx := s) hk rfl rfl rfl (by omega) ?_
    repeat (first | refine wp_s hk rfl rfl ?_ | refine wp_goto hk rfl ?_ | refine wp_geti hk rfl rfl rfl rfl ?_ | refine wp_getr hk rfl rfl rfl rfl ?_)
    rw [q_nadd s 1]
    refine ih _ (K2.up (by decide)) (fun s' hs' => ?_)
    rw [q_up_at]
    by_cases e : s' = s
    · subst e; rw [upd_at]
    · rw [upd_ne _ _ e]; exact hpl s' (by omega))
  repeat (first | refine wp_s hk rfl rfl ?_ | refine wp_goto hk rfl ?_ | refine wp_geti hk rfl rfl rfl rfl ?_ | refine wp_getr hk rfl rfl rfl rfl ?_)
  exact l0 0 (Nat.zero_le _) M1 (Kp.rf _ _) (fun s' hs' => absurd hs' (Nat.not_lt_zero _))
def spBends (S : St) (a b : Int32) : Int32 := if isN a 3 && isN b (vn (sV S)) then nI (b2n (bentW (sV S) (sR S (i2n a)) (i2n b))) else UNK
theorem m_bends {M : MM} {S : St} {a b : Int32} {Q : Option Value → MM → Prop} (I : RefInv M S) (O : StOK S) (kk : ∀ M', RFr M M' → Q (some (.int (spBends S a b))) M') : Ca 175 [.ref 83, .int a, .int b] M Q := by
  have hk : q_cd 175 = kd_X9_bends := rfl
  show WP 175 0 [some (.ref 83), some (.int a), some (.int b)] [] M Q
  have ho7 := O.1.2.1
  repeat (first | refine wp_s hk rfl rfl ?_ | refine wp_goto hk rfl ?_ | refine wp_geti hk rfl rfl rfl rfl ?_ | refine wp_getr hk rfl rfl rfl rfl ?_)
  refine wp_th hk rfl (fun M0 F0 => ?_)
  have I0 := I.fr O F0
  repeat (first | refine wp_s hk rfl rfl ?_ | refine wp_goto hk rfl ?_ | refine wp_geti hk rfl rfl rfl rfl ?_ | refine wp_getr hk rfl rfl rfl rfl ?_)
  refine wp_callS hk rfl rfl rfl rfl ?_
  refine m_noRule ?_
  refine wp_ifneB (u := !isN a 3) hk rfl rfl (fun h => ?_) (fun h => ?_)
  · have h' : isN a 3 = false := by simpa using h
    repeat (first | refine wp_s hk rfl rfl ?_ | refine wp_goto hk rfl ?_ | refine wp_geti hk rfl rfl rfl rfl ?_ | refine wp_getr hk rfl rfl rfl rfl ?_)
    refine wp_ir hk rfl rfl ?_
    have hkk := kk M0 F0
    simp only [spBends, h', Bool.and_self, Bool.true_and, Bool.and_true, Bool.false_and, Bool.and_false, if_true, Bool.false_eq_true, if_false, Bool.not_true, Bool.not_false] at hkk
    exact hkk
  have h' : isN a 3 = true := by simpa using h
  repeat (first | refine wp_s hk rfl rfl ?_ | refine wp_goto hk rfl ?_ | refine wp_geti hk rfl rfl rfl rfl ?_ | refine wp_getr hk rfl rfl rfl rfl ?_)
  refine wp_callV hk rfl rfl rfl rfl rfl rfl ?_
  refine m_noJudge I0.1.1 O.1.1 ho7 ?_
  refine wp_ifeqB (u := !isN b (vn (sV S))) hk rfl rfl (fun g => ?_) (fun g => ?_)
  · have g' : isN b (vn (sV S)) = true := by simpa using g
    obtain ⟨hr, ea⟩ := i2n_of (by omega) h'
    obtain ⟨hj, eb⟩ := i2n_of (by omega) g'
    repeat (first | refine wp_s hk rfl rfl ?_ | refine wp_goto hk rfl ?_ | refine wp_geti hk rfl rfl rfl rfl ?_ | refine wp_getr hk rfl rfl rfl rfl ?_)
    rw [ea, eb]
    refine wp_callV hk rfl rfl rfl rfl rfl rfl ?_
    refine m_isBent I0.1 O.1 (by omega) (I0.2.2.1.1 _ hr) (O.2.2.1 _ hr) (by omega) (fun M1 K1 => ?_)
    have hkk := kk M1 (F0.tr (RFr.kp K1))
    simp only [spBends, h', g', Bool.and_self, if_true] at hkk
    refine wp_ifeqB hk rfl rfl (fun z => ?_) (fun z => ?_) <;> rw [z] at hkk
    · repeat (first | refine wp_s hk rfl rfl ?_ | refine wp_goto hk rfl ?_ | refine wp_geti hk rfl rfl rfl rfl ?_ | refine wp_getr hk rfl rfl rfl rfl ?_)
      exact wp_ir hk rfl rfl hkk
    · repeat (first | refine wp_s hk rfl rfl ?_ | refine wp_goto hk rfl ?_ | refine wp_geti hk rfl rfl rfl rfl ?_ | refine wp_getr hk rfl rfl rfl rfl ?_)
      exact wp_ir hk rfl rfl hkk
  · have g' : isN b (vn (sV S)) = false := by simpa using g
    repeat (first | refine wp_s hk rfl rfl ?_ | refine wp_goto hk rfl ?_ | refine wp_geti hk rfl rfl rfl rfl ?_ | refine wp_getr hk rfl rfl rfl rfl ?_)
    refine wp_ir hk rfl rfl ?_
    have hkk := kk M0 F0
    simp only [spBends, h', g', Bool.and_self, Bool.true_and, Bool.and_true, Bool.false_and, Bool.and_false, if_true, Bool.false_eq_true, if_false, Bool.not_true, Bool.not_false] at hkk
    exact hkk
/-- bits of those for whom it holds -/
def bitsW (f : Nat → Bool) : Nat → Nat
  | 0 => 0
  | j + 1 => bitsW f j ||| (if f j then 2 ^ j else 0)
theorem bitsW_lt {f : Nat → Bool} : ∀ {j : Nat}, bitsW f j < 2 ^ j
  | 0 => by simp [bitsW]
  | j + 1 => by
    have h1 := bitsW_lt (f := f) (j := j)
    simp only [bitsW]
    have h2 : 2 ^ j < 2 ^ (j + 1) := Nat.pow_lt_pow_right (by omega) (by omega)
    exact Nat.or_lt_two_pow (by omega) (by split <;> omega)
theorem q_nor (a b : Nat) : nI a ||| nI b = nI (a ||| b) := by
  show (⟨UInt32.ofNat a⟩ : Int32) ||| ⟨UInt32.ofNat b⟩ = ⟨UInt32.ofNat (a ||| b)⟩
  rw [UInt32.ofNat_or]
  rfl
theorem m_allBent {M : MM} {V : Vw} {R : Ru} {r : Nat} {Q : Option Value → MM → Prop} (I : RefCard M V) (O : VOK V) (hr : r ≤ 3) (hR : RefRu M r R) (hO : RuOK R)
    (kk : ∀ M', Kp M M' [88, 89, 98, 99, 100] → Q (some (.int (nI (bitsW (bentW V R) (vn V))))) M') : Ca 176 [.ref 83, .int (nI r)] M Q := by
  have ho7 := O.2.1
  have hk : q_cd 176 = kd_X9_allBent := rfl
  show WP 176 0 [some (.ref 83), some (.int (nI r)), none, none] [] M Q
  have loop := q_dn (n := vn V) (P := fun j => ∀ M1, Kp M M1 [88, 89, 98, 99, 100] → WP 176 7 [some (.ref 83), some (.int (nI r)), some (.int (nI (bitsW (bentW V R) j))), some (.int (nI j))] [.int (M1 83 1), .int (nI j)] M1 Q) (by
    intro M1 K1
    refine wp_icgeN hk rfl rfl ((congrFun (K1 83 (by decide)) 1).trans I.1) (by first | omega | decide) (by first | omega | decide) (fun _ => ?_) (fun h => absurd h (by omega))
    repeat (first | refine wp_s hk rfl rfl ?_ | refine wp_goto hk rfl ?_ | refine wp_geti hk rfl rfl rfl rfl ?_ | refine wp_getr hk rfl rfl rfl rfl ?_)
    exact wp_ir hk rfl rfl (kk M1 K1)) (by
    intro j hj ih M1 K1
    refine wp_icgeN hk rfl rfl ((congrFun (K1 83 (by decide)) 1).trans I.1) (by first | omega | decide) (by first | omega | decide) (fun h => absurd h (by omega)) (fun _ => ?_)
    simp only [bitsW] at ih
    repeat (first | refine wp_s hk rfl rfl ?_ | refine wp_goto hk rfl ?_ | refine wp_geti hk rfl rfl rfl rfl ?_ | refine wp_getr hk rfl rfl rfl rfl ?_)
    refine wp_callV hk rfl rfl rfl rfl rfl rfl ?_
    refine m_isBent (I.kp K1 (by decide) (by decide) (by decide) (by decide) (by decide)) O hr (hR.kp K1 (by decide) (by decide) (by decide) (by decide)) hO (by omega) (fun M2 K2 => ?_)
    have ih' := ih M2 (K1.tr K2)
    refine wp_ifeqB hk rfl rfl (fun z => ?_) (fun z => ?_)
    · rw [if_neg (by rw [z]; exact Bool.false_ne_true)] at ih'
      repeat (first | refine wp_s hk rfl rfl ?_ | refine wp_goto hk rfl ?_ | refine wp_geti hk rfl rfl rfl rfl ?_ | refine wp_getr hk rfl rfl rfl rfl ?_)
      rw [q_nadd j 1, q_nor]
      exact ih'
    · rw [if_pos z] at ih'
      repeat (first | refine wp_s hk rfl rfl ?_ | refine wp_goto hk rfl ?_ | refine wp_geti hk rfl rfl rfl rfl ?_ | refine wp_getr hk rfl rfl rfl rfl ?_)
      rw [q_nadd j 1, q_shl1 j (by omega), q_nor]
      exact ih')
  repeat (first | refine wp_s hk rfl rfl ?_ | refine wp_goto hk rfl ?_ | refine wp_geti hk rfl rfl rfl rfl ?_ | refine wp_getr hk rfl rfl rfl rfl ?_)
  exact loop 0 (Nat.zero_le _) M (Kp.rf _ _)
def spBent (S : St) (a : Int32) : Int32 := if isN a 3 then nI (bitsW (bentW (sV S) (sR S (i2n a))) (vn (sV S))) else UNK
theorem m_bent {M : MM} {S : St} {a : Int32} {Q : Option Value → MM → Prop} (I : RefInv M S) (O : StOK S) (kk : ∀ M', RFr M M' → Q (some (.int (spBent S a))) M') : Ca 177 [.ref 83, .int a] M Q := by
  have hk : q_cd 177 = kd_X9_bent := rfl
  show WP 177 0 [some (.ref 83), some (.int a)] [] M Q
  repeat (first | refine wp_s hk rfl rfl ?_ | refine wp_goto hk rfl ?_ | refine wp_geti hk rfl rfl rfl rfl ?_ | refine wp_getr hk rfl rfl rfl rfl ?_)
  refine wp_th hk rfl (fun M0 F0 => ?_)
  have I0 := I.fr O F0
  repeat (first | refine wp_s hk rfl rfl ?_ | refine wp_goto hk rfl ?_ | refine wp_geti hk rfl rfl rfl rfl ?_ | refine wp_getr hk rfl rfl rfl rfl ?_)
  refine wp_callS hk rfl rfl rfl rfl ?_
  refine m_noRule ?_
  refine wp_ifeqB (u := !isN a 3) hk rfl rfl (fun h => ?_) (fun h => ?_)
  · have h' : isN a 3 = true := by simpa using h
    obtain ⟨hr, ea⟩ := i2n_of (by omega) h'
    repeat (first | refine wp_s hk rfl rfl ?_ | refine wp_goto hk rfl ?_ | refine wp_geti hk rfl rfl rfl rfl ?_ | refine wp_getr hk rfl rfl rfl rfl ?_)
    rw [ea]
    refine wp_callV hk rfl rfl rfl rfl rfl rfl ?_
    refine m_allBent I0.1 O.1 (by omega) (I0.2.2.1.1 _ hr) (O.2.2.1 _ hr) (fun M1 K1 => ?_)
    refine wp_ir hk rfl rfl ?_
    have hkk := kk M1 (F0.tr (RFr.kp K1))
    simp only [spBent, h', Bool.and_self, Bool.true_and, Bool.and_true, Bool.false_and, Bool.and_false, if_true, Bool.false_eq_true, if_false, Bool.not_true, Bool.not_false] at hkk
    exact hkk
  · have h' : isN a 3 = false := by simpa using h
    repeat (first | refine wp_s hk rfl rfl ?_ | refine wp_goto hk rfl ?_ | refine wp_geti hk rfl rfl rfl rfl ?_ | refine wp_getr hk rfl rfl rfl rfl ?_)
    refine wp_ir hk rfl rfl ?_
    have hkk := kk M0 F0
    simp only [spBent, h', Bool.and_self, Bool.true_and, Bool.and_true, Bool.false_and, Bool.and_false, if_true, Bool.false_eq_true, if_false, Bool.not_true, Bool.not_false] at hkk
    exact hkk
/-- how many bits -/
def popW (x : Nat) : Nat := sumN (fun k => x / 2 ^ k % 2) 7
theorem q_bit : ∀ x, x < 128 → ∀ k, k < 7 → (nI x >>> (nI k &&& 31)) &&& nI 1 = nI (x / 2 ^ k % 2) := by decide +kernel
theorem m_many {M : MM} {x : Nat} {Q : Option Value → MM → Prop} (hx : x < 128) (kk : Q (some (.int (nI (popW x)))) M) : Ca 178 [.int (nI x)] M Q := by
  have hk : q_cd 178 = kd_X9_many := rfl
  show WP 178 0 [some (.int (nI x)), none, none] [] M Q
  have loop := q_dn (n := 7) (P := fun k => WP 178 6 [some (.int (nI x)), some (.int (nI (sumN (fun k => x / 2 ^ k % 2) k))), some (.int (nI k))] [.int (nI 7), .int (nI k)] M Q) (by
    refine wp_icgeN hk rfl rfl rfl (by first | omega | decide) (by first | omega | decide) (fun _ => ?_) (fun h => absurd h (by omega))
    repeat (first | refine wp_s hk rfl rfl ?_ | refine wp_goto hk rfl ?_ | refine wp_geti hk rfl rfl rfl rfl ?_ | refine wp_getr hk rfl rfl rfl rfl ?_)
    exact wp_ir hk rfl rfl kk) (by
    intro k hk7 ih
    refine wp_icgeN hk rfl rfl rfl (by first | omega | decide) (by first | omega | decide) (fun h => absurd h (by omega)) (fun _ => ?_)
    repeat (first | refine wp_s hk rfl rfl ?_ | refine wp_goto hk rfl ?_ | refine wp_geti hk rfl rfl rfl rfl ?_ | refine wp_getr hk rfl rfl rfl rfl ?_)
    rw [q_bit x hx k hk7, q_nadd k 1, q_nadd]
    exact ih)
  repeat (first | refine wp_s hk rfl rfl ?_ | refine wp_goto hk rfl ?_ | refine wp_geti hk rfl rfl rfl rfl ?_ | refine wp_getr hk rfl rfl rfl rfl ?_)
  exact loop 0 (Nat.zero_le _)
theorem popW_le (x : Nat) : popW x ≤ 7 := sumN_le (c := 1) (fun k _ => by have := Nat.mod_lt (x / 2 ^ k) (show 0 < 2 by omega); omega)
def stW (f : Nat → Nat) : Nat → Nat × Nat
  | 0 => (8, 0)
  | k + 1 => if f k < (stW f k).1 then (f k, k) else stW f k
theorem stW_le {f : Nat → Nat} : ∀ {k : Nat}, (stW f k).1 ≤ 8 ∧ (stW f k).2 ≤ k
  | 0 => ⟨Nat.le_refl _, Nat.le_refl _⟩
  | k + 1 => by
    have := stW_le (f := f) (k := k)
    simp only [stW]
    by_cases h : f k < (stW f k).1
    · rw [if_pos h]; exact ⟨by show f k ≤ 8; omega, by show k ≤ k + 1; omega⟩
    · rw [if_neg h]; exact ⟨this.1, by omega⟩
/-- S k alone -/
def ruS (k : Nat) : Ru := (1, fun _ => 0, fun _ => k, fun _ _ => 0)
theorem ruS_ok {k : Nat} (h : k < 4) : RuOK (ruS k) := ⟨Nat.le_refl _, by show 1 ≤ 3; omega, fun _ _ => Nat.zero_le _, fun _ _ _ => by show k ≤ 3; omega, fun _ _ _ _ _ => Nat.zero_le _⟩
def spStrike (S : St) : Int32 := nI (stW (fun k => popW (bitsW (bentW (sV S) (ruS k)) (vn (sV S)))) 4).2
theorem m_strike {M : MM} {S : St} {Q : Option Value → MM → Prop} (I : RefInv M S) (O : StOK S) (kk : ∀ M', RFr M M' → Q (some (.int (spStrike S))) M') : Ca 179 [.ref 83] M Q := by
  have ho7 := O.1.2.1
  have hk : q_cd 179 = kd_X9_strike := rfl
  show WP 179 0 [some (.ref 83), none, none, none, none] [] M Q
  repeat (first | refine wp_s hk rfl rfl ?_ | refine wp_goto hk rfl ?_ | refine wp_geti hk rfl rfl rfl rfl ?_ | refine wp_getr hk rfl rfl rfl rfl ?_)
  refine wp_th hk rfl (fun M0 F0 => ?_)
  have loop := q_dn (n := 4) (P := fun k => ∀ M1 x4, RFr M M1 → WP 179 11 [some (.ref 83), some (.int (nI (stW (fun k => popW (bitsW (bentW (sV S) (ruS k)) (vn (sV S)))) k).1)), some (.int (nI (stW (fun k => popW (bitsW (bentW (sV S) (ruS k)) (vn (sV S)))) k).2)), some (.int (nI k)), x4] [.int (nI 4), .int (nI k)] M1 Q) (by
    intro M1 x4 F1
    refine wp_icgeN hk rfl rfl rfl (by first | omega | decide) (by first | omega | decide) (fun _ => ?_) (fun h => absurd h (by omega))
    repeat (first | refine wp_s hk rfl rfl ?_ | refine wp_goto hk rfl ?_ | refine wp_geti hk rfl rfl rfl rfl ?_ | refine wp_getr hk rfl rfl rfl rfl ?_)
    exact wp_ir hk rfl rfl (kk M1 F1)) (by
    intro k hk4 ih M1 x4 F1
    refine wp_icgeN hk rfl rfl rfl (by first | omega | decide) (by first | omega | decide) (fun h => absurd h (by omega)) (fun _ => ?_)
    have I1 := I.fr O F1
    repeat (first | refine wp_s hk rfl rfl ?_ | refine wp_goto hk rfl ?_ | refine wp_geti hk rfl rfl rfl rfl ?_ | refine wp_getr hk rfl rfl rfl rfl ?_)
    refine wp_ast (jx := 9) hk rfl rfl rfl (by omega) ?_
    generalize hM2 : q_up M1 96 (upd (M1 96) 9 (nI k)) = M2
    have F2 : RFr M1 M2 := by
      subst hM2
      exact ⟨fun i hi => q_up_ne _ _ (fun e => hi (by rw [e]; simp)), fun j _ _ => by rw [q_up_ne _ _ (by decide)], fun j hj => by rw [q_up_at, upd_ne _ _ hj]⟩
    have I2 := I1.fr O F2
    have hR2 : RefRu M2 3 (ruS k) := by
      have h0 := I2.2.2.1
      refine ⟨h0.2.1, fun i hi => ?_, fun i hi _ => ?_, fun i hi h4 => absurd h4 (by show ¬ (0 : Nat) = 4; omega)⟩
      · have : i = 0 := by have h3 : i < 1 := hi; omega
        subst this; exact h0.2.2
      · have : i = 0 := by have h3 : i < 1 := hi; omega
        subst this
        rw [← hM2, q_up_at]
        exact upd_at _ _ _
    repeat (first | refine wp_s hk rfl rfl ?_ | refine wp_goto hk rfl ?_ | refine wp_geti hk rfl rfl rfl rfl ?_ | refine wp_getr hk rfl rfl rfl rfl ?_)
    refine wp_callV hk rfl rfl rfl rfl rfl rfl ?_
    refine m_allBent (r := 3) I2.1 O.1 (Nat.le_refl 3) hR2 (ruS_ok hk4) (fun M3 K3 => ?_)
    have hb : bitsW (bentW (sV S) (ruS k)) (vn (sV S)) < 2 ^ 7 := Nat.lt_of_lt_of_le bitsW_lt (Nat.pow_le_pow_right (by omega) ho7)
    refine wp_callS hk rfl rfl rfl rfl ?_
    refine m_many (by omega) ?_
    have ih' := fun x4 => ih M3 x4 ((F1.tr F2).tr (RFr.kp K3))
    simp only [stW] at ih'
    have l1 := (stW_le (f := fun k => popW (bitsW (bentW (sV S) (ruS k)) (vn (sV S)))) (k := k)).1
    have l2 := popW_le (bitsW (bentW (sV S) (ruS k)) (vn (sV S)))
    repeat (first | refine wp_s hk rfl rfl ?_ | refine wp_goto hk rfl ?_ | refine wp_geti hk rfl rfl rfl rfl ?_ | refine wp_getr hk rfl rfl rfl rfl ?_)
    refine wp_icgeN (u := popW (bitsW (bentW (sV S) (ruS k)) (vn (sV S)))) (v := (stW (fun k => popW (bitsW (bentW (sV S) (ruS k)) (vn (sV S)))) k).1) hk rfl rfl rfl (by omega) (by omega) (fun g => ?_) (fun g => ?_)
    · rw [if_neg (Nat.not_lt.mpr g)] at ih'
      repeat (first | refine wp_s hk rfl rfl ?_ | refine wp_goto hk rfl ?_ | refine wp_geti hk rfl rfl rfl rfl ?_ | refine wp_getr hk rfl rfl rfl rfl ?_)
      rw [q_nadd k 1]
      exact ih' _
    · rw [if_pos (Nat.lt_of_not_le g)] at ih'
      repeat (first | refine wp_s hk rfl rfl ?_ | refine wp_goto hk rfl ?_ | refine wp_geti hk rfl rfl rfl rfl ?_ | refine wp_getr hk rfl rfl rfl rfl ?_)
      rw [q_nadd k 1]
      exact ih' _)
  repeat (first | refine wp_s hk rfl rfl ?_ | refine wp_goto hk rfl ?_ | refine wp_geti hk rfl rfl rfl rfl ?_ | refine wp_getr hk rfl rfl rfl rfl ?_)
  exact loop 0 (Nat.zero_le _) M0 _ F0
def mkM (mk : Nat → Nat → Nat) (j s v : Nat) : Nat → Nat → Nat := fun j' s' => if j' = j ∧ s' = s then v else mk j' s'
def spMove (S : St) (a b c d : Int32) : Int32 := if isN a 3 && (isN b (vn (sV S)) && isN c (vm (sV S))) then (if isN d 6 then nI 10 + nI (placeW (wS (sV S) (sR S (i2n a))) (sR S (i2n a)).1 (vm (sV S)) (i2n c)) - nI (placeW (worthW (vn (sV S)) (vm (sV S)) (vc (sV S)) (mkM (vk (sV S)) (i2n b) (i2n c) (i2n d)) (sR S (i2n a))) (sR S (i2n a)).1 (vm (sV S)) (i2n c)) else BAD) else UNK
theorem m_move {M : MM} {S : St} {a b c d : Int32} {Q : Option Value → MM → Prop} (I : RefInv M S) (O : StOK S) (kk : ∀ M', RFr M M' → Q (some (.int (spMove S a b c d))) M') : Ca 180 [.ref 83, .int a, .int b, .int c, .int d] M Q := by
  have hk : q_cd 180 = kd_X9_move := rfl
  show WP 180 0 [some (.ref 83), some (.int a), some (.int b), some (.int c), some (.int d), none] [] M Q
  have ho4 := O.1.2.2.2.1
  have ho7 := O.1.2.1
  repeat (first | refine wp_s hk rfl rfl ?_ | refine wp_goto hk rfl ?_ | refine wp_geti hk rfl rfl rfl rfl ?_ | refine wp_getr hk rfl rfl rfl rfl ?_)
  refine wp_th hk rfl (fun M0 F0 => ?_)
  have I0 := I.fr O F0
  repeat (first | refine wp_s hk rfl rfl ?_ | refine wp_goto hk rfl ?_ | refine wp_geti hk rfl rfl rfl rfl ?_ | refine wp_getr hk rfl rfl rfl rfl ?_)
  refine wp_callS hk rfl rfl rfl rfl ?_
  refine m_noRule ?_
  refine wp_ifneB (u := !isN a 3) hk rfl rfl (fun h => ?_) (fun h => ?_)
  · have h' : isN a 3 = false := by simpa using h
    repeat (first | refine wp_s hk rfl rfl ?_ | refine wp_goto hk rfl ?_ | refine wp_geti hk rfl rfl rfl rfl ?_ | refine wp_getr hk rfl rfl rfl rfl ?_)
    refine wp_ir hk rfl rfl ?_
    have hkk := kk M0 F0
    simp only [spMove, h', Bool.and_self, Bool.true_and, Bool.and_true, Bool.false_and, Bool.and_false, if_true, Bool.false_eq_true, if_false, Bool.not_true, Bool.not_false] at hkk
    exact hkk
  have h' : isN a 3 = true := by simpa using h
  repeat (first | refine wp_s hk rfl rfl ?_ | refine wp_goto hk rfl ?_ | refine wp_geti hk rfl rfl rfl rfl ?_ | refine wp_getr hk rfl rfl rfl rfl ?_)
  refine wp_callV hk rfl rfl rfl rfl rfl rfl ?_
  refine m_noJudge I0.1.1 O.1.1 ho7 ?_
  refine wp_ifneB (u := !isN b (vn (sV S))) hk rfl rfl (fun g => ?_) (fun g => ?_)
  · have g' : isN b (vn (sV S)) = false := by simpa using g
    repeat (first | refine wp_s hk rfl rfl ?_ | refine wp_goto hk rfl ?_ | refine wp_geti hk rfl rfl rfl rfl ?_ | refine wp_getr hk rfl rfl rfl rfl ?_)
    refine wp_ir hk rfl rfl ?_
    have hkk := kk M0 F0
    simp only [spMove, h', g', Bool.and_self, Bool.true_and, Bool.and_true, Bool.false_and, Bool.and_false, if_true, Bool.false_eq_true, if_false, Bool.not_true, Bool.not_false] at hkk
    exact hkk
  have g' : isN b (vn (sV S)) = true := by simpa using g
  repeat (first | refine wp_s hk rfl rfl ?_ | refine wp_goto hk rfl ?_ | refine wp_geti hk rfl rfl rfl rfl ?_ | refine wp_getr hk rfl rfl rfl rfl ?_)
  refine wp_callV hk rfl rfl rfl rfl rfl rfl ?_
  refine m_noSkater I0.1.2.1 O.1.2.2.1 (by omega) ?_
  refine wp_ifeqB (u := !isN c (vm (sV S))) hk rfl rfl (fun k => ?_) (fun k => ?_)
  · have k' : isN c (vm (sV S)) = true := by simpa using k
    obtain ⟨hr, ea⟩ := i2n_of (by omega) h'
    obtain ⟨hj, eb⟩ := i2n_of (by omega) g'
    obtain ⟨hs, ec⟩ := i2n_of (by omega) k'
    repeat (first | refine wp_s hk rfl rfl ?_ | refine wp_goto hk rfl ?_ | refine wp_geti hk rfl rfl rfl rfl ?_ | refine wp_getr hk rfl rfl rfl rfl ?_)
    refine wp_callS hk rfl rfl rfl rfl ?_
    refine m_in ?_
    refine wp_ifneB (u := isN d 6) hk rfl (congrArg (fun z => nI (b2n z)) ((q_in64 (by omega) (by omega)).trans (q_isN_le (n := 5) (by omega)))) (fun f => ?_) (fun f => ?_)
    · obtain ⟨hd, ed⟩ := i2n_of (by omega) f
      repeat (first | refine wp_s hk rfl rfl ?_ | refine wp_goto hk rfl ?_ | refine wp_geti hk rfl rfl rfl rfl ?_ | refine wp_getr hk rfl rfl rfl rfl ?_)
      refine wp_callV hk rfl rfl rfl rfl rfl rfl ?_
      refine m_take I0.1 O.1 (fun M1 K1 V1 => ?_)
      repeat (first | refine wp_s hk rfl rfl ?_ | refine wp_goto hk rfl ?_ | refine wp_geti hk rfl rfl rfl rfl ?_ | refine wp_getr hk rfl rfl rfl rfl ?_)
      rw [ea]
      refine wp_callV hk rfl rfl rfl rfl rfl rfl ?_
      have RA := (I0.2.2.1.1 _ hr).kp K1 (by decide) (by decide) (by decide) (by decide)
      refine m_lay V1 (by omega) RA (O.2.2.1 _ hr) (fun M2 K2 W2 => ?_)
      repeat (first | refine wp_s hk rfl rfl ?_ | refine wp_goto hk rfl ?_ | refine wp_geti hk rfl rfl rfl rfl ?_ | refine wp_getr hk rfl rfl rfl rfl ?_)
      rw [ec]
      refine wp_callV hk rfl rfl rfl rfl rfl rfl ?_
      refine m_placeOf W2 (by omega) hs ?_
      repeat (first | refine wp_s hk rfl rfl ?_ | refine wp_goto hk rfl ?_ | refine wp_geti hk rfl rfl rfl rfl ?_ | refine wp_getr hk rfl rfl rfl rfl ?_)
      rw [eb]
      refine wp_ast (jx := 4 * i2n b + i2n c) hk rfl rfl (by simp only [q_nadd, q_nmul]) (by omega) ?_
      have V2 := V1.kp K2 (by decide) (by decide) (by decide)
      have V3 : RefV (q_up M2 88 (upd (M2 88) (4 * i2n b + i2n c) d)) (vn (sV S)) (vm (sV S)) (vc (sV S)) (mkM (vk (sV S)) (i2n b) (i2n c) (i2n d)) := by
        obtain ⟨v1, v2, v3, v4, v5, v6, v7⟩ := V2
        refine ⟨by rw [q_up_ne _ _ (by decide)]; exact v1, by rw [q_up_ne _ _ (by decide)]; exact v2, v3, v4, by rw [q_up_ne _ _ (by decide)]; exact v5, fun j hj s hs => ?_, fun j hj s hs => ?_⟩
        · rw [q_up_at]
          simp only [mkM]
          by_cases e : j = i2n b ∧ s = i2n c
          · obtain ⟨rfl, rfl⟩ := e
            rw [upd_at, if_pos ⟨rfl, rfl⟩, ← ed]
          · rw [upd_ne _ _ (by omega), if_neg e]; exact v6 j hj s hs
        · simp only [mkM]
          split
          · omega
          · exact v7 j hj s hs
      have K3 : Kp M0 (q_up M2 88 (upd (M2 88) (4 * i2n b + i2n c) d)) [88, 89, 98, 99] := ((K1.mono (by decide)).tr (K2.mono (by decide))).up (by decide)
      repeat (first | refine wp_s hk rfl rfl ?_ | refine wp_goto hk rfl ?_ | refine wp_geti hk rfl rfl rfl rfl ?_ | refine wp_getr hk rfl rfl rfl rfl ?_)
      refine wp_callV hk rfl rfl rfl rfl rfl rfl ?_
      refine m_lay V3 (by omega) ((I0.2.2.1.1 _ hr).kp K3 (by decide) (by decide) (by decide) (by decide)) (O.2.2.1 _ hr) (fun M4 K4 W4 => ?_)
      repeat (first | refine wp_s hk rfl rfl ?_ | refine wp_goto hk rfl ?_ | refine wp_geti hk rfl rfl rfl rfl ?_ | refine wp_getr hk rfl rfl rfl rfl ?_)
      refine wp_callV hk rfl rfl rfl rfl rfl rfl ?_
      refine m_placeOf W4 (by omega) hs ?_
      repeat (first | refine wp_s hk rfl rfl ?_ | refine wp_goto hk rfl ?_ | refine wp_geti hk rfl rfl rfl rfl ?_ | refine wp_getr hk rfl rfl rfl rfl ?_)
      refine wp_ir hk rfl rfl ?_
      have hkk := kk M4 (F0.tr ((RFr.kp K3).tr (RFr.kp K4)))
      simp only [spMove, h', g', k', f, Bool.and_self, Bool.true_and, Bool.and_true, Bool.false_and, Bool.and_false, if_true, Bool.false_eq_true, if_false, Bool.not_true, Bool.not_false] at hkk
      exact hkk
    · repeat (first | refine wp_s hk rfl rfl ?_ | refine wp_goto hk rfl ?_ | refine wp_geti hk rfl rfl rfl rfl ?_ | refine wp_getr hk rfl rfl rfl rfl ?_)
      refine wp_ir hk rfl rfl ?_
      have hkk := kk M0 F0
      simp only [spMove, h', g', k', f, Bool.and_self, Bool.true_and, Bool.and_true, Bool.false_and, Bool.and_false, if_true, Bool.false_eq_true, if_false, Bool.not_true, Bool.not_false] at hkk
      exact hkk
  · have k' : isN c (vm (sV S)) = false := by simpa using k
    repeat (first | refine wp_s hk rfl rfl ?_ | refine wp_goto hk rfl ?_ | refine wp_geti hk rfl rfl rfl rfl ?_ | refine wp_getr hk rfl rfl rfl rfl ?_)
    refine wp_ir hk rfl rfl ?_
    have hkk := kk M0 F0
    simp only [spMove, h', g', k', Bool.and_self, Bool.true_and, Bool.and_true, Bool.false_and, Bool.and_false, if_true, Bool.false_eq_true, if_false, Bool.not_true, Bool.not_false] at hkk
    exact hkk
end
section
theorem RefV.w {M : MM} {n m : Nat} {cnt : Nat → Bool} {mk : Nat → Nat → Nat} {j s v : Nat} (H : RefV M n m cnt mk) (hj : j < 7) (hs : s < 4) (hv : v ≤ 5) : RefV (q_up M 88 (upd (M 88) (4 * j + s) (nI v))) n m cnt (mkM mk j s v) := by
  obtain ⟨v1, v2, v3, v4, v5, v6, v7⟩ := H
  refine ⟨by rw [q_up_ne _ _ (by decide)]; exact v1, by rw [q_up_ne _ _ (by decide)]; exact v2, v3, v4, by rw [q_up_ne _ _ (by decide)]; exact v5, fun j' hj' s' hs' => ?_, fun j' hj' s' hs' => ?_⟩
  · rw [q_up_at]
    simp only [mkM]
    by_cases e : j' = j ∧ s' = s
    · obtain ⟨rfl, rfl⟩ := e
      rw [upd_at, if_pos ⟨rfl, rfl⟩]
    · rw [upd_ne _ _ (by omega), if_neg e]; exact v6 j' hj' s' hs'
  · simp only [mkM]
    split
    · exact hv
    · exact v7 j' hj' s' hs'
def cntM (cnt : Nat → Bool) (j : Nat) (b : Bool) : Nat → Bool := fun j' => if j' = j then b else cnt j'
theorem RefV.c {M : MM} {n m : Nat} {cnt : Nat → Bool} {mk : Nat → Nat → Nat} {j : Nat} {b : Bool} (H : RefV M n m cnt mk) (hj : j < 7) : RefV (q_up M 89 (upd (M 89) j (nI (b2n b)))) n m (cntM cnt j b) mk := by
  obtain ⟨v1, v2, v3, v4, v5, v6, v7⟩ := H
  refine ⟨by rw [q_up_ne _ _ (by decide)]; exact v1, by rw [q_up_ne _ _ (by decide)]; exact v2, v3, v4, fun j' hj' => ?_, by rw [q_up_ne _ _ (by decide)]; exact v6, v7⟩
  rw [q_up_at]
  simp only [cntM]
  by_cases e : j' = j
  · subst e; rw [upd_at, if_pos rfl]
  · rw [upd_ne _ _ e, if_neg e]; exact v5 j' hj'
theorem RefV.cg {M : MM} {n m : Nat} {cnt cnt' : Nat → Bool} {mk mk' : Nat → Nat → Nat} (H : RefV M n m cnt mk) (h1 : ∀ j, j < 7 → cnt j = cnt' j) (h2 : ∀ j, j < 7 → ∀ s, s < 4 → mk j s = mk' j s) : RefV M n m cnt' mk' := by
  obtain ⟨v1, v2, v3, v4, v5, v6, v7⟩ := H
  exact ⟨v1, v2, v3, v4, fun j hj => by rw [← h1 j hj]; exact v5 j hj, fun j hj s hs => by rw [← h2 j hj s hs]; exact v6 j hj s hs, fun j hj s hs => by rw [← h2 j hj s hs]; exact v7 j hj s hs⟩
def bt (set j : Nat) : Bool := decide (set / 2 ^ j % 2 = 1)
def cntB (cnt : Nat → Bool) (n set : Nat) : Nat → Bool := fun j => if j < n ∧ bt set j = true then true else cnt j
def fv5 (s' s : Nat) : Nat := if s' = s then 5 else 0
def mkB (mk : Nat → Nat → Nat) (n m set s : Nat) : Nat → Nat → Nat := fun j s' => if j < n ∧ bt set j = true ∧ s' < m then fv5 s' s else mk j s'
def plB (V : Vw) (R : Ru) (set s : Nat) : Nat := placeW (worthW (vn V) (vm V) (cntB (vc V) (vn V) set) (mkB (vk V) (vn V) (vm V) set s) R) R.1 (vm V) s
theorem q_bitc {set j : Nat} : set / 2 ^ j % 2 < 2 := Nat.mod_lt _ (by omega)
theorem m_placeBy {M : MM} {V : Vw} {R : Ru} {r set s : Nat} {Q : Option Value → MM → Prop} (I : RefCard M V) (O : VOK V) (hr : r ≤ 3) (hR : RefRu M r R) (hO : RuOK R) (hset : set < 128) (hs : s < vm V)
    (kk : ∀ M', Kp M M' [88, 89, 98, 99] → Q (some (.int (nI (plB V R set s)))) M') : Ca 181 [.ref 83, .int (nI r), .int (nI set), .int (nI s)] M Q := by
  have ho7 := O.2.1
  have ho4 := O.2.2.2.1
  have hk : q_cd 181 = kd_X9_placeBy := rfl
  show WP 181 0 [some (.ref 83), some (.int (nI r)), some (.int (nI set)), some (.int (nI s)), none, none] [] M Q
  repeat (first | refine wp_s hk rfl rfl ?_ | refine wp_goto hk rfl ?_ | refine wp_geti hk rfl rfl rfl rfl ?_ | refine wp_getr hk rfl rfl rfl rfl ?_)
  refine wp_callV hk rfl rfl rfl rfl rfl rfl ?_
  refine m_take I O (fun M0 K0 V0 => ?_)
  repeat (first | refine wp_s hk rfl rfl ?_ | refine wp_goto hk rfl ?_ | refine wp_geti hk rfl rfl rfl rfl ?_ | refine wp_getr hk rfl rfl rfl rfl ?_)
  have loop := q_dn (n := vn V) (P := fun j => ∀ M1 x5, Kp M M1 [88, 89, 98, 99] → RefV M1 (vn V) (vm V) (cntB (vc V) j set) (mkB (vk V) j (vm V) set s) → WP 181 7 [some (.ref 83), some (.int (nI r)), some (.int (nI set)), some (.int (nI s)), some (.int (nI j)), x5] [.int (M1 83 1), .int (nI j)] M1 Q) (by
    intro M1 x5 K1 V1
    refine wp_icgeN hk rfl rfl V1.1 (by first | omega | decide) (by first | omega | decide) (fun _ => ?_) (fun h => absurd h (by omega))
    repeat (first | refine wp_s hk rfl rfl ?_ | refine wp_goto hk rfl ?_ | refine wp_geti hk rfl rfl rfl rfl ?_ | refine wp_getr hk rfl rfl rfl rfl ?_)
    refine wp_callV hk rfl rfl rfl rfl rfl rfl ?_
    refine m_lay V1 hr (hR.kp K1 (by decide) (by decide) (by decide) (by decide)) hO (fun M2 K2 W2 => ?_)
    repeat (first | refine wp_s hk rfl rfl ?_ | refine wp_goto hk rfl ?_ | refine wp_geti hk rfl rfl rfl rfl ?_ | refine wp_getr hk rfl rfl rfl rfl ?_)
    refine wp_callV hk rfl rfl rfl rfl rfl rfl ?_
    refine m_placeOf W2 hr hs ?_
    exact wp_ir hk rfl rfl (kk M2 (K1.tr (K2.mono (by decide))))) (by
    intro j hj ih M1 x5 K1 V1
    refine wp_icgeN hk rfl rfl V1.1 (by first | omega | decide) (by first | omega | decide) (fun h => absurd h (by omega)) (fun _ => ?_)
    repeat (first | refine wp_s hk rfl rfl ?_ | refine wp_goto hk rfl ?_ | refine wp_geti hk rfl rfl rfl rfl ?_ | refine wp_getr hk rfl rfl rfl rfl ?_)
    rw [q_bit set hset j (by omega)]
    have hb2 := q_bitc (set := set) (j := j)
    refine wp_icneN hk rfl rfl rfl (by omega) (by first | omega | decide) (fun g => ?_) (fun g => ?_)
    · repeat (first | refine wp_s hk rfl rfl ?_ | refine wp_goto hk rfl ?_ | refine wp_geti hk rfl rfl rfl rfl ?_ | refine wp_getr hk rfl rfl rfl rfl ?_)
      rw [q_nadd j 1]
      have hb : bt set j = false := decide_eq_false g
      refine ih M1 _ K1 (V1.cg (fun j' hj' => ?_) (fun j' hj' s' hs' => ?_))
      · simp only [cntB]
        by_cases e : j' = j
        · subst e; rw [if_neg (by omega), if_neg (by rw [hb]; simp)]
        · by_cases e2 : j' < j ∧ bt set j' = true
          · rw [if_pos e2, if_pos ⟨by omega, e2.2⟩]
          · rw [if_neg e2, if_neg (fun z => e2 ⟨by omega, z.2⟩)]
      · simp only [mkB]
        by_cases e : j' = j
        · subst e; rw [if_neg (by omega), if_neg (by rw [hb]; simp)]
        · by_cases e2 : j' < j ∧ bt set j' = true ∧ s' < vm V
          · rw [if_pos e2, if_pos ⟨by omega, e2.2⟩]
          · rw [if_neg e2, if_neg (fun z => e2 ⟨by omega, z.2⟩)]
    · have hb : bt set j = true := decide_eq_true (Classical.not_not.mp g)
      repeat (first | refine wp_s hk rfl rfl ?_ | refine wp_goto hk rfl ?_ | refine wp_geti hk rfl rfl rfl rfl ?_ | refine wp_getr hk rfl rfl rfl rfl ?_)
      refine wp_bst (jx := j) hk rfl rfl rfl (by omega) (Or.inr (by decide)) ?_
      have V2 := V1.c (j := j) (b := true) (by omega)
      have K2 : Kp M (q_up M1 89 (upd (M1 89) j (nI 1))) [88, 89, 98, 99] := K1.up (by decide)
      change RefV (q_up M1 89 (upd (M1 89) j (nI 1))) _ _ _ _ at V2
      generalize q_up M1 89 (upd (M1 89) j (nI 1)) = M2 at V2 K2 ⊢
      repeat (first | refine wp_s hk rfl rfl ?_ | refine wp_goto hk rfl ?_ | refine wp_geti hk rfl rfl rfl rfl ?_ | refine wp_getr hk rfl rfl rfl rfl ?_)
      have inner := q_dn (n := vm V) (P := fun t => ∀ M3, Kp M M3 [88, 89, 98, 99] → RefV M3 (vn V) (vm V) (cntM (cntB (vc V) j set) j true) (fun j' s' => if j' = j ∧ s' < t then fv5 s' s else mkB (vk V) j (vm V) set s j' s') → WP 181 25 [some (.ref 83), some (.int (nI r)), some (.int (nI set)), some (.int (nI s)), some (.int (nI j)), some (.int (nI t))] [.int (M3 83 2), .int (nI t)] M3 Q) (by
        intro M3 K3 V3
        refine wp_icgeN hk rfl rfl V3.2.1 (by first | omega | decide) (by first | omega | decide) (fun _ => ?_) (fun h => absurd h (by omega))
        repeat (first | refine wp_s hk rfl rfl ?_ | refine wp_goto hk rfl ?_ | refine wp_geti hk rfl rfl rfl rfl ?_ | refine wp_getr hk rfl rfl rfl rfl ?_)
        rw [q_nadd j 1]
        refine ih M3 _ K3 (V3.cg (fun j' hj' => ?_) (fun j' hj' s' hs' => ?_))
        · simp only [cntM, cntB]
          by_cases e : j' = j
          · subst e; rw [if_pos rfl, if_pos ⟨by omega, hb⟩]
          · rw [if_neg e]
            by_cases e2 : j' < j ∧ bt set j' = true
            · rw [if_pos e2, if_pos ⟨by omega, e2.2⟩]
            · rw [if_neg e2, if_neg (fun z => e2 ⟨by omega, z.2⟩)]
        · simp only [mkB]
          by_cases e : j' = j
          · subst e
            by_cases e3 : s' < vm V
            · rw [if_pos ⟨rfl, e3⟩, if_pos ⟨by omega, hb, e3⟩]
            · rw [if_neg (fun z => e3 z.2), if_neg (by omega), if_neg (fun z => e3 z.2.2)]
          · rw [if_neg (fun z => e z.1)]
            by_cases e2 : j' < j ∧ bt set j' = true ∧ s' < vm V
            · rw [if_pos e2, if_pos ⟨by omega, e2.2⟩]
            · rw [if_neg e2, if_neg (fun z => e2 ⟨by omega, z.2⟩)]) (by
        intro t ht iht M3 K3 V3
        refine wp_icgeN hk rfl rfl V3.2.1 (by first | omega | decide) (by first | omega | decide) (fun h => absurd h (by omega)) (fun _ => ?_)
        repeat (first | refine wp_s hk rfl rfl ?_ | refine wp_goto hk rfl ?_ | refine wp_geti hk rfl rfl rfl rfl ?_ | refine wp_getr hk rfl rfl rfl rfl ?_)
        have fin : ∀ z, z = fv5 t s → WP 181 39 [some (.ref 83), some (.int (nI r)), some (.int (nI set)), some (.int (nI s)), some (.int (nI j)), some (.int (nI t))] [.int (nI z), .int (nI 4 * nI j + nI t), .ref 88] M3 Q := by
          intro z hz
          refine wp_ast (jx := 4 * j + t) hk rfl rfl (by simp only [q_nadd, q_nmul]) (by omega) ?_
          repeat (first | refine wp_s hk rfl rfl ?_ | refine wp_goto hk rfl ?_ | refine wp_geti hk rfl rfl rfl rfl ?_ | refine wp_getr hk rfl rfl rfl rfl ?_)
          rw [q_nadd t 1]
          have hz5 : z ≤ 5 := by rw [hz]; unfold fv5; split <;> omega
          refine iht _ (K3.up (by decide)) ((V3.w (j := j) (s := t) (v := z) (by omega) (by omega) hz5).cg (fun _ _ => rfl) (fun j' hj' s' hs' => ?_))
          simp only [mkM]
          by_cases e : j' = j ∧ s' = t
          · obtain ⟨rfl, rfl⟩ := e
            rw [if_pos ⟨rfl, rfl⟩, if_pos ⟨rfl, by omega⟩, hz]
          · rw [if_neg e]
            by_cases e2 : j' = j ∧ s' < t
            · rw [if_pos e2, if_pos ⟨e2.1, by omega⟩]
            · rw [if_neg e2, if_neg (by omega)]
        refine wp_icneN (u := t) (v := s) hk rfl rfl rfl (by omega) (by omega) (fun g => ?_) (fun g => ?_)
        · refine wp_s hk rfl rfl ?_
          exact fin 0 (by unfold fv5; rw [if_neg g])
        · refine wp_s hk rfl rfl ?_
          refine wp_goto hk rfl ?_
          exact fin 5 (by unfold fv5; rw [if_pos (by omega)]))
      exact inner 0 (Nat.zero_le _) M2 K2 (V2.cg (fun _ _ => rfl) (fun j' hj' s' hs' => by simp only [if_neg (show ¬ (j' = j ∧ s' < 0) by omega)])))
  exact loop 0 (Nat.zero_le _) M0 _ (K0.mono (by decide)) (V0.cg (fun j' _ => by simp only [cntB]; rw [if_neg (by omega)]) (fun j' _ s' _ => by simp only [mkB]; rw [if_neg (by omega)]))
theorem pow_n {n : Nat} (h : n ≤ 7) : 2 ^ n ≤ 128 := Nat.pow_le_pow_right (by omega) h
def spBloc (S : St) (a b c : Int32) : Int32 := if isN a 3 && isN c (vm (sV S)) then (if isN b (2 ^ vn (sV S)) then nI (plB (sV S) (sR S (i2n a)) (i2n b) (i2n c)) else BAD) else UNK
theorem m_bloc {M : MM} {S : St} {a b c : Int32} {Q : Option Value → MM → Prop} (I : RefInv M S) (O : StOK S) (kk : ∀ M', RFr M M' → Q (some (.int (spBloc S a b c))) M') : Ca 182 [.ref 83, .int a, .int b, .int c] M Q := by
  have hk : q_cd 182 = kd_X9_bloc := rfl
  show WP 182 0 [some (.ref 83), some (.int a), some (.int b), some (.int c)] [] M Q
  have ho4 := O.1.2.2.2.1
  have ho7 := O.1.2.1
  have hp := pow_n ho7
  repeat (first | refine wp_s hk rfl rfl ?_ | refine wp_goto hk rfl ?_ | refine wp_geti hk rfl rfl rfl rfl ?_ | refine wp_getr hk rfl rfl rfl rfl ?_)
  refine wp_th hk rfl (fun M0 F0 => ?_)
  have I0 := I.fr O F0
  repeat (first | refine wp_s hk rfl rfl ?_ | refine wp_goto hk rfl ?_ | refine wp_geti hk rfl rfl rfl rfl ?_ | refine wp_getr hk rfl rfl rfl rfl ?_)
  refine wp_callS hk rfl rfl rfl rfl ?_
  refine m_noRule ?_
  refine wp_ifneB (u := !isN a 3) hk rfl rfl (fun h => ?_) (fun h => ?_)
  · have h' : isN a 3 = false := by simpa using h
    repeat (first | refine wp_s hk rfl rfl ?_ | refine wp_goto hk rfl ?_ | refine wp_geti hk rfl rfl rfl rfl ?_ | refine wp_getr hk rfl rfl rfl rfl ?_)
    refine wp_ir hk rfl rfl ?_
    have hkk := kk M0 F0
    simp only [spBloc, h', Bool.and_self, Bool.true_and, Bool.and_true, Bool.false_and, Bool.and_false, if_true, Bool.false_eq_true, if_false, Bool.not_true, Bool.not_false] at hkk
    exact hkk
  have h' : isN a 3 = true := by simpa using h
  repeat (first | refine wp_s hk rfl rfl ?_ | refine wp_goto hk rfl ?_ | refine wp_geti hk rfl rfl rfl rfl ?_ | refine wp_getr hk rfl rfl rfl rfl ?_)
  refine wp_callV hk rfl rfl rfl rfl rfl rfl ?_
  refine m_noSkater I0.1.2.1 O.1.2.2.1 (by omega) ?_
  refine wp_ifeqB (u := !isN c (vm (sV S))) hk rfl rfl (fun k => ?_) (fun k => ?_)
  · have k' : isN c (vm (sV S)) = true := by simpa using k
    repeat (first | refine wp_s hk rfl rfl ?_ | refine wp_goto hk rfl ?_ | refine wp_geti hk rfl rfl rfl rfl ?_ | refine wp_getr hk rfl rfl rfl rfl ?_)
    refine wp_callV hk rfl rfl rfl rfl rfl rfl ?_
    refine m_noSet I0.1.1 O.1.1 ho7 ?_
    refine wp_ifeqB (u := !isN b (2 ^ vn (sV S))) hk rfl rfl (fun f => ?_) (fun f => ?_)
    · have f' : isN b (2 ^ vn (sV S)) = true := by simpa using f
      obtain ⟨hr, ea⟩ := i2n_of (by omega) h'
      obtain ⟨hj, eb⟩ := i2n_of (by omega) f'
      obtain ⟨hs, ec⟩ := i2n_of (by omega) k'
      repeat (first | refine wp_s hk rfl rfl ?_ | refine wp_goto hk rfl ?_ | refine wp_geti hk rfl rfl rfl rfl ?_ | refine wp_getr hk rfl rfl rfl rfl ?_)
      rw [ea, eb, ec]
      refine wp_callV hk rfl rfl rfl rfl rfl rfl ?_
      refine m_placeBy I0.1 O.1 (by omega) (I0.2.2.1.1 _ hr) (O.2.2.1 _ hr) (by omega) hs (fun M1 K1 => ?_)
      refine wp_ir hk rfl rfl ?_
      have hkk := kk M1 (F0.tr (RFr.kp K1))
      simp only [spBloc, h', f', k', Bool.and_self, Bool.true_and, Bool.and_true, Bool.false_and, Bool.and_false, if_true, Bool.false_eq_true, if_false, Bool.not_true, Bool.not_false] at hkk
      exact hkk
    · have f' : isN b (2 ^ vn (sV S)) = false := by simpa using f
      repeat (first | refine wp_s hk rfl rfl ?_ | refine wp_goto hk rfl ?_ | refine wp_geti hk rfl rfl rfl rfl ?_ | refine wp_getr hk rfl rfl rfl rfl ?_)
      refine wp_ir hk rfl rfl ?_
      have hkk := kk M0 F0
      simp only [spBloc, h', f', k', Bool.and_self, Bool.true_and, Bool.and_true, Bool.false_and, Bool.and_false, if_true, Bool.false_eq_true, if_false, Bool.not_true, Bool.not_false] at hkk
      exact hkk
  · have k' : isN c (vm (sV S)) = false := by simpa using k
    repeat (first | refine wp_s hk rfl rfl ?_ | refine wp_goto hk rfl ?_ | refine wp_geti hk rfl rfl rfl rfl ?_ | refine wp_getr hk rfl rfl rfl rfl ?_)
    refine wp_ir hk rfl rfl ?_
    have hkk := kk M0 F0
    simp only [spBloc, h', k', Bool.and_self, Bool.true_and, Bool.and_true, Bool.false_and, Bool.and_false, if_true, Bool.false_eq_true, if_false, Bool.not_true, Bool.not_false] at hkk
    exact hkk
/-- between two numbers -/
def isR (x : Int32) (lo hi : Nat) : Bool := decide (nI lo ≤ x) && decide (x ≤ nI hi)
theorem isR_of {x : Int32} {lo hi : Nat} (h1 : lo < 2 ^ 31) (h2 : hi < 2 ^ 31) (h : isR x lo hi = true) : lo ≤ i2n x ∧ i2n x ≤ hi ∧ x = nI (i2n x) := by
  simp only [isR, Bool.and_eq_true, decide_eq_true_eq] at h
  have e1 : (lo : Int) ≤ x.toInt := by have := Int32.le_iff_toInt_le.mp h.1; rwa [q_toInt h1] at this
  have e2 : x.toInt ≤ hi := by have := Int32.le_iff_toInt_le.mp h.2; rwa [q_toInt h2] at this
  have e3 : x = nI x.toInt.toNat := by rw [← Int32.toInt_inj, q_toInt (by omega)]; omega
  have e4 : i2n x = x.toInt.toNat := by
    have h4 := i2n_nI (n := x.toInt.toNat) (by omega)
    rw [← e3] at h4
    exact h4
  rw [e4]
  exact ⟨by omega, by omega, e3⟩
theorem q_in64v {x : Int32} {lo hi : Nat} (h1 : lo < 2 ^ 31) (h2 : hi < 2 ^ 31) : (decide (Int64.ofNat lo ≤ x.toInt64) && decide (x.toInt64 ≤ (nI hi).toInt64)) = isR x lo hi := by
  have e1 : (Int64.ofNat lo).toInt = (lo : Int) := Int64.toInt_ofNat_of_lt (by omega)
  have e3 : x.toInt64.toInt = x.toInt := Int32.toInt_toInt64 x
  have e4 : (nI hi).toInt64.toInt = (hi : Int) := by rw [Int32.toInt_toInt64, q_toInt h2]
  unfold isR
  congr 1
  · rw [decide_eq_decide, Int64.le_iff_toInt_le, Int32.le_iff_toInt_le, e1, e3, q_toInt h1]
  · rw [decide_eq_decide, Int64.le_iff_toInt_le, Int32.le_iff_toInt_le, e4, e3, q_toInt h2]
/-- the first set of the fewest that does -/
def fwW (ok : Nat → Bool) : Nat → Option Nat
  | 0 => none
  | x + 1 => if (match fwW ok x with | none => true | some f => decide (popW x < popW f)) && ok x then some x else fwW ok x
theorem fwW_lt {ok : Nat → Bool} : ∀ {x f : Nat}, fwW ok x = some f → f < x
  | 0, f, h => by cases h
  | x + 1, f, h => by
    simp only [fwW] at h
    by_cases hc : ((match fwW ok x with | none => true | some f => decide (popW x < popW f)) && ok x) = true
    · rw [if_pos hc] at h; cases h; omega
    · rw [if_neg hc] at h; have := fwW_lt h; omega
def fwV (o : Option Nat) : Int32 := match o with
  | some f => nI f
  | none => NON
theorem q_non : ∀ x, x < 128 → ¬ nI x = NON := by decide +kernel
def spFew (S : St) (a b c : Int32) : Int32 := if isN a 3 && isN b (vm (sV S)) then (if isR c 1 4 then fwV (fwW (fun set => decide (plB (sV S) (sR S (i2n a)) set (i2n b) ≤ i2n c)) (2 ^ vn (sV S))) else BAD) else UNK
theorem m_few {M : MM} {S : St} {a b c : Int32} {Q : Option Value → MM → Prop} (I : RefInv M S) (O : StOK S) (kk : ∀ M', RFr M M' → Q (some (.int (spFew S a b c))) M') : Ca 183 [.ref 83, .int a, .int b, .int c] M Q := by
  have hk : q_cd 183 = kd_X9_few := rfl
  show WP 183 0 [some (.ref 83), some (.int a), some (.int b), some (.int c), none, none, none] [] M Q
  have ho4 := O.1.2.2.2.1
  have ho7 := O.1.2.1
  have hp := pow_n ho7
  repeat (first | refine wp_s hk rfl rfl ?_ | refine wp_goto hk rfl ?_ | refine wp_geti hk rfl rfl rfl rfl ?_ | refine wp_getr hk rfl rfl rfl rfl ?_)
  refine wp_th hk rfl (fun M0 F0 => ?_)
  have I0 := I.fr O F0
  repeat (first | refine wp_s hk rfl rfl ?_ | refine wp_goto hk rfl ?_ | refine wp_geti hk rfl rfl rfl rfl ?_ | refine wp_getr hk rfl rfl rfl rfl ?_)
  refine wp_callS hk rfl rfl rfl rfl ?_
  refine m_noRule ?_
  refine wp_ifneB (u := !isN a 3) hk rfl rfl (fun h => ?_) (fun h => ?_)
  · have h' : isN a 3 = false := by simpa using h
    repeat (first | refine wp_s hk rfl rfl ?_ | refine wp_goto hk rfl ?_ | refine wp_geti hk rfl rfl rfl rfl ?_ | refine wp_getr hk rfl rfl rfl rfl ?_)
    refine wp_ir hk rfl rfl ?_
    have hkk := kk M0 F0
    simp only [spFew, h', Bool.and_self, Bool.true_and, Bool.and_true, Bool.false_and, Bool.and_false, if_true, Bool.false_eq_true, if_false, Bool.not_true, Bool.not_false] at hkk
    exact hkk
  have h' : isN a 3 = true := by simpa using h
  repeat (first | refine wp_s hk rfl rfl ?_ | refine wp_goto hk rfl ?_ | refine wp_geti hk rfl rfl rfl rfl ?_ | refine wp_getr hk rfl rfl rfl rfl ?_)
  refine wp_callV hk rfl rfl rfl rfl rfl rfl ?_
  refine m_noSkater I0.1.2.1 O.1.2.2.1 (by omega) ?_
  refine wp_ifeqB (u := !isN b (vm (sV S))) hk rfl rfl (fun k => ?_) (fun k => ?_)
  · have k' : isN b (vm (sV S)) = true := by simpa using k
    repeat (first | refine wp_s hk rfl rfl ?_ | refine wp_goto hk rfl ?_ | refine wp_geti hk rfl rfl rfl rfl ?_ | refine wp_getr hk rfl rfl rfl rfl ?_)
    refine wp_callS hk rfl rfl rfl rfl ?_
    refine m_in ?_
    refine wp_ifneB (u := isR c 1 4) hk rfl (congrArg (fun z => nI (b2n z)) (q_in64 (by omega) (by omega))) (fun f => ?_) (fun f => ?_)
    · obtain ⟨hr, ea⟩ := i2n_of (by omega) h'
      obtain ⟨hs, eb⟩ := i2n_of (by omega) k'
      obtain ⟨hc1, hc4, ec⟩ := isR_of (by omega) (by omega) f
      rw [ea, eb, ec]
      have hkk := fun M' F => kk M' F
      simp only [spFew, h', k', f, Bool.and_self, if_true] at hkk
      repeat (first | refine wp_s hk rfl rfl ?_ | refine wp_goto hk rfl ?_ | refine wp_geti hk rfl rfl rfl rfl ?_ | refine wp_getr hk rfl rfl rfl rfl ?_)
      have loop := q_dn (n := 2 ^ vn (sV S)) (P := fun x => ∀ M1 x6, Kp M0 M1 [88, 89, 98, 99] → WP 183 29 [some (.ref 83), some (.int (nI (i2n a))), some (.int (nI (i2n b))), some (.int (nI (i2n c))), some (.int (fwV (fwW (fun set => decide (plB (sV S) (sR S (i2n a)) set (i2n b) ≤ i2n c)) x))), some (.int (nI x)), x6] [.int (nI 1 <<< (M1 83 1 &&& 31)), .int (nI x)] M1 Q) (by
        intro M1 x6 K1
        have I1 := I0.1.kp K1 (by decide) (by decide) (by decide) (by decide) (by decide)
        rw [I1.1, q_shl1 _ (by omega)]
        refine wp_icgeN hk rfl rfl rfl (by first | omega | decide) (by first | omega | decide) (fun _ => ?_) (fun h => absurd h (by omega))
        repeat (first | refine wp_s hk rfl rfl ?_ | refine wp_goto hk rfl ?_ | refine wp_geti hk rfl rfl rfl rfl ?_ | refine wp_getr hk rfl rfl rfl rfl ?_)
        exact wp_ir hk rfl rfl (hkk M1 (F0.tr (RFr.kp K1)))) (by
        intro x hx ih M1 x6 K1
        have I1 := I0.1.kp K1 (by decide) (by decide) (by decide) (by decide) (by decide)
        have R1 := (I0.2.2.1.1 _ hr).kp K1 (by decide) (by decide) (by decide) (by decide)
        rw [I1.1, q_shl1 _ (by omega)]
        refine wp_icgeN hk rfl rfl rfl (by first | omega | decide) (by first | omega | decide) (fun h => absurd h (by omega)) (fun _ => ?_)
        simp only [fwW] at ih
        have skip : ∀ x6, ((match fwW (fun set => decide (plB (sV S) (sR S (i2n a)) set (i2n b) ≤ i2n c)) x with | none => true | some f => decide (popW x < popW f)) && decide (plB (sV S) (sR S (i2n a)) x (i2n b) ≤ i2n c)) = false → ∀ M2, Kp M0 M2 [88, 89, 98, 99] → WP 183 53 [some (.ref 83), some (.int (nI (i2n a))), some (.int (nI (i2n b))), some (.int (nI (i2n c))), some (.int (fwV (fwW (fun set => decide (plB (sV S) (sR S (i2n a)) set (i2n b) ≤ i2n c)) x))), some (.int (nI x)), x6] [] M2 Q := by
          intro x6 hz M2 K2
          have := ih M2 x6 K2
          rw [if_neg (by rw [hz]; exact Bool.false_ne_true)] at this
          repeat (first | refine wp_s hk rfl rfl ?_ | refine wp_goto hk rfl ?_ | refine wp_geti hk rfl rfl rfl rfl ?_ | refine wp_getr hk rfl rfl rfl rfl ?_)
          rw [q_nadd x 1]
          exact this
        have tryit : (match fwW (fun set => decide (plB (sV S) (sR S (i2n a)) set (i2n b) ≤ i2n c)) x with | none => true | some f => decide (popW x < popW f)) = true → ∀ x6, WP 183 38 [some (.ref 83), some (.int (nI (i2n a))), some (.int (nI (i2n b))), some (.int (nI (i2n c))), some (.int (fwV (fwW (fun set => decide (plB (sV S) (sR S (i2n a)) set (i2n b) ≤ i2n c)) x))), some (.int (nI x)), x6] [] M1 Q := by
          intro hz x6
          repeat (first | refine wp_s hk rfl rfl ?_ | refine wp_goto hk rfl ?_ | refine wp_geti hk rfl rfl rfl rfl ?_ | refine wp_getr hk rfl rfl rfl rfl ?_)
          refine wp_ifeqB (u := true) hk rfl rfl (fun z => by cases z) (fun _ => ?_)
          repeat (first | refine wp_s hk rfl rfl ?_ | refine wp_goto hk rfl ?_ | refine wp_geti hk rfl rfl rfl rfl ?_ | refine wp_getr hk rfl rfl rfl rfl ?_)
          refine wp_callV hk rfl rfl rfl rfl rfl rfl ?_
          refine m_placeBy I1 O.1 (by omega) R1 (O.2.2.1 _ hr) (by omega) hs (fun M2 K2 => ?_)
          have hple : plB (sV S) (sR S (i2n a)) x (i2n b) ≤ 1 + vm (sV S) := placeW_le
          have K12 := K1.tr K2
          repeat (first | refine wp_s hk rfl rfl ?_ | refine wp_goto hk rfl ?_ | refine wp_geti hk rfl rfl rfl rfl ?_ | refine wp_getr hk rfl rfl rfl rfl ?_)
          refine wp_icgtN (u := plB (sV S) (sR S (i2n a)) x (i2n b)) (v := i2n c) hk rfl rfl rfl (by omega) (by omega) (fun g => ?_) (fun g => ?_)
          · exact skip _ (by rw [decide_eq_false (Nat.not_le.mpr g), Bool.and_false]) M2 K12
          · repeat (first | refine wp_s hk rfl rfl ?_ | refine wp_goto hk rfl ?_ | refine wp_geti hk rfl rfl rfl rfl ?_ | refine wp_getr hk rfl rfl rfl rfl ?_)
            have := ih M2 (some (.int (nI 1))) K12
            rw [if_pos (by rw [hz, decide_eq_true (Nat.not_lt.mp g)]; rfl)] at this
            rw [q_nadd x 1]
            exact this
        repeat (first | refine wp_s hk rfl rfl ?_ | refine wp_goto hk rfl ?_ | refine wp_geti hk rfl rfl rfl rfl ?_ | refine wp_getr hk rfl rfl rfl rfl ?_)
        cases hf : fwW (fun set => decide (plB (sV S) (sR S (i2n a)) set (i2n b) ≤ i2n c)) x with
        | none =>
          rw [hf] at tryit
          refine wp_iceq hk rfl (fun _ => ?_) (fun z => absurd rfl z)
          exact tryit rfl _
        | some f =>
          have hfl := fwW_lt hf
          rw [hf] at tryit skip
          refine wp_iceq hk rfl (fun z => absurd z (q_non f (by omega))) (fun _ => ?_)
          repeat (first | refine wp_s hk rfl rfl ?_ | refine wp_goto hk rfl ?_ | refine wp_geti hk rfl rfl rfl rfl ?_ | refine wp_getr hk rfl rfl rfl rfl ?_)
          refine wp_callS hk rfl rfl rfl rfl ?_
          refine m_many (by omega) ?_
          repeat (first | refine wp_s hk rfl rfl ?_ | refine wp_goto hk rfl ?_ | refine wp_geti hk rfl rfl rfl rfl ?_ | refine wp_getr hk rfl rfl rfl rfl ?_)
          refine wp_callS hk rfl rfl rfl rfl ?_
          refine m_many (x := f) (by omega) ?_
          have l1 := popW_le x
          have l2 := popW_le f
          refine wp_icgeN (u := popW x) (v := popW f) hk rfl rfl rfl (by omega) (by omega) (fun g => ?_) (fun g => ?_)
          · repeat (first | refine wp_s hk rfl rfl ?_ | refine wp_goto hk rfl ?_ | refine wp_geti hk rfl rfl rfl rfl ?_ | refine wp_getr hk rfl rfl rfl rfl ?_)
            refine wp_ifeqB (u := false) hk rfl rfl (fun _ => ?_) (fun z => by cases z)
            exact skip _ (by simp only [decide_eq_false (Nat.not_lt.mpr g), Bool.false_and]) M1 K1
          · exact tryit (decide_eq_true (Nat.lt_of_not_le g)) _)
      exact loop 0 (Nat.zero_le _) M0 _ (Kp.rf _ _)
    · repeat (first | refine wp_s hk rfl rfl ?_ | refine wp_goto hk rfl ?_ | refine wp_geti hk rfl rfl rfl rfl ?_ | refine wp_getr hk rfl rfl rfl rfl ?_)
      refine wp_ir hk rfl rfl ?_
      have hkk := kk M0 F0
      simp only [spFew, h', k', f, Bool.and_self, Bool.true_and, Bool.and_true, Bool.false_and, Bool.and_false, if_true, Bool.false_eq_true, if_false, Bool.not_true, Bool.not_false] at hkk
      exact hkk
  · have k' : isN b (vm (sV S)) = false := by simpa using k
    repeat (first | refine wp_s hk rfl rfl ?_ | refine wp_goto hk rfl ?_ | refine wp_geti hk rfl rfl rfl rfl ?_ | refine wp_getr hk rfl rfl rfl rfl ?_)
    refine wp_ir hk rfl rfl ?_
    have hkk := kk M0 F0
    simp only [spFew, h', k', Bool.and_self, Bool.true_and, Bool.and_true, Bool.false_and, Bool.and_false, if_true, Bool.false_eq_true, if_false, Bool.not_true, Bool.not_false] at hkk
    exact hkk
end
section
theorem RefV.c' {M : MM} {n m : Nat} {cnt : Nat → Bool} {mk : Nat → Nat → Nat} {j : Nat} {x : Int32} (H : RefV M n m cnt mk) (hj : j < 7) (b : Bool) (hx : x = nI (b2n b)) : RefV (q_up M 89 (upd (M 89) j x)) n m (cntM cnt j b) mk := by
  rw [hx]; exact H.c hj
def cntD (V : Vw) (set : Nat) : Nat → Bool := fun j => if j < vn V then bt set j else vc V j
def drOk (V : Vw) (k set : Nat) : Bool := decide (popW set = k) && !anyN (fun j => bt set j && !vc V j) (vn V)
def drW (V : Vw) (R : Ru) (k s : Nat) : Nat := sumN (fun set => if (drOk V k set && decide (firstW (worthW (vn V) (vm V) (cntD V set) (vk V) R) R.1 (vm V) (vm V) = 2 ^ s)) = true then 1 else 0) (2 ^ vn V)
def spDrawn (S : St) (a b c : Int32) : Int32 := if isN a 3 && isN b (vm (sV S)) then (if isR c 1 (vn (sV S)) then nI (drW (sV S) (sR S (i2n a)) (i2n c) (i2n b)) else BAD) else UNK
theorem m_drawn {M : MM} {S : St} {a b c : Int32} {Q : Option Value → MM → Prop} (I : RefInv M S) (O : StOK S) (kk : ∀ M', RFr M M' → Q (some (.int (spDrawn S a b c))) M') : Ca 184 [.ref 83, .int a, .int b, .int c] M Q := by
  have hk : q_cd 184 = kd_X9_drawn := rfl
  show WP 184 0 [some (.ref 83), some (.int a), some (.int b), some (.int c), none, none, none, none, none] [] M Q
  have ho4 := O.1.2.2.2.1
  have ho7 := O.1.2.1
  have hp := pow_n ho7
  repeat (first | refine wp_s hk rfl rfl ?_ | refine wp_goto hk rfl ?_ | refine wp_geti hk rfl rfl rfl rfl ?_ | refine wp_getr hk rfl rfl rfl rfl ?_)
  refine wp_th hk rfl (fun M0 F0 => ?_)
  have I0 := I.fr O F0
  repeat (first | refine wp_s hk rfl rfl ?_ | refine wp_goto hk rfl ?_ | refine wp_geti hk rfl rfl rfl rfl ?_ | refine wp_getr hk rfl rfl rfl rfl ?_)
  refine wp_callS hk rfl rfl rfl rfl ?_
  refine m_noRule ?_
  refine wp_ifneB (u := !isN a 3) hk rfl rfl (fun h => ?_) (fun h => ?_)
  · have h' : isN a 3 = false := by simpa using h
    repeat (first | refine wp_s hk rfl rfl ?_ | refine wp_goto hk rfl ?_ | refine wp_geti hk rfl rfl rfl rfl ?_ | refine wp_getr hk rfl rfl rfl rfl ?_)
    refine wp_ir hk rfl rfl ?_
    have hkk := kk M0 F0
    simp only [spDrawn, h', Bool.and_self, Bool.true_and, Bool.and_true, Bool.false_and, Bool.and_false, if_true, Bool.false_eq_true, if_false, Bool.not_true, Bool.not_false] at hkk
    exact hkk
  have h' : isN a 3 = true := by simpa using h
  repeat (first | refine wp_s hk rfl rfl ?_ | refine wp_goto hk rfl ?_ | refine wp_geti hk rfl rfl rfl rfl ?_ | refine wp_getr hk rfl rfl rfl rfl ?_)
  refine wp_callV hk rfl rfl rfl rfl rfl rfl ?_
  refine m_noSkater I0.1.2.1 O.1.2.2.1 (by omega) ?_
  refine wp_ifeqB (u := !isN b (vm (sV S))) hk rfl rfl (fun k => ?_) (fun k => ?_)
  · have k' : isN b (vm (sV S)) = true := by simpa using k
    repeat (first | refine wp_s hk rfl rfl ?_ | refine wp_goto hk rfl ?_ | refine wp_geti hk rfl rfl rfl rfl ?_ | refine wp_getr hk rfl rfl rfl rfl ?_)
    rw [I0.1.1]
    refine wp_callS hk rfl rfl rfl rfl ?_
    refine m_in ?_
    refine wp_ifneB (u := isR c 1 (vn (sV S))) hk rfl (congrArg (fun z => nI (b2n z)) (q_in64v (by omega) (by omega))) (fun f => ?_) (fun f => ?_)
    · obtain ⟨hr, ea⟩ := i2n_of (by omega) h'
      obtain ⟨hs, eb⟩ := i2n_of (by omega) k'
      obtain ⟨hc1, hc4, ec⟩ := isR_of (by omega) (by omega) f
      rw [ea, eb, ec]
      have hkk := fun M' F => kk M' F
      simp only [spDrawn, h', k', f, Bool.and_self, if_true] at hkk
      unfold drW at hkk
      repeat (first | refine wp_s hk rfl rfl ?_ | refine wp_goto hk rfl ?_ | refine wp_geti hk rfl rfl rfl rfl ?_ | refine wp_getr hk rfl rfl rfl rfl ?_)
      have loop := q_dn (n := 2 ^ vn (sV S)) (P := fun x => ∀ M1 x6 x7 x8, Kp M0 M1 [88, 89, 98, 99] → WP 184 31 [some (.ref 83), some (.int (nI (i2n a))), some (.int (nI (i2n b))), some (.int (nI (i2n c))), some (.int (nI (sumN (fun set => if (drOk (sV S) (i2n c) set && decide (firstW (worthW (vn (sV S)) (vm (sV S)) (cntD (sV S) set) (vk (sV S)) (sR S (i2n a))) (sR S (i2n a)).1 (vm (sV S)) (vm (sV S)) = 2 ^ (i2n b))) = true then 1 else 0) x))), some (.int (nI x)), x6, x7, x8] [.int (nI 1 <<< (M1 83 1 &&& 31)), .int (nI x)] M1 Q) (by
        intro M1 x6 x7 x8 K1
        have I1 := I0.1.kp K1 (by decide) (by decide) (by decide) (by decide) (by decide)
        rw [I1.1, q_shl1 _ (by omega)]
        refine wp_icgeN hk rfl rfl rfl (by first | omega | decide) (by first | omega | decide) (fun _ => ?_) (fun h => absurd h (by omega))
        repeat (first | refine wp_s hk rfl rfl ?_ | refine wp_goto hk rfl ?_ | refine wp_geti hk rfl rfl rfl rfl ?_ | refine wp_getr hk rfl rfl rfl rfl ?_)
        exact wp_ir hk rfl rfl (hkk M1 (F0.tr (RFr.kp K1)))) (by
        intro x hx ih M1 x6 x7 x8 K1
        have I1 := I0.1.kp K1 (by decide) (by decide) (by decide) (by decide) (by decide)
        have R1 := (I0.2.2.1.1 _ hr).kp K1 (by decide) (by decide) (by decide) (by decide)
        rw [I1.1, q_shl1 _ (by omega)]
        refine wp_icgeN hk rfl rfl rfl (by first | omega | decide) (by first | omega | decide) (fun h => absurd h (by omega)) (fun _ => ?_)
        simp only [sumN] at ih
        repeat (first | refine wp_s hk rfl rfl ?_ | refine wp_goto hk rfl ?_ | refine wp_geti hk rfl rfl rfl rfl ?_ | refine wp_getr hk rfl rfl rfl rfl ?_)
        refine wp_callV hk rfl rfl rfl rfl rfl rfl ?_
        refine m_take I1 O.1 (fun M2 K2 V2 => ?_)
        have K12 : Kp M0 M2 [88, 89, 98, 99] := K1.tr (K2.mono (by decide))
        repeat (first | refine wp_s hk rfl rfl ?_ | refine wp_goto hk rfl ?_ | refine wp_geti hk rfl rfl rfl rfl ?_ | refine wp_getr hk rfl rfl rfl rfl ?_)
        refine wp_callS hk rfl rfl rfl rfl ?_
        refine m_many (by omega) ?_
        have lpop := popW_le x
        generalize (sumN (fun set => if (drOk (sV S) (i2n c) set && decide (firstW (worthW (vn (sV S)) (vm (sV S)) (cntD (sV S) set) (vk (sV S)) (sR S (i2n a))) (sR S (i2n a)).1 (vm (sV S)) (vm (sV S)) = 2 ^ (i2n b))) = true then 1 else 0) x) = acc at ih ⊢
        have inner := q_dn (n := vn (sV S)) (P := fun j => ∀ M3 x8, Kp M0 M3 [88, 89, 98, 99] → RefV M3 (vn (sV S)) (vm (sV S)) (fun j' => if j' < j then bt x j' else vc (sV S) j') (vk (sV S)) → WP 184 47 [some (.ref 83), some (.int (nI (i2n a))), some (.int (nI (i2n b))), some (.int (nI (i2n c))), some (.int (nI acc)), some (.int (nI x)), some (.int (nI (b2n (decide (popW x = i2n c) && !anyN (fun j => bt x j && !vc (sV S) j) j)))), some (.int (nI j)), x8] [.int (M3 83 1), .int (nI j)] M3 Q) (by
          intro M3 x8 K3 V3
          refine wp_icgeN hk rfl rfl V3.1 (by first | omega | decide) (by first | omega | decide) (fun _ => ?_) (fun h => absurd h (by omega))
          repeat (first | refine wp_s hk rfl rfl ?_ | refine wp_goto hk rfl ?_ | refine wp_geti hk rfl rfl rfl rfl ?_ | refine wp_getr hk rfl rfl rfl rfl ?_)
          refine wp_ifeqB hk rfl rfl (fun g => ?_) (fun g => ?_)
          · have := ih M3 (some (.int (nI (b2n (decide (popW x = i2n c) && !anyN (fun j => bt x j && !vc (sV S) j) (vn (sV S))))))) (some (.int (nI (vn (sV S))))) x8 K3
            rw [if_neg (by rw [show drOk (sV S) (i2n c) x = false from g, Bool.false_and]; exact Bool.false_ne_true)] at this
            repeat (first | refine wp_s hk rfl rfl ?_ | refine wp_goto hk rfl ?_ | refine wp_geti hk rfl rfl rfl rfl ?_ | refine wp_getr hk rfl rfl rfl rfl ?_)
            rw [q_nadd x 1]
            exact this
          · have R3 := (I0.2.2.1.1 _ hr).kp K3 (by decide) (by decide) (by decide) (by decide)
            repeat (first | refine wp_s hk rfl rfl ?_ | refine wp_goto hk rfl ?_ | refine wp_geti hk rfl rfl rfl rfl ?_ | refine wp_getr hk rfl rfl rfl rfl ?_)
            refine wp_callV hk rfl rfl rfl rfl rfl rfl ?_
            refine m_lay V3 (by omega) R3 (O.2.2.1 _ hr) (fun M4 K4 W4 => ?_)
            repeat (first | refine wp_s hk rfl rfl ?_ | refine wp_goto hk rfl ?_ | refine wp_geti hk rfl rfl rfl rfl ?_ | refine wp_getr hk rfl rfl rfl rfl ?_)
            refine wp_callV hk rfl rfl rfl rfl rfl rfl ?_
            refine m_firsts W4 (by omega) ?_
            have hfl := firstW_lt (w := worthW (vn (sV S)) (vm (sV S)) (cntD (sV S) x) (vk (sV S)) (sR S (i2n a))) (parts := (sR S (i2n a)).1) (m := vm (sV S)) (s := vm (sV S)) ho4
            have h16 : 2 ^ vm (sV S) ≤ 2 ^ 4 := Nat.pow_le_pow_right (by omega) ho4
            have h17 : 2 ^ (i2n b) ≤ 2 ^ 3 := Nat.pow_le_pow_right (by omega) (by omega)
            have := ih M4 (some (.int (nI (b2n (decide (popW x = i2n c) && !anyN (fun j => bt x j && !vc (sV S) j) (vn (sV S))))))) (some (.int (nI (vn (sV S))))) x8 (K3.tr (K4.mono (by decide)))
            simp only [show drOk (sV S) (i2n c) x = true from g, Bool.true_and, decide_eq_true_eq] at this
            change RefW M4 _ _ _ (worthW _ _ (cntD (sV S) x) _ _) at W4
            repeat (first | refine wp_s hk rfl rfl ?_ | refine wp_goto hk rfl ?_ | refine wp_geti hk rfl rfl rfl rfl ?_ | refine wp_getr hk rfl rfl rfl rfl ?_)
            rw [q_shl1 (i2n b) (by omega)]
            refine wp_icneN (u := firstW (worthW (vn (sV S)) (vm (sV S)) (cntD (sV S) x) (vk (sV S)) (sR S (i2n a))) (sR S (i2n a)).1 (vm (sV S)) (vm (sV S))) (v := 2 ^ (i2n b)) hk rfl rfl rfl (by omega) (by omega) (fun e => ?_) (fun e => ?_)
            · rw [if_neg e] at this
              repeat (first | refine wp_s hk rfl rfl ?_ | refine wp_goto hk rfl ?_ | refine wp_geti hk rfl rfl rfl rfl ?_ | refine wp_getr hk rfl rfl rfl rfl ?_)
              rw [q_nadd x 1, q_nadd]
              exact this
            · rw [if_pos (Classical.not_not.mp e)] at this
              repeat (first | refine wp_s hk rfl rfl ?_ | refine wp_goto hk rfl ?_ | refine wp_geti hk rfl rfl rfl rfl ?_ | refine wp_getr hk rfl rfl rfl rfl ?_)
              rw [q_nadd x 1, q_nadd]
              exact this) (by
          intro j hj ihj M3 x8 K3 V3
          refine wp_icgeN hk rfl rfl V3.1 (by first | omega | decide) (by first | omega | decide) (fun h => absurd h (by omega)) (fun _ => ?_)
          have hb2 := q_bitc (set := x) (j := j)
          have cont : ∀ d, d = bt x j → ∀ x8, WP 184 58 [some (.ref 83), some (.int (nI (i2n a))), some (.int (nI (i2n b))), some (.int (nI (i2n c))), some (.int (nI acc)), some (.int (nI x)), some (.int (nI (b2n (decide (popW x = i2n c) && !anyN (fun j => bt x j && !vc (sV S) j) j)))), some (.int (nI j)), x8] [.int (nI (b2n d))] M3 Q := by
            intro d hd x8
            simp only [anyN] at ihj
            have cont2 : ∀ z, z = (decide (popW x = i2n c) && !(anyN (fun j => bt x j && !vc (sV S) j) j || (bt x j && !vc (sV S) j))) → ∀ x6, WP 184 71 [some (.ref 83), some (.int (nI (i2n a))), some (.int (nI (i2n b))), some (.int (nI (i2n c))), some (.int (nI acc)), some (.int (nI x)), x6, some (.int (nI j)), some (.int (nI (b2n d)))] [.int (nI (b2n z))] M3 Q := by
              intro z hz x6
              repeat (first | refine wp_s hk rfl rfl ?_ | refine wp_goto hk rfl ?_ | refine wp_geti hk rfl rfl rfl rfl ?_ | refine wp_getr hk rfl rfl rfl rfl ?_)
              refine wp_bst (jx := j) hk rfl rfl rfl (by omega) (by cases d <;> decide) ?_
              repeat (first | refine wp_s hk rfl rfl ?_ | refine wp_goto hk rfl ?_ | refine wp_geti hk rfl rfl rfl rfl ?_ | refine wp_getr hk rfl rfl rfl rfl ?_)
              rw [q_nadd j 1, hz]
              refine ihj _ _ (K3.up (by decide)) ((V3.c' (j := j) (by omega) d rfl).cg (fun j' hj' => ?_) (fun _ _ _ _ => rfl))
              simp only [cntM]
              by_cases e : j' = j
              · subst e; rw [if_pos rfl, if_pos (by omega), hd]
              · rw [if_neg e]
                by_cases e2 : j' < j
                · rw [if_pos e2, if_pos (by omega)]
                · rw [if_neg e2, if_neg (by omega)]
            repeat (first | refine wp_s hk rfl rfl ?_ | refine wp_goto hk rfl ?_ | refine wp_geti hk rfl rfl rfl rfl ?_ | refine wp_getr hk rfl rfl rfl rfl ?_)
            refine wp_ifeqB hk rfl rfl (fun g => ?_) (fun g => ?_)
            · refine wp_s hk rfl rfl ?_
              refine cont2 false ?_ _
              cases hp1 : decide (popW x = i2n c) with
              | false => rfl
              | true =>
                rw [hp1, Bool.true_and] at g
                rw [show anyN (fun j => bt x j && !vc (sV S) j) j = true by simpa using g]
                rfl
            · rw [Bool.and_eq_true] at g
              have g2 : anyN (fun j => bt x j && !vc (sV S) j) j = false := by simpa using g.2
              rw [g.1, g2] at cont2
              simp only [Bool.true_and, Bool.false_or] at cont2
              repeat (first | refine wp_s hk rfl rfl ?_ | refine wp_goto hk rfl ?_ | refine wp_geti hk rfl rfl rfl rfl ?_ | refine wp_getr hk rfl rfl rfl rfl ?_)
              refine wp_ifeqB hk rfl rfl (fun q => ?_) (fun q => ?_)
              · refine wp_s hk rfl rfl ?_
                refine wp_goto hk rfl ?_
                exact cont2 true (by rw [← hd, q]; rfl) _
              · repeat (first | refine wp_s hk rfl rfl ?_ | refine wp_goto hk rfl ?_ | refine wp_geti hk rfl rfl rfl rfl ?_ | refine wp_getr hk rfl rfl rfl rfl ?_)
                refine wp_bld (jx := j) hk rfl rfl rfl (by omega) ?_
                have hcj := V3.2.2.2.2.1 j (by omega)
                simp only [Nat.lt_irrefl, if_false] at hcj
                refine wp_ifeqB hk rfl hcj (fun q2 => ?_) (fun q2 => ?_)
                · refine wp_s hk rfl rfl ?_
                  exact cont2 false (by rw [← hd, q, q2]; rfl) _
                · refine wp_s hk rfl rfl ?_
                  refine wp_goto hk rfl ?_
                  exact cont2 true (by rw [← hd, q, q2]; rfl) _
          repeat (first | refine wp_s hk rfl rfl ?_ | refine wp_goto hk rfl ?_ | refine wp_geti hk rfl rfl rfl rfl ?_ | refine wp_getr hk rfl rfl rfl rfl ?_)
          rw [q_bit x (by omega) j (by omega)]
          refine wp_icneN (u := x / 2 ^ j % 2) (v := 1) hk rfl rfl rfl (by omega) (by omega) (fun g => ?_) (fun g => ?_)
          · refine wp_s hk rfl rfl ?_
            exact cont false (decide_eq_false g).symm _
          · refine wp_s hk rfl rfl ?_
            refine wp_goto hk rfl ?_
            exact cont true (decide_eq_true (Classical.not_not.mp g)).symm _)
        have start : ∀ z, z = decide (popW x = i2n c) → ∀ x6 x7 x8, WP 184 41 [some (.ref 83), some (.int (nI (i2n a))), some (.int (nI (i2n b))), some (.int (nI (i2n c))), some (.int (nI acc)), some (.int (nI x)), x6, x7, x8] [.int (nI (b2n z))] M2 Q := by
          intro z hz x6 x7 x8
          repeat (first | refine wp_s hk rfl rfl ?_ | refine wp_goto hk rfl ?_ | refine wp_geti hk rfl rfl rfl rfl ?_ | refine wp_getr hk rfl rfl rfl rfl ?_)
          have := inner 0 (Nat.zero_le _) M2 x8 K12 (V2.cg (fun _ _ => by simp only [Nat.not_lt_zero, if_false]) (fun _ _ _ _ => rfl))
          simp only [anyN, Bool.not_false, Bool.and_true] at this
          rw [hz]
          exact this
        repeat (first | refine wp_s hk rfl rfl ?_ | refine wp_goto hk rfl ?_ | refine wp_geti hk rfl rfl rfl rfl ?_ | refine wp_getr hk rfl rfl rfl rfl ?_)
        refine wp_icneN (u := popW x) (v := i2n c) hk rfl rfl rfl (by omega) (by omega) (fun g => ?_) (fun g => ?_)
        · refine wp_s hk rfl rfl ?_
          exact start false (decide_eq_false g).symm _ _ _
        · refine wp_s hk rfl rfl ?_
          refine wp_goto hk rfl ?_
          exact start true (decide_eq_true (Classical.not_not.mp g)).symm _ _ _)
      exact loop 0 (Nat.zero_le _) M0 _ _ _ (Kp.rf _ _)
    · repeat (first | refine wp_s hk rfl rfl ?_ | refine wp_goto hk rfl ?_ | refine wp_geti hk rfl rfl rfl rfl ?_ | refine wp_getr hk rfl rfl rfl rfl ?_)
      refine wp_ir hk rfl rfl ?_
      have hkk := kk M0 F0
      simp only [spDrawn, h', k', f, Bool.and_self, Bool.true_and, Bool.and_true, Bool.false_and, Bool.and_false, if_true, Bool.false_eq_true, if_false, Bool.not_true, Bool.not_false] at hkk
      exact hkk
  · have k' : isN b (vm (sV S)) = false := by simpa using k
    repeat (first | refine wp_s hk rfl rfl ?_ | refine wp_goto hk rfl ?_ | refine wp_geti hk rfl rfl rfl rfl ?_ | refine wp_getr hk rfl rfl rfl rfl ?_)
    refine wp_ir hk rfl rfl ?_
    have hkk := kk M0 F0
    simp only [spDrawn, h', k', Bool.and_self, Bool.true_and, Bool.and_true, Bool.false_and, Bool.and_false, if_true, Bool.false_eq_true, if_false, Bool.not_true, Bool.not_false] at hkk
    exact hkk
/-- judges without whom others are first -/
def loW (V : Vw) (R : Ru) : Nat := sumN (fun j => if (vc V j && !decide (firstW (worthW (vn V) (vm V) (cntM (vc V) j false) (vk V) R) R.1 (vm V) (vm V) = firstW (wS V R) R.1 (vm V) (vm V))) = true then 1 else 0) (vn V)
def spLeft (S : St) (a : Int32) : Int32 := if isN a 3 then nI (loW (sV S) (sR S (i2n a))) else UNK
theorem m_leftOut {M : MM} {S : St} {a : Int32} {Q : Option Value → MM → Prop} (I : RefInv M S) (O : StOK S) (kk : ∀ M', RFr M M' → Q (some (.int (spLeft S a))) M') : Ca 185 [.ref 83, .int a] M Q := by
  have hk : q_cd 185 = kd_X9_leftOut := rfl
  show WP 185 0 [some (.ref 83), some (.int a), none, none, none] [] M Q
  have ho4 := O.1.2.2.2.1
  have ho7 := O.1.2.1
  repeat (first | refine wp_s hk rfl rfl ?_ | refine wp_goto hk rfl ?_ | refine wp_geti hk rfl rfl rfl rfl ?_ | refine wp_getr hk rfl rfl rfl rfl ?_)
  refine wp_th hk rfl (fun M0 F0 => ?_)
  have I0 := I.fr O F0
  repeat (first | refine wp_s hk rfl rfl ?_ | refine wp_goto hk rfl ?_ | refine wp_geti hk rfl rfl rfl rfl ?_ | refine wp_getr hk rfl rfl rfl rfl ?_)
  refine wp_callS hk rfl rfl rfl rfl ?_
  refine m_noRule ?_
  refine wp_ifeqB (u := !isN a 3) hk rfl rfl (fun h => ?_) (fun h => ?_)
  · have h' : isN a 3 = true := by simpa using h
    obtain ⟨hr, ea⟩ := i2n_of (by omega) h'
    repeat (first | refine wp_s hk rfl rfl ?_ | refine wp_goto hk rfl ?_ | refine wp_geti hk rfl rfl rfl rfl ?_ | refine wp_getr hk rfl rfl rfl rfl ?_)
    refine wp_callV hk rfl rfl rfl rfl rfl rfl ?_
    refine m_take I0.1 O.1 (fun M1 K1 V1 => ?_)
    have RA := (I0.2.2.1.1 _ hr).kp K1 (by decide) (by decide) (by decide) (by decide)
    repeat (first | refine wp_s hk rfl rfl ?_ | refine wp_goto hk rfl ?_ | refine wp_geti hk rfl rfl rfl rfl ?_ | refine wp_getr hk rfl rfl rfl rfl ?_)
    rw [ea]
    refine wp_callV hk rfl rfl rfl rfl rfl rfl ?_
    refine m_lay V1 (by omega) RA (O.2.2.1 _ hr) (fun M2 K2 W2 => ?_)
    change RefW M2 _ _ _ (wS (sV S) (sR S (i2n a))) at W2
    have K02 : Kp M0 M2 [88, 89, 98, 99] := (K1.mono (by decide)).tr (K2.mono (by decide))
    have V2 := V1.kp K2 (by decide) (by decide) (by decide)
    repeat (first | refine wp_s hk rfl rfl ?_ | refine wp_goto hk rfl ?_ | refine wp_geti hk rfl rfl rfl rfl ?_ | refine wp_getr hk rfl rfl rfl rfl ?_)
    refine wp_callV hk rfl rfl rfl rfl rfl rfl ?_
    refine m_firsts W2 (by omega) ?_
    have hkk := fun M' F => kk M' F
    simp only [spLeft, h', if_true] at hkk
    unfold loW at hkk
    have h16 : 2 ^ vm (sV S) ≤ 2 ^ 4 := Nat.pow_le_pow_right (by omega) ho4
    have hfl := firstW_lt (w := wS (sV S) (sR S (i2n a))) (parts := (sR S (i2n a)).1) (m := vm (sV S)) (s := vm (sV S)) ho4
    generalize firstW (wS (sV S) (sR S (i2n a))) (sR S (i2n a)).1 (vm (sV S)) (vm (sV S)) = ff at hkk hfl ⊢
    repeat (first | refine wp_s hk rfl rfl ?_ | refine wp_goto hk rfl ?_ | refine wp_geti hk rfl rfl rfl rfl ?_ | refine wp_getr hk rfl rfl rfl rfl ?_)
    have loop := q_dn (n := vn (sV S)) (P := fun j => ∀ M3, Kp M0 M3 [88, 89, 98, 99] → RefV M3 (vn (sV S)) (vm (sV S)) (vc (sV S)) (vk (sV S)) → WP 185 24 [some (.ref 83), some (.int (nI (i2n a))), some (.int (nI ff)), some (.int (nI (sumN (fun j => if (vc (sV S) j && !decide (firstW (worthW (vn (sV S)) (vm (sV S)) (cntM (vc (sV S)) j false) (vk (sV S)) (sR S (i2n a))) (sR S (i2n a)).1 (vm (sV S)) (vm (sV S)) = ff)) = true then 1 else 0) j))), some (.int (nI j))] [.int (M3 83 1), .int (nI j)] M3 Q) (by
      intro M3 K3 V3
      refine wp_icgeN hk rfl rfl V3.1 (by first | omega | decide) (by first | omega | decide) (fun _ => ?_) (fun h => absurd h (by omega))
      repeat (first | refine wp_s hk rfl rfl ?_ | refine wp_goto hk rfl ?_ | refine wp_geti hk rfl rfl rfl rfl ?_ | refine wp_getr hk rfl rfl rfl rfl ?_)
      exact wp_ir hk rfl rfl (hkk M3 (F0.tr (RFr.kp K3)))) (by
      intro j hj ih M3 K3 V3
      refine wp_icgeN hk rfl rfl V3.1 (by first | omega | decide) (by first | omega | decide) (fun h => absurd h (by omega)) (fun _ => ?_)
      simp only [sumN] at ih
      repeat (first | refine wp_s hk rfl rfl ?_ | refine wp_goto hk rfl ?_ | refine wp_geti hk rfl rfl rfl rfl ?_ | refine wp_getr hk rfl rfl rfl rfl ?_)
      refine wp_bld (jx := j) hk rfl rfl rfl (by omega) ?_
      refine wp_ifeqB hk rfl (V3.2.2.2.2.1 j (by omega)) (fun g => ?_) (fun g => ?_)
      · have := ih M3 K3 V3
        rw [if_neg (by rw [g, Bool.false_and]; exact Bool.false_ne_true)] at this
        repeat (first | refine wp_s hk rfl rfl ?_ | refine wp_goto hk rfl ?_ | refine wp_geti hk rfl rfl rfl rfl ?_ | refine wp_getr hk rfl rfl rfl rfl ?_)
        rw [q_nadd j 1]
        exact this
      · repeat (first | refine wp_s hk rfl rfl ?_ | refine wp_goto hk rfl ?_ | refine wp_geti hk rfl rfl rfl rfl ?_ | refine wp_getr hk rfl rfl rfl rfl ?_)
        refine wp_bst (jx := j) hk rfl rfl rfl (by omega) (Or.inl (by decide)) ?_
        have V4 := V3.c' (j := j) (x := nI 0) (by omega) false rfl
        have K4 : Kp M0 (q_up M3 89 (upd (M3 89) j (nI 0))) [88, 89, 98, 99] := K3.up (by decide)
        change RefV (q_up M3 89 (upd (M3 89) j (nI 0))) _ _ _ _ at V4
        generalize q_up M3 89 (upd (M3 89) j (nI 0)) = M4 at V4 K4 ⊢
        repeat (first | refine wp_s hk rfl rfl ?_ | refine wp_goto hk rfl ?_ | refine wp_geti hk rfl rfl rfl rfl ?_ | refine wp_getr hk rfl rfl rfl rfl ?_)
        refine wp_callV hk rfl rfl rfl rfl rfl rfl ?_
        refine m_lay V4 (by omega) ((I0.2.2.1.1 _ hr).kp K4 (by decide) (by decide) (by decide) (by decide)) (O.2.2.1 _ hr) (fun M5 K5 W5 => ?_)
        repeat (first | refine wp_s hk rfl rfl ?_ | refine wp_goto hk rfl ?_ | refine wp_geti hk rfl rfl rfl rfl ?_ | refine wp_getr hk rfl rfl rfl rfl ?_)
        refine wp_callV hk rfl rfl rfl rfl rfl rfl ?_
        refine m_firsts W5 (by omega) ?_
        have hfl2 := firstW_lt (w := worthW (vn (sV S)) (vm (sV S)) (cntM (vc (sV S)) j false) (vk (sV S)) (sR S (i2n a))) (parts := (sR S (i2n a)).1) (m := vm (sV S)) (s := vm (sV S)) ho4
        have fin : ∀ z, z = (if (vc (sV S) j && !decide (firstW (worthW (vn (sV S)) (vm (sV S)) (cntM (vc (sV S)) j false) (vk (sV S)) (sR S (i2n a))) (sR S (i2n a)).1 (vm (sV S)) (vm (sV S)) = ff)) = true then 1 else 0) → WP 185 47 [some (.ref 83), some (.int (nI (i2n a))), some (.int (nI ff)), some (.int (nI (sumN (fun j => if (vc (sV S) j && !decide (firstW (worthW (vn (sV S)) (vm (sV S)) (cntM (vc (sV S)) j false) (vk (sV S)) (sR S (i2n a))) (sR S (i2n a)).1 (vm (sV S)) (vm (sV S)) = ff)) = true then 1 else 0) j))), some (.int (nI j))] [.int (nI z), .int (nI (sumN (fun j => if (vc (sV S) j && !decide (firstW (worthW (vn (sV S)) (vm (sV S)) (cntM (vc (sV S)) j false) (vk (sV S)) (sR S (i2n a))) (sR S (i2n a)).1 (vm (sV S)) (vm (sV S)) = ff)) = true then 1 else 0) j))] M5 Q := by
          intro z hz
          repeat (first | refine wp_s hk rfl rfl ?_ | refine wp_goto hk rfl ?_ | refine wp_geti hk rfl rfl rfl rfl ?_ | refine wp_getr hk rfl rfl rfl rfl ?_)
          refine wp_bst (jx := j) hk rfl rfl rfl (by omega) (Or.inr (by decide)) ?_
          repeat (first | refine wp_s hk rfl rfl ?_ | refine wp_goto hk rfl ?_ | refine wp_geti hk rfl rfl rfl rfl ?_ | refine wp_getr hk rfl rfl rfl rfl ?_)
          rw [q_nadd j 1, q_nadd, hz]
          have V5 := V4.kp K5 (by decide) (by decide) (by decide)
          refine ih _ ((K4.tr (K5.mono (by decide))).up (by decide)) ((V5.c' (j := j) (by omega) true rfl).cg (fun j' hj' => ?_) (fun _ _ _ _ => rfl))
          simp only [cntM]
          by_cases e : j' = j
          · subst e; rw [if_pos rfl, g]
          · rw [if_neg e, if_neg e]
        rw [g] at fin
        simp only [Bool.true_and] at fin
        repeat (first | refine wp_s hk rfl rfl ?_ | refine wp_goto hk rfl ?_ | refine wp_geti hk rfl rfl rfl rfl ?_ | refine wp_getr hk rfl rfl rfl rfl ?_)
        refine wp_icneN (u := firstW (worthW (vn (sV S)) (vm (sV S)) (cntM (vc (sV S)) j false) (vk (sV S)) (sR S (i2n a))) (sR S (i2n a)).1 (vm (sV S)) (vm (sV S))) (v := ff) hk rfl rfl rfl (by omega) (by omega) (fun e => ?_) (fun e => ?_)
        · refine wp_s hk rfl rfl ?_
          exact fin 1 (by rw [decide_eq_false e]; rfl)
        · refine wp_s hk rfl rfl ?_
          refine wp_goto hk rfl ?_
          exact fin 0 (by rw [decide_eq_true (Classical.not_not.mp e)]; rfl))
    exact loop 0 (Nat.zero_le _) M2 K02 V2
  · have h' : isN a 3 = false := by simpa using h
    repeat (first | refine wp_s hk rfl rfl ?_ | refine wp_goto hk rfl ?_ | refine wp_geti hk rfl rfl rfl rfl ?_ | refine wp_getr hk rfl rfl rfl rfl ?_)
    refine wp_ir hk rfl rfl ?_
    have hkk := kk M0 F0
    simp only [spLeft, h', Bool.and_self, Bool.true_and, Bool.and_true, Bool.false_and, Bool.and_false, if_true, Bool.false_eq_true, if_false, Bool.not_true, Bool.not_false] at hkk
    exact hkk
end
section
/-- a third turns two -/
def turnG (n m : Nat) (cnt : Nat → Bool) (mk : Nat → Nat → Nat) (R : Ru) (a b c j v : Nat) : Bool := !aheadW (worthW n m cnt (mkM mk j c v) R) a b 0 R.1
def turnW (n m : Nat) (cnt : Nat → Bool) (mk : Nat → Nat → Nat) (R : Ru) (a b c : Nat) : Bool := anyN (fun j => cnt j && anyN (turnG n m cnt mk R a b c j) 6) n
theorem m_isTurned {M : MM} {n m : Nat} {cnt : Nat → Bool} {mk : Nat → Nat → Nat} {R : Ru} {r a b c : Nat} {Q : Option Value → MM → Prop} (H : RefV M n m cnt mk) (hr : r ≤ 3) (hR : RefRu M r R) (hO : RuOK R) (ha : a < m) (hb : b < m) (hc : c < m)
    (kk : ∀ M', Kp M M' [88, 98, 99] → Q (some (.int (nI (b2n (turnW n m cnt mk R a b c))))) M') : Ca 186 [.ref 83, .int (nI r), .int (nI a), .int (nI b), .int (nI c)] M Q := by
  have hn7 := H.2.2.1
  have hm4 := H.2.2.2.1
  have hk : q_cd 186 = kd_X9_isTurned := rfl
  show WP 186 0 [some (.ref 83), some (.int (nI r)), some (.int (nI a)), some (.int (nI b)), some (.int (nI c)), none, none, none, none] [] M Q
  unfold turnW at kk
  have outer := q_dn (n := n) (P := fun j => ∀ M1 x7 x8, Kp M M1 [88, 98, 99] → RefV M1 n m cnt mk → WP 186 7 [some (.ref 83), some (.int (nI r)), some (.int (nI a)), some (.int (nI b)), some (.int (nI c)), some (.int (nI (b2n (anyN (fun j => cnt j && anyN (turnG n m cnt mk R a b c j) 6) j)))), some (.int (nI j)), x7, x8] [.int (M1 83 1), .int (nI j)] M1 Q) (by
    intro M1 x7 x8 K1 V1
    refine wp_icgeN hk rfl rfl V1.1 (by first | omega | decide) (by first | omega | decide) (fun _ => ?_) (fun h => absurd h (by omega))
    repeat (first | refine wp_s hk rfl rfl ?_ | refine wp_goto hk rfl ?_ | refine wp_geti hk rfl rfl rfl rfl ?_ | refine wp_getr hk rfl rfl rfl rfl ?_)
    exact wp_ir hk rfl (q_rokB _) (kk M1 K1)) (by
    intro j hj ih M1 x7 x8 K1 V1
    refine wp_icgeN hk rfl rfl V1.1 (by first | omega | decide) (by first | omega | decide) (fun h => absurd h (by omega)) (fun _ => ?_)
    simp only [anyN] at ih
    have hback : ∀ M2 k2 bb x8, bb = (anyN (fun j => cnt j && anyN (turnG n m cnt mk R a b c j) 6) j || (cnt j && anyN (turnG n m cnt mk R a b c j) 6)) → Kp M M2 [88, 98, 99] → RefV M2 n m cnt k2 → (∀ j' s', ¬ (j' = j ∧ s' = c) → k2 j' s' = mk j' s') → WP 186 53 [some (.ref 83), some (.int (nI r)), some (.int (nI a)), some (.int (nI b)), some (.int (nI c)), some (.int (nI (b2n bb))), some (.int (nI j)), some (.int (nI (mk j c))), x8] [] M2 Q := by
      intro M2 k2 bb x8 hbb K2 V2 hk2
      repeat (first | refine wp_s hk rfl rfl ?_ | refine wp_goto hk rfl ?_ | refine wp_geti hk rfl rfl rfl rfl ?_ | refine wp_getr hk rfl rfl rfl rfl ?_)
      refine wp_ast (jx := 4 * j + c) hk rfl rfl (by simp only [q_nadd, q_nmul]) (by omega) ?_
      repeat (first | refine wp_s hk rfl rfl ?_ | refine wp_goto hk rfl ?_ | refine wp_geti hk rfl rfl rfl rfl ?_ | refine wp_getr hk rfl rfl rfl rfl ?_)
      rw [q_nadd j 1, hbb]
      have hb5 := V1.2.2.2.2.2.2 j (by omega) c (by omega)
      refine ih _ _ _ (K2.up (by decide)) ((V2.w (j := j) (s := c) (v := mk j c) (by omega) (by omega) hb5).cg (fun _ _ => rfl) (fun j' _ s' _ => ?_))
      simp only [mkM]
      by_cases e : j' = j ∧ s' = c
      · rw [if_pos e, e.1, e.2]
      · rw [if_neg e]; exact hk2 j' s' e
    repeat (first | refine wp_s hk rfl rfl ?_ | refine wp_goto hk rfl ?_ | refine wp_geti hk rfl rfl rfl rfl ?_ | refine wp_getr hk rfl rfl rfl rfl ?_)
    refine wp_ald (jx := 4 * j + c) hk rfl rfl (by simp only [q_nadd, q_nmul]) (by omega) ?_
    rw [V1.2.2.2.2.2.1 j (by omega) c (by omega)]
    repeat (first | refine wp_s hk rfl rfl ?_ | refine wp_goto hk rfl ?_ | refine wp_geti hk rfl rfl rfl rfl ?_ | refine wp_getr hk rfl rfl rfl rfl ?_)
    cases hg : anyN (fun j => cnt j && anyN (turnG n m cnt mk R a b c j) 6) j with
    | true =>
      rw [hg] at hback
      simp only [Bool.true_or] at hback
      refine wp_icgeN (v := 6) hk rfl rfl rfl (by first | omega | decide) (by first | omega | decide) (fun h => absurd h (by first | omega | decide)) (fun _ => ?_)
      repeat (first | refine wp_s hk rfl rfl ?_ | refine wp_goto hk rfl ?_ | refine wp_geti hk rfl rfl rfl rfl ?_ | refine wp_getr hk rfl rfl rfl rfl ?_)
      refine wp_bld (jx := j) hk rfl rfl rfl (by omega) ?_
      refine wp_ifeqB hk rfl (V1.2.2.2.2.1 j (by omega)) (fun g => ?_) (fun g => ?_)
      · exact hback M1 mk true _ rfl K1 V1 (fun _ _ _ => rfl)
      · repeat (first | refine wp_s hk rfl rfl ?_ | refine wp_goto hk rfl ?_ | refine wp_geti hk rfl rfl rfl rfl ?_ | refine wp_getr hk rfl rfl rfl rfl ?_)
        refine wp_ifneB (u := true) hk rfl rfl (fun _ => ?_) (fun z => by cases z)
        exact hback M1 mk true _ rfl K1 V1 (fun _ _ _ => rfl)
    | false =>
      rw [hg] at hback
      simp only [Bool.false_or] at hback
      cases hcj : cnt j with
      | false =>
        rw [hcj] at hback
        simp only [Bool.false_and] at hback
        refine wp_icgeN (v := 6) hk rfl rfl rfl (by first | omega | decide) (by first | omega | decide) (fun h => absurd h (by first | omega | decide)) (fun _ => ?_)
        repeat (first | refine wp_s hk rfl rfl ?_ | refine wp_goto hk rfl ?_ | refine wp_geti hk rfl rfl rfl rfl ?_ | refine wp_getr hk rfl rfl rfl rfl ?_)
        refine wp_bld (jx := j) hk rfl rfl rfl (by omega) ?_
        refine wp_ifeqB hk rfl (V1.2.2.2.2.1 j (by omega)) (fun g => ?_) (fun g => by rw [hcj] at g; cases g)
        exact hback M1 mk false _ rfl K1 V1 (fun _ _ _ => rfl)
      | true =>
        rw [hcj] at hback
        simp only [Bool.true_and] at hback
        have inner := q_dn (n := 6) (P := fun v => ∀ M2 k2, Kp M M2 [88, 98, 99] → RefV M2 n m cnt k2 → (∀ j' s', ¬ (j' = j ∧ s' = c) → k2 j' s' = mk j' s') → WP 186 21 [some (.ref 83), some (.int (nI r)), some (.int (nI a)), some (.int (nI b)), some (.int (nI c)), some (.int (nI (b2n (anyN (turnG n m cnt mk R a b c j) v)))), some (.int (nI j)), some (.int (nI (mk j c))), some (.int (nI v))] [.int (nI 6), .int (nI v)] M2 Q) (by
          intro M2 k2 K2 V2 hk2
          refine wp_icgeN hk rfl rfl rfl (by first | omega | decide) (by first | omega | decide) (fun _ => ?_) (fun h => absurd h (by omega))
          exact hback M2 k2 _ _ rfl K2 V2 hk2) (by
          intro v hv ihv M2 k2 K2 V2 hk2
          refine wp_icgeN hk rfl rfl rfl (by first | omega | decide) (by first | omega | decide) (fun h => absurd h (by omega)) (fun _ => ?_)
          simp only [anyN] at ihv
          repeat (first | refine wp_s hk rfl rfl ?_ | refine wp_goto hk rfl ?_ | refine wp_geti hk rfl rfl rfl rfl ?_ | refine wp_getr hk rfl rfl rfl rfl ?_)
          refine wp_bld (jx := j) hk rfl rfl rfl (by omega) ?_
          refine wp_ifeqB hk rfl (V2.2.2.2.2.1 j (by omega)) (fun g => by rw [hcj] at g; cases g) (fun _ => ?_)
          repeat (first | refine wp_s hk rfl rfl ?_ | refine wp_goto hk rfl ?_ | refine wp_geti hk rfl rfl rfl rfl ?_ | refine wp_getr hk rfl rfl rfl rfl ?_)
          refine wp_ifneB hk rfl rfl (fun g => ?_) (fun g => ?_)
          · rw [g]
            exact hback M2 k2 true _ (anyN_mono g (Nat.le_of_lt hv)).symm K2 V2 hk2
          · rw [g] at ihv ⊢
            simp only [Bool.false_or] at ihv
            repeat (first | refine wp_s hk rfl rfl ?_ | refine wp_goto hk rfl ?_ | refine wp_geti hk rfl rfl rfl rfl ?_ | refine wp_getr hk rfl rfl rfl rfl ?_)
            refine wp_ast (jx := 4 * j + c) hk rfl rfl (by simp only [q_nadd, q_nmul]) (by omega) ?_
            have V3 := V2.w (j := j) (s := c) (v := v) (by omega) (by omega) (by omega)
            have K3 : Kp M (q_up M2 88 (upd (M2 88) (4 * j + c) (nI v))) [88, 98, 99] := K2.up (by decide)
            generalize q_up M2 88 (upd (M2 88) (4 * j + c) (nI v)) = M3 at V3 K3 ⊢
            have e3 : mkM k2 j c v = mkM mk j c v := by
              funext j' s'
              simp only [mkM]
              by_cases e : j' = j ∧ s' = c
              · rw [if_pos e, if_pos e]
              · rw [if_neg e, if_neg e]; exact hk2 j' s' e
            rw [e3] at V3
            repeat (first | refine wp_s hk rfl rfl ?_ | refine wp_goto hk rfl ?_ | refine wp_geti hk rfl rfl rfl rfl ?_ | refine wp_getr hk rfl rfl rfl rfl ?_)
            refine wp_callV hk rfl rfl rfl rfl rfl rfl ?_
            refine m_lay V3 hr (hR.kp K3 (by decide) (by decide) (by decide) (by decide)) hO (fun M4 K4 W4 => ?_)
            have K34 : Kp M M4 [88, 98, 99] := K3.tr (K4.mono (by decide))
            have V4 := V3.kp K4 (by decide) (by decide) (by decide)
            repeat (first | refine wp_s hk rfl rfl ?_ | refine wp_goto hk rfl ?_ | refine wp_geti hk rfl rfl rfl rfl ?_ | refine wp_getr hk rfl rfl rfl rfl ?_)
            refine wp_callV hk rfl rfl rfl rfl rfl rfl ?_
            refine m_by W4 hr ha hb ?_
            refine wp_ifgt hk rfl (fun g2 => ?_) (fun g2 => ?_)
            · repeat (first | refine wp_s hk rfl rfl ?_ | refine wp_goto hk rfl ?_ | refine wp_geti hk rfl rfl rfl rfl ?_ | refine wp_getr hk rfl rfl rfl rfl ?_)
              rw [q_nadd v 1]
              have := ihv M4 (mkM mk j c v) K34 V4 (fun j' s' e => by simp only [mkM]; rw [if_neg e])
              rw [show turnG n m cnt mk R a b c j v = false by unfold turnG; rw [sgW_gt.mp g2]; rfl] at this
              exact this
            · repeat (first | refine wp_s hk rfl rfl ?_ | refine wp_goto hk rfl ?_ | refine wp_geti hk rfl rfl rfl rfl ?_ | refine wp_getr hk rfl rfl rfl rfl ?_)
              rw [q_nadd v 1]
              have := ihv M4 (mkM mk j c v) K34 V4 (fun j' s' e => by simp only [mkM]; rw [if_neg e])
              rw [show turnG n m cnt mk R a b c j v = true by
                unfold turnG
                cases hx : aheadW (worthW n m cnt (mkM mk j c v) R) a b 0 R.1 with
                | false => rfl
                | true => exact absurd (sgW_gt.mpr hx) g2] at this
              exact this)
        have := inner 0 (Nat.zero_le _) M1 mk K1 V1 (fun _ _ _ => rfl)
        exact this)
  repeat (first | refine wp_s hk rfl rfl ?_ | refine wp_goto hk rfl ?_ | refine wp_geti hk rfl rfl rfl rfl ?_ | refine wp_getr hk rfl rfl rfl rfl ?_)
  exact outer 0 (Nat.zero_le _) M _ _ (Kp.rf _ _) H
def turnS (V : Vw) (R : Ru) (a b c : Nat) : Bool := turnW (vn V) (vm V) (vc V) (vk V) R a b c
def spTurns (S : St) (a b c d : Int32) : Int32 := if isN a 3 && (isN b (vm (sV S)) && (isN c (vm (sV S)) && isN d (vm (sV S)))) then (if b = c ∨ b = d ∨ c = d then BAD else if aheadW (wS (sV S) (sR S (i2n a))) (i2n b) (i2n c) 0 (sR S (i2n a)).1 then nI (b2n (turnS (sV S) (sR S (i2n a)) (i2n b) (i2n c) (i2n d))) else LATE) else UNK
theorem m_turns {M : MM} {S : St} {a b c d : Int32} {Q : Option Value → MM → Prop} (I : RefInv M S) (O : StOK S) (kk : ∀ M', RFr M M' → Q (some (.int (spTurns S a b c d))) M') : Ca 187 [.ref 83, .int a, .int b, .int c, .int d] M Q := by
  have hk : q_cd 187 = kd_X9_turns := rfl
  show WP 187 0 [some (.ref 83), some (.int a), some (.int b), some (.int c), some (.int d)] [] M Q
  have ho4 := O.1.2.2.2.1
  have ho7 := O.1.2.1
  repeat (first | refine wp_s hk rfl rfl ?_ | refine wp_goto hk rfl ?_ | refine wp_geti hk rfl rfl rfl rfl ?_ | refine wp_getr hk rfl rfl rfl rfl ?_)
  refine wp_th hk rfl (fun M0 F0 => ?_)
  have I0 := I.fr O F0
  repeat (first | refine wp_s hk rfl rfl ?_ | refine wp_goto hk rfl ?_ | refine wp_geti hk rfl rfl rfl rfl ?_ | refine wp_getr hk rfl rfl rfl rfl ?_)
  refine wp_callS hk rfl rfl rfl rfl ?_
  refine m_noRule ?_
  refine wp_ifneB (u := !isN a 3) hk rfl rfl (fun h => ?_) (fun h => ?_)
  · have h' : isN a 3 = false := by simpa using h
    repeat (first | refine wp_s hk rfl rfl ?_ | refine wp_goto hk rfl ?_ | refine wp_geti hk rfl rfl rfl rfl ?_ | refine wp_getr hk rfl rfl rfl rfl ?_)
    refine wp_ir hk rfl rfl ?_
    have hkk := kk M0 F0
    simp only [spTurns, h', Bool.and_self, Bool.true_and, Bool.and_true, Bool.false_and, Bool.and_false, if_true, Bool.false_eq_true, if_false, Bool.not_true, Bool.not_false] at hkk
    exact hkk
  have h' : isN a 3 = true := by simpa using h
  repeat (first | refine wp_s hk rfl rfl ?_ | refine wp_goto hk rfl ?_ | refine wp_geti hk rfl rfl rfl rfl ?_ | refine wp_getr hk rfl rfl rfl rfl ?_)
  refine wp_callV hk rfl rfl rfl rfl rfl rfl ?_
  refine m_noSkater I0.1.2.1 O.1.2.2.1 (by omega) ?_
  refine wp_ifneB (u := !isN b (vm (sV S))) hk rfl rfl (fun g => ?_) (fun g => ?_)
  · have g' : isN b (vm (sV S)) = false := by simpa using g
    repeat (first | refine wp_s hk rfl rfl ?_ | refine wp_goto hk rfl ?_ | refine wp_geti hk rfl rfl rfl rfl ?_ | refine wp_getr hk rfl rfl rfl rfl ?_)
    refine wp_ir hk rfl rfl ?_
    have hkk := kk M0 F0
    simp only [spTurns, h', g', Bool.and_self, Bool.true_and, Bool.and_true, Bool.false_and, Bool.and_false, if_true, Bool.false_eq_true, if_false, Bool.not_true, Bool.not_false] at hkk
    exact hkk
  have g' : isN b (vm (sV S)) = true := by simpa using g
  repeat (first | refine wp_s hk rfl rfl ?_ | refine wp_goto hk rfl ?_ | refine wp_geti hk rfl rfl rfl rfl ?_ | refine wp_getr hk rfl rfl rfl rfl ?_)
  refine wp_callV hk rfl rfl rfl rfl rfl rfl ?_
  refine m_noSkater I0.1.2.1 O.1.2.2.1 (by omega) ?_
  refine wp_ifneB (u := !isN c (vm (sV S))) hk rfl rfl (fun f => ?_) (fun f => ?_)
  · have f' : isN c (vm (sV S)) = false := by simpa using f
    repeat (first | refine wp_s hk rfl rfl ?_ | refine wp_goto hk rfl ?_ | refine wp_geti hk rfl rfl rfl rfl ?_ | refine wp_getr hk rfl rfl rfl rfl ?_)
    refine wp_ir hk rfl rfl ?_
    have hkk := kk M0 F0
    simp only [spTurns, h', g', f', Bool.and_self, Bool.true_and, Bool.and_true, Bool.false_and, Bool.and_false, if_true, Bool.false_eq_true, if_false, Bool.not_true, Bool.not_false] at hkk
    exact hkk
  have f' : isN c (vm (sV S)) = true := by simpa using f
  repeat (first | refine wp_s hk rfl rfl ?_ | refine wp_goto hk rfl ?_ | refine wp_geti hk rfl rfl rfl rfl ?_ | refine wp_getr hk rfl rfl rfl rfl ?_)
  refine wp_callV hk rfl rfl rfl rfl rfl rfl ?_
  refine m_noSkater I0.1.2.1 O.1.2.2.1 (by omega) ?_
  refine wp_ifeqB (u := !isN d (vm (sV S))) hk rfl rfl (fun k => ?_) (fun k => ?_)
  · have k' : isN d (vm (sV S)) = true := by simpa using k
    obtain ⟨hr, ea⟩ := i2n_of (by omega) h'
    obtain ⟨hs1, eb⟩ := i2n_of (by omega) g'
    obtain ⟨hs2, ec⟩ := i2n_of (by omega) f'
    obtain ⟨hs3, ed⟩ := i2n_of (by omega) k'
    have hbad : (b = c ∨ b = d ∨ c = d) → ∀ al, WP 187 29 al [] M0 Q := by
      intro hz al
      repeat (first | refine wp_s hk rfl rfl ?_ | refine wp_goto hk rfl ?_ | refine wp_geti hk rfl rfl rfl rfl ?_ | refine wp_getr hk rfl rfl rfl rfl ?_)
      refine wp_ir hk rfl rfl ?_
      have hkk := kk M0 F0
      simp only [spTurns, h', g', f', k', Bool.and_self, if_true] at hkk
      rw [if_pos hz] at hkk
      exact hkk
    repeat (first | refine wp_s hk rfl rfl ?_ | refine wp_goto hk rfl ?_ | refine wp_geti hk rfl rfl rfl rfl ?_ | refine wp_getr hk rfl rfl rfl rfl ?_)
    refine wp_iceq hk rfl (fun z => hbad (Or.inl z) _) (fun z1 => ?_)
    repeat (first | refine wp_s hk rfl rfl ?_ | refine wp_goto hk rfl ?_ | refine wp_geti hk rfl rfl rfl rfl ?_ | refine wp_getr hk rfl rfl rfl rfl ?_)
    refine wp_iceq hk rfl (fun z => hbad (Or.inr (Or.inl z)) _) (fun z2 => ?_)
    repeat (first | refine wp_s hk rfl rfl ?_ | refine wp_goto hk rfl ?_ | refine wp_geti hk rfl rfl rfl rfl ?_ | refine wp_getr hk rfl rfl rfl rfl ?_)
    refine wp_icne hk rfl (fun z3 => ?_) (fun z => hbad (Or.inr (Or.inr (Classical.not_not.mp z))) _)
    have hkk := fun M' F => kk M' F
    simp only [spTurns, h', g', f', k', Bool.and_self, if_true] at hkk
    rw [if_neg (show ¬ (b = c ∨ b = d ∨ c = d) from fun hz => hz.elim z1 (fun hz => hz.elim z2 z3))] at hkk
    repeat (first | refine wp_s hk rfl rfl ?_ | refine wp_goto hk rfl ?_ | refine wp_geti hk rfl rfl rfl rfl ?_ | refine wp_getr hk rfl rfl rfl rfl ?_)
    refine wp_callV hk rfl rfl rfl rfl rfl rfl ?_
    refine m_take I0.1 O.1 (fun M1 K1 V1 => ?_)
    have RA := (I0.2.2.1.1 _ hr).kp K1 (by decide) (by decide) (by decide) (by decide)
    repeat (first | refine wp_s hk rfl rfl ?_ | refine wp_goto hk rfl ?_ | refine wp_geti hk rfl rfl rfl rfl ?_ | refine wp_getr hk rfl rfl rfl rfl ?_)
    rw [ea, eb, ec, ed]
    refine wp_callV hk rfl rfl rfl rfl rfl rfl ?_
    refine m_lay V1 (by omega) RA (O.2.2.1 _ hr) (fun M2 K2 W2 => ?_)
    have W2' : RefW M2 (i2n a) (sR S (i2n a)).1 (vm (sV S)) (wS (sV S) (sR S (i2n a))) := W2
    have V2 := V1.kp K2 (by decide) (by decide) (by decide)
    repeat (first | refine wp_s hk rfl rfl ?_ | refine wp_goto hk rfl ?_ | refine wp_geti hk rfl rfl rfl rfl ?_ | refine wp_getr hk rfl rfl rfl rfl ?_)
    refine wp_callV hk rfl rfl rfl rfl rfl rfl ?_
    refine m_by W2' (by omega) hs1 hs2 ?_
    refine wp_ifgt hk rfl (fun g2 => ?_) (fun g2 => ?_)
    · rw [if_pos (sgW_gt.mp g2)] at hkk
      repeat (first | refine wp_s hk rfl rfl ?_ | refine wp_goto hk rfl ?_ | refine wp_geti hk rfl rfl rfl rfl ?_ | refine wp_getr hk rfl rfl rfl rfl ?_)
      refine wp_callV hk rfl rfl rfl rfl rfl rfl ?_
      refine m_isTurned V2 (by omega) (RA.kp K2 (by decide) (by decide) (by decide) (by decide)) (O.2.2.1 _ hr) hs1 hs2 hs3 (fun M3 K3 => ?_)
      have hk3 := hkk M3 (F0.tr ((RFr.kp K1).tr ((RFr.kp K2).tr (RFr.kp K3))))
      unfold turnS at hk3
      refine wp_ifeqB hk rfl rfl (fun z => ?_) (fun z => ?_) <;> rw [z] at hk3
      · repeat (first | refine wp_s hk rfl rfl ?_ | refine wp_goto hk rfl ?_ | refine wp_geti hk rfl rfl rfl rfl ?_ | refine wp_getr hk rfl rfl rfl rfl ?_)
        exact wp_ir hk rfl rfl hk3
      · repeat (first | refine wp_s hk rfl rfl ?_ | refine wp_goto hk rfl ?_ | refine wp_geti hk rfl rfl rfl rfl ?_ | refine wp_getr hk rfl rfl rfl rfl ?_)
        exact wp_ir hk rfl rfl hk3
    · rw [if_neg (fun z => g2 (sgW_gt.mpr z))] at hkk
      repeat (first | refine wp_s hk rfl rfl ?_ | refine wp_goto hk rfl ?_ | refine wp_geti hk rfl rfl rfl rfl ?_ | refine wp_getr hk rfl rfl rfl rfl ?_)
      exact wp_ir hk rfl rfl (hkk M2 (F0.tr ((RFr.kp K1).tr (RFr.kp K2))))
  · have k' : isN d (vm (sV S)) = false := by simpa using k
    repeat (first | refine wp_s hk rfl rfl ?_ | refine wp_goto hk rfl ?_ | refine wp_geti hk rfl rfl rfl rfl ?_ | refine wp_getr hk rfl rfl rfl rfl ?_)
    refine wp_ir hk rfl rfl ?_
    have hkk := kk M0 F0
    simp only [spTurns, h', g', f', k', Bool.and_self, Bool.true_and, Bool.and_true, Bool.false_and, Bool.and_false, if_true, Bool.false_eq_true, if_false, Bool.not_true, Bool.not_false] at hkk
    exact hkk
/-- may they be two and a third? -/
def thOk (m a b c : Nat) : Bool := decide (a < m) && (decide (b < m) && (decide (c < m) && (decide (¬ a = b) && (decide (¬ a = c) && decide (¬ b = c)))))
def thC (V : Vw) (R : Ru) (a b c : Nat) : Bool := thOk (vm V) a b c && (aheadW (wS V R) a b 0 R.1 && turnS V R a b c)
def thW (V : Vw) (R : Ru) : Nat := sumN (fun k => if thC V R (k / 16) (k / 4 % 4) (k % 4) = true then 1 else 0) 64
def spThirds (S : St) (a : Int32) : Int32 := if isN a 3 then nI (thW (sV S) (sR S (i2n a))) else UNK
theorem m_thirds {M : MM} {S : St} {a : Int32} {Q : Option Value → MM → Prop} (I : RefInv M S) (O : StOK S) (kk : ∀ M', RFr M M' → Q (some (.int (spThirds S a))) M') : Ca 188 [.ref 83, .int a] M Q := by
  have hk : q_cd 188 = kd_X9_thirds := rfl
  show WP 188 0 [some (.ref 83), some (.int a), none, none, none, none, none, none] [] M Q
  have ho4 := O.1.2.2.2.1
  have ho7 := O.1.2.1
  repeat (first | refine wp_s hk rfl rfl ?_ | refine wp_goto hk rfl ?_ | refine wp_geti hk rfl rfl rfl rfl ?_ | refine wp_getr hk rfl rfl rfl rfl ?_)
  refine wp_th hk rfl (fun M0 F0 => ?_)
  have I0 := I.fr O F0
  repeat (first | refine wp_s hk rfl rfl ?_ | refine wp_goto hk rfl ?_ | refine wp_geti hk rfl rfl rfl rfl ?_ | refine wp_getr hk rfl rfl rfl rfl ?_)
  refine wp_callS hk rfl rfl rfl rfl ?_
  refine m_noRule ?_
  refine wp_ifeqB (u := !isN a 3) hk rfl rfl (fun h => ?_) (fun h => ?_)
  · have h' : isN a 3 = true := by simpa using h
    obtain ⟨hr, ea⟩ := i2n_of (by omega) h'
    have hkk := fun M' F => kk M' F
    simp only [spThirds, h', if_true] at hkk
    unfold thW at hkk
    rw [ea]
    repeat (first | refine wp_s hk rfl rfl ?_ | refine wp_goto hk rfl ?_ | refine wp_geti hk rfl rfl rfl rfl ?_ | refine wp_getr hk rfl rfl rfl rfl ?_)
    have loop := q_dn (n := 64) (P := fun k => ∀ M1 x4 x5 x6 x7, Kp M0 M1 [88, 89, 98, 99] → WP 188 14 [some (.ref 83), some (.int (nI (i2n a))), some (.int (nI (sumN (fun k => if thC (sV S) (sR S (i2n a)) (k / 16) (k / 4 % 4) (k % 4) = true then 1 else 0) k))), some (.int (nI k)), x4, x5, x6, x7] [.int (nI 64), .int (nI k)] M1 Q) (by
      intro M1 x4 x5 x6 x7 K1
      refine wp_icgeN hk rfl rfl rfl (by first | omega | decide) (by first | omega | decide) (fun _ => ?_) (fun h => absurd h (by omega))
      repeat (first | refine wp_s hk rfl rfl ?_ | refine wp_goto hk rfl ?_ | refine wp_geti hk rfl rfl rfl rfl ?_ | refine wp_getr hk rfl rfl rfl rfl ?_)
      exact wp_ir hk rfl rfl (hkk M1 (F0.tr (RFr.kp K1)))) (by
      intro k hk64 ih M1 x4 x5 x6 x7 K1
      refine wp_icgeN hk rfl rfl rfl (by first | omega | decide) (by first | omega | decide) (fun h => absurd h (by omega)) (fun _ => ?_)
      have I1 := I0.1.kp K1 (by decide) (by decide) (by decide) (by decide) (by decide)
      have R1 := (I0.2.2.1.1 _ hr).kp K1 (by decide) (by decide) (by decide) (by decide)
      simp only [sumN] at ih
      generalize (sumN (fun k => if thC (sV S) (sR S (i2n a)) (k / 16) (k / 4 % 4) (k % 4) = true then 1 else 0) k) = acc at ih ⊢
      repeat (first | refine wp_s hk rfl rfl ?_ | refine wp_goto hk rfl ?_ | refine wp_geti hk rfl rfl rfl rfl ?_ | refine wp_getr hk rfl rfl rfl rfl ?_)
      refine wp_div hk rfl (by decide) ?_
      rw [q_ndiv (b := 16) (by omega) (by omega) (by omega)]
      repeat (first | refine wp_s hk rfl rfl ?_ | refine wp_goto hk rfl ?_ | refine wp_geti hk rfl rfl rfl rfl ?_ | refine wp_getr hk rfl rfl rfl rfl ?_)
      refine wp_div hk rfl (by decide) ?_
      rw [q_ndiv (b := 4) (by omega) (by omega) (by omega)]
      repeat (first | refine wp_s hk rfl rfl ?_ | refine wp_goto hk rfl ?_ | refine wp_geti hk rfl rfl rfl rfl ?_ | refine wp_getr hk rfl rfl rfl rfl ?_)
      refine wp_rem hk rfl (by decide) ?_
      rw [q_nrem (a := k / 4) (b := 4) (by omega) (by omega) (by omega)]
      repeat (first | refine wp_s hk rfl rfl ?_ | refine wp_goto hk rfl ?_ | refine wp_geti hk rfl rfl rfl rfl ?_ | refine wp_getr hk rfl rfl rfl rfl ?_)
      refine wp_rem hk rfl (by decide) ?_
      rw [q_nrem (a := k) (b := 4) (by omega) (by omega) (by omega)]
      have ha4 : k / 16 < 4 := by omega
      have hb4 : k / 4 % 4 < 4 := by omega
      have hc4 : k % 4 < 4 := by omega
      generalize k / 16 = p at ih ha4 ⊢
      generalize k / 4 % 4 = q at ih hb4 ⊢
      generalize k % 4 = t at ih hc4 ⊢
      have after : ∀ z, z = thOk (vm (sV S)) p q t → ∀ x7, WP 188 53 [some (.ref 83), some (.int (nI (i2n a))), some (.int (nI acc)), some (.int (nI k)), some (.int (nI p)), some (.int (nI q)), some (.int (nI t)), x7] [.int (nI (b2n z))] M1 Q := by
        intro z hz x7
        repeat (first | refine wp_s hk rfl rfl ?_ | refine wp_goto hk rfl ?_ | refine wp_geti hk rfl rfl rfl rfl ?_ | refine wp_getr hk rfl rfl rfl rfl ?_)
        refine wp_callV hk rfl rfl rfl rfl rfl rfl ?_
        refine m_take I1 O.1 (fun M2 K2 V2 => ?_)
        have R2 := R1.kp K2 (by decide) (by decide) (by decide) (by decide)
        repeat (first | refine wp_s hk rfl rfl ?_ | refine wp_goto hk rfl ?_ | refine wp_geti hk rfl rfl rfl rfl ?_ | refine wp_getr hk rfl rfl rfl rfl ?_)
        refine wp_callV hk rfl rfl rfl rfl rfl rfl ?_
        refine m_lay V2 (by omega) R2 (O.2.2.1 _ hr) (fun M3 K3 W3 => ?_)
        have W3' : RefW M3 (i2n a) (sR S (i2n a)).1 (vm (sV S)) (wS (sV S) (sR S (i2n a))) := W3
        have V3 := V2.kp K3 (by decide) (by decide) (by decide)
        have K13 : Kp M0 M3 [88, 89, 98, 99] := K1.tr ((K2.mono (by decide)).tr (K3.mono (by decide)))
        have fin : ∀ y, y = thC (sV S) (sR S (i2n a)) p q t → ∀ M4, Kp M0 M4 [88, 89, 98, 99] → WP 188 78 [some (.ref 83), some (.int (nI (i2n a))), some (.int (nI acc)), some (.int (nI k)), some (.int (nI p)), some (.int (nI q)), some (.int (nI t)), some (.int (nI (b2n z)))] [.int (nI (b2n y)), .int (nI acc)] M4 Q := by
          intro y hy M4 K4
          repeat (first | refine wp_s hk rfl rfl ?_ | refine wp_goto hk rfl ?_ | refine wp_geti hk rfl rfl rfl rfl ?_ | refine wp_getr hk rfl rfl rfl rfl ?_)
          rw [q_nadd k 1, q_nadd]
          have e : b2n y = if thC (sV S) (sR S (i2n a)) p q t = true then 1 else 0 := by rw [← hy]; rfl
          rw [e]
          exact ih M4 _ _ _ _ K4
        unfold thC at fin
        rw [← hz] at fin
        repeat (first | refine wp_s hk rfl rfl ?_ | refine wp_goto hk rfl ?_ | refine wp_geti hk rfl rfl rfl rfl ?_ | refine wp_getr hk rfl rfl rfl rfl ?_)
        refine wp_ifeqB hk rfl rfl (fun g => ?_) (fun g => ?_)
        · refine wp_s hk rfl rfl ?_
          exact fin false (by rw [g]; rfl) M3 K13
        · rw [g] at hz fin ⊢
          simp only [Bool.true_and] at fin
          have hz' := hz.symm
          simp only [thOk, Bool.and_eq_true, decide_eq_true_eq] at hz'
          obtain ⟨z1, z2, z3, -⟩ := hz'
          repeat (first | refine wp_s hk rfl rfl ?_ | refine wp_goto hk rfl ?_ | refine wp_geti hk rfl rfl rfl rfl ?_ | refine wp_getr hk rfl rfl rfl rfl ?_)
          refine wp_callV hk rfl rfl rfl rfl rfl rfl ?_
          refine m_by W3' (by omega) z1 z2 ?_
          refine wp_ifle hk rfl (fun g2 => ?_) (fun g2 => ?_)
          · refine wp_s hk rfl rfl ?_
            have : aheadW (wS (sV S) (sR S (i2n a))) p q 0 (sR S (i2n a)).1 = false := by
              cases hx : aheadW (wS (sV S) (sR S (i2n a))) p q 0 (sR S (i2n a)).1 with
              | false => rfl
              | true => exact absurd (sgW_gt.mpr hx) (Int32.not_lt.mpr g2)
            exact fin false (by rw [this]; rfl) M3 K13
          · have : aheadW (wS (sV S) (sR S (i2n a))) p q 0 (sR S (i2n a)).1 = true := sgW_gt.mp (Int32.not_le.mp g2)
            rw [this] at fin
            simp only [Bool.true_and] at fin
            unfold turnS at fin
            repeat (first | refine wp_s hk rfl rfl ?_ | refine wp_goto hk rfl ?_ | refine wp_geti hk rfl rfl rfl rfl ?_ | refine wp_getr hk rfl rfl rfl rfl ?_)
            refine wp_callV hk rfl rfl rfl rfl rfl rfl ?_
            refine m_isTurned V3 (by omega) (R2.kp K3 (by decide) (by decide) (by decide) (by decide)) (O.2.2.1 _ hr) z1 z2 z3 (fun M4 K4 => ?_)
            have K14 := K13.tr (K4.mono (by decide))
            refine wp_ifeqB hk rfl rfl (fun y => ?_) (fun y => ?_)
            · refine wp_s hk rfl rfl ?_
              exact fin false y.symm M4 K14
            · refine wp_s hk rfl rfl ?_
              refine wp_goto hk rfl ?_
              exact fin true y.symm M4 K14
      have no : thOk (vm (sV S)) p q t = false → ∀ x7, WP 188 52 [some (.ref 83), some (.int (nI (i2n a))), some (.int (nI acc)), some (.int (nI k)), some (.int (nI p)), some (.int (nI q)), some (.int (nI t)), x7] [] M1 Q := by
        intro hz x7
        refine wp_s hk rfl rfl ?_
        exact after false hz.symm x7
      repeat (first | refine wp_s hk rfl rfl ?_ | refine wp_goto hk rfl ?_ | refine wp_geti hk rfl rfl rfl rfl ?_ | refine wp_getr hk rfl rfl rfl rfl ?_)
      refine wp_icgeN (u := p) hk rfl rfl I1.2.1 (by omega) (by omega) (fun g => no (by simp [thOk, Nat.not_lt.mpr g]) _) (fun g1 => ?_)
      repeat (first | refine wp_s hk rfl rfl ?_ | refine wp_goto hk rfl ?_ | refine wp_geti hk rfl rfl rfl rfl ?_ | refine wp_getr hk rfl rfl rfl rfl ?_)
      refine wp_icgeN (u := q) hk rfl rfl I1.2.1 (by omega) (by omega) (fun g => no (by simp [thOk, Nat.not_lt.mpr g]) _) (fun g2 => ?_)
      repeat (first | refine wp_s hk rfl rfl ?_ | refine wp_goto hk rfl ?_ | refine wp_geti hk rfl rfl rfl rfl ?_ | refine wp_getr hk rfl rfl rfl rfl ?_)
      refine wp_icgeN (u := t) hk rfl rfl I1.2.1 (by omega) (by omega) (fun g => no (by simp [thOk, Nat.not_lt.mpr g]) _) (fun g3 => ?_)
      repeat (first | refine wp_s hk rfl rfl ?_ | refine wp_goto hk rfl ?_ | refine wp_geti hk rfl rfl rfl rfl ?_ | refine wp_getr hk rfl rfl rfl rfl ?_)
      refine wp_iceqN (u := p) (v := q) hk rfl rfl rfl (by omega) (by omega) (fun g => no (by simp [thOk, g]) _) (fun g4 => ?_)
      repeat (first | refine wp_s hk rfl rfl ?_ | refine wp_goto hk rfl ?_ | refine wp_geti hk rfl rfl rfl rfl ?_ | refine wp_getr hk rfl rfl rfl rfl ?_)
      refine wp_iceqN (u := p) (v := t) hk rfl rfl rfl (by omega) (by omega) (fun g => no (by simp [thOk, g]) _) (fun g5 => ?_)
      repeat (first | refine wp_s hk rfl rfl ?_ | refine wp_goto hk rfl ?_ | refine wp_geti hk rfl rfl rfl rfl ?_ | refine wp_getr hk rfl rfl rfl rfl ?_)
      refine wp_iceqN (u := q) (v := t) hk rfl rfl rfl (by omega) (by omega) (fun g => no (by simp [thOk, g]) _) (fun g6 => ?_)
      refine wp_s hk rfl rfl ?_
      refine wp_goto hk rfl ?_
      exact after true (by simp [thOk, Nat.lt_of_not_le g1, Nat.lt_of_not_le g2, Nat.lt_of_not_le g3, g4, g5, g6]) _)
    exact loop 0 (Nat.zero_le _) M0 _ _ _ _ (Kp.rf _ _)
  · have h' : isN a 3 = false := by simpa using h
    repeat (first | refine wp_s hk rfl rfl ?_ | refine wp_goto hk rfl ?_ | refine wp_geti hk rfl rfl rfl rfl ?_ | refine wp_getr hk rfl rfl rfl rfl ?_)
    refine wp_ir hk rfl rfl ?_
    have hkk := kk M0 F0
    simp only [spThirds, h', Bool.and_self, Bool.true_and, Bool.and_true, Bool.false_and, Bool.and_false, if_true, Bool.false_eq_true, if_false, Bool.not_true, Bool.not_false] at hkk
    exact hkk
end
section
/-- each of a set marks by land -/
def mkL (V : Vw) (n set : Nat) : Nat → Nat → Nat := fun j s => if j < n ∧ bt set j = true ∧ s < vm V then fv5 (vs V s) (vj V j) else vk V j s
theorem m_mind {M : MM} {V : Vw} {set : Nat} {Q : Option Value → MM → Prop} (I : RefCard M V) (O : VOK V) (hset : set < 128) (kk : ∀ M', Kp M M' [88, 89] → RefV M' (vn V) (vm V) (vc V) (mkL V (vn V) set) → Q none M') : Ca 198 [.ref 83, .int (nI set)] M Q := by
  have ho4 := O.2.2.2.1
  have ho1 := O.2.2.1
  have hn7 := O.2.1
  have hl1 := O.2.2.2.2.2.2.1
  have hl2 := O.2.2.2.2.2.2.2
  have hk : q_cd 198 = kd_X9_mind := rfl
  show WP 198 0 [some (.ref 83), some (.int (nI set)), none, none] [] M Q
  repeat (first | refine wp_s hk rfl rfl ?_ | refine wp_goto hk rfl ?_ | refine wp_geti hk rfl rfl rfl rfl ?_ | refine wp_getr hk rfl rfl rfl rfl ?_)
  refine wp_callV hk rfl rfl rfl rfl rfl rfl ?_
  refine m_take I O (fun M0 K0 V0 => ?_)
  repeat (first | refine wp_s hk rfl rfl ?_ | refine wp_goto hk rfl ?_ | refine wp_geti hk rfl rfl rfl rfl ?_ | refine wp_getr hk rfl rfl rfl rfl ?_)
  have loop := q_dn (n := vn V) (P := fun j => ∀ M1 x3, Kp M M1 [88, 89] → RefV M1 (vn V) (vm V) (vc V) (mkL V j set) → WP 198 7 [some (.ref 83), some (.int (nI set)), some (.int (nI j)), x3] [.int (M1 83 1), .int (nI j)] M1 Q) (by
    intro M1 x3 K1 V1
    refine wp_icgeN hk rfl rfl V1.1 (by first | omega | decide) (by first | omega | decide) (fun _ => ?_) (fun h => absurd h (by omega))
    exact wp_vr hk rfl (kk M1 K1 V1)) (by
    intro j hj ih M1 x3 K1 V1
    refine wp_icgeN hk rfl rfl V1.1 (by first | omega | decide) (by first | omega | decide) (fun h => absurd h (by omega)) (fun _ => ?_)
    have hb2 := q_bitc (set := set) (j := j)
    by_cases hb : bt set j = true
    · have hb1 : set / 2 ^ j % 2 = 1 := of_decide_eq_true hb
      have inner := q_dn (n := vm V) (P := fun t => ∀ M3, Kp M M3 [88, 89] → RefV M3 (vn V) (vm V) (vc V) (fun j' s' => if j' = j ∧ s' < t then fv5 (vs V s') (vj V j) else mkL V j set j' s') → WP 198 13 [some (.ref 83), some (.int (nI set)), some (.int (nI j)), some (.int (nI t))] [.int (M3 83 2), .int (nI t)] M3 Q) (by
        intro M3 K3 V3
        refine wp_icgeN hk rfl rfl V3.2.1 (by first | omega | decide) (by first | omega | decide) (fun _ => ?_) (fun h => absurd h (by omega))
        repeat (first | refine wp_s hk rfl rfl ?_ | refine wp_goto hk rfl ?_ | refine wp_geti hk rfl rfl rfl rfl ?_ | refine wp_getr hk rfl rfl rfl rfl ?_)
        rw [q_nadd j 1]
        refine ih M3 _ K3 (V3.cg (fun _ _ => rfl) (fun j' hj' s' hs' => ?_))
        simp only [mkL]
        by_cases e : j' = j
        · subst e
          by_cases e3 : s' < vm V
          · rw [if_pos ⟨rfl, e3⟩, if_pos ⟨by omega, hb, e3⟩]
          · rw [if_neg (fun z => e3 z.2), if_neg (by omega), if_neg (fun z => e3 z.2.2)]
        · rw [if_neg (fun z => e z.1)]
          by_cases e2 : j' < j ∧ bt set j' = true ∧ s' < vm V
          · rw [if_pos e2, if_pos ⟨by omega, e2.2⟩]
          · rw [if_neg e2, if_neg (fun z => e2 ⟨by omega, z.2⟩)]) (by
        intro t ht iht M3 K3 V3
        refine wp_icgeN hk rfl rfl V3.2.1 (by first | omega | decide) (by first | omega | decide) (fun h => absurd h (by omega)) (fun _ => ?_)
        have I3 := I.kp K3 (by decide) (by decide) (by decide) (by decide) (by decide)
        repeat (first | refine wp_s hk rfl rfl ?_ | refine wp_goto hk rfl ?_ | refine wp_geti hk rfl rfl rfl rfl ?_ | refine wp_getr hk rfl rfl rfl rfl ?_)
        rw [q_bit set hset j (by omega)]
        refine wp_icneN (u := set / 2 ^ j % 2) (v := 1) hk rfl rfl rfl (by omega) (by omega) (fun g => absurd hb1 g) (fun _ => ?_)
        have fin : ∀ z, z = fv5 (vs V t) (vj V j) → WP 198 40 [some (.ref 83), some (.int (nI set)), some (.int (nI j)), some (.int (nI t))] [.int (nI z), .int (nI 4 * nI j + nI t), .ref 88] M3 Q := by
          intro z hz
          refine wp_ast (jx := 4 * j + t) hk rfl rfl (by simp only [q_nadd, q_nmul]) (by omega) ?_
          repeat (first | refine wp_s hk rfl rfl ?_ | refine wp_goto hk rfl ?_ | refine wp_geti hk rfl rfl rfl rfl ?_ | refine wp_getr hk rfl rfl rfl rfl ?_)
          rw [q_nadd t 1]
          have hz5 : z ≤ 5 := by rw [hz]; unfold fv5; split <;> omega
          refine iht _ (K3.up (by decide)) ((V3.w (j := j) (s := t) (v := z) (by omega) (by omega) hz5).cg (fun _ _ => rfl) (fun j' hj' s' hs' => ?_))
          simp only [mkM]
          by_cases e : j' = j ∧ s' = t
          · obtain ⟨rfl, rfl⟩ := e
            rw [if_pos ⟨rfl, rfl⟩, if_pos ⟨rfl, by omega⟩, hz]
          · rw [if_neg e]
            by_cases e2 : j' = j ∧ s' < t
            · rw [if_pos e2, if_pos ⟨e2.1, by omega⟩]
            · rw [if_neg e2, if_neg (by omega)]
        repeat (first | refine wp_s hk rfl rfl ?_ | refine wp_goto hk rfl ?_ | refine wp_geti hk rfl rfl rfl rfl ?_ | refine wp_getr hk rfl rfl rfl rfl ?_)
        refine wp_ald (jx := t) hk rfl rfl rfl (by omega) ?_
        rw [I3.2.2.2.2.2 t (by omega)]
        repeat (first | refine wp_s hk rfl rfl ?_ | refine wp_goto hk rfl ?_ | refine wp_geti hk rfl rfl rfl rfl ?_ | refine wp_getr hk rfl rfl rfl rfl ?_)
        refine wp_ald (jx := j) hk rfl rfl rfl (by omega) ?_
        rw [I3.2.2.2.2.1 j (by omega)]
        have z1 := hl1 j (by omega)
        have z2 := hl2 t (by omega)
        refine wp_icneN (u := vs V t) (v := vj V j) hk rfl rfl rfl (by omega) (by omega) (fun g => ?_) (fun g => ?_)
        · refine wp_s hk rfl rfl ?_
          exact fin 0 (by unfold fv5; rw [if_neg g])
        · refine wp_s hk rfl rfl ?_
          refine wp_goto hk rfl ?_
          exact fin 5 (by unfold fv5; rw [if_pos (Classical.not_not.mp g)]))
      repeat (first | refine wp_s hk rfl rfl ?_ | refine wp_goto hk rfl ?_ | refine wp_geti hk rfl rfl rfl rfl ?_ | refine wp_getr hk rfl rfl rfl rfl ?_)
      exact inner 0 (Nat.zero_le _) M1 K1 (V1.cg (fun _ _ => rfl) (fun j' hj' s' hs' => by simp only [if_neg (show ¬ (j' = j ∧ s' < 0) by omega)]))
    · have hb1 : ¬ set / 2 ^ j % 2 = 1 := fun z => hb (decide_eq_true z)
      repeat (first | refine wp_s hk rfl rfl ?_ | refine wp_goto hk rfl ?_ | refine wp_geti hk rfl rfl rfl rfl ?_ | refine wp_getr hk rfl rfl rfl rfl ?_)
      refine wp_icgeN (u := 0) hk rfl rfl V1.2.1 (by first | omega | decide) (by first | omega | decide) (fun h => absurd h (by omega)) (fun _ => ?_)
      repeat (first | refine wp_s hk rfl rfl ?_ | refine wp_goto hk rfl ?_ | refine wp_geti hk rfl rfl rfl rfl ?_ | refine wp_getr hk rfl rfl rfl rfl ?_)
      rw [q_bit set hset j (by omega)]
      refine wp_icneN (u := set / 2 ^ j % 2) (v := 1) hk rfl rfl rfl (by omega) (by omega) (fun _ => ?_) (fun g => absurd (Classical.not_not.mp g) hb1)
      repeat (first | refine wp_s hk rfl rfl ?_ | refine wp_goto hk rfl ?_ | refine wp_geti hk rfl rfl rfl rfl ?_ | refine wp_getr hk rfl rfl rfl rfl ?_)
      rw [q_nadd j 1]
      refine ih M1 _ K1 (V1.cg (fun _ _ => rfl) (fun j' hj' s' hs' => ?_))
      simp only [mkL]
      by_cases e : j' = j
      · subst e; rw [if_neg (by omega), if_neg (fun z => hb z.2.1)]
      · by_cases e2 : j' < j ∧ bt set j' = true ∧ s' < vm V
        · rw [if_pos e2, if_pos ⟨by omega, e2.2⟩]
        · rw [if_neg e2, if_neg (fun z => e2 ⟨by omega, z.2⟩)])
  exact loop 0 (Nat.zero_le _) M0 _ K0 (V0.cg (fun _ _ => rfl) (fun j' hj' s' hs' => by simp only [mkL]; rw [if_neg (by omega)]))
/-- the least place of a land's skaters -/
def lstW (V : Vw) (pl : Nat → Nat) (f : Nat) : Nat → Nat
  | 0 => 9
  | t + 1 => if vs V t = f ∧ pl t < lstW V pl f t then pl t else lstW V pl f t
theorem lstW_le {V : Vw} {pl : Nat → Nat} {f : Nat} : ∀ {t : Nat}, lstW V pl f t ≤ 9
  | 0 => Nat.le_refl _
  | t + 1 => by
    have := lstW_le (V := V) (pl := pl) (f := f) (t := t)
    simp only [lstW]
    split <;> omega
def plL (V : Vw) (R : Ru) (set t : Nat) : Nat := placeW (worthW (vn V) (vm V) (vc V) (mkL V (vn V) set) R) R.1 (vm V) t
def lst (V : Vw) (R : Ru) (set f : Nat) : Nat := lstW V (plL V R set) f (vm V)
theorem m_leastOf {M : MM} {V : Vw} {R : Ru} {r set f : Nat} {Q : Option Value → MM → Prop} (I : RefCard M V) (O : VOK V) (hr : r ≤ 3) (hR : RefRu M r R) (hO : RuOK R) (hset : set < 128) (hf : f ≤ 3)
    (kk : ∀ M', Kp M M' [88, 89, 98, 99] → Q (some (.int (nI (lst V R set f)))) M') : Ca 199 [.ref 83, .int (nI r), .int (nI set), .int (nI f)] M Q := by
  have ho4 := O.2.2.2.1
  have hl2 := O.2.2.2.2.2.2.2
  have hk : q_cd 199 = kd_X9_leastOf := rfl
  show WP 199 0 [some (.ref 83), some (.int (nI r)), some (.int (nI set)), some (.int (nI f)), none, none, none] [] M Q
  repeat (first | refine wp_s hk rfl rfl ?_ | refine wp_goto hk rfl ?_ | refine wp_geti hk rfl rfl rfl rfl ?_ | refine wp_getr hk rfl rfl rfl rfl ?_)
  refine wp_callV hk rfl rfl rfl rfl rfl rfl ?_
  refine m_mind I O hset (fun M0 K0 V0 => ?_)
  repeat (first | refine wp_s hk rfl rfl ?_ | refine wp_goto hk rfl ?_ | refine wp_geti hk rfl rfl rfl rfl ?_ | refine wp_getr hk rfl rfl rfl rfl ?_)
  refine wp_callV hk rfl rfl rfl rfl rfl rfl ?_
  refine m_lay V0 hr (hR.kp K0 (by decide) (by decide) (by decide) (by decide)) hO (fun M1 K1 W1 => ?_)
  have K01 : Kp M M1 [88, 89, 98, 99] := (K0.mono (by decide)).tr (K1.mono (by decide))
  have V1 := V0.kp K1 (by decide) (by decide) (by decide)
  have I1 := I.kp K01 (by decide) (by decide) (by decide) (by decide) (by decide)
  have hkk := kk M1 K01
  unfold lst at hkk
  have loop := q_dn (n := vm V) (P := fun t => ∀ x6, WP 199 13 [some (.ref 83), some (.int (nI r)), some (.int (nI set)), some (.int (nI f)), some (.int (nI (lstW V (plL V R set) f t))), some (.int (nI t)), x6] [.int (M1 83 2), .int (nI t)] M1 Q) (by
    intro x6
    refine wp_icgeN hk rfl rfl V1.2.1 (by first | omega | decide) (by first | omega | decide) (fun _ => ?_) (fun h => absurd h (by omega))
    repeat (first | refine wp_s hk rfl rfl ?_ | refine wp_goto hk rfl ?_ | refine wp_geti hk rfl rfl rfl rfl ?_ | refine wp_getr hk rfl rfl rfl rfl ?_)
    exact wp_ir hk rfl rfl hkk) (by
    intro t ht ih x6
    refine wp_icgeN hk rfl rfl V1.2.1 (by first | omega | decide) (by first | omega | decide) (fun h => absurd h (by omega)) (fun _ => ?_)
    simp only [lstW] at ih
    have l1 := lstW_le (V := V) (pl := plL V R set) (f := f) (t := t)
    have l2 : plL V R set t ≤ 1 + vm V := placeW_le
    have l3 := hl2 t (by omega)
    repeat (first | refine wp_s hk rfl rfl ?_ | refine wp_goto hk rfl ?_ | refine wp_geti hk rfl rfl rfl rfl ?_ | refine wp_getr hk rfl rfl rfl rfl ?_)
    refine wp_callV hk rfl rfl rfl rfl rfl rfl ?_
    refine m_placeOf W1 hr ht ?_
    repeat (first | refine wp_s hk rfl rfl ?_ | refine wp_goto hk rfl ?_ | refine wp_geti hk rfl rfl rfl rfl ?_ | refine wp_getr hk rfl rfl rfl rfl ?_)
    refine wp_ald (jx := t) hk rfl rfl rfl (by omega) ?_
    rw [I1.2.2.2.2.2 t (by omega)]
    repeat (first | refine wp_s hk rfl rfl ?_ | refine wp_goto hk rfl ?_ | refine wp_geti hk rfl rfl rfl rfl ?_ | refine wp_getr hk rfl rfl rfl rfl ?_)
    have no : ¬ (vs V t = f ∧ plL V R set t < lstW V (plL V R set) f t) → WP 199 30 [some (.ref 83), some (.int (nI r)), some (.int (nI set)), some (.int (nI f)), some (.int (nI (lstW V (plL V R set) f t))), some (.int (nI t)), some (.int (nI (plL V R set t)))] [] M1 Q := by
      intro z
      rw [if_neg z] at ih
      repeat (first | refine wp_s hk rfl rfl ?_ | refine wp_goto hk rfl ?_ | refine wp_geti hk rfl rfl rfl rfl ?_ | refine wp_getr hk rfl rfl rfl rfl ?_)
      rw [q_nadd t 1]
      exact ih _
    refine wp_icneN (u := vs V t) (v := f) hk rfl rfl rfl (by omega) (by omega) (fun g => no (fun z => g z.1)) (fun g => ?_)
    repeat (first | refine wp_s hk rfl rfl ?_ | refine wp_goto hk rfl ?_ | refine wp_geti hk rfl rfl rfl rfl ?_ | refine wp_getr hk rfl rfl rfl rfl ?_)
    refine wp_icgeN (u := plL V R set t) (v := lstW V (plL V R set) f t) hk rfl rfl rfl (by omega) (by omega) (fun g2 => no (fun z => absurd z.2 (Nat.not_lt.mpr g2))) (fun g2 => ?_)
    rw [if_pos ⟨Classical.not_not.mp g, Nat.lt_of_not_le g2⟩] at ih
    repeat (first | refine wp_s hk rfl rfl ?_ | refine wp_goto hk rfl ?_ | refine wp_geti hk rfl rfl rfl rfl ?_ | refine wp_getr hk rfl rfl rfl rfl ?_)
    rw [q_nadd t 1]
    exact ih _)
  repeat (first | refine wp_s hk rfl rfl ?_ | refine wp_goto hk rfl ?_ | refine wp_geti hk rfl rfl rfl rfl ?_ | refine wp_getr hk rfl rfl rfl rfl ?_)
  exact loop 0 (Nat.zero_le _) _
theorem q_nxor (a b : Nat) : nI a ^^^ nI b = nI (a ^^^ b) := by
  show (⟨UInt32.ofNat a⟩ : Int32) ^^^ ⟨UInt32.ofNat b⟩ = ⟨UInt32.ofNat (a ^^^ b)⟩
  rw [UInt32.ofNat_xor]
  rfl
/-- would one judge rather change? -/
def unR (V : Vw) (R : Ru) (set j : Nat) : Bool := !(vL V).testBit j && decide (lst V R (set ^^^ 2 ^ j) (vj V j) < lst V R set (vj V j))
def atR (V : Vw) (R : Ru) (set : Nat) : Bool := !anyN (unR V R set) (vn V)
theorem xor_lt {set j : Nat} (h : set < 128) (hj : j < 7) : set ^^^ 2 ^ j < 128 := Nat.xor_lt_two_pow (n := 7) h (Nat.pow_lt_pow_right (by omega) hj)
theorem m_isAtRest {M : MM} {V : Vw} {R : Ru} {r set : Nat} {Q : Option Value → MM → Prop} (I : RefCard M V) (O : VOK V) (hr : r ≤ 3) (hR : RefRu M r R) (hO : RuOK R) (hset : set < 128)
    (kk : ∀ M', Kp M M' [88, 89, 98, 99] → Q (some (.int (nI (b2n (atR V R set))))) M') : Ca 200 [.ref 83, .int (nI r), .int (nI set)] M Q := by
  have hn7 := O.2.1
  have hl1 := O.2.2.2.2.2.2.1
  have hk : q_cd 200 = kd_X9_isAtRest := rfl
  show WP 200 0 [some (.ref 83), some (.int (nI r)), some (.int (nI set)), none, none] [] M Q
  unfold atR at kk
  have loop := q_dn (n := vn V) (P := fun j => ∀ M1, Kp M M1 [88, 89, 98, 99] → WP 200 7 [some (.ref 83), some (.int (nI r)), some (.int (nI set)), some (.int (nI (b2n (!anyN (unR V R set) j)))), some (.int (nI j))] [.int (M1 83 1), .int (nI j)] M1 Q) (by
    intro M1 K1
    have I1 := I.kp K1 (by decide) (by decide) (by decide) (by decide) (by decide)
    refine wp_icgeN hk rfl rfl I1.1 (by first | omega | decide) (by first | omega | decide) (fun _ => ?_) (fun h => absurd h (by omega))
    repeat (first | refine wp_s hk rfl rfl ?_ | refine wp_goto hk rfl ?_ | refine wp_geti hk rfl rfl rfl rfl ?_ | refine wp_getr hk rfl rfl rfl rfl ?_)
    exact wp_ir hk rfl (q_rokB _) (kk M1 K1)) (by
    intro j hj ih M1 K1
    have I1 := I.kp K1 (by decide) (by decide) (by decide) (by decide) (by decide)
    refine wp_icgeN hk rfl rfl I1.1 (by first | omega | decide) (by first | omega | decide) (fun h => absurd h (by omega)) (fun _ => ?_)
    have z1 := hl1 j (by omega)
    cases hg : anyN (unR V R set) j with
    | true =>
      repeat (first | refine wp_s hk rfl rfl ?_ | refine wp_goto hk rfl ?_ | refine wp_geti hk rfl rfl rfl rfl ?_ | refine wp_getr hk rfl rfl rfl rfl ?_)
      refine wp_ifeqB (u := false) hk rfl rfl (fun _ => ?_) (fun z => by cases z)
      repeat (first | refine wp_s hk rfl rfl ?_ | refine wp_goto hk rfl ?_ | refine wp_geti hk rfl rfl rfl rfl ?_ | refine wp_getr hk rfl rfl rfl rfl ?_)
      have := kk M1 K1
      rw [anyN_mono hg (Nat.le_of_lt hj)] at this
      exact wp_ir hk rfl rfl this
    | false =>
      simp only [anyN, hg, Bool.false_or] at ih
      repeat (first | refine wp_s hk rfl rfl ?_ | refine wp_goto hk rfl ?_ | refine wp_geti hk rfl rfl rfl rfl ?_ | refine wp_getr hk rfl rfl rfl rfl ?_)
      refine wp_ifeqB (u := true) hk rfl rfl (fun z => by cases z) (fun _ => ?_)
      repeat (first | refine wp_s hk rfl rfl ?_ | refine wp_goto hk rfl ?_ | refine wp_geti hk rfl rfl rfl rfl ?_ | refine wp_getr hk rfl rfl rfl rfl ?_)
      refine wp_bld (jx := j) hk rfl rfl rfl (by omega) ?_
      refine wp_ifneB hk rfl (I1.2.2.1 j (by omega)) (fun g => ?_) (fun g => ?_)
      · repeat (first | refine wp_s hk rfl rfl ?_ | refine wp_goto hk rfl ?_ | refine wp_geti hk rfl rfl rfl rfl ?_ | refine wp_getr hk rfl rfl rfl rfl ?_)
        rw [q_nadd j 1]
        have := ih M1 K1
        rw [show unR V R set j = false by unfold unR; rw [g]; rfl] at this
        exact this
      · have hu : unR V R set j = decide (lst V R (set ^^^ 2 ^ j) (vj V j) < lst V R set (vj V j)) := by unfold unR; rw [g]; rfl
        rw [hu] at ih
        have l1 : lst V R (set ^^^ 2 ^ j) (vj V j) ≤ 9 := lstW_le
        have l2 : lst V R set (vj V j) ≤ 9 := lstW_le
        repeat (first | refine wp_s hk rfl rfl ?_ | refine wp_goto hk rfl ?_ | refine wp_geti hk rfl rfl rfl rfl ?_ | refine wp_getr hk rfl rfl rfl rfl ?_)
        refine wp_ald (jx := j) hk rfl rfl rfl (by omega) ?_
        rw [I1.2.2.2.2.1 j (by omega), q_shl1 j (by omega), q_nxor]
        refine wp_callV hk rfl rfl rfl rfl rfl rfl ?_
        refine m_leastOf I1 O hr (hR.kp K1 (by decide) (by decide) (by decide) (by decide)) hO (xor_lt hset (by omega)) z1 (fun M2 K2 => ?_)
        have K12 := K1.tr K2
        have I2 := I.kp K12 (by decide) (by decide) (by decide) (by decide) (by decide)
        repeat (first | refine wp_s hk rfl rfl ?_ | refine wp_goto hk rfl ?_ | refine wp_geti hk rfl rfl rfl rfl ?_ | refine wp_getr hk rfl rfl rfl rfl ?_)
        refine wp_ald (jx := j) hk rfl rfl rfl (by omega) ?_
        rw [I2.2.2.2.2.1 j (by omega)]
        refine wp_callV hk rfl rfl rfl rfl rfl rfl ?_
        refine m_leastOf I2 O hr (hR.kp K12 (by decide) (by decide) (by decide) (by decide)) hO hset z1 (fun M3 K3 => ?_)
        have ih' := ih M3 (K12.tr K3)
        refine wp_icltN (u := lst V R (set ^^^ 2 ^ j) (vj V j)) (v := lst V R set (vj V j)) hk rfl rfl rfl (by omega) (by omega) (fun g2 => ?_) (fun g2 => ?_)
        · rw [decide_eq_true g2] at ih'
          repeat (first | refine wp_s hk rfl rfl ?_ | refine wp_goto hk rfl ?_ | refine wp_geti hk rfl rfl rfl rfl ?_ | refine wp_getr hk rfl rfl rfl rfl ?_)
          rw [q_nadd j 1]
          exact ih'
        · rw [decide_eq_false g2] at ih'
          repeat (first | refine wp_s hk rfl rfl ?_ | refine wp_goto hk rfl ?_ | refine wp_geti hk rfl rfl rfl rfl ?_ | refine wp_getr hk rfl rfl rfl rfl ?_)
          rw [q_nadd j 1]
          exact ih')
  repeat (first | refine wp_s hk rfl rfl ?_ | refine wp_goto hk rfl ?_ | refine wp_geti hk rfl rfl rfl rfl ?_ | refine wp_getr hk rfl rfl rfl rfl ?_)
  exact loop 0 (Nat.zero_le _) M (Kp.rf _ _)
def spMinded (S : St) (a b c : Int32) : Int32 := if isN a 3 && isN c (vm (sV S)) then (if isN b (2 ^ vn (sV S)) then nI (plL (sV S) (sR S (i2n a)) (i2n b) (i2n c)) else BAD) else UNK
theorem m_minded {M : MM} {S : St} {a b c : Int32} {Q : Option Value → MM → Prop} (I : RefInv M S) (O : StOK S) (kk : ∀ M', RFr M M' → Q (some (.int (spMinded S a b c))) M') : Ca 201 [.ref 83, .int a, .int b, .int c] M Q := by
  have hk : q_cd 201 = kd_X9_minded := rfl
  show WP 201 0 [some (.ref 83), some (.int a), some (.int b), some (.int c)] [] M Q
  have ho4 := O.1.2.2.2.1
  have ho7 := O.1.2.1
  have hp := pow_n ho7
  repeat (first | refine wp_s hk rfl rfl ?_ | refine wp_goto hk rfl ?_ | refine wp_geti hk rfl rfl rfl rfl ?_ | refine wp_getr hk rfl rfl rfl rfl ?_)
  refine wp_th hk rfl (fun M0 F0 => ?_)
  have I0 := I.fr O F0
  repeat (first | refine wp_s hk rfl rfl ?_ | refine wp_goto hk rfl ?_ | refine wp_geti hk rfl rfl rfl rfl ?_ | refine wp_getr hk rfl rfl rfl rfl ?_)
  refine wp_callS hk rfl rfl rfl rfl ?_
  refine m_noRule ?_
  refine wp_ifneB (u := !isN a 3) hk rfl rfl (fun h => ?_) (fun h => ?_)
  · have h' : isN a 3 = false := by simpa using h
    repeat (first | refine wp_s hk rfl rfl ?_ | refine wp_goto hk rfl ?_ | refine wp_geti hk rfl rfl rfl rfl ?_ | refine wp_getr hk rfl rfl rfl rfl ?_)
    refine wp_ir hk rfl rfl ?_
    have hkk := kk M0 F0
    simp only [spMinded, h', Bool.and_self, Bool.true_and, Bool.and_true, Bool.false_and, Bool.and_false, if_true, Bool.false_eq_true, if_false, Bool.not_true, Bool.not_false] at hkk
    exact hkk
  have h' : isN a 3 = true := by simpa using h
  repeat (first | refine wp_s hk rfl rfl ?_ | refine wp_goto hk rfl ?_ | refine wp_geti hk rfl rfl rfl rfl ?_ | refine wp_getr hk rfl rfl rfl rfl ?_)
  refine wp_callV hk rfl rfl rfl rfl rfl rfl ?_
  refine m_noSkater I0.1.2.1 O.1.2.2.1 (by omega) ?_
  refine wp_ifeqB (u := !isN c (vm (sV S))) hk rfl rfl (fun k => ?_) (fun k => ?_)
  · have k' : isN c (vm (sV S)) = true := by simpa using k
    repeat (first | refine wp_s hk rfl rfl ?_ | refine wp_goto hk rfl ?_ | refine wp_geti hk rfl rfl rfl rfl ?_ | refine wp_getr hk rfl rfl rfl rfl ?_)
    refine wp_callV hk rfl rfl rfl rfl rfl rfl ?_
    refine m_noSet I0.1.1 O.1.1 ho7 ?_
    refine wp_ifeqB (u := !isN b (2 ^ vn (sV S))) hk rfl rfl (fun f => ?_) (fun f => ?_)
    · have f' : isN b (2 ^ vn (sV S)) = true := by simpa using f
      obtain ⟨hr, ea⟩ := i2n_of (by omega) h'
      obtain ⟨hj, eb⟩ := i2n_of (by omega) f'
      obtain ⟨hs, ec⟩ := i2n_of (by omega) k'
      repeat (first | refine wp_s hk rfl rfl ?_ | refine wp_goto hk rfl ?_ | refine wp_geti hk rfl rfl rfl rfl ?_ | refine wp_getr hk rfl rfl rfl rfl ?_)
      rw [ea, eb, ec]
      refine wp_callV hk rfl rfl rfl rfl rfl rfl ?_
      refine m_mind I0.1 O.1 (by omega) (fun M1 K1 V1 => ?_)
      repeat (first | refine wp_s hk rfl rfl ?_ | refine wp_goto hk rfl ?_ | refine wp_geti hk rfl rfl rfl rfl ?_ | refine wp_getr hk rfl rfl rfl rfl ?_)
      refine wp_callV hk rfl rfl rfl rfl rfl rfl ?_
      refine m_lay V1 (by omega) ((I0.2.2.1.1 _ hr).kp K1 (by decide) (by decide) (by decide) (by decide)) (O.2.2.1 _ hr) (fun M2 K2 W2 => ?_)
      repeat (first | refine wp_s hk rfl rfl ?_ | refine wp_goto hk rfl ?_ | refine wp_geti hk rfl rfl rfl rfl ?_ | refine wp_getr hk rfl rfl rfl rfl ?_)
      refine wp_callV hk rfl rfl rfl rfl rfl rfl ?_
      refine m_placeOf W2 (by omega) hs ?_
      refine wp_ir hk rfl rfl ?_
      have hkk := kk M2 (F0.tr ((RFr.kp K1).tr (RFr.kp K2)))
      simp only [spMinded, h', f', k', Bool.and_self, Bool.true_and, Bool.and_true, Bool.false_and, Bool.and_false, if_true, Bool.false_eq_true, if_false, Bool.not_true, Bool.not_false] at hkk
      exact hkk
    · have f' : isN b (2 ^ vn (sV S)) = false := by simpa using f
      repeat (first | refine wp_s hk rfl rfl ?_ | refine wp_goto hk rfl ?_ | refine wp_geti hk rfl rfl rfl rfl ?_ | refine wp_getr hk rfl rfl rfl rfl ?_)
      refine wp_ir hk rfl rfl ?_
      have hkk := kk M0 F0
      simp only [spMinded, h', f', k', Bool.and_self, Bool.true_and, Bool.and_true, Bool.false_and, Bool.and_false, if_true, Bool.false_eq_true, if_false, Bool.not_true, Bool.not_false] at hkk
      exact hkk
  · have k' : isN c (vm (sV S)) = false := by simpa using k
    repeat (first | refine wp_s hk rfl rfl ?_ | refine wp_goto hk rfl ?_ | refine wp_geti hk rfl rfl rfl rfl ?_ | refine wp_getr hk rfl rfl rfl rfl ?_)
    refine wp_ir hk rfl rfl ?_
    have hkk := kk M0 F0
    simp only [spMinded, h', k', Bool.and_self, Bool.true_and, Bool.and_true, Bool.false_and, Bool.and_false, if_true, Bool.false_eq_true, if_false, Bool.not_true, Bool.not_false] at hkk
    exact hkk
def spRest (S : St) (a b : Int32) : Int32 := if isN a 3 then (if isN b (2 ^ vn (sV S)) then nI (b2n (atR (sV S) (sR S (i2n a)) (i2n b))) else BAD) else UNK
theorem m_rest {M : MM} {S : St} {a b : Int32} {Q : Option Value → MM → Prop} (I : RefInv M S) (O : StOK S) (kk : ∀ M', RFr M M' → Q (some (.int (spRest S a b))) M') : Ca 202 [.ref 83, .int a, .int b] M Q := by
  have hk : q_cd 202 = kd_X9_rest := rfl
  show WP 202 0 [some (.ref 83), some (.int a), some (.int b)] [] M Q
  have ho7 := O.1.2.1
  have hp := pow_n ho7
  repeat (first | refine wp_s hk rfl rfl ?_ | refine wp_goto hk rfl ?_ | refine wp_geti hk rfl rfl rfl rfl ?_ | refine wp_getr hk rfl rfl rfl rfl ?_)
  refine wp_th hk rfl (fun M0 F0 => ?_)
  have I0 := I.fr O F0
  repeat (first | refine wp_s hk rfl rfl ?_ | refine wp_goto hk rfl ?_ | refine wp_geti hk rfl rfl rfl rfl ?_ | refine wp_getr hk rfl rfl rfl rfl ?_)
  refine wp_callS hk rfl rfl rfl rfl ?_
  refine m_noRule ?_
  refine wp_ifeqB (u := !isN a 3) hk rfl rfl (fun h => ?_) (fun h => ?_)
  · have h' : isN a 3 = true := by simpa using h
    repeat (first | refine wp_s hk rfl rfl ?_ | refine wp_goto hk rfl ?_ | refine wp_geti hk rfl rfl rfl rfl ?_ | refine wp_getr hk rfl rfl rfl rfl ?_)
    refine wp_callV hk rfl rfl rfl rfl rfl rfl ?_
    refine m_noSet I0.1.1 O.1.1 ho7 ?_
    refine wp_ifeqB (u := !isN b (2 ^ vn (sV S))) hk rfl rfl (fun f => ?_) (fun f => ?_)
    · have f' : isN b (2 ^ vn (sV S)) = true := by simpa using f
      obtain ⟨hr, ea⟩ := i2n_of (by omega) h'
      obtain ⟨hj, eb⟩ := i2n_of (by omega) f'
      repeat (first | refine wp_s hk rfl rfl ?_ | refine wp_goto hk rfl ?_ | refine wp_geti hk rfl rfl rfl rfl ?_ | refine wp_getr hk rfl rfl rfl rfl ?_)
      rw [ea, eb]
      refine wp_callV hk rfl rfl rfl rfl rfl rfl ?_
      refine m_isAtRest I0.1 O.1 (by omega) (I0.2.2.1.1 _ hr) (O.2.2.1 _ hr) (by omega) (fun M1 K1 => ?_)
      have hkk := kk M1 (F0.tr (RFr.kp K1))
      simp only [spRest, h', f', if_true] at hkk
      refine wp_ifeqB hk rfl rfl (fun z => ?_) (fun z => ?_) <;> rw [z] at hkk
      · repeat (first | refine wp_s hk rfl rfl ?_ | refine wp_goto hk rfl ?_ | refine wp_geti hk rfl rfl rfl rfl ?_ | refine wp_getr hk rfl rfl rfl rfl ?_)
        exact wp_ir hk rfl rfl hkk
      · repeat (first | refine wp_s hk rfl rfl ?_ | refine wp_goto hk rfl ?_ | refine wp_geti hk rfl rfl rfl rfl ?_ | refine wp_getr hk rfl rfl rfl rfl ?_)
        exact wp_ir hk rfl rfl hkk
    · have f' : isN b (2 ^ vn (sV S)) = false := by simpa using f
      repeat (first | refine wp_s hk rfl rfl ?_ | refine wp_goto hk rfl ?_ | refine wp_geti hk rfl rfl rfl rfl ?_ | refine wp_getr hk rfl rfl rfl rfl ?_)
      refine wp_ir hk rfl rfl ?_
      have hkk := kk M0 F0
      simp only [spRest, h', f', Bool.and_self, Bool.true_and, Bool.and_true, Bool.false_and, Bool.and_false, if_true, Bool.false_eq_true, if_false, Bool.not_true, Bool.not_false] at hkk
      exact hkk
  · have h' : isN a 3 = false := by simpa using h
    repeat (first | refine wp_s hk rfl rfl ?_ | refine wp_goto hk rfl ?_ | refine wp_geti hk rfl rfl rfl rfl ?_ | refine wp_getr hk rfl rfl rfl rfl ?_)
    refine wp_ir hk rfl rfl ?_
    have hkk := kk M0 F0
    simp only [spRest, h', Bool.and_self, Bool.true_and, Bool.and_true, Bool.false_and, Bool.and_false, if_true, Bool.false_eq_true, if_false, Bool.not_true, Bool.not_false] at hkk
    exact hkk
/-- the first that does -/
def fsW (f : Nat → Bool) : Nat → Option Nat
  | 0 => none
  | x + 1 => match fsW f x with
    | some y => some y
    | none => if f x then some x else none
def orW (a b : Option Nat) : Option Nat := match a with
  | some y => some y
  | none => b
def cnW (f : Nat → Bool) (n : Nat) : Nat := sumN (fun x => if f x = true then 1 else 0) n
def spRests (S : St) (told : Bool) (a : Int32) : Int32 := if isN a 3 then (if told = true then fwV (fsW (atR (sV S) (sR S (i2n a))) (2 ^ vn (sV S))) else nI (cnW (atR (sV S) (sR S (i2n a))) (2 ^ vn (sV S)))) else UNK
theorem m_rests {M : MM} {S : St} {told : Bool} {a : Int32} {Q : Option Value → MM → Prop} (I : RefInv M S) (O : StOK S) (kk : ∀ M', RFr M M' → Q (some (.int (spRests S told a))) M') : Ca 203 [.ref 83, .int a, .int (nI (b2n told))] M Q := by
  have hk : q_cd 203 = kd_X9_rests := rfl
  show WP 203 0 [some (.ref 83), some (.int a), some (.int (nI (b2n told))), none, none, none, none] [] M Q
  have ho7 := O.1.2.1
  have hp := pow_n ho7
  repeat (first | refine wp_s hk rfl rfl ?_ | refine wp_goto hk rfl ?_ | refine wp_geti hk rfl rfl rfl rfl ?_ | refine wp_getr hk rfl rfl rfl rfl ?_)
  refine wp_th hk rfl (fun M0 F0 => ?_)
  have I0 := I.fr O F0
  repeat (first | refine wp_s hk rfl rfl ?_ | refine wp_goto hk rfl ?_ | refine wp_geti hk rfl rfl rfl rfl ?_ | refine wp_getr hk rfl rfl rfl rfl ?_)
  refine wp_callS hk rfl rfl rfl rfl ?_
  refine m_noRule ?_
  refine wp_ifeqB (u := !isN a 3) hk rfl rfl (fun h => ?_) (fun h => ?_)
  · have h' : isN a 3 = true := by simpa using h
    obtain ⟨hr, ea⟩ := i2n_of (by omega) h'
    rw [ea]
    have hkk := fun M' F => kk M' F
    simp only [spRests, h', if_true] at hkk
    unfold cnW at hkk
    repeat (first | refine wp_s hk rfl rfl ?_ | refine wp_goto hk rfl ?_ | refine wp_geti hk rfl rfl rfl rfl ?_ | refine wp_getr hk rfl rfl rfl rfl ?_)
    rw [I0.1.1, q_shl1 _ (by omega)]
    have loop : ∀ t, t ≤ 2 ^ vn (sV S) → ∀ M1 x6 c l, Kp M0 M1 [88, 89, 98, 99] → c + sumN (fun x => if atR (sV S) (sR S (i2n a)) x = true then 1 else 0) t = sumN (fun x => if atR (sV S) (sR S (i2n a)) x = true then 1 else 0) (2 ^ vn (sV S)) → orW (fsW (atR (sV S) (sR S (i2n a))) t) l = fsW (atR (sV S) (sR S (i2n a))) (2 ^ vn (sV S)) → WP 203 20 [some (.ref 83), some (.int (nI (i2n a))), some (.int (nI (b2n told))), some (.int (nI c)), some (.int (fwV l)), some (.int (nI t - nI 1)), x6] [.int (nI t - nI 1)] M1 Q := by
      intro t
      induction t with
      | zero =>
        intro ht M1 x6 c l K1 hc hl
        refine wp_ifltD (u := 0) (v := 1) hk rfl rfl (by omega) (by omega) (fun _ => ?_) (fun h => absurd h (by omega))
        have := hkk M1 (F0.tr (RFr.kp K1))
        change c + 0 = _ at hc
        change l = _ at hl
        rw [← hl, ← hc, Nat.add_zero] at this
        repeat (first | refine wp_s hk rfl rfl ?_ | refine wp_goto hk rfl ?_ | refine wp_geti hk rfl rfl rfl rfl ?_ | refine wp_getr hk rfl rfl rfl rfl ?_)
        cases told with
        | true =>
          refine wp_ifeqB (u := true) hk rfl rfl (fun z => by cases z) (fun _ => ?_)
          repeat (first | refine wp_s hk rfl rfl ?_ | refine wp_goto hk rfl ?_ | refine wp_geti hk rfl rfl rfl rfl ?_ | refine wp_getr hk rfl rfl rfl rfl ?_)
          exact wp_ir hk rfl rfl this
        | false =>
          refine wp_ifeqB (u := false) hk rfl rfl (fun _ => ?_) (fun z => by cases z)
          repeat (first | refine wp_s hk rfl rfl ?_ | refine wp_goto hk rfl ?_ | refine wp_geti hk rfl rfl rfl rfl ?_ | refine wp_getr hk rfl rfl rfl rfl ?_)
          exact wp_ir hk rfl rfl this
      | succ t ih =>
        intro ht M1 x6 c l K1 hc hl
        refine wp_ifltD (u := t + 1) (v := 1) hk rfl rfl (by omega) (by omega) (fun h => absurd h (by omega)) (fun _ => ?_)
        rw [q_nsub (Nat.le_add_left 1 t), Nat.add_sub_cancel]
        repeat (first | refine wp_s hk rfl rfl ?_ | refine wp_goto hk rfl ?_ | refine wp_geti hk rfl rfl rfl rfl ?_ | refine wp_getr hk rfl rfl rfl rfl ?_)
        refine wp_callV hk rfl rfl rfl rfl rfl rfl ?_
        refine m_isAtRest (I0.1.kp K1 (by decide) (by decide) (by decide) (by decide) (by decide)) O.1 (by omega) ((I0.2.2.1.1 _ hr).kp K1 (by decide) (by decide) (by decide) (by decide)) (O.2.2.1 _ hr) (by omega) (fun M2 K2 => ?_)
        have K12 := K1.tr K2
        simp only [sumN] at hc
        cases hg : atR (sV S) (sR S (i2n a)) t with
        | true =>
          rw [hg] at hc
          repeat (first | refine wp_s hk rfl rfl ?_ | refine wp_goto hk rfl ?_ | refine wp_geti hk rfl rfl rfl rfl ?_ | refine wp_getr hk rfl rfl rfl rfl ?_)
          refine wp_ifeqB (u := true) hk rfl rfl (fun z => by cases z) (fun _ => ?_)
          repeat (first | refine wp_s hk rfl rfl ?_ | refine wp_goto hk rfl ?_ | refine wp_geti hk rfl rfl rfl rfl ?_ | refine wp_getr hk rfl rfl rfl rfl ?_)
          refine wp_ifeqB (u := true) hk rfl rfl (fun z => by cases z) (fun _ => ?_)
          repeat (first | refine wp_s hk rfl rfl ?_ | refine wp_goto hk rfl ?_ | refine wp_geti hk rfl rfl rfl rfl ?_ | refine wp_getr hk rfl rfl rfl rfl ?_)
          rw [q_dec2, q_nadd]
          refine ih (by omega) M2 _ (c + 1) (some t) K12 (by simp only [if_true] at hc; omega) ?_
          rw [← hl]
          simp only [fsW, orW, hg, if_true]
          cases fsW (atR (sV S) (sR S (i2n a))) t <;> rfl
        | false =>
          rw [hg] at hc
          repeat (first | refine wp_s hk rfl rfl ?_ | refine wp_goto hk rfl ?_ | refine wp_geti hk rfl rfl rfl rfl ?_ | refine wp_getr hk rfl rfl rfl rfl ?_)
          refine wp_ifeqB (u := false) hk rfl rfl (fun _ => ?_) (fun z => by cases z)
          repeat (first | refine wp_s hk rfl rfl ?_ | refine wp_goto hk rfl ?_ | refine wp_geti hk rfl rfl rfl rfl ?_ | refine wp_getr hk rfl rfl rfl rfl ?_)
          refine wp_ifeqB (u := false) hk rfl rfl (fun _ => ?_) (fun z => by cases z)
          repeat (first | refine wp_s hk rfl rfl ?_ | refine wp_goto hk rfl ?_ | refine wp_geti hk rfl rfl rfl rfl ?_ | refine wp_getr hk rfl rfl rfl rfl ?_)
          rw [q_dec2, q_nadd]
          refine ih (by omega) M2 _ (c + 0) l K12 (by simp only [Bool.false_eq_true, if_false] at hc; omega) ?_
          rw [← hl]
          simp only [fsW, orW, hg, Bool.false_eq_true, if_false]
          cases fsW (atR (sV S) (sR S (i2n a))) t <;> rfl
    exact loop _ (Nat.le_refl _) M0 _ 0 none (Kp.rf _ _) (Nat.zero_add _) (by cases fsW (atR (sV S) (sR S (i2n a))) (2 ^ vn (sV S)) <;> rfl)
  · have h' : isN a 3 = false := by simpa using h
    repeat (first | refine wp_s hk rfl rfl ?_ | refine wp_goto hk rfl ?_ | refine wp_geti hk rfl rfl rfl rfl ?_ | refine wp_getr hk rfl rfl rfl rfl ?_)
    refine wp_ir hk rfl rfl ?_
    have hkk := kk M0 F0
    simp only [spRests, h', Bool.and_self, Bool.true_and, Bool.and_true, Bool.false_and, Bool.and_false, if_true, Bool.false_eq_true, if_false, Bool.not_true, Bool.not_false] at hkk
    exact hkk
end
section
def sumI (f : Nat → Int32) : Nat → Int32
  | 0 => nI 0
  | n + 1 => sumI f n + f n
/-- how far a judge leans: one other's mark -/
def lnB (V : Vw) (j f s k : Nat) : Bool := !decide (k = j) && (vc V k && decide (vs V s = f))
def lnG (V : Vw) (j f s k : Nat) : Int32 := if lnB V j f s k = true then nI (vk V j s) - nI (vk V k s) else nI 0
def leanV (V : Vw) (j f : Nat) : Int32 := if vc V j = true then sumI (fun s => sumI (lnG V j f s) 7) (vm V) else nI 0
theorem m_stood {M : MM} {V : Vw} {i j : Nat} {Q : Option Value → MM → Prop} (P : RefPast M i V) (O : VOK V) (hi : i < 8) (hj : j < 7) (kk : Q (some (.int (nI (b2n (vc V j))))) M) : Ca 191 [.ref 83, .int (nI i), .int (nI j)] M Q := by
  have ho7 := O.2.1
  have hk : q_cd 191 = kd_X9_stood := rfl
  show WP 191 0 [some (.ref 83), some (.int (nI i)), some (.int (nI j))] [] M Q
  repeat (first | refine wp_s hk rfl rfl ?_ | refine wp_goto hk rfl ?_ | refine wp_geti hk rfl rfl rfl rfl ?_ | refine wp_getr hk rfl rfl rfl rfl ?_)
  refine wp_ald (jx := i) hk rfl rfl rfl (by omega) ?_
  rw [P.1]
  refine wp_icgeN (u := j) (v := vn V) hk rfl rfl rfl (by omega) (by omega) (fun g => ?_) (fun g => ?_)
  · rw [show vc V j = false by simp [vc, Nat.not_lt.mpr g]] at kk
    repeat (first | refine wp_s hk rfl rfl ?_ | refine wp_goto hk rfl ?_ | refine wp_geti hk rfl rfl rfl rfl ?_ | refine wp_getr hk rfl rfl rfl rfl ?_)
    exact wp_ir hk rfl rfl kk
  · rw [vc_b2n (Nat.lt_of_not_le g)] at kk
    repeat (first | refine wp_s hk rfl rfl ?_ | refine wp_goto hk rfl ?_ | refine wp_geti hk rfl rfl rfl rfl ?_ | refine wp_getr hk rfl rfl rfl rfl ?_)
    refine wp_bld (jx := 7 * i + j) hk rfl rfl (by simp only [q_nadd, q_nmul]) (by omega) ?_
    refine wp_ifneB hk rfl (P.2.2.2.2.2 j hj) (fun z => ?_) (fun z => ?_) <;> rw [z] at kk
    · repeat (first | refine wp_s hk rfl rfl ?_ | refine wp_goto hk rfl ?_ | refine wp_geti hk rfl rfl rfl rfl ?_ | refine wp_getr hk rfl rfl rfl rfl ?_)
      exact wp_ir hk rfl rfl kk
    · repeat (first | refine wp_s hk rfl rfl ?_ | refine wp_goto hk rfl ?_ | refine wp_geti hk rfl rfl rfl rfl ?_ | refine wp_getr hk rfl rfl rfl rfl ?_)
      exact wp_ir hk rfl rfl kk
theorem m_leanIn {M : MM} {V : Vw} {i j f : Nat} {Q : Option Value → MM → Prop} (P : RefPast M i V) (O : VOK V) (hi : i < 8) (hj : j < 7) (hf : f ≤ 3) (kk : Q (some (.int (leanV V j f))) M) : Ca 192 [.ref 83, .int (nI i), .int (nI j), .int (nI f)] M Q := by
  have ho7 := O.2.1
  have ho1 := O.2.2.1
  have ho4 := O.2.2.2.1
  have hl2 := O.2.2.2.2.2.2.2
  have hk : q_cd 192 = kd_X9_leanIn := rfl
  show WP 192 0 [some (.ref 83), some (.int (nI i)), some (.int (nI j)), some (.int (nI f)), none, none, none, none] [] M Q
  unfold leanV at kk
  cases hc : vc V j with
  | false =>
    rw [if_neg (by rw [hc]; exact Bool.false_ne_true)] at kk
    repeat (first | refine wp_s hk rfl rfl ?_ | refine wp_goto hk rfl ?_ | refine wp_geti hk rfl rfl rfl rfl ?_ | refine wp_getr hk rfl rfl rfl rfl ?_)
    refine wp_ald (jx := i) hk rfl rfl rfl (by omega) ?_
    rw [P.2.1]
    refine wp_icgeN (u := 0) (v := vm V) hk rfl rfl rfl (by omega) (by omega) (fun g => absurd g (by omega)) (fun _ => ?_)
    repeat (first | refine wp_s hk rfl rfl ?_ | refine wp_goto hk rfl ?_ | refine wp_geti hk rfl rfl rfl rfl ?_ | refine wp_getr hk rfl rfl rfl rfl ?_)
    refine wp_callV hk rfl rfl rfl rfl rfl rfl ?_
    refine m_stood P O hi hj ?_
    rw [hc]
    refine wp_ifeqB (u := false) hk rfl rfl (fun _ => ?_) (fun z => by cases z)
    repeat (first | refine wp_s hk rfl rfl ?_ | refine wp_goto hk rfl ?_ | refine wp_geti hk rfl rfl rfl rfl ?_ | refine wp_getr hk rfl rfl rfl rfl ?_)
    exact wp_ir hk rfl rfl kk
  | true =>
    rw [if_pos hc] at kk
    have loop := q_dn (n := vm V) (P := fun s => ∀ x6 x7, WP 192 8 [some (.ref 83), some (.int (nI i)), some (.int (nI j)), some (.int (nI f)), some (.int (sumI (fun s => sumI (lnG V j f s) 7) s)), some (.int (nI s)), x6, x7] [.int (nI i), .ref 102, .int (nI s)] M Q) (by
      intro x6 x7
      refine wp_ald (jx := i) hk rfl rfl rfl (by omega) ?_
      rw [P.2.1]
      refine wp_icgeN (u := vm V) (v := vm V) hk rfl rfl rfl (by omega) (by omega) (fun _ => ?_) (fun g => absurd g (by omega))
      repeat (first | refine wp_s hk rfl rfl ?_ | refine wp_goto hk rfl ?_ | refine wp_geti hk rfl rfl rfl rfl ?_ | refine wp_getr hk rfl rfl rfl rfl ?_)
      exact wp_ir hk rfl rfl kk) (by
      intro s hs ih x6 x7
      simp only [sumI] at ih
      refine wp_ald (jx := i) hk rfl rfl rfl (by omega) ?_
      rw [P.2.1]
      refine wp_icgeN (u := s) (v := vm V) hk rfl rfl rfl (by omega) (by omega) (fun g => absurd g (by omega)) (fun _ => ?_)
      repeat (first | refine wp_s hk rfl rfl ?_ | refine wp_goto hk rfl ?_ | refine wp_geti hk rfl rfl rfl rfl ?_ | refine wp_getr hk rfl rfl rfl rfl ?_)
      refine wp_callV hk rfl rfl rfl rfl rfl rfl ?_
      refine m_stood P O hi hj ?_
      rw [hc]
      refine wp_ifeqB (u := true) hk rfl rfl (fun z => by cases z) (fun _ => ?_)
      have inner := q_dn (n := 7) (P := fun k => ∀ x7, WP 192 19 [some (.ref 83), some (.int (nI i)), some (.int (nI j)), some (.int (nI f)), some (.int (sumI (fun s => sumI (lnG V j f s) 7) s + sumI (lnG V j f s) k)), some (.int (nI s)), some (.int (nI k)), x7] [.int (nI 7), .int (nI k)] M Q) (by
        intro x7
        refine wp_icgeN (u := 7) (v := 7) hk rfl rfl rfl (by omega) (by omega) (fun _ => ?_) (fun g => absurd g (by omega))
        repeat (first | refine wp_s hk rfl rfl ?_ | refine wp_goto hk rfl ?_ | refine wp_geti hk rfl rfl rfl rfl ?_ | refine wp_getr hk rfl rfl rfl rfl ?_)
        rw [q_nadd s 1]
        exact ih _ _) (by
        intro k hk7 ihk x7
        simp only [sumI] at ihk
        refine wp_icgeN (u := k) (v := 7) hk rfl rfl rfl (by omega) (by omega) (fun g => absurd g (by omega)) (fun _ => ?_)
        have fin : ∀ b, b = lnB V j f s k → WP 192 41 [some (.ref 83), some (.int (nI i)), some (.int (nI j)), some (.int (nI f)), some (.int (sumI (fun s => sumI (lnG V j f s) 7) s + sumI (lnG V j f s) k)), some (.int (nI s)), some (.int (nI k)), x7] [.int (nI (b2n b))] M Q := by
          intro b hb
          have ihk' := ihk (some (.int (nI (b2n b))))
          unfold lnG at ihk'
          rw [← hb] at ihk'
          repeat (first | refine wp_s hk rfl rfl ?_ | refine wp_goto hk rfl ?_ | refine wp_geti hk rfl rfl rfl rfl ?_ | refine wp_getr hk rfl rfl rfl rfl ?_)
          refine wp_ifeqB (u := b) hk rfl rfl (fun z => ?_) (fun z => ?_)
          · rw [if_neg (by rw [z]; exact Bool.false_ne_true), ← Int32.add_assoc] at ihk'
            repeat (first | refine wp_s hk rfl rfl ?_ | refine wp_goto hk rfl ?_ | refine wp_geti hk rfl rfl rfl rfl ?_ | refine wp_getr hk rfl rfl rfl rfl ?_)
            rw [q_nadd k 1]
            exact ihk'
          · rw [if_pos z, ← Int32.add_assoc] at ihk'
            repeat (first | refine wp_s hk rfl rfl ?_ | refine wp_goto hk rfl ?_ | refine wp_geti hk rfl rfl rfl rfl ?_ | refine wp_getr hk rfl rfl rfl rfl ?_)
            refine wp_ald (jx := 28 * i + 4 * j + s) hk rfl rfl (by simp only [q_nadd, q_nmul]) (by omega) ?_
            rw [P.2.2.2.2.1 j hj s (by omega)]
            repeat (first | refine wp_s hk rfl rfl ?_ | refine wp_goto hk rfl ?_ | refine wp_geti hk rfl rfl rfl rfl ?_ | refine wp_getr hk rfl rfl rfl rfl ?_)
            refine wp_ald (jx := 28 * i + 4 * k + s) hk rfl rfl (by simp only [q_nadd, q_nmul]) (by omega) ?_
            rw [P.2.2.2.2.1 k hk7 s (by omega)]
            repeat (first | refine wp_s hk rfl rfl ?_ | refine wp_goto hk rfl ?_ | refine wp_geti hk rfl rfl rfl rfl ?_ | refine wp_getr hk rfl rfl rfl rfl ?_)
            rw [q_nadd k 1]
            exact ihk'
        unfold lnB at fin
        repeat (first | refine wp_s hk rfl rfl ?_ | refine wp_goto hk rfl ?_ | refine wp_geti hk rfl rfl rfl rfl ?_ | refine wp_getr hk rfl rfl rfl rfl ?_)
        refine wp_iceqN (u := k) (v := j) hk rfl rfl rfl (by omega) (by omega) (fun g => ?_) (fun g => ?_)
        · refine wp_s hk rfl rfl ?_
          exact fin false (by rw [decide_eq_true g]; rfl)
        · rw [decide_eq_false g] at fin
          simp only [Bool.not_false, Bool.true_and] at fin
          repeat (first | refine wp_s hk rfl rfl ?_ | refine wp_goto hk rfl ?_ | refine wp_geti hk rfl rfl rfl rfl ?_ | refine wp_getr hk rfl rfl rfl rfl ?_)
          refine wp_callV hk rfl rfl rfl rfl rfl rfl ?_
          refine m_stood P O hi hk7 ?_
          refine wp_ifeqB hk rfl rfl (fun z => ?_) (fun z => ?_)
          · refine wp_s hk rfl rfl ?_
            exact fin false (by rw [z]; rfl)
          · rw [z] at fin
            simp only [Bool.true_and] at fin
            have l3 := hl2 s (by omega)
            repeat (first | refine wp_s hk rfl rfl ?_ | refine wp_goto hk rfl ?_ | refine wp_geti hk rfl rfl rfl rfl ?_ | refine wp_getr hk rfl rfl rfl rfl ?_)
            refine wp_ald (jx := 4 * i + s) hk rfl rfl (by simp only [q_nadd, q_nmul]) (by omega) ?_
            rw [P.2.2.2.1 s (by omega)]
            repeat (first | refine wp_s hk rfl rfl ?_ | refine wp_goto hk rfl ?_ | refine wp_geti hk rfl rfl rfl rfl ?_ | refine wp_getr hk rfl rfl rfl rfl ?_)
            refine wp_icneN (u := vs V s) (v := f) hk rfl rfl rfl (by omega) (by omega) (fun y => ?_) (fun y => ?_)
            · refine wp_s hk rfl rfl ?_
              exact fin false (decide_eq_false y).symm
            · refine wp_s hk rfl rfl ?_
              refine wp_goto hk rfl ?_
              exact fin true (decide_eq_true (Classical.not_not.mp y)).symm)
      have := inner 0 (Nat.zero_le _)
      change ∀ x7, WP 192 19 [some (.ref 83), some (.int (nI i)), some (.int (nI j)), some (.int (nI f)), some (.int (sumI (fun s => sumI (lnG V j f s) 7) s + nI 0)), some (.int (nI s)), some (.int (nI 0)), x7] [.int (nI 7), .int (nI 0)] M Q at this
      rw [show sumI (fun s => sumI (lnG V j f s) 7) s + nI 0 = sumI (fun s => sumI (lnG V j f s) 7) s from Int32.add_zero _] at this
      repeat (first | refine wp_s hk rfl rfl ?_ | refine wp_goto hk rfl ?_ | refine wp_geti hk rfl rfl rfl rfl ?_ | refine wp_getr hk rfl rfl rfl rfl ?_)
      exact this _)
    repeat (first | refine wp_s hk rfl rfl ?_ | refine wp_goto hk rfl ?_ | refine wp_geti hk rfl rfl rfl rfl ?_ | refine wp_getr hk rfl rfl rfl rfl ?_)
    exact loop 0 (Nat.zero_le _) _ _
def leanA (S : St) (j : Nat) : Int32 := sumI (fun i => leanV (sP S i) j (vj (sP S i) j)) (sN S)
theorem m_leanOf {M : MM} {S : St} {j : Nat} {Q : Option Value → MM → Prop} (I : RefInv M S) (O : StOK S) (hj : j < 7) (kk : Q (some (.int (leanA S j))) M) : Ca 193 [.ref 83, .int (nI j)] M Q := by
  have ho8 := O.2.2.2.1
  have hk : q_cd 193 = kd_X9_leanOf := rfl
  show WP 193 0 [some (.ref 83), some (.int (nI j)), none, none] [] M Q
  unfold leanA at kk
  have loop := q_dn (n := sN S) (P := fun i => WP 193 7 [some (.ref 83), some (.int (nI j)), some (.int (sumI (fun i => leanV (sP S i) j (vj (sP S i) j)) i)), some (.int (nI i))] [.int (M 83 22), .int (nI i)] M Q) (by
    refine wp_icgeN (u := sN S) (v := sN S) hk rfl rfl I.2.2.2.1 (by omega) (by omega) (fun _ => ?_) (fun g => absurd g (by omega))
    repeat (first | refine wp_s hk rfl rfl ?_ | refine wp_goto hk rfl ?_ | refine wp_geti hk rfl rfl rfl rfl ?_ | refine wp_getr hk rfl rfl rfl rfl ?_)
    exact wp_ir hk rfl rfl kk) (by
    intro i hi ih
    simp only [sumI] at ih
    have P := I.2.2.2.2 i hi
    have OP := O.2.2.2.2 i hi
    refine wp_icgeN (u := i) (v := sN S) hk rfl rfl I.2.2.2.1 (by omega) (by omega) (fun g => absurd g (by omega)) (fun _ => ?_)
    repeat (first | refine wp_s hk rfl rfl ?_ | refine wp_goto hk rfl ?_ | refine wp_geti hk rfl rfl rfl rfl ?_ | refine wp_getr hk rfl rfl rfl rfl ?_)
    refine wp_ald (jx := 7 * i + j) hk rfl rfl (by simp only [q_nadd, q_nmul]) (by omega) ?_
    rw [P.2.2.1 j hj]
    refine wp_callV hk rfl rfl rfl rfl rfl rfl ?_
    refine m_leanIn P OP (by omega) hj (OP.2.2.2.2.2.2.1 j hj) ?_
    repeat (first | refine wp_s hk rfl rfl ?_ | refine wp_goto hk rfl ?_ | refine wp_geti hk rfl rfl rfl rfl ?_ | refine wp_getr hk rfl rfl rfl rfl ?_)
    rw [q_nadd i 1]
    exact ih)
  repeat (first | refine wp_s hk rfl rfl ?_ | refine wp_goto hk rfl ?_ | refine wp_geti hk rfl rfl rfl rfl ?_ | refine wp_getr hk rfl rfl rfl rfl ?_)
  exact loop 0 (Nat.zero_le _)
def spLean (S : St) (a : Int32) : Int32 := if isN a 7 then leanA S (i2n a) else UNK
theorem m_lean {M : MM} {S : St} {a : Int32} {Q : Option Value → MM → Prop} (I : RefInv M S) (O : StOK S) (kk : ∀ M', RFr M M' → Q (some (.int (spLean S a))) M') : Ca 194 [.ref 83, .int a] M Q := by
  have hk : q_cd 194 = kd_X9_lean := rfl
  show WP 194 0 [some (.ref 83), some (.int a)] [] M Q
  repeat (first | refine wp_s hk rfl rfl ?_ | refine wp_goto hk rfl ?_ | refine wp_geti hk rfl rfl rfl rfl ?_ | refine wp_getr hk rfl rfl rfl rfl ?_)
  refine wp_th hk rfl (fun M0 F0 => ?_)
  have I0 := I.fr O F0
  repeat (first | refine wp_s hk rfl rfl ?_ | refine wp_goto hk rfl ?_ | refine wp_geti hk rfl rfl rfl rfl ?_ | refine wp_getr hk rfl rfl rfl rfl ?_)
  refine wp_callS hk rfl rfl rfl rfl ?_
  refine m_in ?_
  refine wp_ifeqB (u := isN a 7) hk rfl (congrArg (fun z => nI (b2n z)) ((q_in64 (by omega) (by omega)).trans (q_isN_le (n := 6) (by omega)))) (fun h' => ?_) (fun h' => ?_)
  · repeat (first | refine wp_s hk rfl rfl ?_ | refine wp_goto hk rfl ?_ | refine wp_geti hk rfl rfl rfl rfl ?_ | refine wp_getr hk rfl rfl rfl rfl ?_)
    refine wp_ir hk rfl rfl ?_
    have hkk := kk M0 F0
    simp only [spLean, h', Bool.and_self, Bool.true_and, Bool.and_true, Bool.false_and, Bool.and_false, if_true, Bool.false_eq_true, if_false, Bool.not_true, Bool.not_false] at hkk
    exact hkk
  · obtain ⟨hr, ea⟩ := i2n_of (by omega) h'
    rw [ea]
    repeat (first | refine wp_s hk rfl rfl ?_ | refine wp_goto hk rfl ?_ | refine wp_geti hk rfl rfl rfl rfl ?_ | refine wp_getr hk rfl rfl rfl rfl ?_)
    refine wp_callV hk rfl rfl rfl rfl rfl rfl ?_
    refine m_leanOf I0 O hr ?_
    repeat (first | refine wp_s hk rfl rfl ?_ | refine wp_goto hk rfl ?_ | refine wp_geti hk rfl rfl rfl rfl ?_ | refine wp_getr hk rfl rfl rfl rfl ?_)
    refine wp_ir hk rfl rfl ?_
    have hkk := kk M0 F0
    simp only [spLean, h', Bool.and_self, Bool.true_and, Bool.and_true, Bool.false_and, Bool.and_false, if_true, Bool.false_eq_true, if_false, Bool.not_true, Bool.not_false] at hkk
    exact hkk
def asG (S : St) (j k i : Nat) : Int32 := if vc (sP S i) j = true then leanV (sP S i) k (vj (sP S i) j) else nI 0
def bsG (S : St) (j k i : Nat) : Bool := vc (sP S i) j && vc (sP S i) k
def sdG (S : St) (j k : Nat) : Bool := anyN (bsG S j k) (sN S) && decide (leanA S j ≤ sumI (asG S j k) (sN S))
def sdW (S : St) (j : Nat) : Nat := sumN (fun k => if sdG S j k = true then 1 else 0) 7
def spSeldom (S : St) (a : Int32) : Int32 := if isN a 7 then nI (sdW S (i2n a)) else UNK
theorem m_seldom {M : MM} {S : St} {a : Int32} {Q : Option Value → MM → Prop} (I : RefInv M S) (O : StOK S) (kk : ∀ M', RFr M M' → Q (some (.int (spSeldom S a))) M') : Ca 195 [.ref 83, .int a] M Q := by
  have ho8 := O.2.2.2.1
  have hk : q_cd 195 = kd_X9_seldom := rfl
  show WP 195 0 [some (.ref 83), some (.int a), none, none, none, none, none, none] [] M Q
  repeat (first | refine wp_s hk rfl rfl ?_ | refine wp_goto hk rfl ?_ | refine wp_geti hk rfl rfl rfl rfl ?_ | refine wp_getr hk rfl rfl rfl rfl ?_)
  refine wp_th hk rfl (fun M0 F0 => ?_)
  have I0 := I.fr O F0
  repeat (first | refine wp_s hk rfl rfl ?_ | refine wp_goto hk rfl ?_ | refine wp_geti hk rfl rfl rfl rfl ?_ | refine wp_getr hk rfl rfl rfl rfl ?_)
  refine wp_callS hk rfl rfl rfl rfl ?_
  refine m_in ?_
  refine wp_ifneB (u := isN a 7) hk rfl (congrArg (fun z => nI (b2n z)) ((q_in64 (by omega) (by omega)).trans (q_isN_le (n := 6) (by omega)))) (fun h' => ?_) (fun h' => ?_)
  · obtain ⟨hj, ea⟩ := i2n_of (by omega) h'
    rw [ea]
    have hkk := kk M0 F0
    simp only [spSeldom, h', if_true] at hkk
    unfold sdW at hkk
    repeat (first | refine wp_s hk rfl rfl ?_ | refine wp_goto hk rfl ?_ | refine wp_geti hk rfl rfl rfl rfl ?_ | refine wp_getr hk rfl rfl rfl rfl ?_)
    refine wp_callV hk rfl rfl rfl rfl rfl rfl ?_
    refine m_leanOf I0 O hj ?_
    generalize i2n a = j at hj hkk ⊢
    have loop := q_dn (n := 7) (P := fun k => ∀ x5 x6 x7, WP 195 21 [some (.ref 83), some (.int (nI j)), some (.int (leanA S j)), some (.int (nI (sumN (fun k => if sdG S j k = true then 1 else 0) k))), some (.int (nI k)), x5, x6, x7] [.int (nI 7), .int (nI k)] M0 Q) (by
      intro x5 x6 x7
      refine wp_icgeN (u := 7) (v := 7) hk rfl rfl rfl (by omega) (by omega) (fun _ => ?_) (fun g => absurd g (by omega))
      repeat (first | refine wp_s hk rfl rfl ?_ | refine wp_goto hk rfl ?_ | refine wp_geti hk rfl rfl rfl rfl ?_ | refine wp_getr hk rfl rfl rfl rfl ?_)
      exact wp_ir hk rfl rfl hkk) (by
      intro k hk7 ih x5 x6 x7
      simp only [sumN] at ih
      refine wp_icgeN (u := k) (v := 7) hk rfl rfl rfl (by omega) (by omega) (fun g => absurd g (by omega)) (fun _ => ?_)
      have inner := q_dn (n := sN S) (P := fun i => WP 195 31 [some (.ref 83), some (.int (nI j)), some (.int (leanA S j)), some (.int (nI (sumN (fun k => if sdG S j k = true then 1 else 0) k))), some (.int (nI k)), some (.int (sumI (asG S j k) i)), some (.int (nI (b2n (anyN (bsG S j k) i)))), some (.int (nI i))] [.int (M0 83 22), .int (nI i)] M0 Q) (by
        refine wp_icgeN (u := sN S) (v := sN S) hk rfl rfl I0.2.2.2.1 (by omega) (by omega) (fun _ => ?_) (fun g => absurd g (by omega))
        have fin : ∀ b, b = sdG S j k → WP 195 81 [some (.ref 83), some (.int (nI j)), some (.int (leanA S j)), some (.int (nI (sumN (fun k => if sdG S j k = true then 1 else 0) k))), some (.int (nI k)), some (.int (sumI (asG S j k) (sN S))), some (.int (nI (b2n (anyN (bsG S j k) (sN S))))), some (.int (nI (sN S)))] [.int (nI (b2n b)), .int (nI (sumN (fun k => if sdG S j k = true then 1 else 0) k))] M0 Q := by
          intro b hb
          repeat (first | refine wp_s hk rfl rfl ?_ | refine wp_goto hk rfl ?_ | refine wp_geti hk rfl rfl rfl rfl ?_ | refine wp_getr hk rfl rfl rfl rfl ?_)
          rw [q_nadd k 1, q_nadd]
          have e : b2n b = if sdG S j k = true then 1 else 0 := by rw [← hb]; rfl
          rw [e]
          exact ih _ _ _
        unfold sdG at fin
        repeat (first | refine wp_s hk rfl rfl ?_ | refine wp_goto hk rfl ?_ | refine wp_geti hk rfl rfl rfl rfl ?_ | refine wp_getr hk rfl rfl rfl rfl ?_)
        refine wp_ifeqB hk rfl rfl (fun z => ?_) (fun z => ?_)
        · refine wp_s hk rfl rfl ?_
          exact fin false (by rw [z]; rfl)
        · rw [z] at fin ⊢
          simp only [Bool.true_and] at fin
          repeat (first | refine wp_s hk rfl rfl ?_ | refine wp_goto hk rfl ?_ | refine wp_geti hk rfl rfl rfl rfl ?_ | refine wp_getr hk rfl rfl rfl rfl ?_)
          refine wp_iclt hk rfl (fun y => ?_) (fun y => ?_)
          · refine wp_s hk rfl rfl ?_
            exact fin false (decide_eq_false (Int32.not_le.mpr y)).symm
          · refine wp_s hk rfl rfl ?_
            refine wp_goto hk rfl ?_
            exact fin true (decide_eq_true (Int32.not_lt.mp y)).symm) (by
        intro i hi ihi
        have P := I0.2.2.2.2 i hi
        have OP := O.2.2.2.2 i hi
        simp only [sumI, anyN] at ihi
        refine wp_icgeN (u := i) (v := sN S) hk rfl rfl I0.2.2.2.1 (by omega) (by omega) (fun g => absurd g (by omega)) (fun _ => ?_)
        have mid : ∀ T, T = asG S j k i → WP 195 52 [some (.ref 83), some (.int (nI j)), some (.int (leanA S j)), some (.int (nI (sumN (fun k => if sdG S j k = true then 1 else 0) k))), some (.int (nI k)), some (.int (sumI (asG S j k) i)), some (.int (nI (b2n (anyN (bsG S j k) i)))), some (.int (nI i))] [.int T, .int (sumI (asG S j k) i)] M0 Q := by
          intro T hT
          rw [← hT] at ihi
          have fin : ∀ b, b = (anyN (bsG S j k) i || bsG S j k i) → WP 195 69 [some (.ref 83), some (.int (nI j)), some (.int (leanA S j)), some (.int (nI (sumN (fun k => if sdG S j k = true then 1 else 0) k))), some (.int (nI k)), some (.int (sumI (asG S j k) i + T)), some (.int (nI (b2n (anyN (bsG S j k) i)))), some (.int (nI i))] [.int (nI (b2n b))] M0 Q := by
            intro b hb
            repeat (first | refine wp_s hk rfl rfl ?_ | refine wp_goto hk rfl ?_ | refine wp_geti hk rfl rfl rfl rfl ?_ | refine wp_getr hk rfl rfl rfl rfl ?_)
            rw [q_nadd i 1, hb]
            exact ihi
          unfold bsG at fin
          repeat (first | refine wp_s hk rfl rfl ?_ | refine wp_goto hk rfl ?_ | refine wp_geti hk rfl rfl rfl rfl ?_ | refine wp_getr hk rfl rfl rfl rfl ?_)
          refine wp_ifneB hk rfl rfl (fun z => ?_) (fun z => ?_)
          · refine wp_s hk rfl rfl ?_
            refine wp_goto hk rfl ?_
            exact fin true (by unfold bsG at z; rw [z]; rfl)
          · have z' := z
            unfold bsG at z'
            rw [z'] at fin
            simp only [Bool.false_or] at fin
            rw [z]
            repeat (first | refine wp_s hk rfl rfl ?_ | refine wp_goto hk rfl ?_ | refine wp_geti hk rfl rfl rfl rfl ?_ | refine wp_getr hk rfl rfl rfl rfl ?_)
            refine wp_callV hk rfl rfl rfl rfl rfl rfl ?_
            refine m_stood P OP (by omega) hj ?_
            refine wp_ifeqB hk rfl rfl (fun y => ?_) (fun y => ?_)
            · refine wp_s hk rfl rfl ?_
              exact fin false (by rw [y]; rfl)
            · rw [y] at fin
              simp only [Bool.true_and] at fin
              repeat (first | refine wp_s hk rfl rfl ?_ | refine wp_goto hk rfl ?_ | refine wp_geti hk rfl rfl rfl rfl ?_ | refine wp_getr hk rfl rfl rfl rfl ?_)
              refine wp_callV hk rfl rfl rfl rfl rfl rfl ?_
              refine m_stood P OP (by omega) hk7 ?_
              refine wp_ifeqB hk rfl rfl (fun w => ?_) (fun w => ?_)
              · refine wp_s hk rfl rfl ?_
                exact fin false w.symm
              · refine wp_s hk rfl rfl ?_
                refine wp_goto hk rfl ?_
                exact fin true w.symm
        unfold asG at mid
        repeat (first | refine wp_s hk rfl rfl ?_ | refine wp_goto hk rfl ?_ | refine wp_geti hk rfl rfl rfl rfl ?_ | refine wp_getr hk rfl rfl rfl rfl ?_)
        refine wp_callV hk rfl rfl rfl rfl rfl rfl ?_
        refine m_stood P OP (by omega) hj ?_
        refine wp_ifeqB hk rfl rfl (fun z => ?_) (fun z => ?_)
        · refine wp_s hk rfl rfl ?_
          exact mid (nI 0) (by rw [if_neg (by rw [z]; exact Bool.false_ne_true)])
        · repeat (first | refine wp_s hk rfl rfl ?_ | refine wp_goto hk rfl ?_ | refine wp_geti hk rfl rfl rfl rfl ?_ | refine wp_getr hk rfl rfl rfl rfl ?_)
          refine wp_ald (jx := 7 * i + j) hk rfl rfl (by simp only [q_nadd, q_nmul]) (by omega) ?_
          rw [P.2.2.1 j hj]
          refine wp_callV hk rfl rfl rfl rfl rfl rfl ?_
          refine m_leanIn P OP (by omega) hk7 (OP.2.2.2.2.2.2.1 j hj) ?_
          refine wp_goto hk rfl ?_
          exact mid _ (by rw [if_pos z]))
      repeat (first | refine wp_s hk rfl rfl ?_ | refine wp_goto hk rfl ?_ | refine wp_geti hk rfl rfl rfl rfl ?_ | refine wp_getr hk rfl rfl rfl rfl ?_)
      exact inner 0 (Nat.zero_le _))
    repeat (first | refine wp_s hk rfl rfl ?_ | refine wp_goto hk rfl ?_ | refine wp_geti hk rfl rfl rfl rfl ?_ | refine wp_getr hk rfl rfl rfl rfl ?_)
    exact loop 0 (Nat.zero_le _) _ _ _
  · repeat (first | refine wp_s hk rfl rfl ?_ | refine wp_goto hk rfl ?_ | refine wp_geti hk rfl rfl rfl rfl ?_ | refine wp_getr hk rfl rfl rfl rfl ?_)
    refine wp_ir hk rfl rfl ?_
    have hkk := kk M0 F0
    simp only [spSeldom, h', Bool.and_self, Bool.true_and, Bool.and_true, Bool.false_and, Bool.and_false, if_true, Bool.false_eq_true, if_false, Bool.not_true, Bool.not_false] at hkk
    exact hkk
def lnW (g : Nat → Int32) : Nat → Option Nat
  | 0 => none
  | k + 1 => match lnW g k with
    | none => some k
    | some b => if g b < g k then some k else some b
theorem lnW_lt {g : Nat → Int32} : ∀ {k b : Nat}, lnW g k = some b → b < k
  | 0, b, h => by cases h
  | k + 1, b, h => by
    simp only [lnW] at h
    cases hl : lnW g k with
    | none => rw [hl] at h; cases h; omega
    | some c =>
      have := lnW_lt hl
      rw [hl] at h
      change (if g c < g k then some k else some c) = some b at h
      by_cases hc : g c < g k
      · rw [if_pos hc] at h; cases h; omega
      · rw [if_neg hc] at h; cases h; omega
def spLeaner (S : St) : Int32 := if sN S = 0 then NON else fwV (lnW (leanA S) 7)
theorem m_leaner {M : MM} {S : St} {Q : Option Value → MM → Prop} (I : RefInv M S) (O : StOK S) (kk : ∀ M', RFr M M' → Q (some (.int (spLeaner S))) M') : Ca 196 [.ref 83] M Q := by
  have ho8 := O.2.2.2.1
  have hk : q_cd 196 = kd_X9_leaner := rfl
  show WP 196 0 [some (.ref 83), none, none] [] M Q
  repeat (first | refine wp_s hk rfl rfl ?_ | refine wp_goto hk rfl ?_ | refine wp_geti hk rfl rfl rfl rfl ?_ | refine wp_getr hk rfl rfl rfl rfl ?_)
  refine wp_th hk rfl (fun M0 F0 => ?_)
  have I0 := I.fr O F0
  have hkk := kk M0 F0
  unfold spLeaner at hkk
  by_cases h0 : sN S = 0
  · rw [if_pos h0] at hkk
    repeat (first | refine wp_s hk rfl rfl ?_ | refine wp_goto hk rfl ?_ | refine wp_geti hk rfl rfl rfl rfl ?_ | refine wp_getr hk rfl rfl rfl rfl ?_)
    refine wp_icgeN (u := 0) (v := 7) hk rfl rfl rfl (by first | omega | decide) (by first | omega | decide) (fun g => absurd g (by omega)) (fun _ => ?_)
    repeat (first | refine wp_s hk rfl rfl ?_ | refine wp_goto hk rfl ?_ | refine wp_geti hk rfl rfl rfl rfl ?_ | refine wp_getr hk rfl rfl rfl rfl ?_)
    refine wp_ifleN (u := sN S) hk rfl I0.2.2.2.1 (by omega) (fun _ => ?_) (fun g => absurd h0 g)
    repeat (first | refine wp_s hk rfl rfl ?_ | refine wp_goto hk rfl ?_ | refine wp_geti hk rfl rfl rfl rfl ?_ | refine wp_getr hk rfl rfl rfl rfl ?_)
    exact wp_ir hk rfl rfl hkk
  · rw [if_neg h0] at hkk
    have loop := q_dn (n := 7) (P := fun k => WP 196 9 [some (.ref 83), some (.int (fwV (lnW (leanA S) k))), some (.int (nI k))] [.int (nI 7), .int (nI k)] M0 Q) (by
      refine wp_icgeN (u := 7) (v := 7) hk rfl rfl rfl (by omega) (by omega) (fun _ => ?_) (fun g => absurd g (by omega))
      repeat (first | refine wp_s hk rfl rfl ?_ | refine wp_goto hk rfl ?_ | refine wp_geti hk rfl rfl rfl rfl ?_ | refine wp_getr hk rfl rfl rfl rfl ?_)
      exact wp_ir hk rfl rfl hkk) (by
      intro k hk7 ih
      simp only [lnW] at ih
      refine wp_icgeN (u := k) (v := 7) hk rfl rfl rfl (by omega) (by omega) (fun g => absurd g (by omega)) (fun _ => ?_)
      repeat (first | refine wp_s hk rfl rfl ?_ | refine wp_goto hk rfl ?_ | refine wp_geti hk rfl rfl rfl rfl ?_ | refine wp_getr hk rfl rfl rfl rfl ?_)
      refine wp_ifleN (u := sN S) hk rfl I0.2.2.2.1 (by omega) (fun g => absurd g h0) (fun _ => ?_)
      repeat (first | refine wp_s hk rfl rfl ?_ | refine wp_goto hk rfl ?_ | refine wp_geti hk rfl rfl rfl rfl ?_ | refine wp_getr hk rfl rfl rfl rfl ?_)
      cases hl : lnW (leanA S) k with
      | none =>
        rw [hl] at ih
        refine wp_iceq hk rfl (fun _ => ?_) (fun z => absurd rfl z)
        repeat (first | refine wp_s hk rfl rfl ?_ | refine wp_goto hk rfl ?_ | refine wp_geti hk rfl rfl rfl rfl ?_ | refine wp_getr hk rfl rfl rfl rfl ?_)
        rw [q_nadd k 1]
        exact ih
      | some b =>
        rw [hl] at ih
        have hb := lnW_lt hl
        refine wp_iceq hk rfl (fun z => absurd z (q_non b (by omega))) (fun _ => ?_)
        repeat (first | refine wp_s hk rfl rfl ?_ | refine wp_goto hk rfl ?_ | refine wp_geti hk rfl rfl rfl rfl ?_ | refine wp_getr hk rfl rfl rfl rfl ?_)
        refine wp_callV hk rfl rfl rfl rfl rfl rfl ?_
        refine m_leanOf I0 O hk7 ?_
        repeat (first | refine wp_s hk rfl rfl ?_ | refine wp_goto hk rfl ?_ | refine wp_geti hk rfl rfl rfl rfl ?_ | refine wp_getr hk rfl rfl rfl rfl ?_)
        change WP 196 _ _ [.int (nI b), _, _] _ _
        refine wp_callV hk rfl rfl rfl rfl rfl rfl ?_
        refine m_leanOf (j := b) I0 O (by omega) ?_
        change WP 196 9 [_, some (.int (fwV (if leanA S b < leanA S k then some k else some b))), _] _ _ _ at ih
        refine wp_icle hk rfl (fun z => ?_) (fun z => ?_)
        · rw [if_neg (Int32.not_lt.mpr z)] at ih
          repeat (first | refine wp_s hk rfl rfl ?_ | refine wp_goto hk rfl ?_ | refine wp_geti hk rfl rfl rfl rfl ?_ | refine wp_getr hk rfl rfl rfl rfl ?_)
          rw [q_nadd k 1]
          exact ih
        · rw [if_pos (Int32.not_le.mp z)] at ih
          repeat (first | refine wp_s hk rfl rfl ?_ | refine wp_goto hk rfl ?_ | refine wp_geti hk rfl rfl rfl rfl ?_ | refine wp_getr hk rfl rfl rfl rfl ?_)
          rw [q_nadd k 1]
          exact ih)
    repeat (first | refine wp_s hk rfl rfl ?_ | refine wp_goto hk rfl ?_ | refine wp_geti hk rfl rfl rfl rfl ?_ | refine wp_getr hk rfl rfl rfl rfl ?_)
    exact loop 0 (Nat.zero_le _)
end
section
/-! the reference's operations that change its state -/
def Hi (M M' : MM) : Prop := ∀ i, i < 83 → M' i = M i
theorem Hi.rf (M : MM) : Hi M M := fun _ _ => rfl
theorem Hi.tr {M M1 M2 : MM} (h1 : Hi M M1) (h2 : Hi M1 M2) : Hi M M2 := fun i hi => (h2 i hi).trans (h1 i hi)
theorem Hi.fr {M M' : MM} (F : RFr M M') : Hi M M' := fun i hi => F.1 i (fun z => by
  simp only [List.mem_cons, List.not_mem_nil, or_false] at z
  omega)
theorem Hi.kp {M M' : MM} {ids : List Nat} (h : Kp M M' ids) (hs : ∀ i ∈ ids, 83 ≤ i := by decide) : Hi M M' := fun i hi => h i (fun z => by have := hs i z; omega)
theorem Hi.up {M M1 : MM} {i : Nat} {f : Nat → Int32} (h : Hi M M1) (hi : 83 ≤ i) : Hi M (q_up M1 i f) := fun j hj => by rw [q_up_ne _ _ (by omega)]; exact h j hj
theorem q83 (M : MM) (j : Nat) (x : Int32) (k : Nat) : (q_up M 83 (upd (M 83) j x)) 83 k = if k = j then x else M 83 k := by
  rw [q_up_at]
  by_cases e : k = j
  · subst e; rw [upd_at, if_pos rfl]
  · rw [upd_ne _ _ e, if_neg e]
def stV (S : St) (V : Vw) : St := (V, S.2)
theorem RefInv.card {M M' : MM} {S : St} {V : Vw} (I : RefInv M S) (h : ∀ i ∈ [90, 94, 95, 96, 97, 101, 102, 103, 104, 105, 106], M' i = M i) (h1 : M' 83 10 = M 83 10) (h2 : M' 83 22 = M 83 22) (hc : RefCard M' V) : RefInv M' (stV S V) := by
  obtain ⟨-, ⟨b1, b2⟩, ⟨c1, c2, c3⟩, d1, e1⟩ := I
  have g90 := h 90 (by decide); have g94 := h 94 (by decide); have g95 := h 95 (by decide); have g96 := h 96 (by decide); have g97 := h 97 (by decide)
  have g101 := h 101 (by decide); have g102 := h 102 (by decide); have g103 := h 103 (by decide); have g104 := h 104 (by decide); have g105 := h 105 (by decide); have g106 := h 106 (by decide)
  refine ⟨hc, ⟨by rw [h1]; exact b1, by rw [g90]; exact b2⟩, ⟨fun r hr => ?_, by rw [g94]; exact c2, by rw [g95]; exact c3⟩, by rw [h2]; exact d1, fun i hi => ?_⟩
  · have := c1 r hr
    unfold RefRu at this ⊢
    rw [g94, g95, g96, g97]
    exact this
  · have := e1 i hi
    unfold RefPast at this ⊢
    rw [g101, g102, g103, g104, g105, g106]
    exact this
def vwP (n m : Nat) : Vw := (n, m, 0, fun _ _ => 0, fun _ => 0, fun _ => 0)
def opPanel (S : St) (a b : Int32) : Int32 × St := if isR a 1 7 && isR b 1 4 then (nI (i2n a * i2n b), stV S (vwP (i2n a) (i2n b))) else (BAD, S)
/-- zeros from the start on -/
def zr (M : MM) (id j : Nat) : Prop := ∀ i, i < j → M id i = nI 0
theorem zr.up {M : MM} {id j : Nat} (h : zr M id j) : zr (q_up M id (upd (M id) j (nI 0))) id (j + 1) := fun i hi => by
  rw [q_up_at]
  by_cases e : i = j
  · subst e; rw [upd_at]
  · rw [upd_ne _ _ e]; exact h i (by omega)
theorem zr.ne {M : MM} {id j i : Nat} {f : Nat → Int32} (h : zr M id j) (hi : id ≠ i) : zr (q_up M i f) id j := fun k hk => by rw [q_up_ne _ _ hi]; exact h k hk
theorem m_panel {M : MM} {S : St} {a b : Int32} {Q : Option Value → MM → Prop} (I : RefInv M S) (O : StOK S) (kk : ∀ M', RefInv M' (opPanel S a b).2 → Hi M M' → Q (some (.int (opPanel S a b).1)) M') : Ca 140 [.ref 83, .int a, .int b] M Q := by
  have hk : q_cd 140 = kd_X9_panel := rfl
  show WP 140 0 [some (.ref 83), some (.int a), some (.int b), none] [] M Q
  repeat (first | refine wp_s hk rfl rfl ?_ | refine wp_goto hk rfl ?_ | refine wp_geti hk rfl rfl rfl rfl ?_ | refine wp_getr hk rfl rfl rfl rfl ?_)
  refine wp_th hk rfl (fun M0 F0 => ?_)
  have I0 := I.fr O F0
  have H0 := Hi.fr F0
  have bad : (isR a 1 7 && isR b 1 4) = false → ∀ x3, WP 140 15 [some (.ref 83), some (.int a), some (.int b), x3] [] M0 Q := by
    intro h x3
    repeat (first | refine wp_s hk rfl rfl ?_ | refine wp_goto hk rfl ?_ | refine wp_geti hk rfl rfl rfl rfl ?_ | refine wp_getr hk rfl rfl rfl rfl ?_)
    refine wp_ir hk rfl rfl ?_
    have hkk := kk M0
    simp only [opPanel, h, Bool.false_eq_true, if_false] at hkk
    exact hkk I0 H0
  repeat (first | refine wp_s hk rfl rfl ?_ | refine wp_goto hk rfl ?_ | refine wp_geti hk rfl rfl rfl rfl ?_ | refine wp_getr hk rfl rfl rfl rfl ?_)
  refine wp_callS hk rfl rfl rfl rfl ?_
  refine m_in ?_
  refine wp_ifeqB (u := isR a 1 7) hk rfl (congrArg (fun z => nI (b2n z)) (q_in64 (by omega) (by omega))) (fun h => bad (by rw [h]; rfl) _) (fun h => ?_)
  repeat (first | refine wp_s hk rfl rfl ?_ | refine wp_goto hk rfl ?_ | refine wp_geti hk rfl rfl rfl rfl ?_ | refine wp_getr hk rfl rfl rfl rfl ?_)
  refine wp_callS hk rfl rfl rfl rfl ?_
  refine m_in ?_
  refine wp_ifneB (u := isR b 1 4) hk rfl (congrArg (fun z => nI (b2n z)) (q_in64 (by omega) (by omega))) (fun g => ?_) (fun g => bad (by rw [g, Bool.and_false]) _)
  obtain ⟨a1, a2, a3⟩ := isR_of (by omega) (by omega) h
  obtain ⟨b1, b2, b3⟩ := isR_of (by omega) (by omega) g
  have hkk := fun M' => kk M'
  simp only [opPanel, h, g, Bool.and_self, if_true] at hkk
  rw [a3, b3]
  generalize i2n a = n at a1 a2 hkk ⊢
  generalize i2n b = m at b1 b2 hkk ⊢
  repeat (first | refine wp_s hk rfl rfl ?_ | refine wp_goto hk rfl ?_ | refine wp_geti hk rfl rfl rfl rfl ?_ | refine wp_getr hk rfl rfl rfl rfl ?_)
  refine wp_put hk rfl rfl rfl rfl rfl ?_
  repeat (first | refine wp_s hk rfl rfl ?_ | refine wp_goto hk rfl ?_ | refine wp_geti hk rfl rfl rfl rfl ?_ | refine wp_getr hk rfl rfl rfl rfl ?_)
  refine wp_put hk rfl rfl rfl rfl rfl ?_
  have e1 : ∀ j, (q_up (q_up M0 83 (upd (M0 83) 1 (nI n))) 83 (upd ((q_up M0 83 (upd (M0 83) 1 (nI n))) 83) 2 (nI m))) 83 j = if j = 2 then nI m else if j = 1 then nI n else M0 83 j := fun j => by rw [q83, q83]
  have K2 : Kp M0 (q_up (q_up M0 83 (upd (M0 83) 1 (nI n))) 83 (upd ((q_up M0 83 (upd (M0 83) 1 (nI n))) 83) 2 (nI m))) [83] := ((Kp.rf _ _).up (by decide)).up (by decide)
  generalize q_up (q_up M0 83 (upd (M0 83) 1 (nI n))) 83 (upd ((q_up M0 83 (upd (M0 83) 1 (nI n))) 83) 2 (nI m)) = M2 at e1 K2 ⊢
  have l3 : ∀ M1, Kp M2 M1 [84, 85, 86, 87] → zr M1 84 7 → zr M1 87 7 → zr M1 85 4 → zr M1 86 0 → WP 140 56 [some (.ref 83), some (.int (nI n)), some (.int (nI m)), some (.int (nI 0))] [.int (nI 28), .int (nI 0)] M1 Q := by
    intro M1 K1 Z1 Z2 Z3 Z4
    refine q_dn (n := 28) (P := fun j => ∀ M1, Kp M2 M1 [84, 85, 86, 87] → zr M1 84 7 → zr M1 87 7 → zr M1 85 4 → zr M1 86 j → WP 140 56 [some (.ref 83), some (.int (nI n)), some (.int (nI m)), some (.int (nI j))] [.int (nI 28), .int (nI j)] M1 Q) (fun M1 K1 Z1 Z2 Z3 Z4 => ?_) (fun j hj ih M1 K1 Z1 Z2 Z3 Z4 => ?_) 0 (Nat.zero_le _) M1 K1 Z1 Z2 Z3 Z4
    · refine wp_icgeN (u := 28) (v := 28) hk rfl rfl rfl (by omega) (by omega) (fun _ => ?_) (fun z => absurd z (by omega))
      repeat (first | refine wp_s hk rfl rfl ?_ | refine wp_goto hk rfl ?_ | refine wp_geti hk rfl rfl rfl rfl ?_ | refine wp_getr hk rfl rfl rfl rfl ?_)
      rw [q_nmul]
      refine wp_ir hk rfl rfl (hkk M1 (I0.card (V := vwP n m) (fun i hi => ?_) ?_ ?_ ⟨?_, ?_, fun j hj => ?_, fun j hj s hs => ?_, fun j hj => ?_, fun s hs => ?_⟩) (H0.tr ((Hi.kp K2).tr (Hi.kp K1))))
      · rw [K1 i (fun z => by simp only [List.mem_cons, List.not_mem_nil, or_false] at z hi; omega), K2 i (fun z => by simp only [List.mem_cons, List.not_mem_nil, or_false] at z hi; omega)]
      · rw [K1 83 (by decide), e1]; rfl
      · rw [K1 83 (by decide), e1]; rfl
      · rw [K1 83 (by decide), e1]; rfl
      · rw [K1 83 (by decide), e1]; rfl
      · rw [Z2 j hj]; show nI 0 = nI (b2n (Nat.testBit 0 j)); rw [Nat.zero_testBit]; rfl
      · exact Z4 _ (by omega)
      · exact Z1 j hj
      · exact Z3 s hs
    · refine wp_icgeN (u := j) (v := 28) hk rfl rfl rfl (by omega) (by omega) (fun z => absurd z (by omega)) (fun _ => ?_)
      repeat (first | refine wp_s hk rfl rfl ?_ | refine wp_goto hk rfl ?_ | refine wp_geti hk rfl rfl rfl rfl ?_ | refine wp_getr hk rfl rfl rfl rfl ?_)
      refine wp_ast (jx := j) hk rfl rfl rfl (by omega) ?_
      repeat (first | refine wp_s hk rfl rfl ?_ | refine wp_goto hk rfl ?_ | refine wp_geti hk rfl rfl rfl rfl ?_ | refine wp_getr hk rfl rfl rfl rfl ?_)
      rw [q_nadd j 1]
      exact ih _ (K1.up (by decide)) (Z1.ne (by decide)) (Z2.ne (by decide)) (Z3.ne (by decide)) Z4.up
  have l2 : ∀ M1, Kp M2 M1 [84, 85, 86, 87] → zr M1 84 7 → zr M1 87 7 → zr M1 85 0 → WP 140 44 [some (.ref 83), some (.int (nI n)), some (.int (nI m)), some (.int (nI 0))] [.int (nI 4), .int (nI 0)] M1 Q := by
    intro M1 K1 Z1 Z2 Z3
    refine q_dn (n := 4) (P := fun j => ∀ M1, Kp M2 M1 [84, 85, 86, 87] → zr M1 84 7 → zr M1 87 7 → zr M1 85 j → WP 140 44 [some (.ref 83), some (.int (nI n)), some (.int (nI m)), some (.int (nI j))] [.int (nI 4), .int (nI j)] M1 Q) (fun M1 K1 Z1 Z2 Z3 => ?_) (fun j hj ih M1 K1 Z1 Z2 Z3 => ?_) 0 (Nat.zero_le _) M1 K1 Z1 Z2 Z3
    · refine wp_icgeN (u := 4) (v := 4) hk rfl rfl rfl (by omega) (by omega) (fun _ => ?_) (fun z => absurd z (by omega))
      repeat (first | refine wp_s hk rfl rfl ?_ | refine wp_goto hk rfl ?_ | refine wp_geti hk rfl rfl rfl rfl ?_ | refine wp_getr hk rfl rfl rfl rfl ?_)
      exact l3 M1 K1 Z1 Z2 Z3 (fun i hi => absurd hi (Nat.not_lt_zero _))
    · refine wp_icgeN (u := j) (v := 4) hk rfl rfl rfl (by omega) (by omega) (fun z => absurd z (by omega)) (fun _ => ?_)
      repeat (first | refine wp_s hk rfl rfl ?_ | refine wp_goto hk rfl ?_ | refine wp_geti hk rfl rfl rfl rfl ?_ | refine wp_getr hk rfl rfl rfl rfl ?_)
      refine wp_ast (jx := j) hk rfl rfl rfl (by omega) ?_
      repeat (first | refine wp_s hk rfl rfl ?_ | refine wp_goto hk rfl ?_ | refine wp_geti hk rfl rfl rfl rfl ?_ | refine wp_getr hk rfl rfl rfl rfl ?_)
      rw [q_nadd j 1]
      exact ih _ (K1.up (by decide)) (Z1.ne (by decide)) (Z2.ne (by decide)) Z3.up
  have l1 := q_dn (n := 7) (P := fun j => ∀ M1, Kp M2 M1 [84, 85, 86, 87] → zr M1 84 j → zr M1 87 j → WP 140 27 [some (.ref 83), some (.int (nI n)), some (.int (nI m)), some (.int (nI j))] [.int (nI 7), .int (nI j)] M1 Q) (fun M1 K1 Z1 Z2 => by
    refine wp_icgeN (u := 7) (v := 7) hk rfl rfl rfl (by omega) (by omega) (fun _ => ?_) (fun z => absurd z (by omega))
    repeat (first | refine wp_s hk rfl rfl ?_ | refine wp_goto hk rfl ?_ | refine wp_geti hk rfl rfl rfl rfl ?_ | refine wp_getr hk rfl rfl rfl rfl ?_)
    exact l2 M1 K1 Z1 Z2 (fun i hi => absurd hi (Nat.not_lt_zero _))) (fun j hj ih M1 K1 Z1 Z2 => by
    refine wp_icgeN (u := j) (v := 7) hk rfl rfl rfl (by omega) (by omega) (fun z => absurd z (by omega)) (fun _ => ?_)
    repeat (first | refine wp_s hk rfl rfl ?_ | refine wp_goto hk rfl ?_ | refine wp_geti hk rfl rfl rfl rfl ?_ | refine wp_getr hk rfl rfl rfl rfl ?_)
    refine wp_ast (jx := j) hk rfl rfl rfl (by omega) ?_
    repeat (first | refine wp_s hk rfl rfl ?_ | refine wp_goto hk rfl ?_ | refine wp_geti hk rfl rfl rfl rfl ?_ | refine wp_getr hk rfl rfl rfl rfl ?_)
    refine wp_bst (jx := j) hk rfl rfl rfl (by omega) (Or.inl (by decide)) ?_
    repeat (first | refine wp_s hk rfl rfl ?_ | refine wp_goto hk rfl ?_ | refine wp_geti hk rfl rfl rfl rfl ?_ | refine wp_getr hk rfl rfl rfl rfl ?_)
    rw [q_nadd j 1]
    exact ih _ ((K1.up (by decide)).up (by decide)) (Z1.up.ne (by decide)) (Z2.ne (by decide)).up)
  repeat (first | refine wp_s hk rfl rfl ?_ | refine wp_goto hk rfl ?_ | refine wp_geti hk rfl rfl rfl rfl ?_ | refine wp_getr hk rfl rfl rfl rfl ?_)
  exact l1 0 (Nat.zero_le _) M2 (Kp.rf _ _) (fun i hi => absurd hi (Nat.not_lt_zero _)) (fun i hi => absurd hi (Nat.not_lt_zero _))
def setS (V : Vw) (s x : Nat) : Vw := (vn V, vm V, vL V, vk V, vj V, updN (vs V) s x)
def setJ (V : Vw) (j x : Nat) : Vw := (vn V, vm V, vL V, vk V, updN (vj V) j x, vs V)
def setK (V : Vw) (k : Nat → Nat → Nat) : Vw := (vn V, vm V, vL V, k, vj V, vs V)
def setL (V : Vw) (L : Nat) : Vw := (vn V, vm V, L, vk V, vj V, vs V)
def opLand (S : St) (z : Bool) (a b : Int32) : Int32 × St := if isN a (if z = true then vm (sV S) else vn (sV S)) then (if isN b 4 then (nI (if z = true then vs (sV S) (i2n a) else vj (sV S) (i2n a)), stV S (if z = true then setS (sV S) (i2n a) (i2n b) else setJ (sV S) (i2n a) (i2n b))) else (BAD, S)) else (UNK, S)
theorem updN_at (f : Nat → Nat) (k x : Nat) : updN f k x k = x := by simp [updN]
theorem updN_ne (f : Nat → Nat) {k j : Nat} (x : Nat) (h : j ≠ k) : updN f k x j = f j := by simp [updN, h]
theorem m_land {M : MM} {S : St} {z : Bool} {a b : Int32} {Q : Option Value → MM → Prop} (I : RefInv M S) (O : StOK S) (kk : ∀ M', RefInv M' (opLand S z a b).2 → Hi M M' → Q (some (.int (opLand S z a b).1)) M') : Ca 141 [.ref 83, .int (nI (b2n z)), .int a, .int b] M Q := by
  have ho1 := O.1.2.2.1
  have ho4 := O.1.2.2.2.1
  have ho7 := O.1.2.1
  have hk : q_cd 141 = kd_X9_land := rfl
  show WP 141 0 [some (.ref 83), some (.int (nI (b2n z))), some (.int a), some (.int b), none] [] M Q
  repeat (first | refine wp_s hk rfl rfl ?_ | refine wp_goto hk rfl ?_ | refine wp_geti hk rfl rfl rfl rfl ?_ | refine wp_getr hk rfl rfl rfl rfl ?_)
  refine wp_th hk rfl (fun M0 F0 => ?_)
  have I0 := I.fr O F0
  have H0 := Hi.fr F0
  cases z with
  | true =>
    simp only [opLand, if_true] at kk
    repeat (first | refine wp_s hk rfl rfl ?_ | refine wp_goto hk rfl ?_ | refine wp_geti hk rfl rfl rfl rfl ?_ | refine wp_getr hk rfl rfl rfl rfl ?_)
    refine wp_ifeqB (u := true) hk rfl rfl (fun y => by cases y) (fun _ => ?_)
    repeat (first | refine wp_s hk rfl rfl ?_ | refine wp_goto hk rfl ?_ | refine wp_geti hk rfl rfl rfl rfl ?_ | refine wp_getr hk rfl rfl rfl rfl ?_)
    refine wp_callV hk rfl rfl rfl rfl rfl rfl ?_
    refine m_noSkater I0.1.2.1 ho1 (by omega) ?_
    refine wp_ifeqB (u := !isN a (vm (sV S))) hk rfl rfl (fun h => ?_) (fun h => ?_)
    · have h' : isN a (vm (sV S)) = true := by simpa using h
      repeat (first | refine wp_s hk rfl rfl ?_ | refine wp_goto hk rfl ?_ | refine wp_geti hk rfl rfl rfl rfl ?_ | refine wp_getr hk rfl rfl rfl rfl ?_)
      refine wp_callS hk rfl rfl rfl rfl ?_
      refine m_in ?_
      refine wp_ifneB (u := isN b 4) hk rfl (congrArg (fun z => nI (b2n z)) ((q_in64 (by omega) (by omega)).trans (q_isN_le (n := 3) (by omega)))) (fun g => ?_) (fun g => ?_)
      · obtain ⟨ha, ea⟩ := i2n_of (by omega) h'
        obtain ⟨hb, eb⟩ := i2n_of (by omega) g
        simp only [h', g, if_true] at kk
        rw [ea, eb]
        generalize i2n a = s at ha kk ⊢
        generalize i2n b = x at hb kk ⊢
        repeat (first | refine wp_s hk rfl rfl ?_ | refine wp_goto hk rfl ?_ | refine wp_geti hk rfl rfl rfl rfl ?_ | refine wp_getr hk rfl rfl rfl rfl ?_)
        refine wp_ifeqB (u := true) hk rfl rfl (fun y => by cases y) (fun _ => ?_)
        repeat (first | refine wp_s hk rfl rfl ?_ | refine wp_goto hk rfl ?_ | refine wp_geti hk rfl rfl rfl rfl ?_ | refine wp_getr hk rfl rfl rfl rfl ?_)
        refine wp_ald (jx := s) hk rfl rfl rfl (by omega) ?_
        rw [I0.1.2.2.2.2.2 s (by omega)]
        repeat (first | refine wp_s hk rfl rfl ?_ | refine wp_goto hk rfl ?_ | refine wp_geti hk rfl rfl rfl rfl ?_ | refine wp_getr hk rfl rfl rfl rfl ?_)
        refine wp_ifeqB (u := true) hk rfl rfl (fun y => by cases y) (fun _ => ?_)
        repeat (first | refine wp_s hk rfl rfl ?_ | refine wp_goto hk rfl ?_ | refine wp_geti hk rfl rfl rfl rfl ?_ | refine wp_getr hk rfl rfl rfl rfl ?_)
        refine wp_ast (jx := s) hk rfl rfl rfl (by omega) ?_
        repeat (first | refine wp_s hk rfl rfl ?_ | refine wp_goto hk rfl ?_ | refine wp_geti hk rfl rfl rfl rfl ?_ | refine wp_getr hk rfl rfl rfl rfl ?_)
        obtain ⟨c1, c2, c3, c4, c5, c6⟩ := I0.1
        refine wp_ir hk rfl rfl (kk _ (I0.card (V := setS (sV S) s x) (fun i hi => ?_) ?_ ?_ ⟨?_, ?_, fun j hj => ?_, fun j hj t ht => ?_, fun j hj => ?_, fun t ht => ?_⟩) (H0.up (by decide)))
        · rw [q_up_ne _ _ (fun z => by simp only [List.mem_cons, List.not_mem_nil, or_false] at hi; omega)]
        · rw [q_up_ne _ _ (by decide)]
        · rw [q_up_ne _ _ (by decide)]
        · rw [q_up_ne _ _ (by decide)]; exact c1
        · rw [q_up_ne _ _ (by decide)]; exact c2
        · rw [q_up_ne _ _ (by decide)]; exact c3 j hj
        · rw [q_up_ne _ _ (by decide)]; exact c4 j hj t ht
        · rw [q_up_ne _ _ (by decide)]; exact c5 j hj
        · rw [q_up_at]
          show _ = nI (updN (vs (sV S)) s x t)
          by_cases e : t = s
          · subst e; rw [upd_at, updN_at]
          · rw [upd_ne _ _ e, updN_ne _ _ e]; exact c6 t ht
      · simp only [h', g, if_true, Bool.false_eq_true, if_false] at kk
        repeat (first | refine wp_s hk rfl rfl ?_ | refine wp_goto hk rfl ?_ | refine wp_geti hk rfl rfl rfl rfl ?_ | refine wp_getr hk rfl rfl rfl rfl ?_)
        exact wp_ir hk rfl rfl (kk M0 I0 H0)
    · have h' : isN a (vm (sV S)) = false := by simpa using h
      simp only [h', Bool.false_eq_true, if_false] at kk
      repeat (first | refine wp_s hk rfl rfl ?_ | refine wp_goto hk rfl ?_ | refine wp_geti hk rfl rfl rfl rfl ?_ | refine wp_getr hk rfl rfl rfl rfl ?_)
      exact wp_ir hk rfl rfl (kk M0 I0 H0)
  | false =>
    simp only [opLand, Bool.false_eq_true, if_false] at kk
    repeat (first | refine wp_s hk rfl rfl ?_ | refine wp_goto hk rfl ?_ | refine wp_geti hk rfl rfl rfl rfl ?_ | refine wp_getr hk rfl rfl rfl rfl ?_)
    refine wp_ifeqB (u := false) hk rfl rfl (fun _ => ?_) (fun y => by cases y)
    repeat (first | refine wp_s hk rfl rfl ?_ | refine wp_goto hk rfl ?_ | refine wp_geti hk rfl rfl rfl rfl ?_ | refine wp_getr hk rfl rfl rfl rfl ?_)
    refine wp_callV hk rfl rfl rfl rfl rfl rfl ?_
    refine m_noJudge I0.1.1 O.1.1 ho7 ?_
    refine wp_ifeqB (u := !isN a (vn (sV S))) hk rfl rfl (fun h => ?_) (fun h => ?_)
    · have h' : isN a (vn (sV S)) = true := by simpa using h
      repeat (first | refine wp_s hk rfl rfl ?_ | refine wp_goto hk rfl ?_ | refine wp_geti hk rfl rfl rfl rfl ?_ | refine wp_getr hk rfl rfl rfl rfl ?_)
      refine wp_callS hk rfl rfl rfl rfl ?_
      refine m_in ?_
      refine wp_ifneB (u := isN b 4) hk rfl (congrArg (fun z => nI (b2n z)) ((q_in64 (by omega) (by omega)).trans (q_isN_le (n := 3) (by omega)))) (fun g => ?_) (fun g => ?_)
      · obtain ⟨ha, ea⟩ := i2n_of (by omega) h'
        obtain ⟨hb, eb⟩ := i2n_of (by omega) g
        simp only [h', g, if_true] at kk
        rw [ea, eb]
        generalize i2n a = s at ha kk ⊢
        generalize i2n b = x at hb kk ⊢
        repeat (first | refine wp_s hk rfl rfl ?_ | refine wp_goto hk rfl ?_ | refine wp_geti hk rfl rfl rfl rfl ?_ | refine wp_getr hk rfl rfl rfl rfl ?_)
        refine wp_ifeqB (u := false) hk rfl rfl (fun _ => ?_) (fun y => by cases y)
        repeat (first | refine wp_s hk rfl rfl ?_ | refine wp_goto hk rfl ?_ | refine wp_geti hk rfl rfl rfl rfl ?_ | refine wp_getr hk rfl rfl rfl rfl ?_)
        refine wp_ald (jx := s) hk rfl rfl rfl (by omega) ?_
        rw [I0.1.2.2.2.2.1 s (by omega)]
        repeat (first | refine wp_s hk rfl rfl ?_ | refine wp_goto hk rfl ?_ | refine wp_geti hk rfl rfl rfl rfl ?_ | refine wp_getr hk rfl rfl rfl rfl ?_)
        refine wp_ifeqB (u := false) hk rfl rfl (fun _ => ?_) (fun y => by cases y)
        repeat (first | refine wp_s hk rfl rfl ?_ | refine wp_goto hk rfl ?_ | refine wp_geti hk rfl rfl rfl rfl ?_ | refine wp_getr hk rfl rfl rfl rfl ?_)
        refine wp_ast (jx := s) hk rfl rfl rfl (by omega) ?_
        repeat (first | refine wp_s hk rfl rfl ?_ | refine wp_goto hk rfl ?_ | refine wp_geti hk rfl rfl rfl rfl ?_ | refine wp_getr hk rfl rfl rfl rfl ?_)
        obtain ⟨c1, c2, c3, c4, c5, c6⟩ := I0.1
        refine wp_ir hk rfl rfl (kk _ (I0.card (V := setJ (sV S) s x) (fun i hi => ?_) ?_ ?_ ⟨?_, ?_, fun j hj => ?_, fun j hj t ht => ?_, fun j hj => ?_, fun t ht => ?_⟩) (H0.up (by decide)))
        · rw [q_up_ne _ _ (fun z => by simp only [List.mem_cons, List.not_mem_nil, or_false] at hi; omega)]
        · rw [q_up_ne _ _ (by decide)]
        · rw [q_up_ne _ _ (by decide)]
        · rw [q_up_ne _ _ (by decide)]; exact c1
        · rw [q_up_ne _ _ (by decide)]; exact c2
        · rw [q_up_ne _ _ (by decide)]; exact c3 j hj
        · rw [q_up_ne _ _ (by decide)]; exact c4 j hj t ht
        · rw [q_up_at]
          show _ = nI (updN (vj (sV S)) s x j)
          by_cases e : j = s
          · subst e; rw [upd_at, updN_at]
          · rw [upd_ne _ _ e, updN_ne _ _ e]; exact c5 j hj
        · rw [q_up_ne _ _ (by decide)]; exact c6 t ht
      · simp only [h', g, if_true, Bool.false_eq_true, if_false] at kk
        repeat (first | refine wp_s hk rfl rfl ?_ | refine wp_goto hk rfl ?_ | refine wp_geti hk rfl rfl rfl rfl ?_ | refine wp_getr hk rfl rfl rfl rfl ?_)
        exact wp_ir hk rfl rfl (kk M0 I0 H0)
    · have h' : isN a (vn (sV S)) = false := by simpa using h
      simp only [h', Bool.false_eq_true, if_false] at kk
      repeat (first | refine wp_s hk rfl rfl ?_ | refine wp_goto hk rfl ?_ | refine wp_geti hk rfl rfl rfl rfl ?_ | refine wp_getr hk rfl rfl rfl rfl ?_)
      exact wp_ir hk rfl rfl (kk M0 I0 H0)
end
section
def opMark (S : St) (a b c : Int32) : Int32 × St := if isN a (vn (sV S)) && isN b (vm (sV S)) then (if isN c 6 then (nI (vk (sV S) (i2n a) (i2n b)), stV S (setK (sV S) (mkM (vk (sV S)) (i2n a) (i2n b) (i2n c)))) else (BAD, S)) else (UNK, S)
theorem m_mark {M : MM} {S : St} {a b c : Int32} {Q : Option Value → MM → Prop} (I : RefInv M S) (O : StOK S) (kk : ∀ M', RefInv M' (opMark S a b c).2 → Hi M M' → Q (some (.int (opMark S a b c).1)) M') : Ca 142 [.ref 83, .int a, .int b, .int c] M Q := by
  have ho1 := O.1.2.2.1
  have ho4 := O.1.2.2.2.1
  have ho7 := O.1.2.1
  have hk : q_cd 142 = kd_X9_mark := rfl
  show WP 142 0 [some (.ref 83), some (.int a), some (.int b), some (.int c), none] [] M Q
  repeat (first | refine wp_s hk rfl rfl ?_ | refine wp_goto hk rfl ?_ | refine wp_geti hk rfl rfl rfl rfl ?_ | refine wp_getr hk rfl rfl rfl rfl ?_)
  refine wp_th hk rfl (fun M0 F0 => ?_)
  have I0 := I.fr O F0
  have H0 := Hi.fr F0
  unfold opMark at kk
  repeat (first | refine wp_s hk rfl rfl ?_ | refine wp_goto hk rfl ?_ | refine wp_geti hk rfl rfl rfl rfl ?_ | refine wp_getr hk rfl rfl rfl rfl ?_)
  refine wp_callV hk rfl rfl rfl rfl rfl rfl ?_
  refine m_noJudge I0.1.1 O.1.1 ho7 ?_
  refine wp_ifneB (u := !isN a (vn (sV S))) hk rfl rfl (fun h => ?_) (fun h => ?_)
  · have h' : isN a (vn (sV S)) = false := by simpa using h
    rw [h'] at kk
    repeat (first | refine wp_s hk rfl rfl ?_ | refine wp_goto hk rfl ?_ | refine wp_geti hk rfl rfl rfl rfl ?_ | refine wp_getr hk rfl rfl rfl rfl ?_)
    exact wp_ir hk rfl rfl (kk M0 I0 H0)
  have h' : isN a (vn (sV S)) = true := by simpa using h
  repeat (first | refine wp_s hk rfl rfl ?_ | refine wp_goto hk rfl ?_ | refine wp_geti hk rfl rfl rfl rfl ?_ | refine wp_getr hk rfl rfl rfl rfl ?_)
  refine wp_callV hk rfl rfl rfl rfl rfl rfl ?_
  refine m_noSkater I0.1.2.1 ho1 (by omega) ?_
  refine wp_ifeqB (u := !isN b (vm (sV S))) hk rfl rfl (fun f => ?_) (fun f => ?_)
  · have f' : isN b (vm (sV S)) = true := by simpa using f
    repeat (first | refine wp_s hk rfl rfl ?_ | refine wp_goto hk rfl ?_ | refine wp_geti hk rfl rfl rfl rfl ?_ | refine wp_getr hk rfl rfl rfl rfl ?_)
    refine wp_callS hk rfl rfl rfl rfl ?_
    refine m_in ?_
    rw [if_pos (by rw [h', f']; rfl)] at kk
    refine wp_ifneB (u := isN c 6) hk rfl (congrArg (fun z => nI (b2n z)) ((q_in64 (by omega) (by omega)).trans (q_isN_le (n := 5) (by omega)))) (fun g => ?_) (fun g => ?_)
    · rw [if_pos g] at kk
      obtain ⟨ha, ea⟩ := i2n_of (by omega) h'
      obtain ⟨hb, eb⟩ := i2n_of (by omega) f'
      obtain ⟨hc, ec⟩ := i2n_of (by omega) g
      rw [ea, eb, ec]
      generalize i2n a = j at ha kk ⊢
      generalize i2n b = s at hb kk ⊢
      generalize i2n c = v at hc kk ⊢
      repeat (first | refine wp_s hk rfl rfl ?_ | refine wp_goto hk rfl ?_ | refine wp_geti hk rfl rfl rfl rfl ?_ | refine wp_getr hk rfl rfl rfl rfl ?_)
      refine wp_ald (jx := 4 * j + s) hk rfl rfl (by simp only [q_nadd, q_nmul]) (by omega) ?_
      obtain ⟨c1, c2, c3, c4, c5, c6⟩ := I0.1
      rw [c4 j (by omega) s (by omega)]
      repeat (first | refine wp_s hk rfl rfl ?_ | refine wp_goto hk rfl ?_ | refine wp_geti hk rfl rfl rfl rfl ?_ | refine wp_getr hk rfl rfl rfl rfl ?_)
      refine wp_ast (jx := 4 * j + s) hk rfl rfl (by simp only [q_nadd, q_nmul]) (by omega) ?_
      repeat (first | refine wp_s hk rfl rfl ?_ | refine wp_goto hk rfl ?_ | refine wp_geti hk rfl rfl rfl rfl ?_ | refine wp_getr hk rfl rfl rfl rfl ?_)
      refine wp_ir hk rfl rfl (kk _ (I0.card (V := setK (sV S) (mkM (vk (sV S)) j s v)) (fun i hi => ?_) ?_ ?_ ⟨?_, ?_, fun j' hj => ?_, fun j' hj t ht => ?_, fun j' hj => ?_, fun t ht => ?_⟩) (H0.up (by decide)))
      · rw [q_up_ne _ _ (fun z => by simp only [List.mem_cons, List.not_mem_nil, or_false] at hi; omega)]
      · rw [q_up_ne _ _ (by decide)]
      · rw [q_up_ne _ _ (by decide)]
      · rw [q_up_ne _ _ (by decide)]; exact c1
      · rw [q_up_ne _ _ (by decide)]; exact c2
      · rw [q_up_ne _ _ (by decide)]; exact c3 j' hj
      · rw [q_up_at]
        show _ = nI (mkM (vk (sV S)) j s v j' t)
        simp only [mkM]
        by_cases e : j' = j ∧ t = s
        · obtain ⟨rfl, rfl⟩ := e
          rw [upd_at, if_pos ⟨rfl, rfl⟩]
        · rw [upd_ne _ _ (by omega), if_neg e]; exact c4 j' hj t ht
      · rw [q_up_ne _ _ (by decide)]; exact c5 j' hj
      · rw [q_up_ne _ _ (by decide)]; exact c6 t ht
    · rw [if_neg (by rw [g]; exact Bool.false_ne_true)] at kk
      repeat (first | refine wp_s hk rfl rfl ?_ | refine wp_goto hk rfl ?_ | refine wp_geti hk rfl rfl rfl rfl ?_ | refine wp_getr hk rfl rfl rfl rfl ?_)
      exact wp_ir hk rfl rfl (kk M0 I0 H0)
  · have f' : isN b (vm (sV S)) = false := by simpa using f
    rw [if_neg (by rw [f', Bool.and_false]; exact Bool.false_ne_true)] at kk
    repeat (first | refine wp_s hk rfl rfl ?_ | refine wp_goto hk rfl ?_ | refine wp_geti hk rfl rfl rfl rfl ?_ | refine wp_getr hk rfl rfl rfl rfl ?_)
    exact wp_ir hk rfl rfl (kk M0 I0 H0)
/-- a judge's card as one number -/
def rowW (f : Nat → Nat) : Nat → Nat
  | 0 => 0
  | s + 1 => 6 * rowW f s + f s
def opCard (S : St) (a b : Int32) : Int32 × St := if isN a (vn (sV S)) then (if isN b (6 ^ vm (sV S)) then (nI (rowW (vk (sV S) (i2n a)) (vm (sV S))), stV S (setK (sV S) (mkG (vk (sV S)) (vm (sV S)) (i2n a) (i2n b)))) else (BAD, S)) else (UNK, S)
theorem m_card {M : MM} {S : St} {a b : Int32} {Q : Option Value → MM → Prop} (I : RefInv M S) (O : StOK S) (kk : ∀ M', RefInv M' (opCard S a b).2 → Hi M M' → Q (some (.int (opCard S a b).1)) M') : Ca 143 [.ref 83, .int a, .int b] M Q := by
  have ho1 := O.1.2.2.1
  have ho4 := O.1.2.2.2.1
  have ho7 := O.1.2.1
  have hrows := m_rows ho4
  have hp6 : 1 ≤ 6 ^ vm (sV S) := Nat.one_le_pow _ _ (by omega)
  have hk : q_cd 143 = kd_X9_card := rfl
  show WP 143 0 [some (.ref 83), some (.int a), some (.int b), none, none, none] [] M Q
  repeat (first | refine wp_s hk rfl rfl ?_ | refine wp_goto hk rfl ?_ | refine wp_geti hk rfl rfl rfl rfl ?_ | refine wp_getr hk rfl rfl rfl rfl ?_)
  refine wp_th hk rfl (fun M0 F0 => ?_)
  have I0 := I.fr O F0
  have H0 := Hi.fr F0
  unfold opCard at kk
  repeat (first | refine wp_s hk rfl rfl ?_ | refine wp_goto hk rfl ?_ | refine wp_geti hk rfl rfl rfl rfl ?_ | refine wp_getr hk rfl rfl rfl rfl ?_)
  refine wp_callV hk rfl rfl rfl rfl rfl rfl ?_
  refine m_noJudge I0.1.1 O.1.1 ho7 ?_
  refine wp_ifeqB (u := !isN a (vn (sV S))) hk rfl rfl (fun h => ?_) (fun h => ?_)
  · have h' : isN a (vn (sV S)) = true := by simpa using h
    rw [if_pos h'] at kk
    repeat (first | refine wp_s hk rfl rfl ?_ | refine wp_goto hk rfl ?_ | refine wp_geti hk rfl rfl rfl rfl ?_ | refine wp_getr hk rfl rfl rfl rfl ?_)
    refine wp_callV hk rfl rfl rfl rfl rfl rfl ?_
    refine m_cards I0.1.2.1 ho4 ?_
    repeat (first | refine wp_s hk rfl rfl ?_ | refine wp_goto hk rfl ?_ | refine wp_geti hk rfl rfl rfl rfl ?_ | refine wp_getr hk rfl rfl rfl rfl ?_)
    rw [q_nsub hp6]
    refine wp_callS hk rfl rfl rfl rfl ?_
    refine m_in ?_
    refine wp_ifneB (u := isN b (6 ^ vm (sV S))) hk rfl (congrArg (fun z => nI (b2n z)) (q_in0 hp6 (by omega))) (fun g => ?_) (fun g => ?_)
    · rw [if_pos g] at kk
      obtain ⟨ha, ea⟩ := i2n_of (by omega) h'
      obtain ⟨hb, eb⟩ := i2n_of (by omega) g
      rw [ea, eb]
      generalize i2n a = j at ha kk ⊢
      generalize i2n b = v at hb kk ⊢
      obtain ⟨c1, c2, c3, c4, c5, c6⟩ := I0.1
      have loop : ∀ t, t ≤ vm (sV S) → ∀ M1, Kp M0 M1 [86] → (∀ j', j' < 7 → ∀ s', s' < 4 → M1 86 (4 * j' + s') = nI (if j' = j ∧ t ≤ s' ∧ s' < vm (sV S) then dig (vm (sV S)) v s' else vk (sV S) j' s')) → WP 143 52 [some (.ref 83), some (.int (nI j)), some (.int (nI v)), some (.int (nI (rowW (vk (sV S) j) (vm (sV S))))), some (.int (nI (v / 6 ^ (vm (sV S) - t)))), some (.int (nI t - nI 1))] [.int (nI t - nI 1)] M1 Q := by
        intro t
        induction t with
        | zero =>
          intro ht M1 K1 hq1
          refine wp_ifltD (u := 0) (v := 1) hk rfl rfl (by omega) (by omega) (fun _ => ?_) (fun h => absurd h (by omega))
          repeat (first | refine wp_s hk rfl rfl ?_ | refine wp_goto hk rfl ?_ | refine wp_geti hk rfl rfl rfl rfl ?_ | refine wp_getr hk rfl rfl rfl rfl ?_)
          refine wp_ir hk rfl rfl (kk _ (I0.card (V := setK (sV S) (mkG (vk (sV S)) (vm (sV S)) j v)) (fun i hi => ?_) ?_ ?_ ⟨?_, ?_, fun j' hj => ?_, fun j' hj t ht => ?_, fun j' hj => ?_, fun t ht => ?_⟩) (H0.tr (Hi.kp K1)))
          · rw [K1 i (fun z => by simp only [List.mem_cons, List.not_mem_nil, or_false] at z hi; omega)]
          · rw [K1 83 (by decide)]
          · rw [K1 83 (by decide)]
          · rw [K1 83 (by decide)]; exact c1
          · rw [K1 83 (by decide)]; exact c2
          · rw [K1 87 (by decide)]; exact c3 j' hj
          · rw [hq1 j' hj t ht]
            show _ = nI (mkG (vk (sV S)) (vm (sV S)) j v j' t)
            simp only [mkG, Nat.zero_le, true_and]
          · rw [K1 84 (by decide)]; exact c5 j' hj
          · rw [K1 85 (by decide)]; exact c6 t ht
        | succ t ih =>
          intro ht M1 K1 hq1
          refine wp_ifltD (u := t + 1) (v := 1) hk rfl rfl (by omega) (by omega) (fun h => absurd h (by omega)) (fun _ => ?_)
          rw [q_nsub (Nat.le_add_left 1 t), Nat.add_sub_cancel]
          have hlt : v / 6 ^ (vm (sV S) - (t + 1)) < 2000 := Nat.lt_of_le_of_lt (Nat.div_le_self _ _) (by omega)
          repeat (first | refine wp_s hk rfl rfl ?_ | refine wp_goto hk rfl ?_ | refine wp_geti hk rfl rfl rfl rfl ?_ | refine wp_getr hk rfl rfl rfl rfl ?_)
          refine wp_rem hk rfl (by decide) ?_
          rw [q_nrem (b := 6) (by omega) (by omega) (by omega)]
          refine wp_ast (jx := 4 * j + t) hk rfl rfl (by simp only [q_nadd, q_nmul]) (by omega) ?_
          repeat (first | refine wp_s hk rfl rfl ?_ | refine wp_goto hk rfl ?_ | refine wp_geti hk rfl rfl rfl rfl ?_ | refine wp_getr hk rfl rfl rfl rfl ?_)
          refine wp_div hk rfl (by decide) ?_
          rw [q_ndiv (b := 6) (by omega) (by omega) (by omega)]
          repeat (first | refine wp_s hk rfl rfl ?_ | refine wp_goto hk rfl ?_ | refine wp_geti hk rfl rfl rfl rfl ?_ | refine wp_getr hk rfl rfl rfl rfl ?_)
          rw [q_dec2]
          have e6 : v / 6 ^ (vm (sV S) - (t + 1)) / 6 = v / 6 ^ (vm (sV S) - t) := by
            rw [Nat.div_div_eq_div_mul, ← Nat.pow_succ, show (vm (sV S) - (t + 1)).succ = vm (sV S) - t by omega]
          rw [e6]
          refine ih (by omega) _ (K1.up (by decide)) (fun j' hj' s' hs' => ?_)
          rw [q_up_at]
          by_cases e : j' = j ∧ s' = t
          · obtain ⟨rfl, rfl⟩ := e
            rw [upd_at, if_pos ⟨rfl, Nat.le_refl _, by omega⟩]
            unfold dig
            rw [show vm (sV S) - 1 - s' = vm (sV S) - (s' + 1) by omega]
          · rw [upd_ne _ _ (by omega), hq1 j' hj' s' hs']
            congr 1
            by_cases e2 : j' = j ∧ t + 1 ≤ s' ∧ s' < vm (sV S)
            · rw [if_pos e2, if_pos (by omega)]
            · rw [if_neg e2, if_neg (by omega)]
      have l1 := q_dn (n := vm (sV S)) (P := fun s => WP 143 28 [some (.ref 83), some (.int (nI j)), some (.int (nI v)), some (.int (nI (rowW (vk (sV S) j) s))), some (.int (nI s)), none] [.int (M0 83 2), .int (nI s)] M0 Q) (by
        refine wp_icgeN (u := vm (sV S)) (v := vm (sV S)) hk rfl rfl c2 (by omega) (by omega) (fun _ => ?_) (fun z => absurd z (by omega))
        have := loop _ (Nat.le_refl _) M0 (Kp.rf _ _) (fun j' hj' s' hs' => by rw [c4 j' hj' s' hs', if_neg (by omega)])
        rw [Nat.sub_self, Nat.pow_zero, Nat.div_one] at this
        repeat (first | refine wp_s hk rfl rfl ?_ | refine wp_goto hk rfl ?_ | refine wp_geti hk rfl rfl rfl rfl ?_ | refine wp_getr hk rfl rfl rfl rfl ?_)
        rw [c2]
        exact this) (by
        intro s hs ih
        simp only [rowW] at ih
        refine wp_icgeN (u := s) (v := vm (sV S)) hk rfl rfl c2 (by omega) (by omega) (fun z => absurd z (by omega)) (fun _ => ?_)
        repeat (first | refine wp_s hk rfl rfl ?_ | refine wp_goto hk rfl ?_ | refine wp_geti hk rfl rfl rfl rfl ?_ | refine wp_getr hk rfl rfl rfl rfl ?_)
        refine wp_ald (jx := 4 * j + s) hk rfl rfl (by simp only [q_nadd, q_nmul]) (by omega) ?_
        rw [c4 j (by omega) s (by omega)]
        repeat (first | refine wp_s hk rfl rfl ?_ | refine wp_goto hk rfl ?_ | refine wp_geti hk rfl rfl rfl rfl ?_ | refine wp_getr hk rfl rfl rfl rfl ?_)
        rw [q_nadd s 1, q_nmul, q_nadd]
        exact ih)
      repeat (first | refine wp_s hk rfl rfl ?_ | refine wp_goto hk rfl ?_ | refine wp_geti hk rfl rfl rfl rfl ?_ | refine wp_getr hk rfl rfl rfl rfl ?_)
      exact l1 0 (Nat.zero_le _)
    · rw [if_neg (by rw [g]; exact Bool.false_ne_true)] at kk
      repeat (first | refine wp_s hk rfl rfl ?_ | refine wp_goto hk rfl ?_ | refine wp_geti hk rfl rfl rfl rfl ?_ | refine wp_getr hk rfl rfl rfl rfl ?_)
      exact wp_ir hk rfl rfl (kk M0 I0 H0)
  · have h' : isN a (vn (sV S)) = false := by simpa using h
    rw [if_neg (by rw [h']; exact Bool.false_ne_true)] at kk
    repeat (first | refine wp_s hk rfl rfl ?_ | refine wp_goto hk rfl ?_ | refine wp_geti hk rfl rfl rfl rfl ?_ | refine wp_getr hk rfl rfl rfl rfl ?_)
    exact wp_ir hk rfl rfl (kk M0 I0 H0)
/-- the lost ones after one more or one less -/
def stB (L a : Nat) (z : Bool) : Nat := if z = true then L ||| 2 ^ a else (if L.testBit a = true then L - 2 ^ a else L)
theorem stB_bit : ∀ L, L < 128 → ∀ a, a < 7 → ∀ z, stB L a z < 128 ∧ ∀ j, j < 7 → (stB L a z).testBit j = if j = a then z else L.testBit j := by decide +kernel
def opLose (S : St) (a : Int32) (z : Bool) : Int32 × St := if isN a (vn (sV S)) then (nI (b2n ((vL (sV S)).testBit (i2n a))), stV S (setL (sV S) (stB (vL (sV S)) (i2n a) z))) else (UNK, S)
theorem m_lose {M : MM} {S : St} {a : Int32} {z : Bool} {Q : Option Value → MM → Prop} (I : RefInv M S) (O : StOK S) (kk : ∀ M', RefInv M' (opLose S a z).2 → Hi M M' → Q (some (.int (opLose S a z).1)) M') : Ca 144 [.ref 83, .int a, .int (nI (b2n z))] M Q := by
  have ho7 := O.1.2.1
  have hL := O.1.2.2.2.2.1
  have hk : q_cd 144 = kd_X9_lose := rfl
  show WP 144 0 [some (.ref 83), some (.int a), some (.int (nI (b2n z))), none] [] M Q
  repeat (first | refine wp_s hk rfl rfl ?_ | refine wp_goto hk rfl ?_ | refine wp_geti hk rfl rfl rfl rfl ?_ | refine wp_getr hk rfl rfl rfl rfl ?_)
  refine wp_th hk rfl (fun M0 F0 => ?_)
  have I0 := I.fr O F0
  have H0 := Hi.fr F0
  unfold opLose at kk
  repeat (first | refine wp_s hk rfl rfl ?_ | refine wp_goto hk rfl ?_ | refine wp_geti hk rfl rfl rfl rfl ?_ | refine wp_getr hk rfl rfl rfl rfl ?_)
  refine wp_callV hk rfl rfl rfl rfl rfl rfl ?_
  refine m_noJudge I0.1.1 O.1.1 ho7 ?_
  refine wp_ifeqB (u := !isN a (vn (sV S))) hk rfl rfl (fun h => ?_) (fun h => ?_)
  · have h' : isN a (vn (sV S)) = true := by simpa using h
    rw [if_pos h'] at kk
    obtain ⟨ha, ea⟩ := i2n_of (by omega) h'
    rw [ea]
    generalize i2n a = j at ha kk ⊢
    obtain ⟨c1, c2, c3, c4, c5, c6⟩ := I0.1
    have fin : ∀ x3, WP 144 17 [some (.ref 83), some (.int (nI j)), some (.int (nI (b2n z))), x3] [.int (nI (b2n ((vL (sV S)).testBit j)))] M0 Q := by
      intro x3
      repeat (first | refine wp_s hk rfl rfl ?_ | refine wp_goto hk rfl ?_ | refine wp_geti hk rfl rfl rfl rfl ?_ | refine wp_getr hk rfl rfl rfl rfl ?_)
      refine wp_bst (jx := j) hk rfl rfl rfl (by omega) (by cases z; exact Or.inl (by decide); exact Or.inr (by decide)) ?_
      repeat (first | refine wp_s hk rfl rfl ?_ | refine wp_goto hk rfl ?_ | refine wp_geti hk rfl rfl rfl rfl ?_ | refine wp_getr hk rfl rfl rfl rfl ?_)
      have hb := (stB_bit _ hL j (by omega) z).2
      refine wp_ir hk rfl rfl (kk _ (I0.card (V := setL (sV S) (stB (vL (sV S)) j z)) (fun i hi => ?_) ?_ ?_ ⟨?_, ?_, fun j' hj => ?_, fun j' hj t ht => ?_, fun j' hj => ?_, fun t ht => ?_⟩) (H0.up (by decide)))
      · rw [q_up_ne _ _ (fun z => by simp only [List.mem_cons, List.not_mem_nil, or_false] at hi; omega)]
      · rw [q_up_ne _ _ (by decide)]
      · rw [q_up_ne _ _ (by decide)]
      · rw [q_up_ne _ _ (by decide)]; exact c1
      · rw [q_up_ne _ _ (by decide)]; exact c2
      · rw [q_up_at]
        show _ = nI (b2n ((stB (vL (sV S)) j z).testBit j'))
        rw [hb j' hj]
        by_cases e : j' = j
        · subst e; rw [upd_at, if_pos rfl]
        · rw [upd_ne _ _ e, if_neg e]; exact c3 j' hj
      · rw [q_up_ne _ _ (by decide)]; exact c4 j' hj t ht
      · rw [q_up_ne _ _ (by decide)]; exact c5 j' hj
      · rw [q_up_ne _ _ (by decide)]; exact c6 t ht
    repeat (first | refine wp_s hk rfl rfl ?_ | refine wp_goto hk rfl ?_ | refine wp_geti hk rfl rfl rfl rfl ?_ | refine wp_getr hk rfl rfl rfl rfl ?_)
    refine wp_bld (jx := j) hk rfl rfl rfl (by omega) ?_
    refine wp_ifeqB hk rfl (c3 j (by omega)) (fun y => ?_) (fun y => ?_)
    · refine wp_s hk rfl rfl ?_
      rw [y] at fin
      exact fin _
    · refine wp_s hk rfl rfl ?_
      refine wp_goto hk rfl ?_
      rw [y] at fin
      exact fin _
  · have h' : isN a (vn (sV S)) = false := by simpa using h
    rw [if_neg (by rw [h']; exact Bool.false_ne_true)] at kk
    repeat (first | refine wp_s hk rfl rfl ?_ | refine wp_goto hk rfl ?_ | refine wp_geti hk rfl rfl rfl rfl ?_ | refine wp_getr hk rfl rfl rfl rfl ?_)
    exact wp_ir hk rfl rfl (kk M0 I0 H0)
def spAt (S : St) (a b : Int32) : Int32 := if isN a (vn (sV S)) && isN b (vm (sV S)) then nI (vk (sV S) (i2n a) (i2n b)) else UNK
theorem m_at {M : MM} {S : St} {a b : Int32} {Q : Option Value → MM → Prop} (I : RefInv M S) (O : StOK S) (kk : ∀ M', RFr M M' → Q (some (.int (spAt S a b))) M') : Ca 145 [.ref 83, .int a, .int b] M Q := by
  have ho1 := O.1.2.2.1
  have ho4 := O.1.2.2.2.1
  have ho7 := O.1.2.1
  have hk : q_cd 145 = kd_X9_at := rfl
  show WP 145 0 [some (.ref 83), some (.int a), some (.int b)] [] M Q
  repeat (first | refine wp_s hk rfl rfl ?_ | refine wp_goto hk rfl ?_ | refine wp_geti hk rfl rfl rfl rfl ?_ | refine wp_getr hk rfl rfl rfl rfl ?_)
  refine wp_th hk rfl (fun M0 F0 => ?_)
  have I0 := I.fr O F0
  repeat (first | refine wp_s hk rfl rfl ?_ | refine wp_goto hk rfl ?_ | refine wp_geti hk rfl rfl rfl rfl ?_ | refine wp_getr hk rfl rfl rfl rfl ?_)
  refine wp_callV hk rfl rfl rfl rfl rfl rfl ?_
  refine m_noJudge I0.1.1 O.1.1 ho7 ?_
  refine wp_ifneB (u := !isN a (vn (sV S))) hk rfl rfl (fun h => ?_) (fun h => ?_)
  · have h' : isN a (vn (sV S)) = false := by simpa using h
    repeat (first | refine wp_s hk rfl rfl ?_ | refine wp_goto hk rfl ?_ | refine wp_geti hk rfl rfl rfl rfl ?_ | refine wp_getr hk rfl rfl rfl rfl ?_)
    refine wp_ir hk rfl rfl ?_
    have hkk := kk M0 F0
    simp only [spAt, h', Bool.and_self, Bool.true_and, Bool.and_true, Bool.false_and, Bool.and_false, if_true, Bool.false_eq_true, if_false, Bool.not_true, Bool.not_false] at hkk
    exact hkk
  have h' : isN a (vn (sV S)) = true := by simpa using h
  repeat (first | refine wp_s hk rfl rfl ?_ | refine wp_goto hk rfl ?_ | refine wp_geti hk rfl rfl rfl rfl ?_ | refine wp_getr hk rfl rfl rfl rfl ?_)
  refine wp_callV hk rfl rfl rfl rfl rfl rfl ?_
  refine m_noSkater I0.1.2.1 ho1 (by omega) ?_
  refine wp_ifeqB (u := !isN b (vm (sV S))) hk rfl rfl (fun f => ?_) (fun f => ?_)
  · have f' : isN b (vm (sV S)) = true := by simpa using f
    obtain ⟨ha, ea⟩ := i2n_of (by omega) h'
    obtain ⟨hb, eb⟩ := i2n_of (by omega) f'
    rw [ea, eb]
    repeat (first | refine wp_s hk rfl rfl ?_ | refine wp_goto hk rfl ?_ | refine wp_geti hk rfl rfl rfl rfl ?_ | refine wp_getr hk rfl rfl rfl rfl ?_)
    refine wp_ald (jx := 4 * i2n a + i2n b) hk rfl rfl (by simp only [q_nadd, q_nmul]) (by omega) ?_
    rw [I0.1.2.2.2.1 _ (by omega) _ (by omega)]
    refine wp_ir hk rfl rfl ?_
    have hkk := kk M0 F0
    simp only [spAt, h', f', Bool.and_self, Bool.true_and, Bool.and_true, Bool.false_and, Bool.and_false, if_true, Bool.false_eq_true, if_false, Bool.not_true, Bool.not_false] at hkk
    exact hkk
  · have f' : isN b (vm (sV S)) = false := by simpa using f
    repeat (first | refine wp_s hk rfl rfl ?_ | refine wp_goto hk rfl ?_ | refine wp_geti hk rfl rfl rfl rfl ?_ | refine wp_getr hk rfl rfl rfl rfl ?_)
    refine wp_ir hk rfl rfl ?_
    have hkk := kk M0 F0
    simp only [spAt, h', f', Bool.and_self, Bool.true_and, Bool.and_true, Bool.false_and, Bool.and_false, if_true, Bool.false_eq_true, if_false, Bool.not_true, Bool.not_false] at hkk
    exact hkk
def opWipe (S : St) : Int32 × St := (nI (sT S).1, (sV S, (0, (sT S).2), sR S, sN S, sP S))
theorem m_wipe {M : MM} {S : St} {Q : Option Value → MM → Prop} (I : RefInv M S) (O : StOK S) (kk : ∀ M', RefInv M' (opWipe S).2 → Hi M M' → Q (some (.int (opWipe S).1)) M') : Ca 147 [.ref 83] M Q := by
  have hk : q_cd 147 = kd_X9_wipe := rfl
  show WP 147 0 [some (.ref 83), none] [] M Q
  repeat (first | refine wp_s hk rfl rfl ?_ | refine wp_goto hk rfl ?_ | refine wp_geti hk rfl rfl rfl rfl ?_ | refine wp_getr hk rfl rfl rfl rfl ?_)
  refine wp_th hk rfl (fun M0 F0 => ?_)
  have I0 := I.fr O F0
  have H0 := Hi.fr F0
  obtain ⟨⟨c1, c2, c3, c4, c5, c6⟩, ⟨b1, b2⟩, hr, d1, e1⟩ := I0
  repeat (first | refine wp_s hk rfl rfl ?_ | refine wp_goto hk rfl ?_ | refine wp_geti hk rfl rfl rfl rfl ?_ | refine wp_getr hk rfl rfl rfl rfl ?_)
  refine wp_put hk rfl rfl rfl rfl rfl ?_
  repeat (first | refine wp_s hk rfl rfl ?_ | refine wp_goto hk rfl ?_ | refine wp_geti hk rfl rfl rfl rfl ?_ | refine wp_getr hk rfl rfl rfl rfl ?_)
  rw [b1]
  refine wp_ir hk rfl rfl (kk _ ⟨⟨?_, ?_, fun j hj => ?_, fun j hj s hs => ?_, fun j hj => ?_, fun s hs => ?_⟩, ⟨?_, fun i hi => absurd hi (Nat.not_lt_zero _)⟩, ⟨fun r hr' => ?_, ?_, ?_⟩, ?_, fun i hi => ?_⟩ (H0.up (by decide)))
  · rw [q83]; exact c1
  · rw [q83]; exact c2
  · rw [q_up_ne _ _ (by decide)]; exact c3 j hj
  · rw [q_up_ne _ _ (by decide)]; exact c4 j hj s hs
  · rw [q_up_ne _ _ (by decide)]; exact c5 j hj
  · rw [q_up_ne _ _ (by decide)]; exact c6 s hs
  · rw [q83]; rfl
  · have := hr.1 r hr'
    unfold RefRu at this ⊢
    simp only [q_up_ne (j := 94) _ _ (show 94 ≠ 83 by decide), q_up_ne (j := 95) _ _ (show 95 ≠ 83 by decide), q_up_ne (j := 96) _ _ (show 96 ≠ 83 by decide), q_up_ne (j := 97) _ _ (show 97 ≠ 83 by decide)]
    exact this
  · rw [q_up_ne _ _ (by decide)]; exact hr.2.1
  · rw [q_up_ne _ _ (by decide)]; exact hr.2.2
  · rw [q83]; exact d1
  · have := e1 i hi
    unfold RefPast at this ⊢
    simp only [q_up_ne (j := 101) _ _ (show 101 ≠ 83 by decide), q_up_ne (j := 102) _ _ (show 102 ≠ 83 by decide), q_up_ne (j := 103) _ _ (show 103 ≠ 83 by decide), q_up_ne (j := 104) _ _ (show 104 ≠ 83 by decide), q_up_ne (j := 105) _ _ (show 105 ≠ 83 by decide), q_up_ne (j := 106) _ _ (show 106 ≠ 83 by decide)]
    exact this
def opForget (S : St) : Int32 × St := (nI (sN S), (sV S, sT S, sR S, 0, sP S))
theorem m_forget {M : MM} {S : St} {Q : Option Value → MM → Prop} (I : RefInv M S) (O : StOK S) (kk : ∀ M', RefInv M' (opForget S).2 → Hi M M' → Q (some (.int (opForget S).1)) M') : Ca 190 [.ref 83] M Q := by
  have hk : q_cd 190 = kd_X9_forget := rfl
  show WP 190 0 [some (.ref 83), none] [] M Q
  repeat (first | refine wp_s hk rfl rfl ?_ | refine wp_goto hk rfl ?_ | refine wp_geti hk rfl rfl rfl rfl ?_ | refine wp_getr hk rfl rfl rfl rfl ?_)
  refine wp_th hk rfl (fun M0 F0 => ?_)
  have I0 := I.fr O F0
  have H0 := Hi.fr F0
  obtain ⟨⟨c1, c2, c3, c4, c5, c6⟩, ⟨b1, b2⟩, hr, d1, e1⟩ := I0
  repeat (first | refine wp_s hk rfl rfl ?_ | refine wp_goto hk rfl ?_ | refine wp_geti hk rfl rfl rfl rfl ?_ | refine wp_getr hk rfl rfl rfl rfl ?_)
  refine wp_put hk rfl rfl rfl rfl rfl ?_
  repeat (first | refine wp_s hk rfl rfl ?_ | refine wp_goto hk rfl ?_ | refine wp_geti hk rfl rfl rfl rfl ?_ | refine wp_getr hk rfl rfl rfl rfl ?_)
  rw [d1]
  refine wp_ir hk rfl rfl (kk _ ⟨⟨?_, ?_, fun j hj => ?_, fun j hj s hs => ?_, fun j hj => ?_, fun s hs => ?_⟩, ⟨?_, fun i hi => ?_⟩, ⟨fun r hr' => ?_, ?_, ?_⟩, ?_, fun i hi => absurd hi (Nat.not_lt_zero _)⟩ (H0.up (by decide)))
  · rw [q83]; exact c1
  · rw [q83]; exact c2
  · rw [q_up_ne _ _ (by decide)]; exact c3 j hj
  · rw [q_up_ne _ _ (by decide)]; exact c4 j hj s hs
  · rw [q_up_ne _ _ (by decide)]; exact c5 j hj
  · rw [q_up_ne _ _ (by decide)]; exact c6 s hs
  · rw [q83]; exact b1
  · rw [q_up_ne _ _ (by decide)]; exact b2 i hi
  · have := hr.1 r hr'
    unfold RefRu at this ⊢
    simp only [q_up_ne (j := 94) _ _ (show 94 ≠ 83 by decide), q_up_ne (j := 95) _ _ (show 95 ≠ 83 by decide), q_up_ne (j := 96) _ _ (show 96 ≠ 83 by decide), q_up_ne (j := 97) _ _ (show 97 ≠ 83 by decide)]
    exact this
  · rw [q_up_ne _ _ (by decide)]; exact hr.2.1
  · rw [q_up_ne _ _ (by decide)]; exact hr.2.2
  · rw [q83]; rfl
end
