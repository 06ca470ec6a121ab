-- ===== PART A: goes FIRST, ahead of the names: the tables' words, and 'selects' of the private methods out of them =====
/-- a private method of a class that the tables say can be made, by its rows of tables_1 -/
def lw_okq (q : MethodName × Nat) : Prop := (q.1.cls ≠ "java/lang/invoke/MethodHandle" ∧ q.1.cls ≠ "java/lang/invoke/VarHandle") ∧ Cond.instantiable q.1.cls q.2 ∈ tables_1 ∧ Cond.privateMethod q.1 ∈ tables_1 ∧ Cond.instanceMethod q.1 ∈ tables_1
theorem lw_p0 : lw_okq (⟨"PulledToAHair$Reader", "advance", "()V"⟩, 6) := ⟨⟨by decide +kernel, by decide +kernel⟩, List.mem_of_getElem? (i := 57) (by decide +kernel), List.mem_of_getElem? (i := 288) (by decide +kernel), List.mem_of_getElem? (i := 289) (by decide +kernel)⟩
theorem lw_p1 : lw_okq (⟨"PulledToAHair$Reader", "byteAt", "(I)I"⟩, 6) := ⟨⟨by decide +kernel, by decide +kernel⟩, List.mem_of_getElem? (i := 57) (by decide +kernel), List.mem_of_getElem? (i := 292) (by decide +kernel), List.mem_of_getElem? (i := 293) (by decide +kernel)⟩
theorem lw_p2 : lw_okq (⟨"PulledToAHair$Reader", "readWord", "()V"⟩, 6) := ⟨⟨by decide +kernel, by decide +kernel⟩, List.mem_of_getElem? (i := 57) (by decide +kernel), List.mem_of_getElem? (i := 302) (by decide +kernel), List.mem_of_getElem? (i := 303) (by decide +kernel)⟩
theorem lw_p3 : lw_okq (⟨"PulledToAHair$Reader", "isWord", "(I)Z"⟩, 6) := ⟨⟨by decide +kernel, by decide +kernel⟩, List.mem_of_getElem? (i := 57) (by decide +kernel), List.mem_of_getElem? (i := 306) (by decide +kernel), List.mem_of_getElem? (i := 307) (by decide +kernel)⟩
theorem lw_p4 : lw_okq (⟨"PulledToAHair$Reader", "readNumber", "()V"⟩, 6) := ⟨⟨by decide +kernel, by decide +kernel⟩, List.mem_of_getElem? (i := 57) (by decide +kernel), List.mem_of_getElem? (i := 316) (by decide +kernel), List.mem_of_getElem? (i := 317) (by decide +kernel)⟩
theorem lw_p5 : lw_okq (⟨"PulledToAHair$Reader", "readEither", "(LPulledToAHair$Text;I)Z"⟩, 6) := ⟨⟨by decide +kernel, by decide +kernel⟩, List.mem_of_getElem? (i := 57) (by decide +kernel), List.mem_of_getElem? (i := 380) (by decide +kernel), List.mem_of_getElem? (i := 381) (by decide +kernel)⟩
theorem lw_p6 : lw_okq (⟨"PulledToAHair$Reader", "readBoth", "(LPulledToAHair$Text;I)Z"⟩, 6) := ⟨⟨by decide +kernel, by decide +kernel⟩, List.mem_of_getElem? (i := 57) (by decide +kernel), List.mem_of_getElem? (i := 384) (by decide +kernel), List.mem_of_getElem? (i := 385) (by decide +kernel)⟩
theorem lw_p7 : lw_okq (⟨"PulledToAHair$Reader", "readNot", "(LPulledToAHair$Text;I)Z"⟩, 6) := ⟨⟨by decide +kernel, by decide +kernel⟩, List.mem_of_getElem? (i := 57) (by decide +kernel), List.mem_of_getElem? (i := 388) (by decide +kernel), List.mem_of_getElem? (i := 389) (by decide +kernel)⟩
theorem lw_p8 : lw_okq (⟨"PulledToAHair$Reader", "readCompared", "(LPulledToAHair$Text;I)Z"⟩, 6) := ⟨⟨by decide +kernel, by decide +kernel⟩, List.mem_of_getElem? (i := 57) (by decide +kernel), List.mem_of_getElem? (i := 392) (by decide +kernel), List.mem_of_getElem? (i := 393) (by decide +kernel)⟩
theorem lw_p9 : lw_okq (⟨"PulledToAHair$Reader", "readSum", "(LPulledToAHair$Text;I)Z"⟩, 6) := ⟨⟨by decide +kernel, by decide +kernel⟩, List.mem_of_getElem? (i := 57) (by decide +kernel), List.mem_of_getElem? (i := 396) (by decide +kernel), List.mem_of_getElem? (i := 397) (by decide +kernel)⟩
theorem lw_p10 : lw_okq (⟨"PulledToAHair$Reader", "readProduct", "(LPulledToAHair$Text;I)Z"⟩, 6) := ⟨⟨by decide +kernel, by decide +kernel⟩, List.mem_of_getElem? (i := 57) (by decide +kernel), List.mem_of_getElem? (i := 400) (by decide +kernel), List.mem_of_getElem? (i := 401) (by decide +kernel)⟩
theorem lw_p11 : lw_okq (⟨"PulledToAHair$Reader", "readOne", "(LPulledToAHair$Text;I)Z"⟩, 6) := ⟨⟨by decide +kernel, by decide +kernel⟩, List.mem_of_getElem? (i := 57) (by decide +kernel), List.mem_of_getElem? (i := 404) (by decide +kernel), List.mem_of_getElem? (i := 405) (by decide +kernel)⟩
theorem lw_p12 : lw_okq (⟨"PulledToAHair", "isStep", "(I)Z"⟩, 15) := ⟨⟨by decide +kernel, by decide +kernel⟩, List.mem_of_getElem? (i := 18) (by decide +kernel), List.mem_of_getElem? (i := 513) (by decide +kernel), List.mem_of_getElem? (i := 514) (by decide +kernel)⟩
theorem lw_p13 : lw_okq (⟨"PulledToAHair", "areSteps", "(I)Z"⟩, 15) := ⟨⟨by decide +kernel, by decide +kernel⟩, List.mem_of_getElem? (i := 18) (by decide +kernel), List.mem_of_getElem? (i := 525) (by decide +kernel), List.mem_of_getElem? (i := 526) (by decide +kernel)⟩
theorem lw_p14 : lw_okq (⟨"PulledToAHair", "make", "(LPulledToAHair$Dough;III)V"⟩, 15) := ⟨⟨by decide +kernel, by decide +kernel⟩, List.mem_of_getElem? (i := 18) (by decide +kernel), List.mem_of_getElem? (i := 529) (by decide +kernel), List.mem_of_getElem? (i := 530) (by decide +kernel)⟩
theorem lw_p15 : lw_okq (⟨"PulledToAHair$Hands", "says", "(ILPulledToAHair$Rope;II)I"⟩, 6) := ⟨⟨by decide +kernel, by decide +kernel⟩, List.mem_of_getElem? (i := 143) (by decide +kernel), List.mem_of_getElem? (i := 565) (by decide +kernel), List.mem_of_getElem? (i := 566) (by decide +kernel)⟩
def lw_privs_1 : List (MethodName × Nat) := [(⟨"PulledToAHair$Reader", "advance", "()V"⟩, 6), (⟨"PulledToAHair$Reader", "byteAt", "(I)I"⟩, 6), (⟨"PulledToAHair$Reader", "readWord", "()V"⟩, 6), (⟨"PulledToAHair$Reader", "isWord", "(I)Z"⟩, 6), (⟨"PulledToAHair$Reader", "readNumber", "()V"⟩, 6), (⟨"PulledToAHair$Reader", "readEither", "(LPulledToAHair$Text;I)Z"⟩, 6), (⟨"PulledToAHair$Reader", "readBoth", "(LPulledToAHair$Text;I)Z"⟩, 6), (⟨"PulledToAHair$Reader", "readNot", "(LPulledToAHair$Text;I)Z"⟩, 6), (⟨"PulledToAHair$Reader", "readCompared", "(LPulledToAHair$Text;I)Z"⟩, 6), (⟨"PulledToAHair$Reader", "readSum", "(LPulledToAHair$Text;I)Z"⟩, 6), (⟨"PulledToAHair$Reader", "readProduct", "(LPulledToAHair$Text;I)Z"⟩, 6), (⟨"PulledToAHair$Reader", "readOne", "(LPulledToAHair$Text;I)Z"⟩, 6), (⟨"PulledToAHair", "isStep", "(I)Z"⟩, 15), (⟨"PulledToAHair", "areSteps", "(I)Z"⟩, 15), (⟨"PulledToAHair", "make", "(LPulledToAHair$Dough;III)V"⟩, 15), (⟨"PulledToAHair$Hands", "says", "(ILPulledToAHair$Rope;II)I"⟩, 6)]
theorem lw_r1 : ∀ q ∈ lw_privs_1, lw_okq q := List.forall_mem_cons.mpr ⟨lw_p0, List.forall_mem_cons.mpr ⟨lw_p1, List.forall_mem_cons.mpr ⟨lw_p2, List.forall_mem_cons.mpr ⟨lw_p3, List.forall_mem_cons.mpr ⟨lw_p4, List.forall_mem_cons.mpr ⟨lw_p5, List.forall_mem_cons.mpr ⟨lw_p6, List.forall_mem_cons.mpr ⟨lw_p7, List.forall_mem_cons.mpr ⟨lw_p8, List.forall_mem_cons.mpr ⟨lw_p9, List.forall_mem_cons.mpr ⟨lw_p10, List.forall_mem_cons.mpr ⟨lw_p11, List.forall_mem_cons.mpr ⟨lw_p12, List.forall_mem_cons.mpr ⟨lw_p13, List.forall_mem_cons.mpr ⟨lw_p14, List.forall_mem_cons.mpr ⟨lw_p15, fun _ h => absurd h List.not_mem_nil⟩⟩⟩⟩⟩⟩⟩⟩⟩⟩⟩⟩⟩⟩⟩⟩
theorem lw_p16 : lw_okq (⟨"PulledToAHair$Rope", "lengthen", "(IJI)V"⟩, 12) := ⟨⟨by decide +kernel, by decide +kernel⟩, List.mem_of_getElem? (i := 172) (by decide +kernel), List.mem_of_getElem? (i := 597) (by decide +kernel), List.mem_of_getElem? (i := 598) (by decide +kernel)⟩
theorem lw_p17 : lw_okq (⟨"PulledToAHair$Rope", "bounce", "()V"⟩, 12) := ⟨⟨by decide +kernel, by decide +kernel⟩, List.mem_of_getElem? (i := 172) (by decide +kernel), List.mem_of_getElem? (i := 611) (by decide +kernel), List.mem_of_getElem? (i := 612) (by decide +kernel)⟩
theorem lw_p18 : lw_okq (⟨"PulledToAHair$Rope", "foldRow", "([III)V"⟩, 12) := ⟨⟨by decide +kernel, by decide +kernel⟩, List.mem_of_getElem? (i := 172) (by decide +kernel), List.mem_of_getElem? (i := 619) (by decide +kernel), List.mem_of_getElem? (i := 620) (by decide +kernel)⟩
theorem lw_p19 : lw_okq (⟨"PulledToAHair$Rope", "cutEnd", "(II)V"⟩, 12) := ⟨⟨by decide +kernel, by decide +kernel⟩, List.mem_of_getElem? (i := 172) (by decide +kernel), List.mem_of_getElem? (i := 633) (by decide +kernel), List.mem_of_getElem? (i := 634) (by decide +kernel)⟩
theorem lw_p20 : lw_okq (⟨"PulledToAHair", "allTake", "(I)I"⟩, 15) := ⟨⟨by decide +kernel, by decide +kernel⟩, List.mem_of_getElem? (i := 18) (by decide +kernel), List.mem_of_getElem? (i := 664) (by decide +kernel), List.mem_of_getElem? (i := 665) (by decide +kernel)⟩
theorem lw_p21 : lw_okq (⟨"PulledToAHair", "tryDrawing", "(II)V"⟩, 15) := ⟨⟨by decide +kernel, by decide +kernel⟩, List.mem_of_getElem? (i := 18) (by decide +kernel), List.mem_of_getElem? (i := 691) (by decide +kernel), List.mem_of_getElem? (i := 692) (by decide +kernel)⟩
theorem lw_p22 : lw_okq (⟨"PulledToAHair", "refusalOfTest", "(II)I"⟩, 15) := ⟨⟨by decide +kernel, by decide +kernel⟩, List.mem_of_getElem? (i := 18) (by decide +kernel), List.mem_of_getElem? (i := 728) (by decide +kernel), List.mem_of_getElem? (i := 729) (by decide +kernel)⟩
theorem lw_p23 : lw_okq (⟨"PulledToAHair", "colour", "(II)V"⟩, 15) := ⟨⟨by decide +kernel, by decide +kernel⟩, List.mem_of_getElem? (i := 18) (by decide +kernel), List.mem_of_getElem? (i := 825) (by decide +kernel), List.mem_of_getElem? (i := 826) (by decide +kernel)⟩
theorem lw_p24 : lw_okq (⟨"PulledToAHairModel", "next", "()V"⟩, 54) := ⟨⟨by decide +kernel, by decide +kernel⟩, List.mem_of_getElem? (i := 896) (by decide +kernel), List.mem_of_getElem? (i := 907) (by decide +kernel), List.mem_of_getElem? (i := 908) (by decide +kernel)⟩
theorem lw_p25 : lw_okq (⟨"PulledToAHairModel", "wordFrom", "(II)I"⟩, 54) := ⟨⟨by decide +kernel, by decide +kernel⟩, List.mem_of_getElem? (i := 896) (by decide +kernel), List.mem_of_getElem? (i := 914) (by decide +kernel), List.mem_of_getElem? (i := 915) (by decide +kernel)⟩
theorem lw_p26 : lw_okq (⟨"PulledToAHairModel", "eRead", "()Z"⟩, 54) := ⟨⟨by decide +kernel, by decide +kernel⟩, List.mem_of_getElem? (i := 896) (by decide +kernel), List.mem_of_getElem? (i := 918) (by decide +kernel), List.mem_of_getElem? (i := 919) (by decide +kernel)⟩
theorem lw_p27 : lw_okq (⟨"PulledToAHairModel", "puts", "(I)V"⟩, 54) := ⟨⟨by decide +kernel, by decide +kernel⟩, List.mem_of_getElem? (i := 896) (by decide +kernel), List.mem_of_getElem? (i := 923) (by decide +kernel), List.mem_of_getElem? (i := 924) (by decide +kernel)⟩
theorem lw_p28 : lw_okq (⟨"PulledToAHairModel", "unwinds", "(I)V"⟩, 54) := ⟨⟨by decide +kernel, by decide +kernel⟩, List.mem_of_getElem? (i := 896) (by decide +kernel), List.mem_of_getElem? (i := 927) (by decide +kernel), List.mem_of_getElem? (i := 928) (by decide +kernel)⟩
theorem lw_p29 : lw_okq (⟨"PulledToAHairModel", "opensOne", "(I)Z"⟩, 54) := ⟨⟨by decide +kernel, by decide +kernel⟩, List.mem_of_getElem? (i := 896) (by decide +kernel), List.mem_of_getElem? (i := 934) (by decide +kernel), List.mem_of_getElem? (i := 935) (by decide +kernel)⟩
theorem lw_p30 : lw_okq (⟨"PulledToAHairModel", "holds", "(I)V"⟩, 54) := ⟨⟨by decide +kernel, by decide +kernel⟩, List.mem_of_getElem? (i := 896) (by decide +kernel), List.mem_of_getElem? (i := 938) (by decide +kernel), List.mem_of_getElem? (i := 939) (by decide +kernel)⟩
theorem lw_p31 : lw_okq (⟨"PulledToAHairModel", "signOf", "()I"⟩, 54) := ⟨⟨by decide +kernel, by decide +kernel⟩, List.mem_of_getElem? (i := 896) (by decide +kernel), List.mem_of_getElem? (i := 942) (by decide +kernel), List.mem_of_getElem? (i := 943) (by decide +kernel)⟩
def lw_privs_2 : List (MethodName × Nat) := [(⟨"PulledToAHair$Rope", "lengthen", "(IJI)V"⟩, 12), (⟨"PulledToAHair$Rope", "bounce", "()V"⟩, 12), (⟨"PulledToAHair$Rope", "foldRow", "([III)V"⟩, 12), (⟨"PulledToAHair$Rope", "cutEnd", "(II)V"⟩, 12), (⟨"PulledToAHair", "allTake", "(I)I"⟩, 15), (⟨"PulledToAHair", "tryDrawing", "(II)V"⟩, 15), (⟨"PulledToAHair", "refusalOfTest", "(II)I"⟩, 15), (⟨"PulledToAHair", "colour", "(II)V"⟩, 15), (⟨"PulledToAHairModel", "next", "()V"⟩, 54), (⟨"PulledToAHairModel", "wordFrom", "(II)I"⟩, 54), (⟨"PulledToAHairModel", "eRead", "()Z"⟩, 54), (⟨"PulledToAHairModel", "puts", "(I)V"⟩, 54), (⟨"PulledToAHairModel", "unwinds", "(I)V"⟩, 54), (⟨"PulledToAHairModel", "opensOne", "(I)Z"⟩, 54), (⟨"PulledToAHairModel", "holds", "(I)V"⟩, 54), (⟨"PulledToAHairModel", "signOf", "()I"⟩, 54)]
theorem lw_r2 : ∀ q ∈ lw_privs_2, lw_okq q := List.forall_mem_cons.mpr ⟨lw_p16, List.forall_mem_cons.mpr ⟨lw_p17, List.forall_mem_cons.mpr ⟨lw_p18, List.forall_mem_cons.mpr ⟨lw_p19, List.forall_mem_cons.mpr ⟨lw_p20, List.forall_mem_cons.mpr ⟨lw_p21, List.forall_mem_cons.mpr ⟨lw_p22, List.forall_mem_cons.mpr ⟨lw_p23, List.forall_mem_cons.mpr ⟨lw_p24, List.forall_mem_cons.mpr ⟨lw_p25, List.forall_mem_cons.mpr ⟨lw_p26, List.forall_mem_cons.mpr ⟨lw_p27, List.forall_mem_cons.mpr ⟨lw_p28, List.forall_mem_cons.mpr ⟨lw_p29, List.forall_mem_cons.mpr ⟨lw_p30, List.forall_mem_cons.mpr ⟨lw_p31, fun _ h => absurd h List.not_mem_nil⟩⟩⟩⟩⟩⟩⟩⟩⟩⟩⟩⟩⟩⟩⟩⟩
theorem lw_p32 : lw_okq (⟨"PulledToAHairModel", "between", "(I)Z"⟩, 54) := ⟨⟨by decide +kernel, by decide +kernel⟩, List.mem_of_getElem? (i := 896) (by decide +kernel), List.mem_of_getElem? (i := 946) (by decide +kernel), List.mem_of_getElem? (i := 947) (by decide +kernel)⟩
theorem lw_p33 : lw_okq (⟨"PulledToAHairModel", "holds0", "(II)V"⟩, 54) := ⟨⟨by decide +kernel, by decide +kernel⟩, List.mem_of_getElem? (i := 896) (by decide +kernel), List.mem_of_getElem? (i := 1129) (by decide +kernel), List.mem_of_getElem? (i := 1130) (by decide +kernel)⟩
theorem lw_p34 : lw_okq (⟨"PulledToAHairModel", "takesOf", "(I)I"⟩, 54) := ⟨⟨by decide +kernel, by decide +kernel⟩, List.mem_of_getElem? (i := 896) (by decide +kernel), List.mem_of_getElem? (i := 1156) (by decide +kernel), List.mem_of_getElem? (i := 1157) (by decide +kernel)⟩
theorem lw_p35 : lw_okq (⟨"PulledToAHairModel", "areSteps", "(I)Z"⟩, 54) := ⟨⟨by decide +kernel, by decide +kernel⟩, List.mem_of_getElem? (i := 896) (by decide +kernel), List.mem_of_getElem? (i := 1164) (by decide +kernel), List.mem_of_getElem? (i := 1165) (by decide +kernel)⟩
theorem lw_p36 : lw_okq (⟨"PulledToAHairModel", "goes", "(I)V"⟩, 54) := ⟨⟨by decide +kernel, by decide +kernel⟩, List.mem_of_getElem? (i := 896) (by decide +kernel), List.mem_of_getElem? (i := 1168) (by decide +kernel), List.mem_of_getElem? (i := 1169) (by decide +kernel)⟩
theorem lw_p37 : lw_okq (⟨"PulledToAHairModel", "goesBut", "(II)V"⟩, 54) := ⟨⟨by decide +kernel, by decide +kernel⟩, List.mem_of_getElem? (i := 896) (by decide +kernel), List.mem_of_getElem? (i := 1172) (by decide +kernel), List.mem_of_getElem? (i := 1173) (by decide +kernel)⟩
theorem lw_p38 : lw_okq (⟨"PulledToAHairModel", "begins", "()V"⟩, 54) := ⟨⟨by decide +kernel, by decide +kernel⟩, List.mem_of_getElem? (i := 896) (by decide +kernel), List.mem_of_getElem? (i := 1176) (by decide +kernel), List.mem_of_getElem? (i := 1177) (by decide +kernel)⟩
theorem lw_p39 : lw_okq (⟨"PulledToAHairModel", "makes", "(I)V"⟩, 54) := ⟨⟨by decide +kernel, by decide +kernel⟩, List.mem_of_getElem? (i := 896) (by decide +kernel), List.mem_of_getElem? (i := 1181) (by decide +kernel), List.mem_of_getElem? (i := 1182) (by decide +kernel)⟩
theorem lw_p40 : lw_okq (⟨"PulledToAHairModel", "allLength", "()I"⟩, 54) := ⟨⟨by decide +kernel, by decide +kernel⟩, List.mem_of_getElem? (i := 896) (by decide +kernel), List.mem_of_getElem? (i := 1185) (by decide +kernel), List.mem_of_getElem? (i := 1186) (by decide +kernel)⟩
theorem lw_p41 : lw_okq (⟨"PulledToAHairModel", "draws", "(II)V"⟩, 54) := ⟨⟨by decide +kernel, by decide +kernel⟩, List.mem_of_getElem? (i := 896) (by decide +kernel), List.mem_of_getElem? (i := 1189) (by decide +kernel), List.mem_of_getElem? (i := 1190) (by decide +kernel)⟩
theorem lw_p42 : lw_okq (⟨"PulledToAHairModel", "asks", "(III)I"⟩, 54) := ⟨⟨by decide +kernel, by decide +kernel⟩, List.mem_of_getElem? (i := 896) (by decide +kernel), List.mem_of_getElem? (i := 1193) (by decide +kernel), List.mem_of_getElem? (i := 1194) (by decide +kernel)⟩
theorem lw_p43 : lw_okq (⟨"PulledToAHairModel", "thickOf", "(I)I"⟩, 54) := ⟨⟨by decide +kernel, by decide +kernel⟩, List.mem_of_getElem? (i := 896) (by decide +kernel), List.mem_of_getElem? (i := 1197) (by decide +kernel), List.mem_of_getElem? (i := 1198) (by decide +kernel)⟩
theorem lw_p44 : lw_okq (⟨"PulledToAHairModel", "worth", "(I)I"⟩, 54) := ⟨⟨by decide +kernel, by decide +kernel⟩, List.mem_of_getElem? (i := 896) (by decide +kernel), List.mem_of_getElem? (i := 1201) (by decide +kernel), List.mem_of_getElem? (i := 1202) (by decide +kernel)⟩
theorem lw_p45 : lw_okq (⟨"PulledToAHairModel", "drawsMore", "()I"⟩, 54) := ⟨⟨by decide +kernel, by decide +kernel⟩, List.mem_of_getElem? (i := 896) (by decide +kernel), List.mem_of_getElem? (i := 1208) (by decide +kernel), List.mem_of_getElem? (i := 1209) (by decide +kernel)⟩
theorem lw_p46 : lw_okq (⟨"PulledToAHairModel", "bounces", "()V"⟩, 54) := ⟨⟨by decide +kernel, by decide +kernel⟩, List.mem_of_getElem? (i := 896) (by decide +kernel), List.mem_of_getElem? (i := 1221) (by decide +kernel), List.mem_of_getElem? (i := 1222) (by decide +kernel)⟩
theorem lw_p47 : lw_okq (⟨"PulledToAHairModel", "keepsRow", "()V"⟩, 54) := ⟨⟨by decide +kernel, by decide +kernel⟩, List.mem_of_getElem? (i := 896) (by decide +kernel), List.mem_of_getElem? (i := 1225) (by decide +kernel), List.mem_of_getElem? (i := 1226) (by decide +kernel)⟩
def lw_privs_3 : List (MethodName × Nat) := [(⟨"PulledToAHairModel", "between", "(I)Z"⟩, 54), (⟨"PulledToAHairModel", "holds0", "(II)V"⟩, 54), (⟨"PulledToAHairModel", "takesOf", "(I)I"⟩, 54), (⟨"PulledToAHairModel", "areSteps", "(I)Z"⟩, 54), (⟨"PulledToAHairModel", "goes", "(I)V"⟩, 54), (⟨"PulledToAHairModel", "goesBut", "(II)V"⟩, 54), (⟨"PulledToAHairModel", "begins", "()V"⟩, 54), (⟨"PulledToAHairModel", "makes", "(I)V"⟩, 54), (⟨"PulledToAHairModel", "allLength", "()I"⟩, 54), (⟨"PulledToAHairModel", "draws", "(II)V"⟩, 54), (⟨"PulledToAHairModel", "asks", "(III)I"⟩, 54), (⟨"PulledToAHairModel", "thickOf", "(I)I"⟩, 54), (⟨"PulledToAHairModel", "worth", "(I)I"⟩, 54), (⟨"PulledToAHairModel", "drawsMore", "()I"⟩, 54), (⟨"PulledToAHairModel", "bounces", "()V"⟩, 54), (⟨"PulledToAHairModel", "keepsRow", "()V"⟩, 54)]
theorem lw_r3 : ∀ q ∈ lw_privs_3, lw_okq q := List.forall_mem_cons.mpr ⟨lw_p32, List.forall_mem_cons.mpr ⟨lw_p33, List.forall_mem_cons.mpr ⟨lw_p34, List.forall_mem_cons.mpr ⟨lw_p35, List.forall_mem_cons.mpr ⟨lw_p36, List.forall_mem_cons.mpr ⟨lw_p37, List.forall_mem_cons.mpr ⟨lw_p38, List.forall_mem_cons.mpr ⟨lw_p39, List.forall_mem_cons.mpr ⟨lw_p40, List.forall_mem_cons.mpr ⟨lw_p41, List.forall_mem_cons.mpr ⟨lw_p42, List.forall_mem_cons.mpr ⟨lw_p43, List.forall_mem_cons.mpr ⟨lw_p44, List.forall_mem_cons.mpr ⟨lw_p45, List.forall_mem_cons.mpr ⟨lw_p46, List.forall_mem_cons.mpr ⟨lw_p47, fun _ h => absurd h List.not_mem_nil⟩⟩⟩⟩⟩⟩⟩⟩⟩⟩⟩⟩⟩⟩⟩⟩
theorem lw_p48 : lw_okq (⟨"PulledToAHairModel", "doubles", "()V"⟩, 54) := ⟨⟨by decide +kernel, by decide +kernel⟩, List.mem_of_getElem? (i := 896) (by decide +kernel), List.mem_of_getElem? (i := 1229) (by decide +kernel), List.mem_of_getElem? (i := 1230) (by decide +kernel)⟩
theorem lw_p49 : lw_okq (⟨"PulledToAHairModel", "dusts", "(I)V"⟩, 54) := ⟨⟨by decide +kernel, by decide +kernel⟩, List.mem_of_getElem? (i := 896) (by decide +kernel), List.mem_of_getElem? (i := 1233) (by decide +kernel), List.mem_of_getElem? (i := 1234) (by decide +kernel)⟩
theorem lw_p50 : lw_okq (⟨"PulledToAHairModel", "cuts", "(II)V"⟩, 54) := ⟨⟨by decide +kernel, by decide +kernel⟩, List.mem_of_getElem? (i := 896) (by decide +kernel), List.mem_of_getElem? (i := 1237) (by decide +kernel), List.mem_of_getElem? (i := 1238) (by decide +kernel)⟩
theorem lw_p51 : lw_okq (⟨"PulledToAHairModel", "rests", "(I)V"⟩, 54) := ⟨⟨by decide +kernel, by decide +kernel⟩, List.mem_of_getElem? (i := 896) (by decide +kernel), List.mem_of_getElem? (i := 1241) (by decide +kernel), List.mem_of_getElem? (i := 1242) (by decide +kernel)⟩
theorem lw_p52 : lw_okq (⟨"PulledToAHairModel", "least", "()I"⟩, 54) := ⟨⟨by decide +kernel, by decide +kernel⟩, List.mem_of_getElem? (i := 896) (by decide +kernel), List.mem_of_getElem? (i := 1251) (by decide +kernel), List.mem_of_getElem? (i := 1252) (by decide +kernel)⟩
theorem lw_p53 : lw_okq (⟨"PulledToAHairModel", "greatest", "()I"⟩, 54) := ⟨⟨by decide +kernel, by decide +kernel⟩, List.mem_of_getElem? (i := 896) (by decide +kernel), List.mem_of_getElem? (i := 1255) (by decide +kernel), List.mem_of_getElem? (i := 1256) (by decide +kernel)⟩
theorem lw_p54 : lw_okq (⟨"PulledToAHairModel", "spread", "()I"⟩, 54) := ⟨⟨by decide +kernel, by decide +kernel⟩, List.mem_of_getElem? (i := 896) (by decide +kernel), List.mem_of_getElem? (i := 1259) (by decide +kernel), List.mem_of_getElem? (i := 1260) (by decide +kernel)⟩
theorem lw_p55 : lw_okq (⟨"PulledToAHairModel", "doubled", "()J"⟩, 54) := ⟨⟨by decide +kernel, by decide +kernel⟩, List.mem_of_getElem? (i := 896) (by decide +kernel), List.mem_of_getElem? (i := 1263) (by decide +kernel), List.mem_of_getElem? (i := 1264) (by decide +kernel)⟩
theorem lw_p56 : lw_okq (⟨"PulledToAHairModel", "both", "(I)J"⟩, 54) := ⟨⟨by decide +kernel, by decide +kernel⟩, List.mem_of_getElem? (i := 896) (by decide +kernel), List.mem_of_getElem? (i := 1273) (by decide +kernel), List.mem_of_getElem? (i := 1274) (by decide +kernel)⟩
theorem lw_p57 : lw_okq (⟨"PulledToAHairModel", "sheetWrong", "(I)I"⟩, 54) := ⟨⟨by decide +kernel, by decide +kernel⟩, List.mem_of_getElem? (i := 896) (by decide +kernel), List.mem_of_getElem? (i := 1312) (by decide +kernel), List.mem_of_getElem? (i := 1313) (by decide +kernel)⟩
theorem lw_p58 : lw_okq (⟨"PulledToAHairModel", "offFrom", "(II)I"⟩, 54) := ⟨⟨by decide +kernel, by decide +kernel⟩, List.mem_of_getElem? (i := 896) (by decide +kernel), List.mem_of_getElem? (i := 1316) (by decide +kernel), List.mem_of_getElem? (i := 1317) (by decide +kernel)⟩
theorem lw_p59 : lw_okq (⟨"PulledToAHairModel", "cooked", "(II)I"⟩, 54) := ⟨⟨by decide +kernel, by decide +kernel⟩, List.mem_of_getElem? (i := 896) (by decide +kernel), List.mem_of_getElem? (i := 1347) (by decide +kernel), List.mem_of_getElem? (i := 1348) (by decide +kernel)⟩
def lw_privs_4 : List (MethodName × Nat) := [(⟨"PulledToAHairModel", "doubles", "()V"⟩, 54), (⟨"PulledToAHairModel", "dusts", "(I)V"⟩, 54), (⟨"PulledToAHairModel", "cuts", "(II)V"⟩, 54), (⟨"PulledToAHairModel", "rests", "(I)V"⟩, 54), (⟨"PulledToAHairModel", "least", "()I"⟩, 54), (⟨"PulledToAHairModel", "greatest", "()I"⟩, 54), (⟨"PulledToAHairModel", "spread", "()I"⟩, 54), (⟨"PulledToAHairModel", "doubled", "()J"⟩, 54), (⟨"PulledToAHairModel", "both", "(I)J"⟩, 54), (⟨"PulledToAHairModel", "sheetWrong", "(I)I"⟩, 54), (⟨"PulledToAHairModel", "offFrom", "(II)I"⟩, 54), (⟨"PulledToAHairModel", "cooked", "(II)I"⟩, 54)]
theorem lw_r4 : ∀ q ∈ lw_privs_4, lw_okq q := List.forall_mem_cons.mpr ⟨lw_p48, List.forall_mem_cons.mpr ⟨lw_p49, List.forall_mem_cons.mpr ⟨lw_p50, List.forall_mem_cons.mpr ⟨lw_p51, List.forall_mem_cons.mpr ⟨lw_p52, List.forall_mem_cons.mpr ⟨lw_p53, List.forall_mem_cons.mpr ⟨lw_p54, List.forall_mem_cons.mpr ⟨lw_p55, List.forall_mem_cons.mpr ⟨lw_p56, List.forall_mem_cons.mpr ⟨lw_p57, List.forall_mem_cons.mpr ⟨lw_p58, List.forall_mem_cons.mpr ⟨lw_p59, fun _ h => absurd h List.not_mem_nil⟩⟩⟩⟩⟩⟩⟩⟩⟩⟩⟩⟩
def lw_privs : List (MethodName × Nat) := lw_privs_1 ++ (lw_privs_2 ++ (lw_privs_3 ++ (lw_privs_4)))
def lw_tbl : List Cond := k2_sels lw_privs ++ tables_1
theorem lw_privs_ok : ∀ q ∈ lw_privs, lw_okq q := by
  show ∀ q ∈ lw_privs_1 ++ (lw_privs_2 ++ (lw_privs_3 ++ (lw_privs_4))), lw_okq q
  exact List.forall_mem_append.mpr ⟨lw_r1, List.forall_mem_append.mpr ⟨lw_r2, List.forall_mem_append.mpr ⟨lw_r3, lw_r4⟩⟩⟩

-- ===== classes, their fields in the order of the slots (out of the printed names of this claim) =====
noncomputable def RX0 : String := "PulledToAHair$Dough"
noncomputable def TX0 : u_T := fun k => match k with
  | 0 => ("PulledToAHair$Dough", "much", "[I", true)
  | 1 => ("PulledToAHair$Dough", "length", "[I", true)
  | 2 => ("PulledToAHair$Dough", "tastes", "[I", true)
  | _ => ("PulledToAHair$Dough", "law", "I", false)
noncomputable def tyX0 : Nat → FieldType := fun k => match k with
  | 0 => .array .int
  | 1 => .array .int
  | 2 => .array .int
  | _ => .int
theorem nmX0 : ∀ a, a < 4 → ∀ b, b < 4 → a ≠ b → (TX0 a).2.1 ≠ (TX0 b).2.1 := by decide +kernel
theorem tyX0_ok : ∀ k, k < 4 → parseFieldDescriptor (TX0 k).2.2.1 = some (tyX0 k) := by decide +kernel
noncomputable def RX1 : String := "PulledToAHair$Hands"
noncomputable def TX1 : u_T := fun k => match k with
  | 0 => ("PulledToAHair$Hands", "names", "[I", true)
  | 1 => ("PulledToAHair$Hands", "law", "LPulledToAHair$Text;", false)
  | 2 => ("PulledToAHair$Hands", "wet", "I", false)
  | 3 => ("PulledToAHair$Hands", "warm", "I", false)
  | 4 => ("PulledToAHair$Hands", "wandering", "Z", false)
  | _ => ("PulledToAHair$Hands", "lot", "J", false)
noncomputable def tyX1 : Nat → FieldType := fun k => match k with
  | 0 => .array .int
  | 1 => .object "PulledToAHair$Text"
  | 2 => .int
  | 3 => .int
  | 4 => .boolean
  | _ => .long
theorem nmX1 : ∀ a, a < 6 → ∀ b, b < 6 → a ≠ b → (TX1 a).2.1 ≠ (TX1 b).2.1 := by decide +kernel
theorem tyX1_ok : ∀ k, k < 6 → parseFieldDescriptor (TX1 k).2.2.1 = some (tyX1 k) := by decide +kernel
noncomputable def RX2 : String := "PulledToAHair$Reader"
noncomputable def TX2 : u_T := fun k => match k with
  | 0 => ("PulledToAHair$Reader", "bytes", "[I", true)
  | 1 => ("PulledToAHair$Reader", "size", "I", false)
  | 2 => ("PulledToAHair$Reader", "at", "I", false)
  | 3 => ("PulledToAHair$Reader", "token", "I", false)
  | 4 => ("PulledToAHair$Reader", "start", "I", false)
  | _ => ("PulledToAHair$Reader", "told", "I", false)
noncomputable def tyX2 : Nat → FieldType := fun k => match k with
  | 0 => .array .int
  | 1 => .int
  | 2 => .int
  | 3 => .int
  | 4 => .int
  | _ => .int
theorem nmX2 : ∀ a, a < 6 → ∀ b, b < 6 → a ≠ b → (TX2 a).2.1 ≠ (TX2 b).2.1 := by decide +kernel
theorem tyX2_ok : ∀ k, k < 6 → parseFieldDescriptor (TX2 k).2.2.1 = some (tyX2 k) := by decide +kernel
noncomputable def RX3 : String := "PulledToAHair$Rope"
noncomputable def TX3 : u_T := fun k => match k with
  | 0 => ("PulledToAHair$Rope", "much", "[I", true)
  | 1 => ("PulledToAHair$Rope", "length", "[I", true)
  | 2 => ("PulledToAHair$Rope", "stiff", "[I", true)
  | 3 => ("PulledToAHair$Rope", "eases", "[I", true)
  | 4 => ("PulledToAHair$Rope", "spare", "[I", true)
  | 5 => ("PulledToAHair$Rope", "shares", "[J", true)
  | 6 => ("PulledToAHair$Rope", "hands", "LPulledToAHair$Hands;", true)
  | 7 => ("PulledToAHair$Rope", "folds", "I", false)
  | 8 => ("PulledToAHair$Rope", "dusted", "I", false)
  | 9 => ("PulledToAHair$Rope", "cutOff", "I", false)
  | 10 => ("PulledToAHair$Rope", "wholeParts", "J", false)
  | _ => ("PulledToAHair$Rope", "freeParts", "J", false)
noncomputable def tyX3 : Nat → FieldType := fun k => match k with
  | 0 => .array .int
  | 1 => .array .int
  | 2 => .array .int
  | 3 => .array .int
  | 4 => .array .int
  | 5 => .array .long
  | 6 => .object "PulledToAHair$Hands"
  | 7 => .int
  | 8 => .int
  | 9 => .int
  | 10 => .long
  | _ => .long
theorem nmX3 : ∀ a, a < 12 → ∀ b, b < 12 → a ≠ b → (TX3 a).2.1 ≠ (TX3 b).2.1 := by decide +kernel
theorem tyX3_ok : ∀ k, k < 12 → parseFieldDescriptor (TX3 k).2.2.1 = some (tyX3 k) := by decide +kernel
noncomputable def RX4 : String := "PulledToAHair$Sheet"
noncomputable def TX4 : u_T := fun k => match k with
  | 0 => ("PulledToAHair$Sheet", "numbers", "[I", true)
  | 1 => ("PulledToAHair$Sheet", "sort", "I", false)
  | _ => ("PulledToAHair$Sheet", "size", "I", false)
noncomputable def tyX4 : Nat → FieldType := fun k => match k with
  | 0 => .array .int
  | 1 => .int
  | _ => .int
theorem nmX4 : ∀ a, a < 3 → ∀ b, b < 3 → a ≠ b → (TX4 a).2.1 ≠ (TX4 b).2.1 := by decide +kernel
theorem tyX4_ok : ∀ k, k < 3 → parseFieldDescriptor (TX4 k).2.2.1 = some (tyX4 k) := by decide +kernel
noncomputable def RX5 : String := "PulledToAHair$Step"
noncomputable def TX5 : u_T := fun k => match k with
  | 0 => ("PulledToAHair$Step", "kind", "I", false)
  | 1 => ("PulledToAHair$Step", "more", "I", false)
  | _ => ("PulledToAHair$Step", "pace", "I", false)
noncomputable def tyX5 : Nat → FieldType := fun k => match k with
  | 0 => .int
  | 1 => .int
  | _ => .int
theorem nmX5 : ∀ a, a < 3 → ∀ b, b < 3 → a ≠ b → (TX5 a).2.1 ≠ (TX5 b).2.1 := by decide +kernel
theorem tyX5_ok : ∀ k, k < 3 → parseFieldDescriptor (TX5 k).2.2.1 = some (tyX5 k) := by decide +kernel
noncomputable def RX6 : String := "PulledToAHair$Text"
noncomputable def TX6 : u_T := fun k => match k with
  | 0 => ("PulledToAHair$Text", "codes", "[I", true)
  | 1 => ("PulledToAHair$Text", "ends", "[I", true)
  | 2 => ("PulledToAHair$Text", "stack", "[I", true)
  | _ => ("PulledToAHair$Text", "size", "I", false)
noncomputable def tyX6 : Nat → FieldType := fun k => match k with
  | 0 => .array .int
  | 1 => .array .int
  | 2 => .array .int
  | _ => .int
theorem nmX6 : ∀ a, a < 4 → ∀ b, b < 4 → a ≠ b → (TX6 a).2.1 ≠ (TX6 b).2.1 := by decide +kernel
theorem tyX6_ok : ∀ k, k < 4 → parseFieldDescriptor (TX6 k).2.2.1 = some (tyX6 k) := by decide +kernel
noncomputable def RX7 : String := "PulledToAHair"
noncomputable def TX7 : u_T := fun k => match k with
  | 0 => ("PulledToAHair", "dough", "LPulledToAHair$Dough;", true)
  | 1 => ("PulledToAHair", "kept", "LPulledToAHair$Dough;", true)
  | 2 => ("PulledToAHair", "supposed", "LPulledToAHair$Dough;", true)
  | 3 => ("PulledToAHair", "steps", "[LPulledToAHair$Step;", true)
  | 4 => ("PulledToAHair", "texts", "[LPulledToAHair$Text;", true)
  | 5 => ("PulledToAHair", "reader", "LPulledToAHair$Reader;", true)
  | 6 => ("PulledToAHair", "hands", "LPulledToAHair$Hands;", true)
  | 7 => ("PulledToAHair", "rope", "LPulledToAHair$Rope;", true)
  | 8 => ("PulledToAHair", "tried", "LPulledToAHair$Rope;", true)
  | 9 => ("PulledToAHair", "sheets", "[LPulledToAHair$Sheet;", true)
  | 10 => ("PulledToAHair", "strands", "[I", true)
  | 11 => ("PulledToAHair", "doubled", "[I", true)
  | 12 => ("PulledToAHair", "stepCount", "I", false)
  | 13 => ("PulledToAHair", "textCount", "I", false)
  | _ => ("PulledToAHair", "imageKept", "Z", false)
noncomputable def tyX7 : Nat → FieldType := fun k => match k with
  | 0 => .object "PulledToAHair$Dough"
  | 1 => .object "PulledToAHair$Dough"
  | 2 => .object "PulledToAHair$Dough"
  | 3 => .array (.object "PulledToAHair$Step")
  | 4 => .array (.object "PulledToAHair$Text")
  | 5 => .object "PulledToAHair$Reader"
  | 6 => .object "PulledToAHair$Hands"
  | 7 => .object "PulledToAHair$Rope"
  | 8 => .object "PulledToAHair$Rope"
  | 9 => .array (.object "PulledToAHair$Sheet")
  | 10 => .array .int
  | 11 => .array .int
  | 12 => .int
  | 13 => .int
  | _ => .boolean
theorem nmX7 : ∀ a, a < 15 → ∀ b, b < 15 → a ≠ b → (TX7 a).2.1 ≠ (TX7 b).2.1 := by decide +kernel
theorem tyX7_ok : ∀ k, k < 15 → parseFieldDescriptor (TX7 k).2.2.1 = some (tyX7 k) := by decide +kernel
noncomputable def RX8 : String := "PulledToAHairModel"
noncomputable def TX8 : u_T := fun k => match k with
  | 0 => ("PulledToAHairModel", "rolledMuch", "[I", true)
  | 1 => ("PulledToAHairModel", "rolledLength", "[I", true)
  | 2 => ("PulledToAHairModel", "wet", "I", false)
  | 3 => ("PulledToAHairModel", "salt", "I", false)
  | 4 => ("PulledToAHairModel", "warm", "I", false)
  | 5 => ("PulledToAHairModel", "steps", "I", false)
  | 6 => ("PulledToAHairModel", "kind", "[I", true)
  | 7 => ("PulledToAHairModel", "more", "[I", true)
  | 8 => ("PulledToAHairModel", "pace", "[I", true)
  | 9 => ("PulledToAHairModel", "tape", "[I", true)
  | 10 => ("PulledToAHairModel", "taped", "I", false)
  | 11 => ("PulledToAHairModel", "codes", "[I", true)
  | 12 => ("PulledToAHairModel", "starts", "[I", true)
  | 13 => ("PulledToAHairModel", "texts", "I", false)
  | 14 => ("PulledToAHairModel", "rule", "I", false)
  | 15 => ("PulledToAHairModel", "hasImage", "Z", false)
  | 16 => ("PulledToAHairModel", "imageWet", "I", false)
  | 17 => ("PulledToAHairModel", "imageSalt", "I", false)
  | 18 => ("PulledToAHairModel", "imageWarm", "I", false)
  | 19 => ("PulledToAHairModel", "imageRule", "I", false)
  | 20 => ("PulledToAHairModel", "imageMuch", "[I", true)
  | 21 => ("PulledToAHairModel", "imageLength", "[I", true)
  | 22 => ("PulledToAHairModel", "sheetSort", "[I", true)
  | 23 => ("PulledToAHairModel", "sheetSize", "[I", true)
  | 24 => ("PulledToAHairModel", "cells", "[I", true)
  | 25 => ("PulledToAHairModel", "law", "[I", true)
  | 26 => ("PulledToAHairModel", "at", "I", false)
  | 27 => ("PulledToAHairModel", "begun", "I", false)
  | 28 => ("PulledToAHairModel", "token", "I", false)
  | 29 => ("PulledToAHairModel", "value", "I", false)
  | 30 => ("PulledToAHairModel", "words", "[I", true)
  | 31 => ("PulledToAHairModel", "held", "[I", true)
  | 32 => ("PulledToAHairModel", "heldMany", "I", false)
  | 33 => ("PulledToAHairModel", "opens", "I", false)
  | 34 => ("PulledToAHairModel", "out", "I", false)
  | 35 => ("PulledToAHairModel", "stack", "[I", true)
  | 36 => ("PulledToAHairModel", "named", "[I", true)
  | 37 => ("PulledToAHairModel", "much", "[I", true)
  | 38 => ("PulledToAHairModel", "length", "[I", true)
  | 39 => ("PulledToAHairModel", "stiff", "[I", true)
  | 40 => ("PulledToAHairModel", "folds", "I", false)
  | 41 => ("PulledToAHairModel", "dust", "I", false)
  | 42 => ("PulledToAHairModel", "cut", "I", false)
  | 43 => ("PulledToAHairModel", "whole", "J", false)
  | 44 => ("PulledToAHairModel", "free", "J", false)
  | 45 => ("PulledToAHairModel", "isDrawn", "Z", false)
  | 46 => ("PulledToAHairModel", "lot", "J", false)
  | 47 => ("PulledToAHairModel", "ease", "[I", true)
  | 48 => ("PulledToAHairModel", "share", "[I", true)
  | 49 => ("PulledToAHairModel", "wasMuch", "[I", true)
  | 50 => ("PulledToAHairModel", "wasLength", "[I", true)
  | 51 => ("PulledToAHairModel", "wasStiff", "[I", true)
  | 52 => ("PulledToAHairModel", "strands", "[I", true)
  | _ => ("PulledToAHairModel", "strandsThen", "[I", true)
noncomputable def tyX8 : Nat → FieldType := fun k => match k with
  | 0 => .array .int
  | 1 => .array .int
  | 2 => .int
  | 3 => .int
  | 4 => .int
  | 5 => .int
  | 6 => .array .int
  | 7 => .array .int
  | 8 => .array .int
  | 9 => .array .int
  | 10 => .int
  | 11 => .array .int
  | 12 => .array .int
  | 13 => .int
  | 14 => .int
  | 15 => .boolean
  | 16 => .int
  | 17 => .int
  | 18 => .int
  | 19 => .int
  | 20 => .array .int
  | 21 => .array .int
  | 22 => .array .int
  | 23 => .array .int
  | 24 => .array .int
  | 25 => .array .int
  | 26 => .int
  | 27 => .int
  | 28 => .int
  | 29 => .int
  | 30 => .array .int
  | 31 => .array .int
  | 32 => .int
  | 33 => .int
  | 34 => .int
  | 35 => .array .int
  | 36 => .array .int
  | 37 => .array .int
  | 38 => .array .int
  | 39 => .array .int
  | 40 => .int
  | 41 => .int
  | 42 => .int
  | 43 => .long
  | 44 => .long
  | 45 => .boolean
  | 46 => .long
  | 47 => .array .int
  | 48 => .array .int
  | 49 => .array .int
  | 50 => .array .int
  | 51 => .array .int
  | 52 => .array .int
  | _ => .array .int
theorem nmX8 : ∀ a, a < 54 → ∀ b, b < 54 → a ≠ b → (TX8 a).2.1 ≠ (TX8 b).2.1 := by decide +kernel
theorem tyX8_ok : ∀ k, k < 54 → parseFieldDescriptor (TX8 k).2.2.1 = some (tyX8 k) := by decide +kernel
noncomputable abbrev vwCl : List vw_C := [(RX0, TX0, 4), (RX1, TX1, 6), (RX2, TX2, 6), (RX3, TX3, 12), (RX4, TX4, 3), (RX5, TX5, 3), (RX6, TX6, 4), (RX7, TX7, 15), (RX8, TX8, 54)]
theorem inX0 : ∀ w ∈ u_ws RX0 TX0 4, w ∈ lw_tbl := by
  have h : [102, 104, 106, 108].map (fun i => lw_tbl[i]?) = (u_ws RX0 TX0 4).map some := by decide +kernel
  intro w hw
  have h1 : some w ∈ (u_ws RX0 TX0 4).map some := List.mem_map.mpr ⟨w, hw, rfl⟩
  rw [← h] at h1
  obtain ⟨i, -, hi⟩ := List.mem_map.mp h1
  exact List.mem_of_getElem? hi
theorem inX1 : ∀ w ∈ u_ws RX1 TX1 6, w ∈ lw_tbl := by
  have h : [218, 220, 222, 224, 226, 228].map (fun i => lw_tbl[i]?) = (u_ws RX1 TX1 6).map some := by decide +kernel
  intro w hw
  have h1 : some w ∈ (u_ws RX1 TX1 6).map some := List.mem_map.mpr ⟨w, hw, rfl⟩
  rw [← h] at h1
  obtain ⟨i, -, hi⟩ := List.mem_map.mp h1
  exact List.mem_of_getElem? hi
theorem inX2 : ∀ w ∈ u_ws RX2 TX2 6, w ∈ lw_tbl := by
  have h : [129, 131, 133, 135, 137, 139].map (fun i => lw_tbl[i]?) = (u_ws RX2 TX2 6).map some := by decide +kernel
  intro w hw
  have h1 : some w ∈ (u_ws RX2 TX2 6).map some := List.mem_map.mpr ⟨w, hw, rfl⟩
  rw [← h] at h1
  obtain ⟨i, -, hi⟩ := List.mem_map.mp h1
  exact List.mem_of_getElem? hi
theorem inX3 : ∀ w ∈ u_ws RX3 TX3 12, w ∈ lw_tbl := by
  have h : [260, 262, 264, 266, 268, 270, 272, 274, 276, 278, 280, 282].map (fun i => lw_tbl[i]?) = (u_ws RX3 TX3 12).map some := by decide +kernel
  intro w hw
  have h1 : some w ∈ (u_ws RX3 TX3 12).map some := List.mem_map.mpr ⟨w, hw, rfl⟩
  rw [← h] at h1
  obtain ⟨i, -, hi⟩ := List.mem_map.mp h1
  exact List.mem_of_getElem? hi
theorem inX4 : ∀ w ∈ u_ws RX4 TX4 3, w ∈ lw_tbl := by
  have h : [195, 197, 199].map (fun i => lw_tbl[i]?) = (u_ws RX4 TX4 3).map some := by decide +kernel
  intro w hw
  have h1 : some w ∈ (u_ws RX4 TX4 3).map some := List.mem_map.mpr ⟨w, hw, rfl⟩
  rw [← h] at h1
  obtain ⟨i, -, hi⟩ := List.mem_map.mp h1
  exact List.mem_of_getElem? hi
theorem inX5 : ∀ w ∈ u_ws RX5 TX5 3, w ∈ lw_tbl := by
  have h : [158, 160, 162].map (fun i => lw_tbl[i]?) = (u_ws RX5 TX5 3).map some := by decide +kernel
  intro w hw
  have h1 : some w ∈ (u_ws RX5 TX5 3).map some := List.mem_map.mpr ⟨w, hw, rfl⟩
  rw [← h] at h1
  obtain ⟨i, -, hi⟩ := List.mem_map.mp h1
  exact List.mem_of_getElem? hi
theorem inX6 : ∀ w ∈ u_ws RX6 TX6 4, w ∈ lw_tbl := by
  have h : [174, 176, 178, 180].map (fun i => lw_tbl[i]?) = (u_ws RX6 TX6 4).map some := by decide +kernel
  intro w hw
  have h1 : some w ∈ (u_ws RX6 TX6 4).map some := List.mem_map.mpr ⟨w, hw, rfl⟩
  rw [← h] at h1
  obtain ⟨i, -, hi⟩ := List.mem_map.mp h1
  exact List.mem_of_getElem? hi
theorem inX7 : ∀ w ∈ u_ws RX7 TX7 15, w ∈ lw_tbl := by
  have h : [498, 500, 502, 504, 506, 508, 510, 512, 514, 516, 518, 520, 522, 524, 526].map (fun i => lw_tbl[i]?) = (u_ws RX7 TX7 15).map some := by decide +kernel
  intro w hw
  have h1 : some w ∈ (u_ws RX7 TX7 15).map some := List.mem_map.mpr ⟨w, hw, rfl⟩
  rw [← h] at h1
  obtain ⟨i, -, hi⟩ := List.mem_map.mp h1
  exact List.mem_of_getElem? hi
theorem inX8 : ∀ w ∈ u_ws RX8 TX8 54, w ∈ lw_tbl := by
  have h : [1063, 1065, 1067, 1069, 1071, 1073, 1075, 1077, 1079, 1081, 1083, 1085, 1087, 1089, 1091, 1093, 1095, 1097, 1099, 1101, 1103, 1105, 1107, 1109, 1111, 1113, 1115, 1117, 1119, 1121, 1123, 1125, 1127, 1129, 1131, 1133, 1135, 1137, 1139, 1141, 1143, 1145, 1147, 1149, 1151, 1153, 1155, 1157, 1159, 1161, 1163, 1165, 1167, 1169].map (fun i => lw_tbl[i]?) = (u_ws RX8 TX8 54).map some := by decide +kernel
  intro w hw
  have h1 : some w ∈ (u_ws RX8 TX8 54).map some := List.mem_map.mpr ⟨w, hw, rfl⟩
  rw [← h] at h1
  obtain ⟨i, -, hi⟩ := List.mem_map.mp h1
  exact List.mem_of_getElem? hi
