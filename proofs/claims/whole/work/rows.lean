section
-- ===== PART A: goes FIRST, ahead of the names: the tables' words, and 'selects' of the private methods out of them =====
/-- a private method of a class that the tables say can be made, by its rows of tables_1 -/
def lw_okq (q : MethodName × Nat) : Prop := (q.1.cls ≠ "java/lang/invoke/MethodHandle" ∧ q.1.cls ≠ "java/lang/invoke/VarHandle") ∧ Cond.instantiable q.1.cls q.2 ∈ tables_1 ∧ Cond.privateMethod q.1 ∈ tables_1 ∧ Cond.instanceMethod q.1 ∈ tables_1
theorem lw_p0 : lw_okq (⟨"CutConformer", "firstWrongBlank", "()I"⟩, 5) := ⟨⟨by decide +kernel, by decide +kernel⟩, List.mem_of_getElem? (i := 20) (by decide +kernel), List.mem_of_getElem? (i := 387) (by decide +kernel), List.mem_of_getElem? (i := 388) (by decide +kernel)⟩
theorem lw_p1 : lw_okq (⟨"CutConformer$Track", "settle", "(I)I"⟩, 3) := ⟨⟨by decide +kernel, by decide +kernel⟩, List.mem_of_getElem? (i := 102) (by decide +kernel), List.mem_of_getElem? (i := 396) (by decide +kernel), List.mem_of_getElem? (i := 397) (by decide +kernel)⟩
theorem lw_p2 : lw_okq (⟨"CutConformer$Part", "longerLine", "(I)I"⟩, 2) := ⟨⟨by decide +kernel, by decide +kernel⟩, List.mem_of_getElem? (i := 28) (by decide +kernel), List.mem_of_getElem? (i := 487) (by decide +kernel), List.mem_of_getElem? (i := 488) (by decide +kernel)⟩
theorem lw_p3 : lw_okq (⟨"CutConformer$Part", "isWord", "(ILjava/lang/String;)Z"⟩, 2) := ⟨⟨by decide +kernel, by decide +kernel⟩, List.mem_of_getElem? (i := 28) (by decide +kernel), List.mem_of_getElem? (i := 513) (by decide +kernel), List.mem_of_getElem? (i := 514) (by decide +kernel)⟩
theorem lw_p4 : lw_okq (⟨"CutConformer$Trial", "map", "(LCutConformer$State;)Z"⟩, 5) := ⟨⟨by decide +kernel, by decide +kernel⟩, List.mem_of_getElem? (i := 175) (by decide +kernel), List.mem_of_getElem? (i := 593) (by decide +kernel), List.mem_of_getElem? (i := 594) (by decide +kernel)⟩
theorem lw_p5 : lw_okq (⟨"CutConformer$Trial", "findStretches", "(LCutConformer$Subtitle;LCutConformer$Cut;)V"⟩, 5) := ⟨⟨by decide +kernel, by decide +kernel⟩, List.mem_of_getElem? (i := 175) (by decide +kernel), List.mem_of_getElem? (i := 603) (by decide +kernel), List.mem_of_getElem? (i := 604) (by decide +kernel)⟩
theorem lw_p6 : lw_okq (⟨"CutConformer$Trial", "put", "(II)V"⟩, 5) := ⟨⟨by decide +kernel, by decide +kernel⟩, List.mem_of_getElem? (i := 175) (by decide +kernel), List.mem_of_getElem? (i := 612) (by decide +kernel), List.mem_of_getElem? (i := 613) (by decide +kernel)⟩
theorem lw_p7 : lw_okq (⟨"CutConformer$Trial", "merge", "()V"⟩, 5) := ⟨⟨by decide +kernel, by decide +kernel⟩, List.mem_of_getElem? (i := 175) (by decide +kernel), List.mem_of_getElem? (i := 620) (by decide +kernel), List.mem_of_getElem? (i := 621) (by decide +kernel)⟩
theorem lw_p8 : lw_okq (⟨"CutConformer$Trial", "stretch", "()V"⟩, 5) := ⟨⟨by decide +kernel, by decide +kernel⟩, List.mem_of_getElem? (i := 175) (by decide +kernel), List.mem_of_getElem? (i := 636) (by decide +kernel), List.mem_of_getElem? (i := 637) (by decide +kernel)⟩
theorem lw_p9 : lw_okq (⟨"CutConformer$Trial", "snap", "()V"⟩, 5) := ⟨⟨by decide +kernel, by decide +kernel⟩, List.mem_of_getElem? (i := 175) (by decide +kernel), List.mem_of_getElem? (i := 643) (by decide +kernel), List.mem_of_getElem? (i := 644) (by decide +kernel)⟩
theorem lw_p10 : lw_okq (⟨"CutConformer$Trial", "keepGaps", "()V"⟩, 5) := ⟨⟨by decide +kernel, by decide +kernel⟩, List.mem_of_getElem? (i := 175) (by decide +kernel), List.mem_of_getElem? (i := 653) (by decide +kernel), List.mem_of_getElem? (i := 654) (by decide +kernel)⟩
theorem lw_p11 : lw_okq (⟨"CutConformer", "hashSubtitle", "(JI)J"⟩, 5) := ⟨⟨by decide +kernel, by decide +kernel⟩, List.mem_of_getElem? (i := 20) (by decide +kernel), List.mem_of_getElem? (i := 733) (by decide +kernel), List.mem_of_getElem? (i := 734) (by decide +kernel)⟩
theorem lw_p12 : lw_okq (⟨"CutConformerModel", "newLong", "()I"⟩, 18) := ⟨⟨by decide +kernel, by decide +kernel⟩, List.mem_of_getElem? (i := 742) (by decide +kernel), List.mem_of_getElem? (i := 810) (by decide +kernel), List.mem_of_getElem? (i := 811) (by decide +kernel)⟩
theorem lw_p13 : lw_okq (⟨"CutConformerModel", "pieceNew", "(I)I"⟩, 18) := ⟨⟨by decide +kernel, by decide +kernel⟩, List.mem_of_getElem? (i := 742) (by decide +kernel), List.mem_of_getElem? (i := 814) (by decide +kernel), List.mem_of_getElem? (i := 815) (by decide +kernel)⟩
theorem lw_p14 : lw_okq (⟨"CutConformerModel", "pieceLong", "(I)I"⟩, 18) := ⟨⟨by decide +kernel, by decide +kernel⟩, List.mem_of_getElem? (i := 742) (by decide +kernel), List.mem_of_getElem? (i := 818) (by decide +kernel), List.mem_of_getElem? (i := 819) (by decide +kernel)⟩
theorem lw_p15 : lw_okq (⟨"CutConformerModel", "records", "()V"⟩, 18) := ⟨⟨by decide +kernel, by decide +kernel⟩, List.mem_of_getElem? (i := 742) (by decide +kernel), List.mem_of_getElem? (i := 822) (by decide +kernel), List.mem_of_getElem? (i := 823) (by decide +kernel)⟩
def lw_privs_1 : List (MethodName × Nat) := [(⟨"CutConformer", "firstWrongBlank", "()I"⟩, 5), (⟨"CutConformer$Track", "settle", "(I)I"⟩, 3), (⟨"CutConformer$Part", "longerLine", "(I)I"⟩, 2), (⟨"CutConformer$Part", "isWord", "(ILjava/lang/String;)Z"⟩, 2), (⟨"CutConformer$Trial", "map", "(LCutConformer$State;)Z"⟩, 5), (⟨"CutConformer$Trial", "findStretches", "(LCutConformer$Subtitle;LCutConformer$Cut;)V"⟩, 5), (⟨"CutConformer$Trial", "put", "(II)V"⟩, 5), (⟨"CutConformer$Trial", "merge", "()V"⟩, 5), (⟨"CutConformer$Trial", "stretch", "()V"⟩, 5), (⟨"CutConformer$Trial", "snap", "()V"⟩, 5), (⟨"CutConformer$Trial", "keepGaps", "()V"⟩, 5), (⟨"CutConformer", "hashSubtitle", "(JI)J"⟩, 5), (⟨"CutConformerModel", "newLong", "()I"⟩, 18), (⟨"CutConformerModel", "pieceNew", "(I)I"⟩, 18), (⟨"CutConformerModel", "pieceLong", "(I)I"⟩, 18), (⟨"CutConformerModel", "records", "()V"⟩, 18)]
theorem lw_r1 : ∀ q ∈ lw_privs_1, lw_okq q := List.forall_mem_cons.mpr ⟨lw_p0, List.forall_mem_cons.mpr ⟨lw_p1, List.forall_mem_cons.mpr ⟨lw_p2, List.forall_mem_cons.mpr ⟨lw_p3, List.forall_mem_cons.mpr ⟨lw_p4, List.forall_mem_cons.mpr ⟨lw_p5, List.forall_mem_cons.mpr ⟨lw_p6, List.forall_mem_cons.mpr ⟨lw_p7, List.forall_mem_cons.mpr ⟨lw_p8, List.forall_mem_cons.mpr ⟨lw_p9, List.forall_mem_cons.mpr ⟨lw_p10, List.forall_mem_cons.mpr ⟨lw_p11, List.forall_mem_cons.mpr ⟨lw_p12, List.forall_mem_cons.mpr ⟨lw_p13, List.forall_mem_cons.mpr ⟨lw_p14, List.forall_mem_cons.mpr ⟨lw_p15, fun _ h => absurd h List.not_mem_nil⟩⟩⟩⟩⟩⟩⟩⟩⟩⟩⟩⟩⟩⟩⟩⟩
theorem lw_p16 : lw_okq (⟨"CutConformerModel", "isPiece", "(I)Z"⟩, 18) := ⟨⟨by decide +kernel, by decide +kernel⟩, List.mem_of_getElem? (i := 742) (by decide +kernel), List.mem_of_getElem? (i := 830) (by decide +kernel), List.mem_of_getElem? (i := 831) (by decide +kernel)⟩
theorem lw_p17 : lw_okq (⟨"CutConformerModel", "pieceFirst", "(I)I"⟩, 18) := ⟨⟨by decide +kernel, by decide +kernel⟩, List.mem_of_getElem? (i := 742) (by decide +kernel), List.mem_of_getElem? (i := 838) (by decide +kernel), List.mem_of_getElem? (i := 839) (by decide +kernel)⟩
theorem lw_p18 : lw_okq (⟨"CutConformerModel", "isShot", "(I)Z"⟩, 18) := ⟨⟨by decide +kernel, by decide +kernel⟩, List.mem_of_getElem? (i := 742) (by decide +kernel), List.mem_of_getElem? (i := 846) (by decide +kernel), List.mem_of_getElem? (i := 847) (by decide +kernel)⟩
theorem lw_p19 : lw_okq (⟨"CutConformerModel", "wrongBlank", "()I"⟩, 18) := ⟨⟨by decide +kernel, by decide +kernel⟩, List.mem_of_getElem? (i := 742) (by decide +kernel), List.mem_of_getElem? (i := 877) (by decide +kernel), List.mem_of_getElem? (i := 878) (by decide +kernel)⟩
theorem lw_p20 : lw_okq (⟨"CutConformerModel", "takes", "()V"⟩, 18) := ⟨⟨by decide +kernel, by decide +kernel⟩, List.mem_of_getElem? (i := 742) (by decide +kernel), List.mem_of_getElem? (i := 881) (by decide +kernel), List.mem_of_getElem? (i := 882) (by decide +kernel)⟩
theorem lw_p21 : lw_okq (⟨"CutConformerModel", "at", "(I)I"⟩, 18) := ⟨⟨by decide +kernel, by decide +kernel⟩, List.mem_of_getElem? (i := 742) (by decide +kernel), List.mem_of_getElem? (i := 885) (by decide +kernel), List.mem_of_getElem? (i := 886) (by decide +kernel)⟩
theorem lw_p22 : lw_okq (⟨"CutConformerModel", "partAt", "(I)I"⟩, 18) := ⟨⟨by decide +kernel, by decide +kernel⟩, List.mem_of_getElem? (i := 742) (by decide +kernel), List.mem_of_getElem? (i := 889) (by decide +kernel), List.mem_of_getElem? (i := 890) (by decide +kernel)⟩
theorem lw_p23 : lw_okq (⟨"CutConformerModel", "inserts", "(III)V"⟩, 18) := ⟨⟨by decide +kernel, by decide +kernel⟩, List.mem_of_getElem? (i := 742) (by decide +kernel), List.mem_of_getElem? (i := 893) (by decide +kernel), List.mem_of_getElem? (i := 894) (by decide +kernel)⟩
theorem lw_p24 : lw_okq (⟨"CutConformerModel", "sets", "(IIII)V"⟩, 18) := ⟨⟨by decide +kernel, by decide +kernel⟩, List.mem_of_getElem? (i := 742) (by decide +kernel), List.mem_of_getElem? (i := 897) (by decide +kernel), List.mem_of_getElem? (i := 898) (by decide +kernel)⟩
theorem lw_p25 : lw_okq (⟨"CutConformerModel", "lays", "()V"⟩, 18) := ⟨⟨by decide +kernel, by decide +kernel⟩, List.mem_of_getElem? (i := 742) (by decide +kernel), List.mem_of_getElem? (i := 901) (by decide +kernel), List.mem_of_getElem? (i := 902) (by decide +kernel)⟩
theorem lw_p26 : lw_okq (⟨"CutConformerModel", "placeOf", "(I)I"⟩, 18) := ⟨⟨by decide +kernel, by decide +kernel⟩, List.mem_of_getElem? (i := 742) (by decide +kernel), List.mem_of_getElem? (i := 905) (by decide +kernel), List.mem_of_getElem? (i := 906) (by decide +kernel)⟩
theorem lw_p27 : lw_okq (⟨"CutConformerModel", "isSubtitle", "(I)Z"⟩, 18) := ⟨⟨by decide +kernel, by decide +kernel⟩, List.mem_of_getElem? (i := 742) (by decide +kernel), List.mem_of_getElem? (i := 913) (by decide +kernel), List.mem_of_getElem? (i := 914) (by decide +kernel)⟩
theorem lw_p28 : lw_okq (⟨"CutConformerModel", "empties", "()V"⟩, 18) := ⟨⟨by decide +kernel, by decide +kernel⟩, List.mem_of_getElem? (i := 742) (by decide +kernel), List.mem_of_getElem? (i := 917) (by decide +kernel), List.mem_of_getElem? (i := 918) (by decide +kernel)⟩
theorem lw_p29 : lw_okq (⟨"CutConformerModel", "subtitleOf", "(II)I"⟩, 18) := ⟨⟨by decide +kernel, by decide +kernel⟩, List.mem_of_getElem? (i := 742) (by decide +kernel), List.mem_of_getElem? (i := 929) (by decide +kernel), List.mem_of_getElem? (i := 930) (by decide +kernel)⟩
theorem lw_p30 : lw_okq (⟨"CutConformerModel", "charactersOf", "(I)I"⟩, 18) := ⟨⟨by decide +kernel, by decide +kernel⟩, List.mem_of_getElem? (i := 742) (by decide +kernel), List.mem_of_getElem? (i := 933) (by decide +kernel), List.mem_of_getElem? (i := 934) (by decide +kernel)⟩
theorem lw_p31 : lw_okq (⟨"CutConformerModel", "longOf", "(I)I"⟩, 18) := ⟨⟨by decide +kernel, by decide +kernel⟩, List.mem_of_getElem? (i := 742) (by decide +kernel), List.mem_of_getElem? (i := 937) (by decide +kernel), List.mem_of_getElem? (i := 938) (by decide +kernel)⟩
def lw_privs_2 : List (MethodName × Nat) := [(⟨"CutConformerModel", "isPiece", "(I)Z"⟩, 18), (⟨"CutConformerModel", "pieceFirst", "(I)I"⟩, 18), (⟨"CutConformerModel", "isShot", "(I)Z"⟩, 18), (⟨"CutConformerModel", "wrongBlank", "()I"⟩, 18), (⟨"CutConformerModel", "takes", "()V"⟩, 18), (⟨"CutConformerModel", "at", "(I)I"⟩, 18), (⟨"CutConformerModel", "partAt", "(I)I"⟩, 18), (⟨"CutConformerModel", "inserts", "(III)V"⟩, 18), (⟨"CutConformerModel", "sets", "(IIII)V"⟩, 18), (⟨"CutConformerModel", "lays", "()V"⟩, 18), (⟨"CutConformerModel", "placeOf", "(I)I"⟩, 18), (⟨"CutConformerModel", "isSubtitle", "(I)Z"⟩, 18), (⟨"CutConformerModel", "empties", "()V"⟩, 18), (⟨"CutConformerModel", "subtitleOf", "(II)I"⟩, 18), (⟨"CutConformerModel", "charactersOf", "(I)I"⟩, 18), (⟨"CutConformerModel", "longOf", "(I)I"⟩, 18)]
theorem lw_r2 : ∀ q ∈ lw_privs_2, lw_okq q := List.forall_mem_cons.mpr ⟨lw_p16, List.forall_mem_cons.mpr ⟨lw_p17, List.forall_mem_cons.mpr ⟨lw_p18, List.forall_mem_cons.mpr ⟨lw_p19, List.forall_mem_cons.mpr ⟨lw_p20, List.forall_mem_cons.mpr ⟨lw_p21, List.forall_mem_cons.mpr ⟨lw_p22, List.forall_mem_cons.mpr ⟨lw_p23, List.forall_mem_cons.mpr ⟨lw_p24, List.forall_mem_cons.mpr ⟨lw_p25, List.forall_mem_cons.mpr ⟨lw_p26, List.forall_mem_cons.mpr ⟨lw_p27, List.forall_mem_cons.mpr ⟨lw_p28, List.forall_mem_cons.mpr ⟨lw_p29, List.forall_mem_cons.mpr ⟨lw_p30, List.forall_mem_cons.mpr ⟨lw_p31, fun _ h => absurd h List.not_mem_nil⟩⟩⟩⟩⟩⟩⟩⟩⟩⟩⟩⟩⟩⟩⟩⟩
theorem lw_p32 : lw_okq (⟨"CutConformerModel", "readingOf", "(I)I"⟩, 18) := ⟨⟨by decide +kernel, by decide +kernel⟩, List.mem_of_getElem? (i := 742) (by decide +kernel), List.mem_of_getElem? (i := 941) (by decide +kernel), List.mem_of_getElem? (i := 942) (by decide +kernel)⟩
theorem lw_p33 : lw_okq (⟨"CutConformerModel", "setting", "(I)I"⟩, 18) := ⟨⟨by decide +kernel, by decide +kernel⟩, List.mem_of_getElem? (i := 742) (by decide +kernel), List.mem_of_getElem? (i := 945) (by decide +kernel), List.mem_of_getElem? (i := 946) (by decide +kernel)⟩
theorem lw_p34 : lw_okq (⟨"CutConformerModel", "faultsOf", "(I)I"⟩, 18) := ⟨⟨by decide +kernel, by decide +kernel⟩, List.mem_of_getElem? (i := 742) (by decide +kernel), List.mem_of_getElem? (i := 949) (by decide +kernel), List.mem_of_getElem? (i := 950) (by decide +kernel)⟩
theorem lw_p35 : lw_okq (⟨"CutConformerModel", "nextOf", "(I)I"⟩, 18) := ⟨⟨by decide +kernel, by decide +kernel⟩, List.mem_of_getElem? (i := 742) (by decide +kernel), List.mem_of_getElem? (i := 953) (by decide +kernel), List.mem_of_getElem? (i := 954) (by decide +kernel)⟩
theorem lw_p36 : lw_okq (⟨"CutConformerModel", "isOff", "(I)Z"⟩, 18) := ⟨⟨by decide +kernel, by decide +kernel⟩, List.mem_of_getElem? (i := 742) (by decide +kernel), List.mem_of_getElem? (i := 957) (by decide +kernel), List.mem_of_getElem? (i := 958) (by decide +kernel)⟩
theorem lw_p37 : lw_okq (⟨"CutConformerModel", "near", "(I)I"⟩, 18) := ⟨⟨by decide +kernel, by decide +kernel⟩, List.mem_of_getElem? (i := 742) (by decide +kernel), List.mem_of_getElem? (i := 961) (by decide +kernel), List.mem_of_getElem? (i := 962) (by decide +kernel)⟩
theorem lw_p38 : lw_okq (⟨"CutConformerModel", "isTooWide", "(I)Z"⟩, 18) := ⟨⟨by decide +kernel, by decide +kernel⟩, List.mem_of_getElem? (i := 742) (by decide +kernel), List.mem_of_getElem? (i := 965) (by decide +kernel), List.mem_of_getElem? (i := 966) (by decide +kernel)⟩
theorem lw_p39 : lw_okq (⟨"CutConformerModel", "brokenAt", "(I)I"⟩, 18) := ⟨⟨by decide +kernel, by decide +kernel⟩, List.mem_of_getElem? (i := 742) (by decide +kernel), List.mem_of_getElem? (i := 969) (by decide +kernel), List.mem_of_getElem? (i := 970) (by decide +kernel)⟩
theorem lw_p40 : lw_okq (⟨"CutConformerModel", "byteOf", "(II)I"⟩, 18) := ⟨⟨by decide +kernel, by decide +kernel⟩, List.mem_of_getElem? (i := 742) (by decide +kernel), List.mem_of_getElem? (i := 973) (by decide +kernel), List.mem_of_getElem? (i := 974) (by decide +kernel)⟩
theorem lw_p41 : lw_okq (⟨"CutConformerModel", "rankOf", "(II)I"⟩, 18) := ⟨⟨by decide +kernel, by decide +kernel⟩, List.mem_of_getElem? (i := 742) (by decide +kernel), List.mem_of_getElem? (i := 977) (by decide +kernel), List.mem_of_getElem? (i := 978) (by decide +kernel)⟩
theorem lw_p42 : lw_okq (⟨"CutConformerModel", "isWord", "(IIIII)Z"⟩, 18) := ⟨⟨by decide +kernel, by decide +kernel⟩, List.mem_of_getElem? (i := 742) (by decide +kernel), List.mem_of_getElem? (i := 981) (by decide +kernel), List.mem_of_getElem? (i := 982) (by decide +kernel)⟩
theorem lw_p43 : lw_okq (⟨"CutConformerModel", "partOf", "(II)I"⟩, 18) := ⟨⟨by decide +kernel, by decide +kernel⟩, List.mem_of_getElem? (i := 742) (by decide +kernel), List.mem_of_getElem? (i := 989) (by decide +kernel), List.mem_of_getElem? (i := 990) (by decide +kernel)⟩
theorem lw_p44 : lw_okq (⟨"CutConformerModel", "speakerOf", "(I)I"⟩, 18) := ⟨⟨by decide +kernel, by decide +kernel⟩, List.mem_of_getElem? (i := 742) (by decide +kernel), List.mem_of_getElem? (i := 993) (by decide +kernel), List.mem_of_getElem? (i := 994) (by decide +kernel)⟩
theorem lw_p45 : lw_okq (⟨"CutConformerModel", "conforms", "(I)Z"⟩, 18) := ⟨⟨by decide +kernel, by decide +kernel⟩, List.mem_of_getElem? (i := 742) (by decide +kernel), List.mem_of_getElem? (i := 1005) (by decide +kernel), List.mem_of_getElem? (i := 1006) (by decide +kernel)⟩
theorem lw_p46 : lw_okq (⟨"CutConformerModel", "maps", "()Z"⟩, 18) := ⟨⟨by decide +kernel, by decide +kernel⟩, List.mem_of_getElem? (i := 742) (by decide +kernel), List.mem_of_getElem? (i := 1009) (by decide +kernel), List.mem_of_getElem? (i := 1010) (by decide +kernel)⟩
theorem lw_p47 : lw_okq (⟨"CutConformerModel", "stretchesOf", "(IIIZ)Z"⟩, 18) := ⟨⟨by decide +kernel, by decide +kernel⟩, List.mem_of_getElem? (i := 742) (by decide +kernel), List.mem_of_getElem? (i := 1013) (by decide +kernel), List.mem_of_getElem? (i := 1014) (by decide +kernel)⟩
def lw_privs_3 : List (MethodName × Nat) := [(⟨"CutConformerModel", "readingOf", "(I)I"⟩, 18), (⟨"CutConformerModel", "setting", "(I)I"⟩, 18), (⟨"CutConformerModel", "faultsOf", "(I)I"⟩, 18), (⟨"CutConformerModel", "nextOf", "(I)I"⟩, 18), (⟨"CutConformerModel", "isOff", "(I)Z"⟩, 18), (⟨"CutConformerModel", "near", "(I)I"⟩, 18), (⟨"CutConformerModel", "isTooWide", "(I)Z"⟩, 18), (⟨"CutConformerModel", "brokenAt", "(I)I"⟩, 18), (⟨"CutConformerModel", "byteOf", "(II)I"⟩, 18), (⟨"CutConformerModel", "rankOf", "(II)I"⟩, 18), (⟨"CutConformerModel", "isWord", "(IIIII)Z"⟩, 18), (⟨"CutConformerModel", "partOf", "(II)I"⟩, 18), (⟨"CutConformerModel", "speakerOf", "(I)I"⟩, 18), (⟨"CutConformerModel", "conforms", "(I)Z"⟩, 18), (⟨"CutConformerModel", "maps", "()Z"⟩, 18), (⟨"CutConformerModel", "stretchesOf", "(IIIZ)Z"⟩, 18)]
theorem lw_r3 : ∀ q ∈ lw_privs_3, lw_okq q := List.forall_mem_cons.mpr ⟨lw_p32, List.forall_mem_cons.mpr ⟨lw_p33, List.forall_mem_cons.mpr ⟨lw_p34, List.forall_mem_cons.mpr ⟨lw_p35, List.forall_mem_cons.mpr ⟨lw_p36, List.forall_mem_cons.mpr ⟨lw_p37, List.forall_mem_cons.mpr ⟨lw_p38, List.forall_mem_cons.mpr ⟨lw_p39, List.forall_mem_cons.mpr ⟨lw_p40, List.forall_mem_cons.mpr ⟨lw_p41, List.forall_mem_cons.mpr ⟨lw_p42, List.forall_mem_cons.mpr ⟨lw_p43, List.forall_mem_cons.mpr ⟨lw_p44, List.forall_mem_cons.mpr ⟨lw_p45, List.forall_mem_cons.mpr ⟨lw_p46, List.forall_mem_cons.mpr ⟨lw_p47, fun _ h => absurd h List.not_mem_nil⟩⟩⟩⟩⟩⟩⟩⟩⟩⟩⟩⟩⟩⟩⟩⟩
theorem lw_p48 : lw_okq (⟨"CutConformerModel", "merges", "()V"⟩, 18) := ⟨⟨by decide +kernel, by decide +kernel⟩, List.mem_of_getElem? (i := 742) (by decide +kernel), List.mem_of_getElem? (i := 1017) (by decide +kernel), List.mem_of_getElem? (i := 1018) (by decide +kernel)⟩
theorem lw_p49 : lw_okq (⟨"CutConformerModel", "areOne", "(I)Z"⟩, 18) := ⟨⟨by decide +kernel, by decide +kernel⟩, List.mem_of_getElem? (i := 742) (by decide +kernel), List.mem_of_getElem? (i := 1021) (by decide +kernel), List.mem_of_getElem? (i := 1022) (by decide +kernel)⟩
theorem lw_p50 : lw_okq (⟨"CutConformerModel", "reads", "()V"⟩, 18) := ⟨⟨by decide +kernel, by decide +kernel⟩, List.mem_of_getElem? (i := 742) (by decide +kernel), List.mem_of_getElem? (i := 1025) (by decide +kernel), List.mem_of_getElem? (i := 1026) (by decide +kernel)⟩
theorem lw_p51 : lw_okq (⟨"CutConformerModel", "snaps", "()V"⟩, 18) := ⟨⟨by decide +kernel, by decide +kernel⟩, List.mem_of_getElem? (i := 742) (by decide +kernel), List.mem_of_getElem? (i := 1029) (by decide +kernel), List.mem_of_getElem? (i := 1030) (by decide +kernel)⟩
theorem lw_p52 : lw_okq (⟨"CutConformerModel", "separates", "()V"⟩, 18) := ⟨⟨by decide +kernel, by decide +kernel⟩, List.mem_of_getElem? (i := 742) (by decide +kernel), List.mem_of_getElem? (i := 1033) (by decide +kernel), List.mem_of_getElem? (i := 1034) (by decide +kernel)⟩
theorem lw_p53 : lw_okq (⟨"CutConformerModel", "wouldBe", "(II)I"⟩, 18) := ⟨⟨by decide +kernel, by decide +kernel⟩, List.mem_of_getElem? (i := 742) (by decide +kernel), List.mem_of_getElem? (i := 1041) (by decide +kernel), List.mem_of_getElem? (i := 1042) (by decide +kernel)⟩
theorem lw_p54 : lw_okq (⟨"CutConformerModel", "faultsMany", "(I)I"⟩, 18) := ⟨⟨by decide +kernel, by decide +kernel⟩, List.mem_of_getElem? (i := 742) (by decide +kernel), List.mem_of_getElem? (i := 1057) (by decide +kernel), List.mem_of_getElem? (i := 1058) (by decide +kernel)⟩
theorem lw_p55 : lw_okq (⟨"CutConformerModel", "doubles", "()I"⟩, 18) := ⟨⟨by decide +kernel, by decide +kernel⟩, List.mem_of_getElem? (i := 742) (by decide +kernel), List.mem_of_getElem? (i := 1065) (by decide +kernel), List.mem_of_getElem? (i := 1066) (by decide +kernel)⟩
theorem lw_p56 : lw_okq (⟨"CutConformerModel", "mixedSubtitle", "(JI)J"⟩, 18) := ⟨⟨by decide +kernel, by decide +kernel⟩, List.mem_of_getElem? (i := 742) (by decide +kernel), List.mem_of_getElem? (i := 1081) (by decide +kernel), List.mem_of_getElem? (i := 1082) (by decide +kernel)⟩
def lw_privs_4 : List (MethodName × Nat) := [(⟨"CutConformerModel", "merges", "()V"⟩, 18), (⟨"CutConformerModel", "areOne", "(I)Z"⟩, 18), (⟨"CutConformerModel", "reads", "()V"⟩, 18), (⟨"CutConformerModel", "snaps", "()V"⟩, 18), (⟨"CutConformerModel", "separates", "()V"⟩, 18), (⟨"CutConformerModel", "wouldBe", "(II)I"⟩, 18), (⟨"CutConformerModel", "faultsMany", "(I)I"⟩, 18), (⟨"CutConformerModel", "doubles", "()I"⟩, 18), (⟨"CutConformerModel", "mixedSubtitle", "(JI)J"⟩, 18)]
theorem lw_r4 : ∀ q ∈ lw_privs_4, lw_okq q := List.forall_mem_cons.mpr ⟨lw_p48, List.forall_mem_cons.mpr ⟨lw_p49, List.forall_mem_cons.mpr ⟨lw_p50, List.forall_mem_cons.mpr ⟨lw_p51, List.forall_mem_cons.mpr ⟨lw_p52, List.forall_mem_cons.mpr ⟨lw_p53, List.forall_mem_cons.mpr ⟨lw_p54, List.forall_mem_cons.mpr ⟨lw_p55, List.forall_mem_cons.mpr ⟨lw_p56, fun _ h => absurd h List.not_mem_nil⟩⟩⟩⟩⟩⟩⟩⟩⟩
def lw_privs : List (MethodName × Nat) := lw_privs_1 ++ (lw_privs_2 ++ (lw_privs_3 ++ (lw_privs_4)))
def lw_tbl : List Cond := k2_sels lw_privs ++ tables_1
theorem lw_privs_ok : ∀ q ∈ lw_privs, lw_okq q := by
  show ∀ q ∈ lw_privs_1 ++ (lw_privs_2 ++ (lw_privs_3 ++ (lw_privs_4))), lw_okq q
  exact List.forall_mem_append.mpr ⟨lw_r1, List.forall_mem_append.mpr ⟨lw_r2, List.forall_mem_append.mpr ⟨lw_r3, lw_r4⟩⟩⟩
-- ===== end of PART A; then your names; then what follows =====
end
section
/-! ===== BEGIN words of one list among another's, by their places ===== -/
/-! ===== END ===== -/

/-! ===== BEGIN printed: names, fields, word lists, decode rows ===== -/
def RX0 : String := "CutConformer$Cut"
def TX0 : u_T := fun k => match k with
  | 0 => ("CutConformer$Cut", "firsts", "[I", true)
  | 1 => ("CutConformer$Cut", "lengths", "[I", true)
  | _ => ("CutConformer$Cut", "count", "I", false)
def tyX0 : Nat → FieldType := fun k => match k with
  | 0 => .array .int
  | 1 => .array .int
  | _ => .int
abbrev wsX00 : List Cond := u_ws RX0 TX0 3
theorem nmX0 : ∀ a, a < 3 → ∀ b, b < 3 → a ≠ b → (TX0 a).2.1 ≠ (TX0 b).2.1 := by decide +kernel
theorem tyX0_ok : ∀ k, k < 3 → parseFieldDescriptor (TX0 k).2.2.1 = some (tyX0 k) := by decide +kernel
abbrev cX0_init : ByteArray := prog_2_method_1_code
def yX0_init : MethodName := ⟨RX0, "<init>", "()V"⟩
abbrev cX0_become : ByteArray := prog_2_method_2_code
def yX0_become : MethodName := ⟨RX0, "become", "(LCutConformer$Cut;)V"⟩
abbrev cX0_size : ByteArray := prog_2_method_3_code
def yX0_size : MethodName := ⟨RX0, "size", "()I"⟩
abbrev cX0_has : ByteArray := prog_2_method_4_code
def yX0_has : MethodName := ⟨RX0, "has", "(I)Z"⟩
abbrev cX0_firstOf : ByteArray := prog_2_method_5_code
def yX0_firstOf : MethodName := ⟨RX0, "firstOf", "(I)I"⟩
abbrev cX0_lengthOf : ByteArray := prog_2_method_6_code
def yX0_lengthOf : MethodName := ⟨RX0, "lengthOf", "(I)I"⟩
abbrev cX0_startOf : ByteArray := prog_2_method_7_code
def yX0_startOf : MethodName := ⟨RX0, "startOf", "(I)I"⟩
abbrev cX0_frames : ByteArray := prog_2_method_8_code
def yX0_frames : MethodName := ⟨RX0, "frames", "()I"⟩
abbrev cX0_append : ByteArray := prog_2_method_9_code
def yX0_append : MethodName := ⟨RX0, "append", "(II)V"⟩
abbrev cX0_remove : ByteArray := prog_2_method_10_code
def yX0_remove : MethodName := ⟨RX0, "remove", "(I)V"⟩
abbrev cX0_newFrame : ByteArray := prog_2_method_11_code
def yX0_newFrame : MethodName := ⟨RX0, "newFrame", "(II)I"⟩
abbrev cX0_oldFrame : ByteArray := prog_2_method_12_code
def yX0_oldFrame : MethodName := ⟨RX0, "oldFrame", "(I)I"⟩
def RX1 : String := "CutConformer$History"
def TX1 : u_T := fun k => match k with
  | 0 => ("CutConformer$History", "states", "[LCutConformer$State;", true)
  | 1 => ("CutConformer$History", "place", "I", false)
  | _ => ("CutConformer$History", "count", "I", false)
def tyX1 : Nat → FieldType := fun k => match k with
  | 0 => .array (.object "CutConformer$State")
  | 1 => .int
  | _ => .int
abbrev wsX10 : List Cond := u_ws RX1 TX1 3
theorem nmX1 : ∀ a, a < 3 → ∀ b, b < 3 → a ≠ b → (TX1 a).2.1 ≠ (TX1 b).2.1 := by decide +kernel
theorem tyX1_ok : ∀ k, k < 3 → parseFieldDescriptor (TX1 k).2.2.1 = some (tyX1 k) := by decide +kernel
abbrev cX1_init : ByteArray := prog_3_method_1_code
def yX1_init : MethodName := ⟨RX1, "<init>", "(LCutConformer$Part;)V"⟩
abbrev cX1_size : ByteArray := prog_3_method_2_code
def yX1_size : MethodName := ⟨RX1, "size", "()I"⟩
abbrev cX1_record : ByteArray := prog_3_method_3_code
def yX1_record : MethodName := ⟨RX1, "record", "(LCutConformer$State;)V"⟩
abbrev cX1_restore : ByteArray := prog_3_method_4_code
def yX1_restore : MethodName := ⟨RX1, "restore", "(LCutConformer$State;)V"⟩
def RX2 : String := "CutConformer$Part"
def TX2 : u_T := fun k => match k with
  | 0 => ("CutConformer$Part", "speaker", "I", true)
  | _ => ("CutConformer$Part", "text", "[B", true)
def tyX2 : Nat → FieldType := fun k => match k with
  | 0 => .int
  | _ => .array .byte
abbrev wsX20 : List Cond := u_ws RX2 TX2 2
theorem nmX2 : ∀ a, a < 2 → ∀ b, b < 2 → a ≠ b → (TX2 a).2.1 ≠ (TX2 b).2.1 := by decide +kernel
theorem tyX2_ok : ∀ k, k < 2 → parseFieldDescriptor (TX2 k).2.2.1 = some (tyX2 k) := by decide +kernel
abbrev cX2_init : ByteArray := prog_4_method_1_code
def yX2_init : MethodName := ⟨RX2, "<init>", "(I[BI)V"⟩
abbrev cX2_bytes : ByteArray := prog_4_method_2_code
def yX2_bytes : MethodName := ⟨RX2, "bytes", "()I"⟩
abbrev cX2_byteAt : ByteArray := prog_4_method_3_code
def yX2_byteAt : MethodName := ⟨RX2, "byteAt", "(I)I"⟩
abbrev cX2_brokenAt : ByteArray := prog_4_method_4_code
def yX2_brokenAt : MethodName := ⟨RX2, "brokenAt", "(I)I"⟩
abbrev cX2_isTooWide : ByteArray := prog_4_method_5_code
def yX2_isTooWide : MethodName := ⟨RX2, "isTooWide", "(I)Z"⟩
abbrev cX2_rankOf : ByteArray := prog_4_method_6_code
def yX2_rankOf : MethodName := ⟨RX2, "rankOf", "(I)I"⟩
abbrev cX2_longerLine : ByteArray := prog_4_method_7_code
def yX2_longerLine : MethodName := ⟨RX2, "longerLine", "(I)I"⟩
abbrev cX2_isWord : ByteArray := prog_4_method_8_code
def yX2_isWord : MethodName := ⟨RX2, "isWord", "(ILjava/lang/String;)Z"⟩
def RX3 : String := "CutConformer$Settings"
def TX3 : u_T := fun k => match k with
  | _ => ("CutConformer$Settings", "values", "[I", true)
def tyX3 : Nat → FieldType := fun k => match k with
  | _ => .array .int
abbrev wsX30 : List Cond := u_ws RX3 TX3 1
theorem nmX3 : ∀ a, a < 1 → ∀ b, b < 1 → a ≠ b → (TX3 a).2.1 ≠ (TX3 b).2.1 := by decide +kernel
theorem tyX3_ok : ∀ k, k < 1 → parseFieldDescriptor (TX3 k).2.2.1 = some (tyX3 k) := by decide +kernel
abbrev cX3_init : ByteArray := prog_5_method_1_code
def yX3_init : MethodName := ⟨RX3, "<init>", "()V"⟩
abbrev cX3_become : ByteArray := prog_5_method_2_code
def yX3_become : MethodName := ⟨RX3, "become", "(LCutConformer$Settings;)V"⟩
abbrev cX3_at : ByteArray := prog_5_method_3_code
def yX3_at : MethodName := ⟨RX3, "at", "(I)I"⟩
abbrev cX3_takes : ByteArray := prog_5_method_4_code
def yX3_takes : MethodName := ⟨RX3, "takes", "(II)Z"⟩
abbrev cX3_put : ByteArray := prog_5_method_5_code
def yX3_put : MethodName := ⟨RX3, "put", "(II)V"⟩
def RX4 : String := "CutConformer$Shots"
def TX4 : u_T := fun k => match k with
  | 0 => ("CutConformer$Shots", "frames", "[I", true)
  | _ => ("CutConformer$Shots", "count", "I", false)
def tyX4 : Nat → FieldType := fun k => match k with
  | 0 => .array .int
  | _ => .int
abbrev wsX40 : List Cond := u_ws RX4 TX4 2
theorem nmX4 : ∀ a, a < 2 → ∀ b, b < 2 → a ≠ b → (TX4 a).2.1 ≠ (TX4 b).2.1 := by decide +kernel
theorem tyX4_ok : ∀ k, k < 2 → parseFieldDescriptor (TX4 k).2.2.1 = some (tyX4 k) := by decide +kernel
abbrev cX4_init : ByteArray := prog_6_method_1_code
def yX4_init : MethodName := ⟨RX4, "<init>", "()V"⟩
abbrev cX4_become : ByteArray := prog_6_method_2_code
def yX4_become : MethodName := ⟨RX4, "become", "(LCutConformer$Shots;)V"⟩
abbrev cX4_size : ByteArray := prog_6_method_3_code
def yX4_size : MethodName := ⟨RX4, "size", "()I"⟩
abbrev cX4_at : ByteArray := prog_6_method_4_code
def yX4_at : MethodName := ⟨RX4, "at", "(I)I"⟩
abbrev cX4_has : ByteArray := prog_6_method_5_code
def yX4_has : MethodName := ⟨RX4, "has", "(I)Z"⟩
abbrev cX4_nearest : ByteArray := prog_6_method_6_code
def yX4_nearest : MethodName := ⟨RX4, "nearest", "(II)I"⟩
abbrev cX4_isMissed : ByteArray := prog_6_method_7_code
def yX4_isMissed : MethodName := ⟨RX4, "isMissed", "(II)Z"⟩
abbrev cX4_insert : ByteArray := prog_6_method_8_code
def yX4_insert : MethodName := ⟨RX4, "insert", "(I)V"⟩
abbrev cX4_remove : ByteArray := prog_6_method_9_code
def yX4_remove : MethodName := ⟨RX4, "remove", "(I)V"⟩
def RX5 : String := "CutConformer$State"
def TX5 : u_T := fun k => match k with
  | 0 => ("CutConformer$State", "cut", "LCutConformer$Cut;", true)
  | 1 => ("CutConformer$State", "shots", "LCutConformer$Shots;", true)
  | 2 => ("CutConformer$State", "settings", "LCutConformer$Settings;", true)
  | _ => ("CutConformer$State", "track", "LCutConformer$Track;", true)
def tyX5 : Nat → FieldType := fun k => match k with
  | 0 => .object "CutConformer$Cut"
  | 1 => .object "CutConformer$Shots"
  | 2 => .object "CutConformer$Settings"
  | _ => .object "CutConformer$Track"
abbrev wsX50 : List Cond := u_ws RX5 TX5 4
theorem nmX5 : ∀ a, a < 4 → ∀ b, b < 4 → a ≠ b → (TX5 a).2.1 ≠ (TX5 b).2.1 := by decide +kernel
theorem tyX5_ok : ∀ k, k < 4 → parseFieldDescriptor (TX5 k).2.2.1 = some (tyX5 k) := by decide +kernel
abbrev cX5_init : ByteArray := prog_7_method_1_code
def yX5_init : MethodName := ⟨RX5, "<init>", "(LCutConformer$Part;)V"⟩
abbrev cX5_become : ByteArray := prog_7_method_2_code
def yX5_become : MethodName := ⟨RX5, "become", "(LCutConformer$State;)V"⟩
abbrev cX5_readingLength : ByteArray := prog_7_method_3_code
def yX5_readingLength : MethodName := ⟨RX5, "readingLength", "(LCutConformer$Subtitle;)I"⟩
abbrev cX5_latestEnd : ByteArray := prog_7_method_4_code
def yX5_latestEnd : MethodName := ⟨RX5, "latestEnd", "(I)I"⟩
abbrev cX5_faultsOf : ByteArray := prog_7_method_5_code
def yX5_faultsOf : MethodName := ⟨RX5, "faultsOf", "(I)I"⟩
abbrev cX5_countFaulty : ByteArray := prog_7_method_6_code
def yX5_countFaulty : MethodName := ⟨RX5, "countFaulty", "(I)I"⟩
def RX6 : String := "CutConformer$Subtitle"
def TX6 : u_T := fun k => match k with
  | 0 => ("CutConformer$Subtitle", "first", "I", false)
  | 1 => ("CutConformer$Subtitle", "end", "I", false)
  | 2 => ("CutConformer$Subtitle", "parts", "I", false)
  | 3 => ("CutConformer$Subtitle", "one", "LCutConformer$Part;", false)
  | _ => ("CutConformer$Subtitle", "two", "LCutConformer$Part;", false)
def tyX6 : Nat → FieldType := fun k => match k with
  | 0 => .int
  | 1 => .int
  | 2 => .int
  | 3 => .object "CutConformer$Part"
  | _ => .object "CutConformer$Part"
abbrev wsX60 : List Cond := u_ws RX6 TX6 5
theorem nmX6 : ∀ a, a < 5 → ∀ b, b < 5 → a ≠ b → (TX6 a).2.1 ≠ (TX6 b).2.1 := by decide +kernel
theorem tyX6_ok : ∀ k, k < 5 → parseFieldDescriptor (TX6 k).2.2.1 = some (tyX6 k) := by decide +kernel
abbrev cX6_init : ByteArray := prog_8_method_1_code
def yX6_init : MethodName := ⟨RX6, "<init>", "(LCutConformer$Part;)V"⟩
abbrev cX6_become : ByteArray := prog_8_method_2_code
def yX6_become : MethodName := ⟨RX6, "become", "(LCutConformer$Subtitle;)V"⟩
abbrev cX6_length : ByteArray := prog_8_method_3_code
def yX6_length : MethodName := ⟨RX6, "length", "()I"⟩
abbrev cX6_characters : ByteArray := prog_8_method_4_code
def yX6_characters : MethodName := ⟨RX6, "characters", "()I"⟩
abbrev cX6_isTooWide : ByteArray := prog_8_method_5_code
def yX6_isTooWide : MethodName := ⟨RX6, "isTooWide", "(I)Z"⟩
abbrev cX6_overlaps : ByteArray := prog_8_method_6_code
def yX6_overlaps : MethodName := ⟨RX6, "overlaps", "(LCutConformer$Subtitle;)Z"⟩
abbrev cX6_takeIn : ByteArray := prog_8_method_7_code
def yX6_takeIn : MethodName := ⟨RX6, "takeIn", "(LCutConformer$Subtitle;)V"⟩
def RX7 : String := "CutConformer$Track"
def TX7 : u_T := fun k => match k with
  | 0 => ("CutConformer$Track", "rows", "[LCutConformer$Subtitle;", true)
  | 1 => ("CutConformer$Track", "missing", "LCutConformer$Subtitle;", true)
  | _ => ("CutConformer$Track", "count", "I", false)
def tyX7 : Nat → FieldType := fun k => match k with
  | 0 => .array (.object "CutConformer$Subtitle")
  | 1 => .object "CutConformer$Subtitle"
  | _ => .int
abbrev wsX70 : List Cond := u_ws RX7 TX7 3
theorem nmX7 : ∀ a, a < 3 → ∀ b, b < 3 → a ≠ b → (TX7 a).2.1 ≠ (TX7 b).2.1 := by decide +kernel
theorem tyX7_ok : ∀ k, k < 3 → parseFieldDescriptor (TX7 k).2.2.1 = some (tyX7 k) := by decide +kernel
abbrev cX7_init : ByteArray := prog_9_method_1_code
def yX7_init : MethodName := ⟨RX7, "<init>", "(LCutConformer$Part;)V"⟩
abbrev cX7_become : ByteArray := prog_9_method_2_code
def yX7_become : MethodName := ⟨RX7, "become", "(LCutConformer$Track;)V"⟩
abbrev cX7_size : ByteArray := prog_9_method_3_code
def yX7_size : MethodName := ⟨RX7, "size", "()I"⟩
abbrev cX7_isFull : ByteArray := prog_9_method_4_code
def yX7_isFull : MethodName := ⟨RX7, "isFull", "()Z"⟩
abbrev cX7_has : ByteArray := prog_9_method_5_code
def yX7_has : MethodName := ⟨RX7, "has", "(I)Z"⟩
abbrev cX7_at : ByteArray := prog_9_method_6_code
def yX7_at : MethodName := ⟨RX7, "at", "(I)LCutConformer$Subtitle;"⟩
abbrev cX7_empty : ByteArray := prog_9_method_7_code
def yX7_empty : MethodName := ⟨RX7, "empty", "()V"⟩
abbrev cX7_insert : ByteArray := prog_9_method_8_code
def yX7_insert : MethodName := ⟨RX7, "insert", "(IILCutConformer$Part;)I"⟩
abbrev cX7_insertLike : ByteArray := prog_9_method_9_code
def yX7_insertLike : MethodName := ⟨RX7, "insertLike", "(LCutConformer$Subtitle;II)V"⟩
abbrev cX7_remove : ByteArray := prog_9_method_10_code
def yX7_remove : MethodName := ⟨RX7, "remove", "(I)V"⟩
abbrev cX7_retime : ByteArray := prog_9_method_11_code
def yX7_retime : MethodName := ⟨RX7, "retime", "(III)I"⟩
abbrev cX7_settleAll : ByteArray := prog_9_method_12_code
def yX7_settleAll : MethodName := ⟨RX7, "settleAll", "()V"⟩
abbrev cX7_settle : ByteArray := prog_9_method_13_code
def yX7_settle : MethodName := ⟨RX7, "settle", "(I)I"⟩
abbrev cX7_next : ByteArray := prog_9_method_14_code
def yX7_next : MethodName := ⟨RX7, "next", "(I)I"⟩
abbrev cX7_sharesFirst : ByteArray := prog_9_method_15_code
def yX7_sharesFirst : MethodName := ⟨RX7, "sharesFirst", "(I)Z"⟩
abbrev cX7_allLengths : ByteArray := prog_9_method_16_code
def yX7_allLengths : MethodName := ⟨RX7, "allLengths", "()I"⟩
abbrev cX7_greatestEnd : ByteArray := prog_9_method_17_code
def yX7_greatestEnd : MethodName := ⟨RX7, "greatestEnd", "()I"⟩
abbrev cX7_countPairs : ByteArray := prog_9_method_18_code
def yX7_countPairs : MethodName := ⟨RX7, "countPairs", "()I"⟩
abbrev cX7_shownAt : ByteArray := prog_9_method_19_code
def yX7_shownAt : MethodName := ⟨RX7, "shownAt", "(I)I"⟩
def RX8 : String := "CutConformer$Trial"
def TX8 : u_T := fun k => match k with
  | 0 => ("CutConformer$Trial", "result", "LCutConformer$State;", true)
  | 1 => ("CutConformer$Trial", "lost", "I", false)
  | 2 => ("CutConformer$Trial", "begins", "[I", true)
  | 3 => ("CutConformer$Trial", "ends", "[I", true)
  | _ => ("CutConformer$Trial", "found", "I", false)
def tyX8 : Nat → FieldType := fun k => match k with
  | 0 => .object "CutConformer$State"
  | 1 => .int
  | 2 => .array .int
  | 3 => .array .int
  | _ => .int
abbrev wsX80 : List Cond := u_ws RX8 TX8 5
theorem nmX8 : ∀ a, a < 5 → ∀ b, b < 5 → a ≠ b → (TX8 a).2.1 ≠ (TX8 b).2.1 := by decide +kernel
theorem tyX8_ok : ∀ k, k < 5 → parseFieldDescriptor (TX8 k).2.2.1 = some (tyX8 k) := by decide +kernel
abbrev cX8_init : ByteArray := prog_10_method_1_code
def yX8_init : MethodName := ⟨RX8, "<init>", "(LCutConformer$Part;)V"⟩
abbrev cX8_carryOut : ByteArray := prog_10_method_2_code
def yX8_carryOut : MethodName := ⟨RX8, "carryOut", "(LCutConformer$State;I)Z"⟩
abbrev cX8_countStretches : ByteArray := prog_10_method_3_code
def yX8_countStretches : MethodName := ⟨RX8, "countStretches", "(LCutConformer$Subtitle;LCutConformer$Cut;)I"⟩
abbrev cX8_map : ByteArray := prog_10_method_4_code
def yX8_map : MethodName := ⟨RX8, "map", "(LCutConformer$State;)Z"⟩
abbrev cX8_findStretches : ByteArray := prog_10_method_5_code
def yX8_findStretches : MethodName := ⟨RX8, "findStretches", "(LCutConformer$Subtitle;LCutConformer$Cut;)V"⟩
abbrev cX8_put : ByteArray := prog_10_method_6_code
def yX8_put : MethodName := ⟨RX8, "put", "(II)V"⟩
abbrev cX8_merge : ByteArray := prog_10_method_7_code
def yX8_merge : MethodName := ⟨RX8, "merge", "()V"⟩
abbrev cX8_stretch : ByteArray := prog_10_method_8_code
def yX8_stretch : MethodName := ⟨RX8, "stretch", "()V"⟩
abbrev cX8_snap : ByteArray := prog_10_method_9_code
def yX8_snap : MethodName := ⟨RX8, "snap", "()V"⟩
abbrev cX8_keepGaps : ByteArray := prog_10_method_10_code
def yX8_keepGaps : MethodName := ⟨RX8, "keepGaps", "()V"⟩
def RX9 : String := "CutConformer"
def TX9 : u_T := fun k => match k with
  | 0 => ("CutConformer", "typed", "[B", true)
  | 1 => ("CutConformer", "typedBytes", "I", false)
  | 2 => ("CutConformer", "now", "LCutConformer$State;", true)
  | 3 => ("CutConformer", "trial", "LCutConformer$Trial;", true)
  | _ => ("CutConformer", "history", "LCutConformer$History;", true)
def tyX9 : Nat → FieldType := fun k => match k with
  | 0 => .array .byte
  | 1 => .int
  | 2 => .object "CutConformer$State"
  | 3 => .object "CutConformer$Trial"
  | _ => .object "CutConformer$History"
abbrev wsX90 : List Cond := u_ws RX9 TX9 5
theorem nmX9 : ∀ a, a < 5 → ∀ b, b < 5 → a ≠ b → (TX9 a).2.1 ≠ (TX9 b).2.1 := by decide +kernel
theorem tyX9_ok : ∀ k, k < 5 → parseFieldDescriptor (TX9 k).2.2.1 = some (tyX9 k) := by decide +kernel
abbrev cX9_init : ByteArray := prog_1_method_1_code
def yX9_init : MethodName := ⟨RX9, "<init>", "()V"⟩
abbrev cX9_piece : ByteArray := prog_1_method_2_code
def yX9_piece : MethodName := ⟨RX9, "piece", "(II)I"⟩
abbrev cX9_dropPiece : ByteArray := prog_1_method_3_code
def yX9_dropPiece : MethodName := ⟨RX9, "dropPiece", "(I)I"⟩
abbrev cX9_pieceAt : ByteArray := prog_1_method_4_code
def yX9_pieceAt : MethodName := ⟨RX9, "pieceAt", "(II)I"⟩
abbrev cX9_shot : ByteArray := prog_1_method_5_code
def yX9_shot : MethodName := ⟨RX9, "shot", "(IZ)I"⟩
abbrev cX9_shotAt : ByteArray := prog_1_method_6_code
def yX9_shotAt : MethodName := ⟨RX9, "shotAt", "(I)I"⟩
abbrev cX9_toNew : ByteArray := prog_1_method_7_code
def yX9_toNew : MethodName := ⟨RX9, "toNew", "(II)I"⟩
abbrev cX9_toOld : ByteArray := prog_1_method_8_code
def yX9_toOld : MethodName := ⟨RX9, "toOld", "(I)I"⟩
abbrev cX9_type : ByteArray := prog_1_method_9_code
def yX9_type : MethodName := ⟨RX9, "type", "(I)I"⟩
abbrev cX9_clear : ByteArray := prog_1_method_10_code
def yX9_clear : MethodName := ⟨RX9, "clear", "()I"⟩
abbrev cX9_add : ByteArray := prog_1_method_11_code
def yX9_add : MethodName := ⟨RX9, "add", "(III)I"⟩
abbrev cX9_drop : ByteArray := prog_1_method_12_code
def yX9_drop : MethodName := ⟨RX9, "drop", "(I)I"⟩
abbrev cX9_move : ByteArray := prog_1_method_13_code
def yX9_move : MethodName := ⟨RX9, "move", "(III)I"⟩
abbrev cX9_subtitle : ByteArray := prog_1_method_14_code
def yX9_subtitle : MethodName := ⟨RX9, "subtitle", "(II)I"⟩
abbrev cX9_part : ByteArray := prog_1_method_15_code
def yX9_part : MethodName := ⟨RX9, "part", "(III)I"⟩
abbrev cX9_set : ByteArray := prog_1_method_16_code
def yX9_set : MethodName := ⟨RX9, "set", "(II)I"⟩
abbrev cX9_conform : ByteArray := prog_1_method_17_code
def yX9_conform : MethodName := ⟨RX9, "conform", "(I)I"⟩
abbrev cX9_ifConform : ByteArray := prog_1_method_18_code
def yX9_ifConform : MethodName := ⟨RX9, "ifConform", "(II)I"⟩
abbrev cX9_stretches : ByteArray := prog_1_method_19_code
def yX9_stretches : MethodName := ⟨RX9, "stretches", "(I)I"⟩
abbrev cX9_shown : ByteArray := prog_1_method_20_code
def yX9_shown : MethodName := ⟨RX9, "shown", "(I)I"⟩
abbrev cX9_faults : ByteArray := prog_1_method_21_code
def yX9_faults : MethodName := ⟨RX9, "faults", "(I)I"⟩
abbrev cX9_told : ByteArray := prog_1_method_22_code
def yX9_told : MethodName := ⟨RX9, "told", "(I)I"⟩
abbrev cX9_undo : ByteArray := prog_1_method_23_code
def yX9_undo : MethodName := ⟨RX9, "undo", "()I"⟩
abbrev cX9_digest : ByteArray := prog_1_method_24_code
def yX9_digest : MethodName := ⟨RX9, "digest", "()J"⟩
abbrev cX9_hashSubtitle : ByteArray := prog_1_method_25_code
def yX9_hashSubtitle : MethodName := ⟨RX9, "hashSubtitle", "(JI)J"⟩
abbrev cX9_firstWrongBlank : ByteArray := prog_1_method_26_code
def yX9_firstWrongBlank : MethodName := ⟨RX9, "firstWrongBlank", "()I"⟩
abbrev cX9_isWithin : ByteArray := prog_1_method_27_code
def yX9_isWithin : MethodName := ⟨RX9, "isWithin", "(III)Z"⟩
abbrev cX9_isTime : ByteArray := prog_1_method_28_code
def yX9_isTime : MethodName := ⟨RX9, "isTime", "(II)Z"⟩
def RX10 : String := "CutConformerModel"
def TX10 : u_T := fun k => match k with
  | 0 => ("CutConformerModel", "page", "[I", true)
  | 1 => ("CutConformerModel", "remembered", "I", false)
  | 2 => ("CutConformerModel", "text", "[I", true)
  | 3 => ("CutConformerModel", "typed", "I", false)
  | 4 => ("CutConformerModel", "begins", "[I", true)
  | 5 => ("CutConformerModel", "ends", "[I", true)
  | 6 => ("CutConformerModel", "parts", "[I", true)
  | 7 => ("CutConformerModel", "one", "[I", true)
  | 8 => ("CutConformerModel", "two", "[I", true)
  | 9 => ("CutConformerModel", "many", "I", false)
  | 10 => ("CutConformerModel", "oldBegins", "[I", true)
  | 11 => ("CutConformerModel", "oldEnds", "[I", true)
  | 12 => ("CutConformerModel", "oldParts", "[I", true)
  | 13 => ("CutConformerModel", "oldOne", "[I", true)
  | 14 => ("CutConformerModel", "oldTwo", "[I", true)
  | 15 => ("CutConformerModel", "texts", "[I", true)
  | 16 => ("CutConformerModel", "stretchesMany", "I", false)
  | _ => ("CutConformerModel", "lost", "I", false)
def tyX10 : Nat → FieldType := fun k => match k with
  | 0 => .array .int
  | 1 => .int
  | 2 => .array .int
  | 3 => .int
  | 4 => .array .int
  | 5 => .array .int
  | 6 => .array .int
  | 7 => .array .int
  | 8 => .array .int
  | 9 => .int
  | 10 => .array .int
  | 11 => .array .int
  | 12 => .array .int
  | 13 => .array .int
  | 14 => .array .int
  | 15 => .array .int
  | 16 => .int
  | _ => .int
abbrev wsX100 : List Cond := u_ws RX10 TX10 18
theorem nmX10 : ∀ a, a < 18 → ∀ b, b < 18 → a ≠ b → (TX10 a).2.1 ≠ (TX10 b).2.1 := by decide +kernel
theorem tyX10_ok : ∀ k, k < 18 → parseFieldDescriptor (TX10 k).2.2.1 = some (tyX10 k) := by decide +kernel
abbrev cX10_init : ByteArray := prog_12_method_1_code
def yX10_init : MethodName := ⟨RX10, "<init>", "()V"⟩
abbrev cX10_in : ByteArray := prog_12_method_3_code
def yX10_in : MethodName := ⟨RX10, "in", "(III)Z"⟩
abbrev cX10_records : ByteArray := prog_12_method_4_code
def yX10_records : MethodName := ⟨RX10, "records", "()V"⟩
abbrev cX10_setting : ByteArray := prog_12_method_5_code
def yX10_setting : MethodName := ⟨RX10, "setting", "(I)I"⟩
abbrev cX10_pieceFirst : ByteArray := prog_12_method_6_code
def yX10_pieceFirst : MethodName := ⟨RX10, "pieceFirst", "(I)I"⟩
abbrev cX10_pieceLong : ByteArray := prog_12_method_7_code
def yX10_pieceLong : MethodName := ⟨RX10, "pieceLong", "(I)I"⟩
abbrev cX10_pieceNew : ByteArray := prog_12_method_8_code
def yX10_pieceNew : MethodName := ⟨RX10, "pieceNew", "(I)I"⟩
abbrev cX10_newLong : ByteArray := prog_12_method_9_code
def yX10_newLong : MethodName := ⟨RX10, "newLong", "()I"⟩
abbrev cX10_isPiece : ByteArray := prog_12_method_10_code
def yX10_isPiece : MethodName := ⟨RX10, "isPiece", "(I)Z"⟩
abbrev cX10_piece : ByteArray := prog_12_method_11_code
def yX10_piece : MethodName := ⟨RX10, "piece", "(II)I"⟩
abbrev cX10_dropPiece : ByteArray := prog_12_method_12_code
def yX10_dropPiece : MethodName := ⟨RX10, "dropPiece", "(I)I"⟩
abbrev cX10_pieceAt : ByteArray := prog_12_method_13_code
def yX10_pieceAt : MethodName := ⟨RX10, "pieceAt", "(II)I"⟩
abbrev cX10_isShot : ByteArray := prog_12_method_14_code
def yX10_isShot : MethodName := ⟨RX10, "isShot", "(I)Z"⟩
abbrev cX10_shot : ByteArray := prog_12_method_15_code
def yX10_shot : MethodName := ⟨RX10, "shot", "(IZ)I"⟩
abbrev cX10_shotAt : ByteArray := prog_12_method_16_code
def yX10_shotAt : MethodName := ⟨RX10, "shotAt", "(I)I"⟩
abbrev cX10_toNew : ByteArray := prog_12_method_17_code
def yX10_toNew : MethodName := ⟨RX10, "toNew", "(II)I"⟩
abbrev cX10_toOld : ByteArray := prog_12_method_18_code
def yX10_toOld : MethodName := ⟨RX10, "toOld", "(I)I"⟩
abbrev cX10_at : ByteArray := prog_12_method_19_code
def yX10_at : MethodName := ⟨RX10, "at", "(I)I"⟩
abbrev cX10_partAt : ByteArray := prog_12_method_20_code
def yX10_partAt : MethodName := ⟨RX10, "partAt", "(I)I"⟩
abbrev cX10_takes : ByteArray := prog_12_method_21_code
def yX10_takes : MethodName := ⟨RX10, "takes", "()V"⟩
abbrev cX10_empties : ByteArray := prog_12_method_22_code
def yX10_empties : MethodName := ⟨RX10, "empties", "()V"⟩
abbrev cX10_sets : ByteArray := prog_12_method_23_code
def yX10_sets : MethodName := ⟨RX10, "sets", "(IIII)V"⟩
abbrev cX10_inserts : ByteArray := prog_12_method_24_code
def yX10_inserts : MethodName := ⟨RX10, "inserts", "(III)V"⟩
abbrev cX10_lays : ByteArray := prog_12_method_25_code
def yX10_lays : MethodName := ⟨RX10, "lays", "()V"⟩
abbrev cX10_byteOf : ByteArray := prog_12_method_26_code
def yX10_byteOf : MethodName := ⟨RX10, "byteOf", "(II)I"⟩
abbrev cX10_longOf : ByteArray := prog_12_method_27_code
def yX10_longOf : MethodName := ⟨RX10, "longOf", "(I)I"⟩
abbrev cX10_isWord : ByteArray := prog_12_method_28_code
def yX10_isWord : MethodName := ⟨RX10, "isWord", "(IIIII)Z"⟩
abbrev cX10_rankOf : ByteArray := prog_12_method_29_code
def yX10_rankOf : MethodName := ⟨RX10, "rankOf", "(II)I"⟩
abbrev cX10_brokenAt : ByteArray := prog_12_method_30_code
def yX10_brokenAt : MethodName := ⟨RX10, "brokenAt", "(I)I"⟩
abbrev cX10_isTooWide : ByteArray := prog_12_method_31_code
def yX10_isTooWide : MethodName := ⟨RX10, "isTooWide", "(I)Z"⟩
abbrev cX10_charactersOf : ByteArray := prog_12_method_32_code
def yX10_charactersOf : MethodName := ⟨RX10, "charactersOf", "(I)I"⟩
abbrev cX10_readingOf : ByteArray := prog_12_method_33_code
def yX10_readingOf : MethodName := ⟨RX10, "readingOf", "(I)I"⟩
abbrev cX10_nextOf : ByteArray := prog_12_method_34_code
def yX10_nextOf : MethodName := ⟨RX10, "nextOf", "(I)I"⟩
abbrev cX10_near : ByteArray := prog_12_method_35_code
def yX10_near : MethodName := ⟨RX10, "near", "(I)I"⟩
abbrev cX10_isOff : ByteArray := prog_12_method_36_code
def yX10_isOff : MethodName := ⟨RX10, "isOff", "(I)Z"⟩
abbrev cX10_faultsOf : ByteArray := prog_12_method_37_code
def yX10_faultsOf : MethodName := ⟨RX10, "faultsOf", "(I)I"⟩
abbrev cX10_stretchesOf : ByteArray := prog_12_method_38_code
def yX10_stretchesOf : MethodName := ⟨RX10, "stretchesOf", "(IIIZ)Z"⟩
abbrev cX10_maps : ByteArray := prog_12_method_39_code
def yX10_maps : MethodName := ⟨RX10, "maps", "()Z"⟩
abbrev cX10_speakerOf : ByteArray := prog_12_method_40_code
def yX10_speakerOf : MethodName := ⟨RX10, "speakerOf", "(I)I"⟩
abbrev cX10_areOne : ByteArray := prog_12_method_41_code
def yX10_areOne : MethodName := ⟨RX10, "areOne", "(I)Z"⟩
abbrev cX10_merges : ByteArray := prog_12_method_42_code
def yX10_merges : MethodName := ⟨RX10, "merges", "()V"⟩
abbrev cX10_reads : ByteArray := prog_12_method_43_code
def yX10_reads : MethodName := ⟨RX10, "reads", "()V"⟩
abbrev cX10_snaps : ByteArray := prog_12_method_44_code
def yX10_snaps : MethodName := ⟨RX10, "snaps", "()V"⟩
abbrev cX10_separates : ByteArray := prog_12_method_45_code
def yX10_separates : MethodName := ⟨RX10, "separates", "()V"⟩
abbrev cX10_conforms : ByteArray := prog_12_method_46_code
def yX10_conforms : MethodName := ⟨RX10, "conforms", "(I)Z"⟩
abbrev cX10_type : ByteArray := prog_12_method_47_code
def yX10_type : MethodName := ⟨RX10, "type", "(I)I"⟩
abbrev cX10_clear : ByteArray := prog_12_method_48_code
def yX10_clear : MethodName := ⟨RX10, "clear", "()I"⟩
abbrev cX10_wrongBlank : ByteArray := prog_12_method_49_code
def yX10_wrongBlank : MethodName := ⟨RX10, "wrongBlank", "()I"⟩
abbrev cX10_areTimes : ByteArray := prog_12_method_50_code
def yX10_areTimes : MethodName := ⟨RX10, "areTimes", "(II)Z"⟩
abbrev cX10_add : ByteArray := prog_12_method_51_code
def yX10_add : MethodName := ⟨RX10, "add", "(III)I"⟩
abbrev cX10_placeOf : ByteArray := prog_12_method_52_code
def yX10_placeOf : MethodName := ⟨RX10, "placeOf", "(I)I"⟩
abbrev cX10_isSubtitle : ByteArray := prog_12_method_53_code
def yX10_isSubtitle : MethodName := ⟨RX10, "isSubtitle", "(I)Z"⟩
abbrev cX10_drop : ByteArray := prog_12_method_54_code
def yX10_drop : MethodName := ⟨RX10, "drop", "(I)I"⟩
abbrev cX10_move : ByteArray := prog_12_method_55_code
def yX10_move : MethodName := ⟨RX10, "move", "(III)I"⟩
abbrev cX10_subtitleOf : ByteArray := prog_12_method_56_code
def yX10_subtitleOf : MethodName := ⟨RX10, "subtitleOf", "(II)I"⟩
abbrev cX10_subtitle : ByteArray := prog_12_method_57_code
def yX10_subtitle : MethodName := ⟨RX10, "subtitle", "(II)I"⟩
abbrev cX10_partOf : ByteArray := prog_12_method_58_code
def yX10_partOf : MethodName := ⟨RX10, "partOf", "(II)I"⟩
abbrev cX10_part : ByteArray := prog_12_method_59_code
def yX10_part : MethodName := ⟨RX10, "part", "(III)I"⟩
abbrev cX10_set : ByteArray := prog_12_method_60_code
def yX10_set : MethodName := ⟨RX10, "set", "(II)I"⟩
abbrev cX10_conform : ByteArray := prog_12_method_61_code
def yX10_conform : MethodName := ⟨RX10, "conform", "(I)I"⟩
abbrev cX10_wouldBe : ByteArray := prog_12_method_62_code
def yX10_wouldBe : MethodName := ⟨RX10, "wouldBe", "(II)I"⟩
abbrev cX10_ifConform : ByteArray := prog_12_method_63_code
def yX10_ifConform : MethodName := ⟨RX10, "ifConform", "(II)I"⟩
abbrev cX10_stretches : ByteArray := prog_12_method_64_code
def yX10_stretches : MethodName := ⟨RX10, "stretches", "(I)I"⟩
abbrev cX10_shown : ByteArray := prog_12_method_65_code
def yX10_shown : MethodName := ⟨RX10, "shown", "(I)I"⟩
abbrev cX10_faultsMany : ByteArray := prog_12_method_66_code
def yX10_faultsMany : MethodName := ⟨RX10, "faultsMany", "(I)I"⟩
abbrev cX10_faults : ByteArray := prog_12_method_67_code
def yX10_faults : MethodName := ⟨RX10, "faults", "(I)I"⟩
abbrev cX10_doubles : ByteArray := prog_12_method_68_code
def yX10_doubles : MethodName := ⟨RX10, "doubles", "()I"⟩
abbrev cX10_told : ByteArray := prog_12_method_69_code
def yX10_told : MethodName := ⟨RX10, "told", "(I)I"⟩
abbrev cX10_undo : ByteArray := prog_12_method_70_code
def yX10_undo : MethodName := ⟨RX10, "undo", "()I"⟩
abbrev cX10_mixedSubtitle : ByteArray := prog_12_method_71_code
def yX10_mixedSubtitle : MethodName := ⟨RX10, "mixedSubtitle", "(JI)J"⟩
abbrev cX10_digest : ByteArray := prog_12_method_72_code
def yX10_digest : MethodName := ⟨RX10, "digest", "()J"⟩
def RJ6 : String := "java/lang/Integer"
def TJ6 : u_T := fun k => match k with
  | _ => ("", "", "", false)
def tyJ6 : Nat → FieldType := fun k => match k with
  | _ => .int
theorem nmJ6 : ∀ a, a < 0 → ∀ b, b < 0 → a ≠ b → (TJ6 a).2.1 ≠ (TJ6 b).2.1 := by decide +kernel
theorem tyJ6_ok : ∀ k, k < 0 → parseFieldDescriptor (TJ6 k).2.2.1 = some (tyJ6 k) := by decide +kernel
abbrev cJ6_bitCount_0f7a4 : ByteArray := prog_13_method_49_code
def yJ6_bitCount_0f7a4 : MethodName := ⟨RJ6, "bitCount", "(I)I"⟩
def RJ9 : String := "java/lang/Math"
def TJ9 : u_T := fun k => match k with
  | _ => ("", "", "", false)
def tyJ9 : Nat → FieldType := fun k => match k with
  | _ => .int
theorem nmJ9 : ∀ a, a < 0 → ∀ b, b < 0 → a ≠ b → (TJ9 a).2.1 ≠ (TJ9 b).2.1 := by decide +kernel
theorem tyJ9_ok : ∀ k, k < 0 → parseFieldDescriptor (TJ9 k).2.2.1 = some (tyJ9 k) := by decide +kernel
abbrev cJ9_abs_0f7a4 : ByteArray := prog_14_method_59_code
def yJ9_abs_0f7a4 : MethodName := ⟨RJ9, "abs", "(I)I"⟩
abbrev cJ9_max_7cf53 : ByteArray := prog_14_method_65_code
def yJ9_max_7cf53 : MethodName := ⟨RJ9, "max", "(II)I"⟩
abbrev cJ9_min_7cf53 : ByteArray := prog_14_method_69_code
def yJ9_min_7cf53 : MethodName := ⟨RJ9, "min", "(II)I"⟩
def RJ0 : String := "java/lang/String"
def TJ0 : u_T := fun k => match k with
  | _ => ("", "", "", false)
def tyJ0 : Nat → FieldType := fun k => match k with
  | _ => .int
theorem nmJ0 : ∀ a, a < 0 → ∀ b, b < 0 → a ≠ b → (TJ0 a).2.1 ≠ (TJ0 b).2.1 := by decide +kernel
theorem tyJ0_ok : ∀ k, k < 0 → parseFieldDescriptor (TJ0 k).2.2.1 = some (tyJ0 k) := by decide +kernel
abbrev cJ0_length_8abf5 : ByteArray := prog_15_method_54_code
def yJ0_length_8abf5 : MethodName := ⟨RJ0, "length", "()I"⟩
abbrev cJ0_charAt_5068e : ByteArray := prog_15_method_56_code
def yJ0_charAt_5068e : MethodName := ⟨RJ0, "charAt", "(I)C"⟩
abbrev cJ0_coder_7d493 : ByteArray := prog_15_method_152_code
def yJ0_coder_7d493 : MethodName := ⟨RJ0, "coder", "()B"⟩
abbrev cJ0_isLatin1_aae02 : ByteArray := prog_15_method_154_code
def yJ0_isLatin1_aae02 : MethodName := ⟨RJ0, "isLatin1", "()Z"⟩
abbrev cJ0_checkIndex_df160 : ByteArray := prog_15_method_155_code
def yJ0_checkIndex_df160 : MethodName := ⟨RJ0, "checkIndex", "(II)V"⟩
def RJ1 : String := "java/lang/StringLatin1"
def TJ1 : u_T := fun k => match k with
  | _ => ("", "", "", false)
def tyJ1 : Nat → FieldType := fun k => match k with
  | _ => .int
theorem nmJ1 : ∀ a, a < 0 → ∀ b, b < 0 → a ≠ b → (TJ1 a).2.1 ≠ (TJ1 b).2.1 := by decide +kernel
theorem tyJ1_ok : ∀ k, k < 0 → parseFieldDescriptor (TJ1 k).2.2.1 = some (tyJ1 k) := by decide +kernel
abbrev cJ1_charAt_3b067 : ByteArray := prog_16_method_2_code
def yJ1_charAt_3b067 : MethodName := ⟨RJ1, "charAt", "([BI)C"⟩
def RJ2 : String := "java/lang/StringUTF16"
def TJ2 : u_T := fun k => match k with
  | _ => ("", "", "", false)
def tyJ2 : Nat → FieldType := fun k => match k with
  | _ => .int
theorem nmJ2 : ∀ a, a < 0 → ∀ b, b < 0 → a ≠ b → (TJ2 a).2.1 ≠ (TJ2 b).2.1 := by decide +kernel
theorem tyJ2_ok : ∀ k, k < 0 → parseFieldDescriptor (TJ2 k).2.2.1 = some (tyJ2 k) := by decide +kernel
abbrev cJ2_getChar_3b067 : ByteArray := prog_17_method_5_code
def yJ2_getChar_3b067 : MethodName := ⟨RJ2, "getChar", "([BI)C"⟩
abbrev cJ2_length_9d52b : ByteArray := prog_17_method_6_code
def yJ2_length_9d52b : MethodName := ⟨RJ2, "length", "([B)I"⟩
abbrev cJ2_charAt_3b067 : ByteArray := prog_17_method_83_code
def yJ2_charAt_3b067 : MethodName := ⟨RJ2, "charAt", "([BI)C"⟩
abbrev cJ2_checkIndex_2214a : ByteArray := prog_17_method_91_code
def yJ2_checkIndex_2214a : MethodName := ⟨RJ2, "checkIndex", "(I[B)V"⟩
def RJ10 : String := "java/lang/System"
def TJ10 : u_T := fun k => match k with
  | _ => ("", "", "", false)
def tyJ10 : Nat → FieldType := fun k => match k with
  | _ => .int
theorem nmJ10 : ∀ a, a < 0 → ∀ b, b < 0 → a ≠ b → (TJ10 a).2.1 ≠ (TJ10 b).2.1 := by decide +kernel
theorem tyJ10_ok : ∀ k, k < 0 → parseFieldDescriptor (TJ10 k).2.2.1 = some (tyJ10 k) := by decide +kernel
def RJ3 : String := "jdk/internal/util/Preconditions"
def TJ3 : u_T := fun k => match k with
  | _ => ("", "", "", false)
def tyJ3 : Nat → FieldType := fun k => match k with
  | _ => .int
theorem nmJ3 : ∀ a, a < 0 → ∀ b, b < 0 → a ≠ b → (TJ3 a).2.1 ≠ (TJ3 b).2.1 := by decide +kernel
theorem tyJ3_ok : ∀ k, k < 0 → parseFieldDescriptor (TJ3 k).2.2.1 = some (tyJ3 k) := by decide +kernel
abbrev cJ3_checkIndex_8e157 : ByteArray := prog_19_method_11_code
def yJ3_checkIndex_8e157 : MethodName := ⟨RJ3, "checkIndex", "(IILjava/util/function/BiFunction;)I"⟩
def RL : String := "CutConformerLaw"
abbrev cL_law : ByteArray := code
def yL_law : MethodName := ⟨RL, "law", "([I)Z"⟩
abbrev vwCl : List vw_C := [(RX0, TX0, 3), (RX1, TX1, 3), (RX2, TX2, 2), (RX3, TX3, 1), (RX4, TX4, 2), (RX5, TX5, 4), (RX6, TX6, 5), (RX7, TX7, 3), (RX8, TX8, 5), (RX9, TX9, 5), (RX10, TX10, 18)]
end
section
theorem dX0_init_0 : decode cX0_init 0 = .ok (.aload_n 0, 1) := by decide +kernel
theorem dX0_init_1 : decode cX0_init 1 = .ok (.invokespecial 3, 3) := by decide +kernel
theorem dX0_init_4 : decode cX0_init 4 = .ok (.aload_n 0, 1) := by decide +kernel
theorem dX0_init_5 : decode cX0_init 5 = .ok (.bipush 10, 2) := by decide +kernel
theorem dX0_init_7 : decode cX0_init 7 = .ok (.newarray .int, 2) := by decide +kernel
theorem dX0_init_9 : decode cX0_init 9 = .ok (.putfield 9, 3) := by decide +kernel
theorem dX0_init_12 : decode cX0_init 12 = .ok (.aload_n 0, 1) := by decide +kernel
theorem dX0_init_13 : decode cX0_init 13 = .ok (.bipush 10, 2) := by decide +kernel
theorem dX0_init_15 : decode cX0_init 15 = .ok (.newarray .int, 2) := by decide +kernel
theorem dX0_init_17 : decode cX0_init 17 = .ok (.putfield 15, 3) := by decide +kernel
theorem dX0_init_20 : decode cX0_init 20 = .ok (.return_, 1) := by decide +kernel
theorem dX0_become_0 : decode cX0_become 0 = .ok (.aload_n 0, 1) := by decide +kernel
theorem dX0_become_1 : decode cX0_become 1 = .ok (.aload_n 1, 1) := by decide +kernel
theorem dX0_become_2 : decode cX0_become 2 = .ok (.getfield 18, 3) := by decide +kernel
theorem dX0_become_5 : decode cX0_become 5 = .ok (.putfield 18, 3) := by decide +kernel
theorem dX0_become_8 : decode cX0_become 8 = .ok (.aload_n 1, 1) := by decide +kernel
theorem dX0_become_9 : decode cX0_become 9 = .ok (.getfield 9, 3) := by decide +kernel
theorem dX0_become_12 : decode cX0_become 12 = .ok (.iconst 0, 1) := by decide +kernel
theorem dX0_become_13 : decode cX0_become 13 = .ok (.aload_n 0, 1) := by decide +kernel
theorem dX0_become_14 : decode cX0_become 14 = .ok (.getfield 9, 3) := by decide +kernel
theorem dX0_become_17 : decode cX0_become 17 = .ok (.iconst 0, 1) := by decide +kernel
theorem dX0_become_18 : decode cX0_become 18 = .ok (.bipush 10, 2) := by decide +kernel
theorem dX0_become_20 : decode cX0_become 20 = .ok (.invokestatic 22, 3) := by decide +kernel
theorem dX0_become_23 : decode cX0_become 23 = .ok (.aload_n 1, 1) := by decide +kernel
theorem dX0_become_24 : decode cX0_become 24 = .ok (.getfield 15, 3) := by decide +kernel
theorem dX0_become_27 : decode cX0_become 27 = .ok (.iconst 0, 1) := by decide +kernel
theorem dX0_become_28 : decode cX0_become 28 = .ok (.aload_n 0, 1) := by decide +kernel
theorem dX0_become_29 : decode cX0_become 29 = .ok (.getfield 15, 3) := by decide +kernel
theorem dX0_become_32 : decode cX0_become 32 = .ok (.iconst 0, 1) := by decide +kernel
theorem dX0_become_33 : decode cX0_become 33 = .ok (.bipush 10, 2) := by decide +kernel
theorem dX0_become_35 : decode cX0_become 35 = .ok (.invokestatic 22, 3) := by decide +kernel
theorem dX0_become_38 : decode cX0_become 38 = .ok (.return_, 1) := by decide +kernel
theorem dX0_size_0 : decode cX0_size 0 = .ok (.aload_n 0, 1) := by decide +kernel
theorem dX0_size_1 : decode cX0_size 1 = .ok (.getfield 18, 3) := by decide +kernel
theorem dX0_size_4 : decode cX0_size 4 = .ok (.ireturn, 1) := by decide +kernel
theorem dX0_has_0 : decode cX0_has 0 = .ok (.iload_n 1, 1) := by decide +kernel
theorem dX0_has_1 : decode cX0_has 1 = .ok (.ifCond .lt 15, 3) := by decide +kernel
theorem dX0_has_4 : decode cX0_has 4 = .ok (.iload_n 1, 1) := by decide +kernel
theorem dX0_has_5 : decode cX0_has 5 = .ok (.aload_n 0, 1) := by decide +kernel
theorem dX0_has_6 : decode cX0_has 6 = .ok (.getfield 18, 3) := by decide +kernel
theorem dX0_has_9 : decode cX0_has 9 = .ok (.if_icmp .ge 7, 3) := by decide +kernel
theorem dX0_has_12 : decode cX0_has 12 = .ok (.iconst 1, 1) := by decide +kernel
theorem dX0_has_13 : decode cX0_has 13 = .ok (.goto 4, 3) := by decide +kernel
theorem dX0_has_16 : decode cX0_has 16 = .ok (.iconst 0, 1) := by decide +kernel
theorem dX0_has_17 : decode cX0_has 17 = .ok (.ireturn, 1) := by decide +kernel
theorem dX0_firstOf_0 : decode cX0_firstOf 0 = .ok (.aload_n 0, 1) := by decide +kernel
theorem dX0_firstOf_1 : decode cX0_firstOf 1 = .ok (.iload_n 1, 1) := by decide +kernel
theorem dX0_firstOf_2 : decode cX0_firstOf 2 = .ok (.invokevirtual 28, 3) := by decide +kernel
theorem dX0_firstOf_5 : decode cX0_firstOf 5 = .ok (.ifCond .eq 12, 3) := by decide +kernel
theorem dX0_firstOf_8 : decode cX0_firstOf 8 = .ok (.aload_n 0, 1) := by decide +kernel
theorem dX0_firstOf_9 : decode cX0_firstOf 9 = .ok (.getfield 9, 3) := by decide +kernel
theorem dX0_firstOf_12 : decode cX0_firstOf 12 = .ok (.iload_n 1, 1) := by decide +kernel
theorem dX0_firstOf_13 : decode cX0_firstOf 13 = .ok (.iaload, 1) := by decide +kernel
theorem dX0_firstOf_14 : decode cX0_firstOf 14 = .ok (.goto 4, 3) := by decide +kernel
theorem dX0_firstOf_17 : decode cX0_firstOf 17 = .ok (.iconst 0, 1) := by decide +kernel
theorem dX0_firstOf_18 : decode cX0_firstOf 18 = .ok (.ireturn, 1) := by decide +kernel
theorem dX0_lengthOf_0 : decode cX0_lengthOf 0 = .ok (.aload_n 0, 1) := by decide +kernel
theorem dX0_lengthOf_1 : decode cX0_lengthOf 1 = .ok (.iload_n 1, 1) := by decide +kernel
theorem dX0_lengthOf_2 : decode cX0_lengthOf 2 = .ok (.invokevirtual 28, 3) := by decide +kernel
theorem dX0_lengthOf_5 : decode cX0_lengthOf 5 = .ok (.ifCond .eq 12, 3) := by decide +kernel
theorem dX0_lengthOf_8 : decode cX0_lengthOf 8 = .ok (.aload_n 0, 1) := by decide +kernel
theorem dX0_lengthOf_9 : decode cX0_lengthOf 9 = .ok (.getfield 15, 3) := by decide +kernel
theorem dX0_lengthOf_12 : decode cX0_lengthOf 12 = .ok (.iload_n 1, 1) := by decide +kernel
theorem dX0_lengthOf_13 : decode cX0_lengthOf 13 = .ok (.iaload, 1) := by decide +kernel
theorem dX0_lengthOf_14 : decode cX0_lengthOf 14 = .ok (.goto 4, 3) := by decide +kernel
theorem dX0_lengthOf_17 : decode cX0_lengthOf 17 = .ok (.iconst 0, 1) := by decide +kernel
theorem dX0_lengthOf_18 : decode cX0_lengthOf 18 = .ok (.ireturn, 1) := by decide +kernel
theorem dX0_startOf_0 : decode cX0_startOf 0 = .ok (.iconst 0, 1) := by decide +kernel
theorem dX0_startOf_1 : decode cX0_startOf 1 = .ok (.istore_n 2, 1) := by decide +kernel
theorem dX0_startOf_2 : decode cX0_startOf 2 = .ok (.iconst 0, 1) := by decide +kernel
theorem dX0_startOf_3 : decode cX0_startOf 3 = .ok (.istore_n 3, 1) := by decide +kernel
theorem dX0_startOf_4 : decode cX0_startOf 4 = .ok (.iload_n 3, 1) := by decide +kernel
theorem dX0_startOf_5 : decode cX0_startOf 5 = .ok (.iload_n 1, 1) := by decide +kernel
theorem dX0_startOf_6 : decode cX0_startOf 6 = .ok (.if_icmp .ge 26, 3) := by decide +kernel
theorem dX0_startOf_9 : decode cX0_startOf 9 = .ok (.iload_n 3, 1) := by decide +kernel
theorem dX0_startOf_10 : decode cX0_startOf 10 = .ok (.aload_n 0, 1) := by decide +kernel
theorem dX0_startOf_11 : decode cX0_startOf 11 = .ok (.getfield 18, 3) := by decide +kernel
theorem dX0_startOf_14 : decode cX0_startOf 14 = .ok (.if_icmp .ge 18, 3) := by decide +kernel
theorem dX0_startOf_17 : decode cX0_startOf 17 = .ok (.iload_n 2, 1) := by decide +kernel
theorem dX0_startOf_18 : decode cX0_startOf 18 = .ok (.aload_n 0, 1) := by decide +kernel
theorem dX0_startOf_19 : decode cX0_startOf 19 = .ok (.getfield 15, 3) := by decide +kernel
theorem dX0_startOf_22 : decode cX0_startOf 22 = .ok (.iload_n 3, 1) := by decide +kernel
theorem dX0_startOf_23 : decode cX0_startOf 23 = .ok (.iaload, 1) := by decide +kernel
theorem dX0_startOf_24 : decode cX0_startOf 24 = .ok (.iadd, 1) := by decide +kernel
theorem dX0_startOf_25 : decode cX0_startOf 25 = .ok (.istore_n 2, 1) := by decide +kernel
theorem dX0_startOf_26 : decode cX0_startOf 26 = .ok (.iinc 3 1, 3) := by decide +kernel
theorem dX0_startOf_29 : decode cX0_startOf 29 = .ok (.goto (-25), 3) := by decide +kernel
theorem dX0_startOf_32 : decode cX0_startOf 32 = .ok (.iload_n 2, 1) := by decide +kernel
theorem dX0_startOf_33 : decode cX0_startOf 33 = .ok (.ireturn, 1) := by decide +kernel
theorem dX0_frames_0 : decode cX0_frames 0 = .ok (.aload_n 0, 1) := by decide +kernel
theorem dX0_frames_1 : decode cX0_frames 1 = .ok (.aload_n 0, 1) := by decide +kernel
theorem dX0_frames_2 : decode cX0_frames 2 = .ok (.getfield 18, 3) := by decide +kernel
theorem dX0_frames_5 : decode cX0_frames 5 = .ok (.invokevirtual 32, 3) := by decide +kernel
theorem dX0_frames_8 : decode cX0_frames 8 = .ok (.ireturn, 1) := by decide +kernel
theorem dX0_append_0 : decode cX0_append 0 = .ok (.aload_n 0, 1) := by decide +kernel
theorem dX0_append_1 : decode cX0_append 1 = .ok (.getfield 18, 3) := by decide +kernel
theorem dX0_append_4 : decode cX0_append 4 = .ok (.bipush 10, 2) := by decide +kernel
theorem dX0_append_6 : decode cX0_append 6 = .ok (.if_icmp .lt 4, 3) := by decide +kernel
theorem dX0_append_9 : decode cX0_append 9 = .ok (.return_, 1) := by decide +kernel
theorem dX0_append_10 : decode cX0_append 10 = .ok (.aload_n 0, 1) := by decide +kernel
theorem dX0_append_11 : decode cX0_append 11 = .ok (.getfield 9, 3) := by decide +kernel
theorem dX0_append_14 : decode cX0_append 14 = .ok (.aload_n 0, 1) := by decide +kernel
theorem dX0_append_15 : decode cX0_append 15 = .ok (.getfield 18, 3) := by decide +kernel
theorem dX0_append_18 : decode cX0_append 18 = .ok (.iload_n 1, 1) := by decide +kernel
theorem dX0_append_19 : decode cX0_append 19 = .ok (.iastore, 1) := by decide +kernel
theorem dX0_append_20 : decode cX0_append 20 = .ok (.aload_n 0, 1) := by decide +kernel
theorem dX0_append_21 : decode cX0_append 21 = .ok (.getfield 15, 3) := by decide +kernel
theorem dX0_append_24 : decode cX0_append 24 = .ok (.aload_n 0, 1) := by decide +kernel
theorem dX0_append_25 : decode cX0_append 25 = .ok (.getfield 18, 3) := by decide +kernel
theorem dX0_append_28 : decode cX0_append 28 = .ok (.iload_n 2, 1) := by decide +kernel
theorem dX0_append_29 : decode cX0_append 29 = .ok (.iastore, 1) := by decide +kernel
theorem dX0_append_30 : decode cX0_append 30 = .ok (.aload_n 0, 1) := by decide +kernel
theorem dX0_append_31 : decode cX0_append 31 = .ok (.dup, 1) := by decide +kernel
theorem dX0_append_32 : decode cX0_append 32 = .ok (.getfield 18, 3) := by decide +kernel
theorem dX0_append_35 : decode cX0_append 35 = .ok (.iconst 1, 1) := by decide +kernel
theorem dX0_append_36 : decode cX0_append 36 = .ok (.iadd, 1) := by decide +kernel
theorem dX0_append_37 : decode cX0_append 37 = .ok (.putfield 18, 3) := by decide +kernel
theorem dX0_append_40 : decode cX0_append 40 = .ok (.return_, 1) := by decide +kernel
theorem dX0_remove_0 : decode cX0_remove 0 = .ok (.aload_n 0, 1) := by decide +kernel
theorem dX0_remove_1 : decode cX0_remove 1 = .ok (.iload_n 1, 1) := by decide +kernel
theorem dX0_remove_2 : decode cX0_remove 2 = .ok (.invokevirtual 28, 3) := by decide +kernel
theorem dX0_remove_5 : decode cX0_remove 5 = .ok (.ifCond .ne 4, 3) := by decide +kernel
theorem dX0_remove_8 : decode cX0_remove 8 = .ok (.return_, 1) := by decide +kernel
theorem dX0_remove_9 : decode cX0_remove 9 = .ok (.iload_n 1, 1) := by decide +kernel
theorem dX0_remove_10 : decode cX0_remove 10 = .ok (.istore_n 2, 1) := by decide +kernel
theorem dX0_remove_11 : decode cX0_remove 11 = .ok (.iload_n 2, 1) := by decide +kernel
theorem dX0_remove_12 : decode cX0_remove 12 = .ok (.iconst 1, 1) := by decide +kernel
theorem dX0_remove_13 : decode cX0_remove 13 = .ok (.iadd, 1) := by decide +kernel
theorem dX0_remove_14 : decode cX0_remove 14 = .ok (.aload_n 0, 1) := by decide +kernel
theorem dX0_remove_15 : decode cX0_remove 15 = .ok (.getfield 18, 3) := by decide +kernel
theorem dX0_remove_18 : decode cX0_remove 18 = .ok (.if_icmp .ge 37, 3) := by decide +kernel
theorem dX0_remove_21 : decode cX0_remove 21 = .ok (.aload_n 0, 1) := by decide +kernel
theorem dX0_remove_22 : decode cX0_remove 22 = .ok (.getfield 9, 3) := by decide +kernel
theorem dX0_remove_25 : decode cX0_remove 25 = .ok (.iload_n 2, 1) := by decide +kernel
theorem dX0_remove_26 : decode cX0_remove 26 = .ok (.aload_n 0, 1) := by decide +kernel
theorem dX0_remove_27 : decode cX0_remove 27 = .ok (.getfield 9, 3) := by decide +kernel
theorem dX0_remove_30 : decode cX0_remove 30 = .ok (.iload_n 2, 1) := by decide +kernel
theorem dX0_remove_31 : decode cX0_remove 31 = .ok (.iconst 1, 1) := by decide +kernel
theorem dX0_remove_32 : decode cX0_remove 32 = .ok (.iadd, 1) := by decide +kernel
theorem dX0_remove_33 : decode cX0_remove 33 = .ok (.iaload, 1) := by decide +kernel
theorem dX0_remove_34 : decode cX0_remove 34 = .ok (.iastore, 1) := by decide +kernel
theorem dX0_remove_35 : decode cX0_remove 35 = .ok (.aload_n 0, 1) := by decide +kernel
theorem dX0_remove_36 : decode cX0_remove 36 = .ok (.getfield 15, 3) := by decide +kernel
theorem dX0_remove_39 : decode cX0_remove 39 = .ok (.iload_n 2, 1) := by decide +kernel
theorem dX0_remove_40 : decode cX0_remove 40 = .ok (.aload_n 0, 1) := by decide +kernel
theorem dX0_remove_41 : decode cX0_remove 41 = .ok (.getfield 15, 3) := by decide +kernel
theorem dX0_remove_44 : decode cX0_remove 44 = .ok (.iload_n 2, 1) := by decide +kernel
theorem dX0_remove_45 : decode cX0_remove 45 = .ok (.iconst 1, 1) := by decide +kernel
theorem dX0_remove_46 : decode cX0_remove 46 = .ok (.iadd, 1) := by decide +kernel
theorem dX0_remove_47 : decode cX0_remove 47 = .ok (.iaload, 1) := by decide +kernel
theorem dX0_remove_48 : decode cX0_remove 48 = .ok (.iastore, 1) := by decide +kernel
theorem dX0_remove_49 : decode cX0_remove 49 = .ok (.iinc 2 1, 3) := by decide +kernel
theorem dX0_remove_52 : decode cX0_remove 52 = .ok (.goto (-41), 3) := by decide +kernel
theorem dX0_remove_55 : decode cX0_remove 55 = .ok (.aload_n 0, 1) := by decide +kernel
theorem dX0_remove_56 : decode cX0_remove 56 = .ok (.dup, 1) := by decide +kernel
theorem dX0_remove_57 : decode cX0_remove 57 = .ok (.getfield 18, 3) := by decide +kernel
theorem dX0_remove_60 : decode cX0_remove 60 = .ok (.iconst 1, 1) := by decide +kernel
theorem dX0_remove_61 : decode cX0_remove 61 = .ok (.isub, 1) := by decide +kernel
theorem dX0_remove_62 : decode cX0_remove 62 = .ok (.putfield 18, 3) := by decide +kernel
theorem dX0_remove_65 : decode cX0_remove 65 = .ok (.return_, 1) := by decide +kernel
theorem dX0_newFrame_0 : decode cX0_newFrame 0 = .ok (.iload_n 2, 1) := by decide +kernel
theorem dX0_newFrame_1 : decode cX0_newFrame 1 = .ok (.istore_n 3, 1) := by decide +kernel
theorem dX0_newFrame_2 : decode cX0_newFrame 2 = .ok (.iconst 0, 1) := by decide +kernel
theorem dX0_newFrame_3 : decode cX0_newFrame 3 = .ok (.istore 4, 2) := by decide +kernel
theorem dX0_newFrame_5 : decode cX0_newFrame 5 = .ok (.iconst 0, 1) := by decide +kernel
theorem dX0_newFrame_6 : decode cX0_newFrame 6 = .ok (.istore 5, 2) := by decide +kernel
theorem dX0_newFrame_8 : decode cX0_newFrame 8 = .ok (.iload 5, 2) := by decide +kernel
theorem dX0_newFrame_10 : decode cX0_newFrame 10 = .ok (.aload_n 0, 1) := by decide +kernel
theorem dX0_newFrame_11 : decode cX0_newFrame 11 = .ok (.getfield 18, 3) := by decide +kernel
theorem dX0_newFrame_14 : decode cX0_newFrame 14 = .ok (.if_icmp .ge 62, 3) := by decide +kernel
theorem dX0_newFrame_17 : decode cX0_newFrame 17 = .ok (.iload_n 1, 1) := by decide +kernel
theorem dX0_newFrame_18 : decode cX0_newFrame 18 = .ok (.aload_n 0, 1) := by decide +kernel
theorem dX0_newFrame_19 : decode cX0_newFrame 19 = .ok (.getfield 9, 3) := by decide +kernel
theorem dX0_newFrame_22 : decode cX0_newFrame 22 = .ok (.iload 5, 2) := by decide +kernel
theorem dX0_newFrame_24 : decode cX0_newFrame 24 = .ok (.iaload, 1) := by decide +kernel
theorem dX0_newFrame_25 : decode cX0_newFrame 25 = .ok (.isub, 1) := by decide +kernel
theorem dX0_newFrame_26 : decode cX0_newFrame 26 = .ok (.istore 6, 2) := by decide +kernel
theorem dX0_newFrame_28 : decode cX0_newFrame 28 = .ok (.iload 6, 2) := by decide +kernel
theorem dX0_newFrame_30 : decode cX0_newFrame 30 = .ok (.ifCond .lt 28, 3) := by decide +kernel
theorem dX0_newFrame_33 : decode cX0_newFrame 33 = .ok (.iload 6, 2) := by decide +kernel
theorem dX0_newFrame_35 : decode cX0_newFrame 35 = .ok (.aload_n 0, 1) := by decide +kernel
theorem dX0_newFrame_36 : decode cX0_newFrame 36 = .ok (.getfield 15, 3) := by decide +kernel
theorem dX0_newFrame_39 : decode cX0_newFrame 39 = .ok (.iload 5, 2) := by decide +kernel
theorem dX0_newFrame_41 : decode cX0_newFrame 41 = .ok (.iaload, 1) := by decide +kernel
theorem dX0_newFrame_42 : decode cX0_newFrame 42 = .ok (.if_icmp .ge 16, 3) := by decide +kernel
theorem dX0_newFrame_45 : decode cX0_newFrame 45 = .ok (.iload_n 3, 1) := by decide +kernel
theorem dX0_newFrame_46 : decode cX0_newFrame 46 = .ok (.ifCond .ne 9, 3) := by decide +kernel
theorem dX0_newFrame_49 : decode cX0_newFrame 49 = .ok (.iload 4, 2) := by decide +kernel
theorem dX0_newFrame_51 : decode cX0_newFrame 51 = .ok (.iload 6, 2) := by decide +kernel
theorem dX0_newFrame_53 : decode cX0_newFrame 53 = .ok (.iadd, 1) := by decide +kernel
theorem dX0_newFrame_54 : decode cX0_newFrame 54 = .ok (.ireturn, 1) := by decide +kernel
theorem dX0_newFrame_55 : decode cX0_newFrame 55 = .ok (.iinc 3 (-1), 3) := by decide +kernel
theorem dX0_newFrame_58 : decode cX0_newFrame 58 = .ok (.iload 4, 2) := by decide +kernel
theorem dX0_newFrame_60 : decode cX0_newFrame 60 = .ok (.aload_n 0, 1) := by decide +kernel
theorem dX0_newFrame_61 : decode cX0_newFrame 61 = .ok (.getfield 15, 3) := by decide +kernel
theorem dX0_newFrame_64 : decode cX0_newFrame 64 = .ok (.iload 5, 2) := by decide +kernel
theorem dX0_newFrame_66 : decode cX0_newFrame 66 = .ok (.iaload, 1) := by decide +kernel
theorem dX0_newFrame_67 : decode cX0_newFrame 67 = .ok (.iadd, 1) := by decide +kernel
theorem dX0_newFrame_68 : decode cX0_newFrame 68 = .ok (.istore 4, 2) := by decide +kernel
theorem dX0_newFrame_70 : decode cX0_newFrame 70 = .ok (.iinc 5 1, 3) := by decide +kernel
theorem dX0_newFrame_73 : decode cX0_newFrame 73 = .ok (.goto (-65), 3) := by decide +kernel
theorem dX0_newFrame_76 : decode cX0_newFrame 76 = .ok (.bipush (-9), 2) := by decide +kernel
theorem dX0_newFrame_78 : decode cX0_newFrame 78 = .ok (.ireturn, 1) := by decide +kernel
theorem dX0_oldFrame_0 : decode cX0_oldFrame 0 = .ok (.iload_n 1, 1) := by decide +kernel
theorem dX0_oldFrame_1 : decode cX0_oldFrame 1 = .ok (.istore_n 2, 1) := by decide +kernel
theorem dX0_oldFrame_2 : decode cX0_oldFrame 2 = .ok (.iconst 0, 1) := by decide +kernel
theorem dX0_oldFrame_3 : decode cX0_oldFrame 3 = .ok (.istore_n 3, 1) := by decide +kernel
theorem dX0_oldFrame_4 : decode cX0_oldFrame 4 = .ok (.iload_n 3, 1) := by decide +kernel
theorem dX0_oldFrame_5 : decode cX0_oldFrame 5 = .ok (.aload_n 0, 1) := by decide +kernel
theorem dX0_oldFrame_6 : decode cX0_oldFrame 6 = .ok (.getfield 18, 3) := by decide +kernel
theorem dX0_oldFrame_9 : decode cX0_oldFrame 9 = .ok (.if_icmp .ge 37, 3) := by decide +kernel
theorem dX0_oldFrame_12 : decode cX0_oldFrame 12 = .ok (.iload_n 2, 1) := by decide +kernel
theorem dX0_oldFrame_13 : decode cX0_oldFrame 13 = .ok (.aload_n 0, 1) := by decide +kernel
theorem dX0_oldFrame_14 : decode cX0_oldFrame 14 = .ok (.getfield 15, 3) := by decide +kernel
theorem dX0_oldFrame_17 : decode cX0_oldFrame 17 = .ok (.iload_n 3, 1) := by decide +kernel
theorem dX0_oldFrame_18 : decode cX0_oldFrame 18 = .ok (.iaload, 1) := by decide +kernel
theorem dX0_oldFrame_19 : decode cX0_oldFrame 19 = .ok (.if_icmp .ge 12, 3) := by decide +kernel
theorem dX0_oldFrame_22 : decode cX0_oldFrame 22 = .ok (.aload_n 0, 1) := by decide +kernel
theorem dX0_oldFrame_23 : decode cX0_oldFrame 23 = .ok (.getfield 9, 3) := by decide +kernel
theorem dX0_oldFrame_26 : decode cX0_oldFrame 26 = .ok (.iload_n 3, 1) := by decide +kernel
theorem dX0_oldFrame_27 : decode cX0_oldFrame 27 = .ok (.iaload, 1) := by decide +kernel
theorem dX0_oldFrame_28 : decode cX0_oldFrame 28 = .ok (.iload_n 2, 1) := by decide +kernel
theorem dX0_oldFrame_29 : decode cX0_oldFrame 29 = .ok (.iadd, 1) := by decide +kernel
theorem dX0_oldFrame_30 : decode cX0_oldFrame 30 = .ok (.ireturn, 1) := by decide +kernel
theorem dX0_oldFrame_31 : decode cX0_oldFrame 31 = .ok (.iload_n 2, 1) := by decide +kernel
theorem dX0_oldFrame_32 : decode cX0_oldFrame 32 = .ok (.aload_n 0, 1) := by decide +kernel
theorem dX0_oldFrame_33 : decode cX0_oldFrame 33 = .ok (.getfield 15, 3) := by decide +kernel
theorem dX0_oldFrame_36 : decode cX0_oldFrame 36 = .ok (.iload_n 3, 1) := by decide +kernel
theorem dX0_oldFrame_37 : decode cX0_oldFrame 37 = .ok (.iaload, 1) := by decide +kernel
theorem dX0_oldFrame_38 : decode cX0_oldFrame 38 = .ok (.isub, 1) := by decide +kernel
theorem dX0_oldFrame_39 : decode cX0_oldFrame 39 = .ok (.istore_n 2, 1) := by decide +kernel
theorem dX0_oldFrame_40 : decode cX0_oldFrame 40 = .ok (.iinc 3 1, 3) := by decide +kernel
theorem dX0_oldFrame_43 : decode cX0_oldFrame 43 = .ok (.goto (-39), 3) := by decide +kernel
theorem dX0_oldFrame_46 : decode cX0_oldFrame 46 = .ok (.bipush (-9), 2) := by decide +kernel
theorem dX0_oldFrame_48 : decode cX0_oldFrame 48 = .ok (.ireturn, 1) := by decide +kernel
theorem dX1_init_0 : decode cX1_init 0 = .ok (.aload_n 0, 1) := by decide +kernel
theorem dX1_init_1 : decode cX1_init 1 = .ok (.invokespecial 3, 3) := by decide +kernel
theorem dX1_init_4 : decode cX1_init 4 = .ok (.aload_n 0, 1) := by decide +kernel
theorem dX1_init_5 : decode cX1_init 5 = .ok (.bipush 8, 2) := by decide +kernel
theorem dX1_init_7 : decode cX1_init 7 = .ok (.anewarray 9, 3) := by decide +kernel
theorem dX1_init_10 : decode cX1_init 10 = .ok (.putfield 11, 3) := by decide +kernel
theorem dX1_init_13 : decode cX1_init 13 = .ok (.iconst 0, 1) := by decide +kernel
theorem dX1_init_14 : decode cX1_init 14 = .ok (.istore_n 2, 1) := by decide +kernel
theorem dX1_init_15 : decode cX1_init 15 = .ok (.iload_n 2, 1) := by decide +kernel
theorem dX1_init_16 : decode cX1_init 16 = .ok (.aload_n 0, 1) := by decide +kernel
theorem dX1_init_17 : decode cX1_init 17 = .ok (.getfield 11, 3) := by decide +kernel
theorem dX1_init_20 : decode cX1_init 20 = .ok (.arraylength, 1) := by decide +kernel
theorem dX1_init_21 : decode cX1_init 21 = .ok (.if_icmp .ge 23, 3) := by decide +kernel
theorem dX1_init_24 : decode cX1_init 24 = .ok (.aload_n 0, 1) := by decide +kernel
theorem dX1_init_25 : decode cX1_init 25 = .ok (.getfield 11, 3) := by decide +kernel
theorem dX1_init_28 : decode cX1_init 28 = .ok (.iload_n 2, 1) := by decide +kernel
theorem dX1_init_29 : decode cX1_init 29 = .ok (.new 9, 3) := by decide +kernel
theorem dX1_init_32 : decode cX1_init 32 = .ok (.dup, 1) := by decide +kernel
theorem dX1_init_33 : decode cX1_init 33 = .ok (.aload_n 1, 1) := by decide +kernel
theorem dX1_init_34 : decode cX1_init 34 = .ok (.invokespecial 17, 3) := by decide +kernel
theorem dX1_init_37 : decode cX1_init 37 = .ok (.aastore, 1) := by decide +kernel
theorem dX1_init_38 : decode cX1_init 38 = .ok (.iinc 2 1, 3) := by decide +kernel
theorem dX1_init_41 : decode cX1_init 41 = .ok (.goto (-26), 3) := by decide +kernel
theorem dX1_init_44 : decode cX1_init 44 = .ok (.return_, 1) := by decide +kernel
theorem dX1_size_0 : decode cX1_size 0 = .ok (.aload_n 0, 1) := by decide +kernel
theorem dX1_size_1 : decode cX1_size 1 = .ok (.getfield 20, 3) := by decide +kernel
theorem dX1_size_4 : decode cX1_size 4 = .ok (.ireturn, 1) := by decide +kernel
theorem dX1_record_0 : decode cX1_record 0 = .ok (.aload_n 0, 1) := by decide +kernel
theorem dX1_record_1 : decode cX1_record 1 = .ok (.getfield 11, 3) := by decide +kernel
theorem dX1_record_4 : decode cX1_record 4 = .ok (.aload_n 0, 1) := by decide +kernel
theorem dX1_record_5 : decode cX1_record 5 = .ok (.getfield 24, 3) := by decide +kernel
theorem dX1_record_8 : decode cX1_record 8 = .ok (.aaload, 1) := by decide +kernel
theorem dX1_record_9 : decode cX1_record 9 = .ok (.aload_n 1, 1) := by decide +kernel
theorem dX1_record_10 : decode cX1_record 10 = .ok (.invokevirtual 27, 3) := by decide +kernel
theorem dX1_record_13 : decode cX1_record 13 = .ok (.aload_n 0, 1) := by decide +kernel
theorem dX1_record_14 : decode cX1_record 14 = .ok (.aload_n 0, 1) := by decide +kernel
theorem dX1_record_15 : decode cX1_record 15 = .ok (.getfield 24, 3) := by decide +kernel
theorem dX1_record_18 : decode cX1_record 18 = .ok (.iconst 1, 1) := by decide +kernel
theorem dX1_record_19 : decode cX1_record 19 = .ok (.iadd, 1) := by decide +kernel
theorem dX1_record_20 : decode cX1_record 20 = .ok (.bipush 8, 2) := by decide +kernel
theorem dX1_record_22 : decode cX1_record 22 = .ok (.irem, 1) := by decide +kernel
theorem dX1_record_23 : decode cX1_record 23 = .ok (.putfield 24, 3) := by decide +kernel
theorem dX1_record_26 : decode cX1_record 26 = .ok (.aload_n 0, 1) := by decide +kernel
theorem dX1_record_27 : decode cX1_record 27 = .ok (.aload_n 0, 1) := by decide +kernel
theorem dX1_record_28 : decode cX1_record 28 = .ok (.getfield 20, 3) := by decide +kernel
theorem dX1_record_31 : decode cX1_record 31 = .ok (.iconst 1, 1) := by decide +kernel
theorem dX1_record_32 : decode cX1_record 32 = .ok (.iadd, 1) := by decide +kernel
theorem dX1_record_33 : decode cX1_record 33 = .ok (.bipush 8, 2) := by decide +kernel
theorem dX1_record_35 : decode cX1_record 35 = .ok (.invokestatic 31, 3) := by decide +kernel
theorem dX1_record_38 : decode cX1_record 38 = .ok (.putfield 20, 3) := by decide +kernel
theorem dX1_record_41 : decode cX1_record 41 = .ok (.return_, 1) := by decide +kernel
theorem dX1_restore_0 : decode cX1_restore 0 = .ok (.aload_n 0, 1) := by decide +kernel
theorem dX1_restore_1 : decode cX1_restore 1 = .ok (.getfield 20, 3) := by decide +kernel
theorem dX1_restore_4 : decode cX1_restore 4 = .ok (.ifCond .gt 4, 3) := by decide +kernel
theorem dX1_restore_7 : decode cX1_restore 7 = .ok (.return_, 1) := by decide +kernel
theorem dX1_restore_8 : decode cX1_restore 8 = .ok (.aload_n 0, 1) := by decide +kernel
theorem dX1_restore_9 : decode cX1_restore 9 = .ok (.aload_n 0, 1) := by decide +kernel
theorem dX1_restore_10 : decode cX1_restore 10 = .ok (.getfield 24, 3) := by decide +kernel
theorem dX1_restore_13 : decode cX1_restore 13 = .ok (.bipush 8, 2) := by decide +kernel
theorem dX1_restore_15 : decode cX1_restore 15 = .ok (.iadd, 1) := by decide +kernel
theorem dX1_restore_16 : decode cX1_restore 16 = .ok (.iconst 1, 1) := by decide +kernel
theorem dX1_restore_17 : decode cX1_restore 17 = .ok (.isub, 1) := by decide +kernel
theorem dX1_restore_18 : decode cX1_restore 18 = .ok (.bipush 8, 2) := by decide +kernel
theorem dX1_restore_20 : decode cX1_restore 20 = .ok (.irem, 1) := by decide +kernel
theorem dX1_restore_21 : decode cX1_restore 21 = .ok (.putfield 24, 3) := by decide +kernel
theorem dX1_restore_24 : decode cX1_restore 24 = .ok (.aload_n 1, 1) := by decide +kernel
theorem dX1_restore_25 : decode cX1_restore 25 = .ok (.aload_n 0, 1) := by decide +kernel
theorem dX1_restore_26 : decode cX1_restore 26 = .ok (.getfield 11, 3) := by decide +kernel
theorem dX1_restore_29 : decode cX1_restore 29 = .ok (.aload_n 0, 1) := by decide +kernel
theorem dX1_restore_30 : decode cX1_restore 30 = .ok (.getfield 24, 3) := by decide +kernel
theorem dX1_restore_33 : decode cX1_restore 33 = .ok (.aaload, 1) := by decide +kernel
theorem dX1_restore_34 : decode cX1_restore 34 = .ok (.invokevirtual 27, 3) := by decide +kernel
theorem dX1_restore_37 : decode cX1_restore 37 = .ok (.aload_n 0, 1) := by decide +kernel
theorem dX1_restore_38 : decode cX1_restore 38 = .ok (.dup, 1) := by decide +kernel
theorem dX1_restore_39 : decode cX1_restore 39 = .ok (.getfield 20, 3) := by decide +kernel
theorem dX1_restore_42 : decode cX1_restore 42 = .ok (.iconst 1, 1) := by decide +kernel
theorem dX1_restore_43 : decode cX1_restore 43 = .ok (.isub, 1) := by decide +kernel
theorem dX1_restore_44 : decode cX1_restore 44 = .ok (.putfield 20, 3) := by decide +kernel
theorem dX1_restore_47 : decode cX1_restore 47 = .ok (.return_, 1) := by decide +kernel
theorem dX2_init_0 : decode cX2_init 0 = .ok (.aload_n 0, 1) := by decide +kernel
theorem dX2_init_1 : decode cX2_init 1 = .ok (.invokespecial 3, 3) := by decide +kernel
theorem dX2_init_4 : decode cX2_init 4 = .ok (.iconst 0, 1) := by decide +kernel
theorem dX2_init_5 : decode cX2_init 5 = .ok (.iload_n 3, 1) := by decide +kernel
theorem dX2_init_6 : decode cX2_init 6 = .ok (.aload_n 2, 1) := by decide +kernel
theorem dX2_init_7 : decode cX2_init 7 = .ok (.arraylength, 1) := by decide +kernel
theorem dX2_init_8 : decode cX2_init 8 = .ok (.invokestatic 9, 3) := by decide +kernel
theorem dX2_init_11 : decode cX2_init 11 = .ok (.invokestatic 15, 3) := by decide +kernel
theorem dX2_init_14 : decode cX2_init 14 = .ok (.istore 4, 2) := by decide +kernel
theorem dX2_init_16 : decode cX2_init 16 = .ok (.aload_n 0, 1) := by decide +kernel
theorem dX2_init_17 : decode cX2_init 17 = .ok (.iload_n 1, 1) := by decide +kernel
theorem dX2_init_18 : decode cX2_init 18 = .ok (.putfield 18, 3) := by decide +kernel
theorem dX2_init_21 : decode cX2_init 21 = .ok (.aload_n 0, 1) := by decide +kernel
theorem dX2_init_22 : decode cX2_init 22 = .ok (.iload 4, 2) := by decide +kernel
theorem dX2_init_24 : decode cX2_init 24 = .ok (.newarray .byte, 2) := by decide +kernel
theorem dX2_init_26 : decode cX2_init 26 = .ok (.putfield 24, 3) := by decide +kernel
theorem dX2_init_29 : decode cX2_init 29 = .ok (.aload_n 2, 1) := by decide +kernel
theorem dX2_init_30 : decode cX2_init 30 = .ok (.iconst 0, 1) := by decide +kernel
theorem dX2_init_31 : decode cX2_init 31 = .ok (.aload_n 0, 1) := by decide +kernel
theorem dX2_init_32 : decode cX2_init 32 = .ok (.getfield 24, 3) := by decide +kernel
theorem dX2_init_35 : decode cX2_init 35 = .ok (.iconst 0, 1) := by decide +kernel
theorem dX2_init_36 : decode cX2_init 36 = .ok (.iload 4, 2) := by decide +kernel
theorem dX2_init_38 : decode cX2_init 38 = .ok (.invokestatic 28, 3) := by decide +kernel
theorem dX2_init_41 : decode cX2_init 41 = .ok (.return_, 1) := by decide +kernel
theorem dX2_bytes_0 : decode cX2_bytes 0 = .ok (.aload_n 0, 1) := by decide +kernel
theorem dX2_bytes_1 : decode cX2_bytes 1 = .ok (.getfield 24, 3) := by decide +kernel
theorem dX2_bytes_4 : decode cX2_bytes 4 = .ok (.arraylength, 1) := by decide +kernel
theorem dX2_bytes_5 : decode cX2_bytes 5 = .ok (.ireturn, 1) := by decide +kernel
theorem dX2_byteAt_0 : decode cX2_byteAt 0 = .ok (.iload_n 1, 1) := by decide +kernel
theorem dX2_byteAt_1 : decode cX2_byteAt 1 = .ok (.ifCond .lt 21, 3) := by decide +kernel
theorem dX2_byteAt_4 : decode cX2_byteAt 4 = .ok (.iload_n 1, 1) := by decide +kernel
theorem dX2_byteAt_5 : decode cX2_byteAt 5 = .ok (.aload_n 0, 1) := by decide +kernel
theorem dX2_byteAt_6 : decode cX2_byteAt 6 = .ok (.getfield 24, 3) := by decide +kernel
theorem dX2_byteAt_9 : decode cX2_byteAt 9 = .ok (.arraylength, 1) := by decide +kernel
theorem dX2_byteAt_10 : decode cX2_byteAt 10 = .ok (.if_icmp .ge 12, 3) := by decide +kernel
theorem dX2_byteAt_13 : decode cX2_byteAt 13 = .ok (.aload_n 0, 1) := by decide +kernel
theorem dX2_byteAt_14 : decode cX2_byteAt 14 = .ok (.getfield 24, 3) := by decide +kernel
theorem dX2_byteAt_17 : decode cX2_byteAt 17 = .ok (.iload_n 1, 1) := by decide +kernel
theorem dX2_byteAt_18 : decode cX2_byteAt 18 = .ok (.baload, 1) := by decide +kernel
theorem dX2_byteAt_19 : decode cX2_byteAt 19 = .ok (.goto 5, 3) := by decide +kernel
theorem dX2_byteAt_22 : decode cX2_byteAt 22 = .ok (.bipush (-9), 2) := by decide +kernel
theorem dX2_byteAt_24 : decode cX2_byteAt 24 = .ok (.ireturn, 1) := by decide +kernel
theorem dX2_brokenAt_0 : decode cX2_brokenAt 0 = .ok (.bipush (-9), 2) := by decide +kernel
theorem dX2_brokenAt_2 : decode cX2_brokenAt 2 = .ok (.istore_n 2, 1) := by decide +kernel
theorem dX2_brokenAt_3 : decode cX2_brokenAt 3 = .ok (.iconst 0, 1) := by decide +kernel
theorem dX2_brokenAt_4 : decode cX2_brokenAt 4 = .ok (.istore_n 3, 1) := by decide +kernel
theorem dX2_brokenAt_5 : decode cX2_brokenAt 5 = .ok (.aload_n 0, 1) := by decide +kernel
theorem dX2_brokenAt_6 : decode cX2_brokenAt 6 = .ok (.getfield 24, 3) := by decide +kernel
theorem dX2_brokenAt_9 : decode cX2_brokenAt 9 = .ok (.arraylength, 1) := by decide +kernel
theorem dX2_brokenAt_10 : decode cX2_brokenAt 10 = .ok (.iload_n 1, 1) := by decide +kernel
theorem dX2_brokenAt_11 : decode cX2_brokenAt 11 = .ok (.if_icmp .gt 5, 3) := by decide +kernel
theorem dX2_brokenAt_14 : decode cX2_brokenAt 14 = .ok (.iload_n 2, 1) := by decide +kernel
theorem dX2_brokenAt_15 : decode cX2_brokenAt 15 = .ok (.ireturn, 1) := by decide +kernel
theorem dX2_brokenAt_16 : decode cX2_brokenAt 16 = .ok (.iconst 0, 1) := by decide +kernel
theorem dX2_brokenAt_17 : decode cX2_brokenAt 17 = .ok (.istore 4, 2) := by decide +kernel
theorem dX2_brokenAt_19 : decode cX2_brokenAt 19 = .ok (.iload 4, 2) := by decide +kernel
theorem dX2_brokenAt_21 : decode cX2_brokenAt 21 = .ok (.aload_n 0, 1) := by decide +kernel
theorem dX2_brokenAt_22 : decode cX2_brokenAt 22 = .ok (.getfield 24, 3) := by decide +kernel
theorem dX2_brokenAt_25 : decode cX2_brokenAt 25 = .ok (.arraylength, 1) := by decide +kernel
theorem dX2_brokenAt_26 : decode cX2_brokenAt 26 = .ok (.if_icmp .ge 94, 3) := by decide +kernel
theorem dX2_brokenAt_29 : decode cX2_brokenAt 29 = .ok (.aload_n 0, 1) := by decide +kernel
theorem dX2_brokenAt_30 : decode cX2_brokenAt 30 = .ok (.getfield 24, 3) := by decide +kernel
theorem dX2_brokenAt_33 : decode cX2_brokenAt 33 = .ok (.iload 4, 2) := by decide +kernel
theorem dX2_brokenAt_35 : decode cX2_brokenAt 35 = .ok (.baload, 1) := by decide +kernel
theorem dX2_brokenAt_36 : decode cX2_brokenAt 36 = .ok (.bipush 32, 2) := by decide +kernel
theorem dX2_brokenAt_38 : decode cX2_brokenAt 38 = .ok (.if_icmp .eq 6, 3) := by decide +kernel
theorem dX2_brokenAt_41 : decode cX2_brokenAt 41 = .ok (.goto 73, 3) := by decide +kernel
theorem dX2_brokenAt_44 : decode cX2_brokenAt 44 = .ok (.aload_n 0, 1) := by decide +kernel
theorem dX2_brokenAt_45 : decode cX2_brokenAt 45 = .ok (.iload 4, 2) := by decide +kernel
theorem dX2_brokenAt_47 : decode cX2_brokenAt 47 = .ok (.invokevirtual 34, 3) := by decide +kernel
theorem dX2_brokenAt_50 : decode cX2_brokenAt 50 = .ok (.istore 5, 2) := by decide +kernel
theorem dX2_brokenAt_52 : decode cX2_brokenAt 52 = .ok (.aload_n 0, 1) := by decide +kernel
theorem dX2_brokenAt_53 : decode cX2_brokenAt 53 = .ok (.getfield 24, 3) := by decide +kernel
theorem dX2_brokenAt_56 : decode cX2_brokenAt 56 = .ok (.arraylength, 1) := by decide +kernel
theorem dX2_brokenAt_57 : decode cX2_brokenAt 57 = .ok (.iconst 1, 1) := by decide +kernel
theorem dX2_brokenAt_58 : decode cX2_brokenAt 58 = .ok (.isub, 1) := by decide +kernel
theorem dX2_brokenAt_59 : decode cX2_brokenAt 59 = .ok (.iload 5, 2) := by decide +kernel
theorem dX2_brokenAt_61 : decode cX2_brokenAt 61 = .ok (.isub, 1) := by decide +kernel
theorem dX2_brokenAt_62 : decode cX2_brokenAt 62 = .ok (.istore 6, 2) := by decide +kernel
theorem dX2_brokenAt_64 : decode cX2_brokenAt 64 = .ok (.iload 5, 2) := by decide +kernel
theorem dX2_brokenAt_66 : decode cX2_brokenAt 66 = .ok (.iload_n 1, 1) := by decide +kernel
theorem dX2_brokenAt_67 : decode cX2_brokenAt 67 = .ok (.if_icmp .le 12, 3) := by decide +kernel
theorem dX2_brokenAt_70 : decode cX2_brokenAt 70 = .ok (.sipush 1000, 3) := by decide +kernel
theorem dX2_brokenAt_73 : decode cX2_brokenAt 73 = .ok (.iload 5, 2) := by decide +kernel
theorem dX2_brokenAt_75 : decode cX2_brokenAt 75 = .ok (.iadd, 1) := by decide +kernel
theorem dX2_brokenAt_76 : decode cX2_brokenAt 76 = .ok (.goto 18, 3) := by decide +kernel
theorem dX2_brokenAt_79 : decode cX2_brokenAt 79 = .ok (.iload 5, 2) := by decide +kernel
theorem dX2_brokenAt_81 : decode cX2_brokenAt 81 = .ok (.iload 6, 2) := by decide +kernel
theorem dX2_brokenAt_83 : decode cX2_brokenAt 83 = .ok (.isub, 1) := by decide +kernel
theorem dX2_brokenAt_84 : decode cX2_brokenAt 84 = .ok (.bipush 6, 2) := by decide +kernel
theorem dX2_brokenAt_86 : decode cX2_brokenAt 86 = .ok (.aload_n 0, 1) := by decide +kernel
theorem dX2_brokenAt_87 : decode cX2_brokenAt 87 = .ok (.iload 4, 2) := by decide +kernel
theorem dX2_brokenAt_89 : decode cX2_brokenAt 89 = .ok (.invokevirtual 38, 3) := by decide +kernel
theorem dX2_brokenAt_92 : decode cX2_brokenAt 92 = .ok (.imul, 1) := by decide +kernel
theorem dX2_brokenAt_93 : decode cX2_brokenAt 93 = .ok (.iadd, 1) := by decide +kernel
theorem dX2_brokenAt_94 : decode cX2_brokenAt 94 = .ok (.istore 7, 2) := by decide +kernel
theorem dX2_brokenAt_96 : decode cX2_brokenAt 96 = .ok (.iload_n 2, 1) := by decide +kernel
theorem dX2_brokenAt_97 : decode cX2_brokenAt 97 = .ok (.bipush (-9), 2) := by decide +kernel
theorem dX2_brokenAt_99 : decode cX2_brokenAt 99 = .ok (.if_icmp .eq 9, 3) := by decide +kernel
theorem dX2_brokenAt_102 : decode cX2_brokenAt 102 = .ok (.iload 7, 2) := by decide +kernel
theorem dX2_brokenAt_104 : decode cX2_brokenAt 104 = .ok (.iload_n 3, 1) := by decide +kernel
theorem dX2_brokenAt_105 : decode cX2_brokenAt 105 = .ok (.if_icmp .ge 9, 3) := by decide +kernel
theorem dX2_brokenAt_108 : decode cX2_brokenAt 108 = .ok (.iload 4, 2) := by decide +kernel
theorem dX2_brokenAt_110 : decode cX2_brokenAt 110 = .ok (.istore_n 2, 1) := by decide +kernel
theorem dX2_brokenAt_111 : decode cX2_brokenAt 111 = .ok (.iload 7, 2) := by decide +kernel
theorem dX2_brokenAt_113 : decode cX2_brokenAt 113 = .ok (.istore_n 3, 1) := by decide +kernel
theorem dX2_brokenAt_114 : decode cX2_brokenAt 114 = .ok (.iinc 4 1, 3) := by decide +kernel
theorem dX2_brokenAt_117 : decode cX2_brokenAt 117 = .ok (.goto (-98), 3) := by decide +kernel
theorem dX2_brokenAt_120 : decode cX2_brokenAt 120 = .ok (.iload_n 2, 1) := by decide +kernel
theorem dX2_brokenAt_121 : decode cX2_brokenAt 121 = .ok (.ireturn, 1) := by decide +kernel
theorem dX2_isTooWide_0 : decode cX2_isTooWide 0 = .ok (.aload_n 0, 1) := by decide +kernel
theorem dX2_isTooWide_1 : decode cX2_isTooWide 1 = .ok (.getfield 24, 3) := by decide +kernel
theorem dX2_isTooWide_4 : decode cX2_isTooWide 4 = .ok (.arraylength, 1) := by decide +kernel
theorem dX2_isTooWide_5 : decode cX2_isTooWide 5 = .ok (.iload_n 1, 1) := by decide +kernel
theorem dX2_isTooWide_6 : decode cX2_isTooWide 6 = .ok (.if_icmp .le 7, 3) := by decide +kernel
theorem dX2_isTooWide_9 : decode cX2_isTooWide 9 = .ok (.iconst 1, 1) := by decide +kernel
theorem dX2_isTooWide_10 : decode cX2_isTooWide 10 = .ok (.goto 4, 3) := by decide +kernel
theorem dX2_isTooWide_13 : decode cX2_isTooWide 13 = .ok (.iconst 0, 1) := by decide +kernel
theorem dX2_isTooWide_14 : decode cX2_isTooWide 14 = .ok (.istore_n 2, 1) := by decide +kernel
theorem dX2_isTooWide_15 : decode cX2_isTooWide 15 = .ok (.iconst 0, 1) := by decide +kernel
theorem dX2_isTooWide_16 : decode cX2_isTooWide 16 = .ok (.istore_n 3, 1) := by decide +kernel
theorem dX2_isTooWide_17 : decode cX2_isTooWide 17 = .ok (.iload_n 2, 1) := by decide +kernel
theorem dX2_isTooWide_18 : decode cX2_isTooWide 18 = .ok (.ifCond .eq 40, 3) := by decide +kernel
theorem dX2_isTooWide_21 : decode cX2_isTooWide 21 = .ok (.iload_n 3, 1) := by decide +kernel
theorem dX2_isTooWide_22 : decode cX2_isTooWide 22 = .ok (.aload_n 0, 1) := by decide +kernel
theorem dX2_isTooWide_23 : decode cX2_isTooWide 23 = .ok (.getfield 24, 3) := by decide +kernel
theorem dX2_isTooWide_26 : decode cX2_isTooWide 26 = .ok (.arraylength, 1) := by decide +kernel
theorem dX2_isTooWide_27 : decode cX2_isTooWide 27 = .ok (.if_icmp .ge 31, 3) := by decide +kernel
theorem dX2_isTooWide_30 : decode cX2_isTooWide 30 = .ok (.aload_n 0, 1) := by decide +kernel
theorem dX2_isTooWide_31 : decode cX2_isTooWide 31 = .ok (.getfield 24, 3) := by decide +kernel
theorem dX2_isTooWide_34 : decode cX2_isTooWide 34 = .ok (.iload_n 3, 1) := by decide +kernel
theorem dX2_isTooWide_35 : decode cX2_isTooWide 35 = .ok (.baload, 1) := by decide +kernel
theorem dX2_isTooWide_36 : decode cX2_isTooWide 36 = .ok (.bipush 32, 2) := by decide +kernel
theorem dX2_isTooWide_38 : decode cX2_isTooWide 38 = .ok (.if_icmp .ne 14, 3) := by decide +kernel
theorem dX2_isTooWide_41 : decode cX2_isTooWide 41 = .ok (.aload_n 0, 1) := by decide +kernel
theorem dX2_isTooWide_42 : decode cX2_isTooWide 42 = .ok (.iload_n 3, 1) := by decide +kernel
theorem dX2_isTooWide_43 : decode cX2_isTooWide 43 = .ok (.invokevirtual 34, 3) := by decide +kernel
theorem dX2_isTooWide_46 : decode cX2_isTooWide 46 = .ok (.iload_n 1, 1) := by decide +kernel
theorem dX2_isTooWide_47 : decode cX2_isTooWide 47 = .ok (.if_icmp .gt 5, 3) := by decide +kernel
theorem dX2_isTooWide_50 : decode cX2_isTooWide 50 = .ok (.iconst 0, 1) := by decide +kernel
theorem dX2_isTooWide_51 : decode cX2_isTooWide 51 = .ok (.istore_n 2, 1) := by decide +kernel
theorem dX2_isTooWide_52 : decode cX2_isTooWide 52 = .ok (.iinc 3 1, 3) := by decide +kernel
theorem dX2_isTooWide_55 : decode cX2_isTooWide 55 = .ok (.goto (-38), 3) := by decide +kernel
theorem dX2_isTooWide_58 : decode cX2_isTooWide 58 = .ok (.iload_n 2, 1) := by decide +kernel
theorem dX2_isTooWide_59 : decode cX2_isTooWide 59 = .ok (.ireturn, 1) := by decide +kernel
theorem dX2_rankOf_0 : decode cX2_rankOf 0 = .ok (.aload_n 0, 1) := by decide +kernel
theorem dX2_rankOf_1 : decode cX2_rankOf 1 = .ok (.iload_n 1, 1) := by decide +kernel
theorem dX2_rankOf_2 : decode cX2_rankOf 2 = .ok (.iconst 1, 1) := by decide +kernel
theorem dX2_rankOf_3 : decode cX2_rankOf 3 = .ok (.isub, 1) := by decide +kernel
theorem dX2_rankOf_4 : decode cX2_rankOf 4 = .ok (.invokevirtual 41, 3) := by decide +kernel
theorem dX2_rankOf_7 : decode cX2_rankOf 7 = .ok (.istore_n 2, 1) := by decide +kernel
theorem dX2_rankOf_8 : decode cX2_rankOf 8 = .ok (.iload_n 2, 1) := by decide +kernel
theorem dX2_rankOf_9 : decode cX2_rankOf 9 = .ok (.bipush 46, 2) := by decide +kernel
theorem dX2_rankOf_11 : decode cX2_rankOf 11 = .ok (.if_icmp .eq 15, 3) := by decide +kernel
theorem dX2_rankOf_14 : decode cX2_rankOf 14 = .ok (.iload_n 2, 1) := by decide +kernel
theorem dX2_rankOf_15 : decode cX2_rankOf 15 = .ok (.bipush 33, 2) := by decide +kernel
theorem dX2_rankOf_17 : decode cX2_rankOf 17 = .ok (.if_icmp .eq 9, 3) := by decide +kernel
theorem dX2_rankOf_20 : decode cX2_rankOf 20 = .ok (.iload_n 2, 1) := by decide +kernel
theorem dX2_rankOf_21 : decode cX2_rankOf 21 = .ok (.bipush 63, 2) := by decide +kernel
theorem dX2_rankOf_23 : decode cX2_rankOf 23 = .ok (.if_icmp .ne 5, 3) := by decide +kernel
theorem dX2_rankOf_26 : decode cX2_rankOf 26 = .ok (.iconst 0, 1) := by decide +kernel
theorem dX2_rankOf_27 : decode cX2_rankOf 27 = .ok (.ireturn, 1) := by decide +kernel
theorem dX2_rankOf_28 : decode cX2_rankOf 28 = .ok (.iload_n 2, 1) := by decide +kernel
theorem dX2_rankOf_29 : decode cX2_rankOf 29 = .ok (.bipush 44, 2) := by decide +kernel
theorem dX2_rankOf_31 : decode cX2_rankOf 31 = .ok (.if_icmp .eq 9, 3) := by decide +kernel
theorem dX2_rankOf_34 : decode cX2_rankOf 34 = .ok (.iload_n 2, 1) := by decide +kernel
theorem dX2_rankOf_35 : decode cX2_rankOf 35 = .ok (.bipush 58, 2) := by decide +kernel
theorem dX2_rankOf_37 : decode cX2_rankOf 37 = .ok (.if_icmp .ne 5, 3) := by decide +kernel
theorem dX2_rankOf_40 : decode cX2_rankOf 40 = .ok (.iconst 1, 1) := by decide +kernel
theorem dX2_rankOf_41 : decode cX2_rankOf 41 = .ok (.ireturn, 1) := by decide +kernel
theorem dX2_rankOf_42 : decode cX2_rankOf 42 = .ok (.iload_n 1, 1) := by decide +kernel
theorem dX2_rankOf_43 : decode cX2_rankOf 43 = .ok (.iconst 1, 1) := by decide +kernel
theorem dX2_rankOf_44 : decode cX2_rankOf 44 = .ok (.iadd, 1) := by decide +kernel
theorem dX2_rankOf_45 : decode cX2_rankOf 45 = .ok (.istore_n 3, 1) := by decide +kernel
theorem dX2_rankOf_46 : decode cX2_rankOf 46 = .ok (.aload_n 0, 1) := by decide +kernel
theorem dX2_rankOf_47 : decode cX2_rankOf 47 = .ok (.iload_n 3, 1) := by decide +kernel
theorem dX2_rankOf_48 : decode cX2_rankOf 48 = .ok (.ldc 44, 2) := by decide +kernel
theorem dX2_rankOf_50 : decode cX2_rankOf 50 = .ok (.invokevirtual 46, 3) := by decide +kernel
theorem dX2_rankOf_53 : decode cX2_rankOf 53 = .ok (.ifCond .ne 23, 3) := by decide +kernel
theorem dX2_rankOf_56 : decode cX2_rankOf 56 = .ok (.aload_n 0, 1) := by decide +kernel
theorem dX2_rankOf_57 : decode cX2_rankOf 57 = .ok (.iload_n 3, 1) := by decide +kernel
theorem dX2_rankOf_58 : decode cX2_rankOf 58 = .ok (.ldc 50, 2) := by decide +kernel
theorem dX2_rankOf_60 : decode cX2_rankOf 60 = .ok (.invokevirtual 46, 3) := by decide +kernel
theorem dX2_rankOf_63 : decode cX2_rankOf 63 = .ok (.ifCond .ne 13, 3) := by decide +kernel
theorem dX2_rankOf_66 : decode cX2_rankOf 66 = .ok (.aload_n 0, 1) := by decide +kernel
theorem dX2_rankOf_67 : decode cX2_rankOf 67 = .ok (.iload_n 3, 1) := by decide +kernel
theorem dX2_rankOf_68 : decode cX2_rankOf 68 = .ok (.ldc 52, 2) := by decide +kernel
theorem dX2_rankOf_70 : decode cX2_rankOf 70 = .ok (.invokevirtual 46, 3) := by decide +kernel
theorem dX2_rankOf_73 : decode cX2_rankOf 73 = .ok (.ifCond .eq 7, 3) := by decide +kernel
theorem dX2_rankOf_76 : decode cX2_rankOf 76 = .ok (.iconst 2, 1) := by decide +kernel
theorem dX2_rankOf_77 : decode cX2_rankOf 77 = .ok (.goto 4, 3) := by decide +kernel
theorem dX2_rankOf_80 : decode cX2_rankOf 80 = .ok (.iconst 3, 1) := by decide +kernel
theorem dX2_rankOf_81 : decode cX2_rankOf 81 = .ok (.ireturn, 1) := by decide +kernel
theorem dX2_longerLine_0 : decode cX2_longerLine 0 = .ok (.aload_n 0, 1) := by decide +kernel
theorem dX2_longerLine_1 : decode cX2_longerLine 1 = .ok (.getfield 24, 3) := by decide +kernel
theorem dX2_longerLine_4 : decode cX2_longerLine 4 = .ok (.arraylength, 1) := by decide +kernel
theorem dX2_longerLine_5 : decode cX2_longerLine 5 = .ok (.iconst 1, 1) := by decide +kernel
theorem dX2_longerLine_6 : decode cX2_longerLine 6 = .ok (.isub, 1) := by decide +kernel
theorem dX2_longerLine_7 : decode cX2_longerLine 7 = .ok (.iload_n 1, 1) := by decide +kernel
theorem dX2_longerLine_8 : decode cX2_longerLine 8 = .ok (.isub, 1) := by decide +kernel
theorem dX2_longerLine_9 : decode cX2_longerLine 9 = .ok (.istore_n 2, 1) := by decide +kernel
theorem dX2_longerLine_10 : decode cX2_longerLine 10 = .ok (.iload_n 1, 1) := by decide +kernel
theorem dX2_longerLine_11 : decode cX2_longerLine 11 = .ok (.iload_n 2, 1) := by decide +kernel
theorem dX2_longerLine_12 : decode cX2_longerLine 12 = .ok (.if_icmp .le 7, 3) := by decide +kernel
theorem dX2_longerLine_15 : decode cX2_longerLine 15 = .ok (.iload_n 1, 1) := by decide +kernel
theorem dX2_longerLine_16 : decode cX2_longerLine 16 = .ok (.goto 4, 3) := by decide +kernel
theorem dX2_longerLine_19 : decode cX2_longerLine 19 = .ok (.iload_n 2, 1) := by decide +kernel
theorem dX2_longerLine_20 : decode cX2_longerLine 20 = .ok (.ireturn, 1) := by decide +kernel
theorem dX2_isWord_0 : decode cX2_isWord 0 = .ok (.iconst 0, 1) := by decide +kernel
theorem dX2_isWord_1 : decode cX2_isWord 1 = .ok (.istore_n 3, 1) := by decide +kernel
theorem dX2_isWord_2 : decode cX2_isWord 2 = .ok (.iload_n 3, 1) := by decide +kernel
theorem dX2_isWord_3 : decode cX2_isWord 3 = .ok (.aload_n 2, 1) := by decide +kernel
theorem dX2_isWord_4 : decode cX2_isWord 4 = .ok (.invokevirtual 54, 3) := by decide +kernel
theorem dX2_isWord_7 : decode cX2_isWord 7 = .ok (.if_icmp .ge 26, 3) := by decide +kernel
theorem dX2_isWord_10 : decode cX2_isWord 10 = .ok (.aload_n 0, 1) := by decide +kernel
theorem dX2_isWord_11 : decode cX2_isWord 11 = .ok (.iload_n 1, 1) := by decide +kernel
theorem dX2_isWord_12 : decode cX2_isWord 12 = .ok (.iload_n 3, 1) := by decide +kernel
theorem dX2_isWord_13 : decode cX2_isWord 13 = .ok (.iadd, 1) := by decide +kernel
theorem dX2_isWord_14 : decode cX2_isWord 14 = .ok (.invokevirtual 41, 3) := by decide +kernel
theorem dX2_isWord_17 : decode cX2_isWord 17 = .ok (.aload_n 2, 1) := by decide +kernel
theorem dX2_isWord_18 : decode cX2_isWord 18 = .ok (.iload_n 3, 1) := by decide +kernel
theorem dX2_isWord_19 : decode cX2_isWord 19 = .ok (.invokevirtual 60, 3) := by decide +kernel
theorem dX2_isWord_22 : decode cX2_isWord 22 = .ok (.if_icmp .eq 5, 3) := by decide +kernel
theorem dX2_isWord_25 : decode cX2_isWord 25 = .ok (.iconst 0, 1) := by decide +kernel
theorem dX2_isWord_26 : decode cX2_isWord 26 = .ok (.ireturn, 1) := by decide +kernel
theorem dX2_isWord_27 : decode cX2_isWord 27 = .ok (.iinc 3 1, 3) := by decide +kernel
theorem dX2_isWord_30 : decode cX2_isWord 30 = .ok (.goto (-28), 3) := by decide +kernel
theorem dX2_isWord_33 : decode cX2_isWord 33 = .ok (.aload_n 0, 1) := by decide +kernel
theorem dX2_isWord_34 : decode cX2_isWord 34 = .ok (.iload_n 1, 1) := by decide +kernel
theorem dX2_isWord_35 : decode cX2_isWord 35 = .ok (.aload_n 2, 1) := by decide +kernel
theorem dX2_isWord_36 : decode cX2_isWord 36 = .ok (.invokevirtual 54, 3) := by decide +kernel
theorem dX2_isWord_39 : decode cX2_isWord 39 = .ok (.iadd, 1) := by decide +kernel
theorem dX2_isWord_40 : decode cX2_isWord 40 = .ok (.invokevirtual 41, 3) := by decide +kernel
theorem dX2_isWord_43 : decode cX2_isWord 43 = .ok (.istore_n 3, 1) := by decide +kernel
theorem dX2_isWord_44 : decode cX2_isWord 44 = .ok (.iload_n 3, 1) := by decide +kernel
theorem dX2_isWord_45 : decode cX2_isWord 45 = .ok (.bipush 32, 2) := by decide +kernel
theorem dX2_isWord_47 : decode cX2_isWord 47 = .ok (.if_icmp .eq 9, 3) := by decide +kernel
theorem dX2_isWord_50 : decode cX2_isWord 50 = .ok (.iload_n 3, 1) := by decide +kernel
theorem dX2_isWord_51 : decode cX2_isWord 51 = .ok (.bipush (-9), 2) := by decide +kernel
theorem dX2_isWord_53 : decode cX2_isWord 53 = .ok (.if_icmp .ne 7, 3) := by decide +kernel
theorem dX2_isWord_56 : decode cX2_isWord 56 = .ok (.iconst 1, 1) := by decide +kernel
theorem dX2_isWord_57 : decode cX2_isWord 57 = .ok (.goto 4, 3) := by decide +kernel
theorem dX2_isWord_60 : decode cX2_isWord 60 = .ok (.iconst 0, 1) := by decide +kernel
theorem dX2_isWord_61 : decode cX2_isWord 61 = .ok (.ireturn, 1) := by decide +kernel
theorem dX3_init_0 : decode cX3_init 0 = .ok (.aload_n 0, 1) := by decide +kernel
theorem dX3_init_1 : decode cX3_init 1 = .ok (.invokespecial 1, 3) := by decide +kernel
theorem dX3_init_4 : decode cX3_init 4 = .ok (.aload_n 0, 1) := by decide +kernel
theorem dX3_init_5 : decode cX3_init 5 = .ok (.getstatic 7, 3) := by decide +kernel
theorem dX3_init_8 : decode cX3_init 8 = .ok (.arraylength, 1) := by decide +kernel
theorem dX3_init_9 : decode cX3_init 9 = .ok (.newarray .int, 2) := by decide +kernel
theorem dX3_init_11 : decode cX3_init 11 = .ok (.putfield 13, 3) := by decide +kernel
theorem dX3_init_14 : decode cX3_init 14 = .ok (.getstatic 7, 3) := by decide +kernel
theorem dX3_init_17 : decode cX3_init 17 = .ok (.iconst 0, 1) := by decide +kernel
theorem dX3_init_18 : decode cX3_init 18 = .ok (.aload_n 0, 1) := by decide +kernel
theorem dX3_init_19 : decode cX3_init 19 = .ok (.getfield 13, 3) := by decide +kernel
theorem dX3_init_22 : decode cX3_init 22 = .ok (.iconst 0, 1) := by decide +kernel
theorem dX3_init_23 : decode cX3_init 23 = .ok (.aload_n 0, 1) := by decide +kernel
theorem dX3_init_24 : decode cX3_init 24 = .ok (.getfield 13, 3) := by decide +kernel
theorem dX3_init_27 : decode cX3_init 27 = .ok (.arraylength, 1) := by decide +kernel
theorem dX3_init_28 : decode cX3_init 28 = .ok (.invokestatic 18, 3) := by decide +kernel
theorem dX3_init_31 : decode cX3_init 31 = .ok (.return_, 1) := by decide +kernel
theorem dX3_become_0 : decode cX3_become 0 = .ok (.aload_n 1, 1) := by decide +kernel
theorem dX3_become_1 : decode cX3_become 1 = .ok (.getfield 13, 3) := by decide +kernel
theorem dX3_become_4 : decode cX3_become 4 = .ok (.iconst 0, 1) := by decide +kernel
theorem dX3_become_5 : decode cX3_become 5 = .ok (.aload_n 0, 1) := by decide +kernel
theorem dX3_become_6 : decode cX3_become 6 = .ok (.getfield 13, 3) := by decide +kernel
theorem dX3_become_9 : decode cX3_become 9 = .ok (.iconst 0, 1) := by decide +kernel
theorem dX3_become_10 : decode cX3_become 10 = .ok (.aload_n 0, 1) := by decide +kernel
theorem dX3_become_11 : decode cX3_become 11 = .ok (.getfield 13, 3) := by decide +kernel
theorem dX3_become_14 : decode cX3_become 14 = .ok (.arraylength, 1) := by decide +kernel
theorem dX3_become_15 : decode cX3_become 15 = .ok (.invokestatic 18, 3) := by decide +kernel
theorem dX3_become_18 : decode cX3_become 18 = .ok (.return_, 1) := by decide +kernel
theorem dX3_at_0 : decode cX3_at 0 = .ok (.iload_n 1, 1) := by decide +kernel
theorem dX3_at_1 : decode cX3_at 1 = .ok (.ifCond .lt 21, 3) := by decide +kernel
theorem dX3_at_4 : decode cX3_at 4 = .ok (.iload_n 1, 1) := by decide +kernel
theorem dX3_at_5 : decode cX3_at 5 = .ok (.aload_n 0, 1) := by decide +kernel
theorem dX3_at_6 : decode cX3_at 6 = .ok (.getfield 13, 3) := by decide +kernel
theorem dX3_at_9 : decode cX3_at 9 = .ok (.arraylength, 1) := by decide +kernel
theorem dX3_at_10 : decode cX3_at 10 = .ok (.if_icmp .ge 12, 3) := by decide +kernel
theorem dX3_at_13 : decode cX3_at 13 = .ok (.aload_n 0, 1) := by decide +kernel
theorem dX3_at_14 : decode cX3_at 14 = .ok (.getfield 13, 3) := by decide +kernel
theorem dX3_at_17 : decode cX3_at 17 = .ok (.iload_n 1, 1) := by decide +kernel
theorem dX3_at_18 : decode cX3_at 18 = .ok (.iaload, 1) := by decide +kernel
theorem dX3_at_19 : decode cX3_at 19 = .ok (.goto 4, 3) := by decide +kernel
theorem dX3_at_22 : decode cX3_at 22 = .ok (.iconst 0, 1) := by decide +kernel
theorem dX3_at_23 : decode cX3_at 23 = .ok (.ireturn, 1) := by decide +kernel
theorem dX3_takes_0 : decode cX3_takes 0 = .ok (.iload_n 1, 1) := by decide +kernel
theorem dX3_takes_1 : decode cX3_takes 1 = .ok (.ifCond .lt 19, 3) := by decide +kernel
theorem dX3_takes_4 : decode cX3_takes 4 = .ok (.iload_n 1, 1) := by decide +kernel
theorem dX3_takes_5 : decode cX3_takes 5 = .ok (.getstatic 24, 3) := by decide +kernel
theorem dX3_takes_8 : decode cX3_takes 8 = .ok (.arraylength, 1) := by decide +kernel
theorem dX3_takes_9 : decode cX3_takes 9 = .ok (.if_icmp .ge 11, 3) := by decide +kernel
theorem dX3_takes_12 : decode cX3_takes 12 = .ok (.iload_n 1, 1) := by decide +kernel
theorem dX3_takes_13 : decode cX3_takes 13 = .ok (.getstatic 27, 3) := by decide +kernel
theorem dX3_takes_16 : decode cX3_takes 16 = .ok (.arraylength, 1) := by decide +kernel
theorem dX3_takes_17 : decode cX3_takes 17 = .ok (.if_icmp .lt 5, 3) := by decide +kernel
theorem dX3_takes_20 : decode cX3_takes 20 = .ok (.iconst 0, 1) := by decide +kernel
theorem dX3_takes_21 : decode cX3_takes 21 = .ok (.ireturn, 1) := by decide +kernel
theorem dX3_takes_22 : decode cX3_takes 22 = .ok (.iload_n 2, 1) := by decide +kernel
theorem dX3_takes_23 : decode cX3_takes 23 = .ok (.getstatic 24, 3) := by decide +kernel
theorem dX3_takes_26 : decode cX3_takes 26 = .ok (.iload_n 1, 1) := by decide +kernel
theorem dX3_takes_27 : decode cX3_takes 27 = .ok (.iaload, 1) := by decide +kernel
theorem dX3_takes_28 : decode cX3_takes 28 = .ok (.if_icmp .lt 16, 3) := by decide +kernel
theorem dX3_takes_31 : decode cX3_takes 31 = .ok (.iload_n 2, 1) := by decide +kernel
theorem dX3_takes_32 : decode cX3_takes 32 = .ok (.getstatic 27, 3) := by decide +kernel
theorem dX3_takes_35 : decode cX3_takes 35 = .ok (.iload_n 1, 1) := by decide +kernel
theorem dX3_takes_36 : decode cX3_takes 36 = .ok (.iaload, 1) := by decide +kernel
theorem dX3_takes_37 : decode cX3_takes 37 = .ok (.if_icmp .gt 7, 3) := by decide +kernel
theorem dX3_takes_40 : decode cX3_takes 40 = .ok (.iconst 1, 1) := by decide +kernel
theorem dX3_takes_41 : decode cX3_takes 41 = .ok (.goto 4, 3) := by decide +kernel
theorem dX3_takes_44 : decode cX3_takes 44 = .ok (.iconst 0, 1) := by decide +kernel
theorem dX3_takes_45 : decode cX3_takes 45 = .ok (.ireturn, 1) := by decide +kernel
theorem dX3_put_0 : decode cX3_put 0 = .ok (.iload_n 1, 1) := by decide +kernel
theorem dX3_put_1 : decode cX3_put 1 = .ok (.ifCond .lt 19, 3) := by decide +kernel
theorem dX3_put_4 : decode cX3_put 4 = .ok (.iload_n 1, 1) := by decide +kernel
theorem dX3_put_5 : decode cX3_put 5 = .ok (.aload_n 0, 1) := by decide +kernel
theorem dX3_put_6 : decode cX3_put 6 = .ok (.getfield 13, 3) := by decide +kernel
theorem dX3_put_9 : decode cX3_put 9 = .ok (.arraylength, 1) := by decide +kernel
theorem dX3_put_10 : decode cX3_put 10 = .ok (.if_icmp .ge 10, 3) := by decide +kernel
theorem dX3_put_13 : decode cX3_put 13 = .ok (.aload_n 0, 1) := by decide +kernel
theorem dX3_put_14 : decode cX3_put 14 = .ok (.getfield 13, 3) := by decide +kernel
theorem dX3_put_17 : decode cX3_put 17 = .ok (.iload_n 1, 1) := by decide +kernel
theorem dX3_put_18 : decode cX3_put 18 = .ok (.iload_n 2, 1) := by decide +kernel
theorem dX3_put_19 : decode cX3_put 19 = .ok (.iastore, 1) := by decide +kernel
theorem dX3_put_20 : decode cX3_put 20 = .ok (.return_, 1) := by decide +kernel
theorem dX4_init_0 : decode cX4_init 0 = .ok (.aload_n 0, 1) := by decide +kernel
theorem dX4_init_1 : decode cX4_init 1 = .ok (.invokespecial 3, 3) := by decide +kernel
theorem dX4_init_4 : decode cX4_init 4 = .ok (.aload_n 0, 1) := by decide +kernel
theorem dX4_init_5 : decode cX4_init 5 = .ok (.bipush 20, 2) := by decide +kernel
theorem dX4_init_7 : decode cX4_init 7 = .ok (.newarray .int, 2) := by decide +kernel
theorem dX4_init_9 : decode cX4_init 9 = .ok (.putfield 9, 3) := by decide +kernel
theorem dX4_init_12 : decode cX4_init 12 = .ok (.return_, 1) := by decide +kernel
theorem dX4_become_0 : decode cX4_become 0 = .ok (.aload_n 0, 1) := by decide +kernel
theorem dX4_become_1 : decode cX4_become 1 = .ok (.aload_n 1, 1) := by decide +kernel
theorem dX4_become_2 : decode cX4_become 2 = .ok (.getfield 15, 3) := by decide +kernel
theorem dX4_become_5 : decode cX4_become 5 = .ok (.putfield 15, 3) := by decide +kernel
theorem dX4_become_8 : decode cX4_become 8 = .ok (.aload_n 1, 1) := by decide +kernel
theorem dX4_become_9 : decode cX4_become 9 = .ok (.getfield 9, 3) := by decide +kernel
theorem dX4_become_12 : decode cX4_become 12 = .ok (.iconst 0, 1) := by decide +kernel
theorem dX4_become_13 : decode cX4_become 13 = .ok (.aload_n 0, 1) := by decide +kernel
theorem dX4_become_14 : decode cX4_become 14 = .ok (.getfield 9, 3) := by decide +kernel
theorem dX4_become_17 : decode cX4_become 17 = .ok (.iconst 0, 1) := by decide +kernel
theorem dX4_become_18 : decode cX4_become 18 = .ok (.bipush 20, 2) := by decide +kernel
theorem dX4_become_20 : decode cX4_become 20 = .ok (.invokestatic 19, 3) := by decide +kernel
theorem dX4_become_23 : decode cX4_become 23 = .ok (.return_, 1) := by decide +kernel
theorem dX4_size_0 : decode cX4_size 0 = .ok (.aload_n 0, 1) := by decide +kernel
theorem dX4_size_1 : decode cX4_size 1 = .ok (.getfield 15, 3) := by decide +kernel
theorem dX4_size_4 : decode cX4_size 4 = .ok (.ireturn, 1) := by decide +kernel
theorem dX4_at_0 : decode cX4_at 0 = .ok (.iload_n 1, 1) := by decide +kernel
theorem dX4_at_1 : decode cX4_at 1 = .ok (.ifCond .lt 20, 3) := by decide +kernel
theorem dX4_at_4 : decode cX4_at 4 = .ok (.iload_n 1, 1) := by decide +kernel
theorem dX4_at_5 : decode cX4_at 5 = .ok (.aload_n 0, 1) := by decide +kernel
theorem dX4_at_6 : decode cX4_at 6 = .ok (.getfield 15, 3) := by decide +kernel
theorem dX4_at_9 : decode cX4_at 9 = .ok (.if_icmp .ge 12, 3) := by decide +kernel
theorem dX4_at_12 : decode cX4_at 12 = .ok (.aload_n 0, 1) := by decide +kernel
theorem dX4_at_13 : decode cX4_at 13 = .ok (.getfield 9, 3) := by decide +kernel
theorem dX4_at_16 : decode cX4_at 16 = .ok (.iload_n 1, 1) := by decide +kernel
theorem dX4_at_17 : decode cX4_at 17 = .ok (.iaload, 1) := by decide +kernel
theorem dX4_at_18 : decode cX4_at 18 = .ok (.goto 5, 3) := by decide +kernel
theorem dX4_at_21 : decode cX4_at 21 = .ok (.bipush (-9), 2) := by decide +kernel
theorem dX4_at_23 : decode cX4_at 23 = .ok (.ireturn, 1) := by decide +kernel
theorem dX4_has_0 : decode cX4_has 0 = .ok (.aload_n 0, 1) := by decide +kernel
theorem dX4_has_1 : decode cX4_has 1 = .ok (.iload_n 1, 1) := by decide +kernel
theorem dX4_has_2 : decode cX4_has 2 = .ok (.iconst 0, 1) := by decide +kernel
theorem dX4_has_3 : decode cX4_has 3 = .ok (.invokevirtual 25, 3) := by decide +kernel
theorem dX4_has_6 : decode cX4_has 6 = .ok (.bipush (-9), 2) := by decide +kernel
theorem dX4_has_8 : decode cX4_has 8 = .ok (.if_icmp .eq 7, 3) := by decide +kernel
theorem dX4_has_11 : decode cX4_has 11 = .ok (.iconst 1, 1) := by decide +kernel
theorem dX4_has_12 : decode cX4_has 12 = .ok (.goto 4, 3) := by decide +kernel
theorem dX4_has_15 : decode cX4_has 15 = .ok (.iconst 0, 1) := by decide +kernel
theorem dX4_has_16 : decode cX4_has 16 = .ok (.ireturn, 1) := by decide +kernel
theorem dX4_nearest_0 : decode cX4_nearest 0 = .ok (.bipush (-9), 2) := by decide +kernel
theorem dX4_nearest_2 : decode cX4_nearest 2 = .ok (.istore_n 3, 1) := by decide +kernel
theorem dX4_nearest_3 : decode cX4_nearest 3 = .ok (.iload_n 2, 1) := by decide +kernel
theorem dX4_nearest_4 : decode cX4_nearest 4 = .ok (.iconst 1, 1) := by decide +kernel
theorem dX4_nearest_5 : decode cX4_nearest 5 = .ok (.iadd, 1) := by decide +kernel
theorem dX4_nearest_6 : decode cX4_nearest 6 = .ok (.istore 4, 2) := by decide +kernel
theorem dX4_nearest_8 : decode cX4_nearest 8 = .ok (.iconst 0, 1) := by decide +kernel
theorem dX4_nearest_9 : decode cX4_nearest 9 = .ok (.istore 5, 2) := by decide +kernel
theorem dX4_nearest_11 : decode cX4_nearest 11 = .ok (.iload 5, 2) := by decide +kernel
theorem dX4_nearest_13 : decode cX4_nearest 13 = .ok (.aload_n 0, 1) := by decide +kernel
theorem dX4_nearest_14 : decode cX4_nearest 14 = .ok (.getfield 15, 3) := by decide +kernel
theorem dX4_nearest_17 : decode cX4_nearest 17 = .ok (.if_icmp .ge 42, 3) := by decide +kernel
theorem dX4_nearest_20 : decode cX4_nearest 20 = .ok (.aload_n 0, 1) := by decide +kernel
theorem dX4_nearest_21 : decode cX4_nearest 21 = .ok (.getfield 9, 3) := by decide +kernel
theorem dX4_nearest_24 : decode cX4_nearest 24 = .ok (.iload 5, 2) := by decide +kernel
theorem dX4_nearest_26 : decode cX4_nearest 26 = .ok (.iaload, 1) := by decide +kernel
theorem dX4_nearest_27 : decode cX4_nearest 27 = .ok (.iload_n 1, 1) := by decide +kernel
theorem dX4_nearest_28 : decode cX4_nearest 28 = .ok (.isub, 1) := by decide +kernel
theorem dX4_nearest_29 : decode cX4_nearest 29 = .ok (.invokestatic 29, 3) := by decide +kernel
theorem dX4_nearest_32 : decode cX4_nearest 32 = .ok (.istore 6, 2) := by decide +kernel
theorem dX4_nearest_34 : decode cX4_nearest 34 = .ok (.iload 6, 2) := by decide +kernel
theorem dX4_nearest_36 : decode cX4_nearest 36 = .ok (.iload 4, 2) := by decide +kernel
theorem dX4_nearest_38 : decode cX4_nearest 38 = .ok (.if_icmp .ge 15, 3) := by decide +kernel
theorem dX4_nearest_41 : decode cX4_nearest 41 = .ok (.aload_n 0, 1) := by decide +kernel
theorem dX4_nearest_42 : decode cX4_nearest 42 = .ok (.getfield 9, 3) := by decide +kernel
theorem dX4_nearest_45 : decode cX4_nearest 45 = .ok (.iload 5, 2) := by decide +kernel
theorem dX4_nearest_47 : decode cX4_nearest 47 = .ok (.iaload, 1) := by decide +kernel
theorem dX4_nearest_48 : decode cX4_nearest 48 = .ok (.istore_n 3, 1) := by decide +kernel
theorem dX4_nearest_49 : decode cX4_nearest 49 = .ok (.iload 6, 2) := by decide +kernel
theorem dX4_nearest_51 : decode cX4_nearest 51 = .ok (.istore 4, 2) := by decide +kernel
theorem dX4_nearest_53 : decode cX4_nearest 53 = .ok (.iinc 5 1, 3) := by decide +kernel
theorem dX4_nearest_56 : decode cX4_nearest 56 = .ok (.goto (-45), 3) := by decide +kernel
theorem dX4_nearest_59 : decode cX4_nearest 59 = .ok (.iload_n 3, 1) := by decide +kernel
theorem dX4_nearest_60 : decode cX4_nearest 60 = .ok (.ireturn, 1) := by decide +kernel
theorem dX4_isMissed_0 : decode cX4_isMissed 0 = .ok (.aload_n 0, 1) := by decide +kernel
theorem dX4_isMissed_1 : decode cX4_isMissed 1 = .ok (.iload_n 1, 1) := by decide +kernel
theorem dX4_isMissed_2 : decode cX4_isMissed 2 = .ok (.iload_n 2, 1) := by decide +kernel
theorem dX4_isMissed_3 : decode cX4_isMissed 3 = .ok (.invokevirtual 25, 3) := by decide +kernel
theorem dX4_isMissed_6 : decode cX4_isMissed 6 = .ok (.istore_n 3, 1) := by decide +kernel
theorem dX4_isMissed_7 : decode cX4_isMissed 7 = .ok (.iload_n 3, 1) := by decide +kernel
theorem dX4_isMissed_8 : decode cX4_isMissed 8 = .ok (.bipush (-9), 2) := by decide +kernel
theorem dX4_isMissed_10 : decode cX4_isMissed 10 = .ok (.if_icmp .eq 12, 3) := by decide +kernel
theorem dX4_isMissed_13 : decode cX4_isMissed 13 = .ok (.iload_n 3, 1) := by decide +kernel
theorem dX4_isMissed_14 : decode cX4_isMissed 14 = .ok (.iload_n 1, 1) := by decide +kernel
theorem dX4_isMissed_15 : decode cX4_isMissed 15 = .ok (.if_icmp .eq 7, 3) := by decide +kernel
theorem dX4_isMissed_18 : decode cX4_isMissed 18 = .ok (.iconst 1, 1) := by decide +kernel
theorem dX4_isMissed_19 : decode cX4_isMissed 19 = .ok (.goto 4, 3) := by decide +kernel
theorem dX4_isMissed_22 : decode cX4_isMissed 22 = .ok (.iconst 0, 1) := by decide +kernel
theorem dX4_isMissed_23 : decode cX4_isMissed 23 = .ok (.ireturn, 1) := by decide +kernel
theorem dX4_insert_0 : decode cX4_insert 0 = .ok (.aload_n 0, 1) := by decide +kernel
theorem dX4_insert_1 : decode cX4_insert 1 = .ok (.getfield 15, 3) := by decide +kernel
theorem dX4_insert_4 : decode cX4_insert 4 = .ok (.bipush 20, 2) := by decide +kernel
theorem dX4_insert_6 : decode cX4_insert 6 = .ok (.if_icmp .ge 11, 3) := by decide +kernel
theorem dX4_insert_9 : decode cX4_insert 9 = .ok (.aload_n 0, 1) := by decide +kernel
theorem dX4_insert_10 : decode cX4_insert 10 = .ok (.iload_n 1, 1) := by decide +kernel
theorem dX4_insert_11 : decode cX4_insert 11 = .ok (.invokevirtual 35, 3) := by decide +kernel
theorem dX4_insert_14 : decode cX4_insert 14 = .ok (.ifCond .eq 4, 3) := by decide +kernel
theorem dX4_insert_17 : decode cX4_insert 17 = .ok (.return_, 1) := by decide +kernel
theorem dX4_insert_18 : decode cX4_insert 18 = .ok (.aload_n 0, 1) := by decide +kernel
theorem dX4_insert_19 : decode cX4_insert 19 = .ok (.getfield 15, 3) := by decide +kernel
theorem dX4_insert_22 : decode cX4_insert 22 = .ok (.istore_n 2, 1) := by decide +kernel
theorem dX4_insert_23 : decode cX4_insert 23 = .ok (.iload_n 2, 1) := by decide +kernel
theorem dX4_insert_24 : decode cX4_insert 24 = .ok (.ifCond .le 35, 3) := by decide +kernel
theorem dX4_insert_27 : decode cX4_insert 27 = .ok (.aload_n 0, 1) := by decide +kernel
theorem dX4_insert_28 : decode cX4_insert 28 = .ok (.getfield 9, 3) := by decide +kernel
theorem dX4_insert_31 : decode cX4_insert 31 = .ok (.iload_n 2, 1) := by decide +kernel
theorem dX4_insert_32 : decode cX4_insert 32 = .ok (.iconst 1, 1) := by decide +kernel
theorem dX4_insert_33 : decode cX4_insert 33 = .ok (.isub, 1) := by decide +kernel
theorem dX4_insert_34 : decode cX4_insert 34 = .ok (.iaload, 1) := by decide +kernel
theorem dX4_insert_35 : decode cX4_insert 35 = .ok (.iload_n 1, 1) := by decide +kernel
theorem dX4_insert_36 : decode cX4_insert 36 = .ok (.if_icmp .le 23, 3) := by decide +kernel
theorem dX4_insert_39 : decode cX4_insert 39 = .ok (.aload_n 0, 1) := by decide +kernel
theorem dX4_insert_40 : decode cX4_insert 40 = .ok (.getfield 9, 3) := by decide +kernel
theorem dX4_insert_43 : decode cX4_insert 43 = .ok (.iload_n 2, 1) := by decide +kernel
theorem dX4_insert_44 : decode cX4_insert 44 = .ok (.aload_n 0, 1) := by decide +kernel
theorem dX4_insert_45 : decode cX4_insert 45 = .ok (.getfield 9, 3) := by decide +kernel
theorem dX4_insert_48 : decode cX4_insert 48 = .ok (.iload_n 2, 1) := by decide +kernel
theorem dX4_insert_49 : decode cX4_insert 49 = .ok (.iconst 1, 1) := by decide +kernel
theorem dX4_insert_50 : decode cX4_insert 50 = .ok (.isub, 1) := by decide +kernel
theorem dX4_insert_51 : decode cX4_insert 51 = .ok (.iaload, 1) := by decide +kernel
theorem dX4_insert_52 : decode cX4_insert 52 = .ok (.iastore, 1) := by decide +kernel
theorem dX4_insert_53 : decode cX4_insert 53 = .ok (.iinc 2 (-1), 3) := by decide +kernel
theorem dX4_insert_56 : decode cX4_insert 56 = .ok (.goto (-33), 3) := by decide +kernel
theorem dX4_insert_59 : decode cX4_insert 59 = .ok (.aload_n 0, 1) := by decide +kernel
theorem dX4_insert_60 : decode cX4_insert 60 = .ok (.getfield 9, 3) := by decide +kernel
theorem dX4_insert_63 : decode cX4_insert 63 = .ok (.iload_n 2, 1) := by decide +kernel
theorem dX4_insert_64 : decode cX4_insert 64 = .ok (.iload_n 1, 1) := by decide +kernel
theorem dX4_insert_65 : decode cX4_insert 65 = .ok (.iastore, 1) := by decide +kernel
theorem dX4_insert_66 : decode cX4_insert 66 = .ok (.aload_n 0, 1) := by decide +kernel
theorem dX4_insert_67 : decode cX4_insert 67 = .ok (.dup, 1) := by decide +kernel
theorem dX4_insert_68 : decode cX4_insert 68 = .ok (.getfield 15, 3) := by decide +kernel
theorem dX4_insert_71 : decode cX4_insert 71 = .ok (.iconst 1, 1) := by decide +kernel
theorem dX4_insert_72 : decode cX4_insert 72 = .ok (.iadd, 1) := by decide +kernel
theorem dX4_insert_73 : decode cX4_insert 73 = .ok (.putfield 15, 3) := by decide +kernel
theorem dX4_insert_76 : decode cX4_insert 76 = .ok (.return_, 1) := by decide +kernel
theorem dX4_remove_0 : decode cX4_remove 0 = .ok (.iconst 0, 1) := by decide +kernel
theorem dX4_remove_1 : decode cX4_remove 1 = .ok (.istore_n 2, 1) := by decide +kernel
theorem dX4_remove_2 : decode cX4_remove 2 = .ok (.iconst 0, 1) := by decide +kernel
theorem dX4_remove_3 : decode cX4_remove 3 = .ok (.istore_n 3, 1) := by decide +kernel
theorem dX4_remove_4 : decode cX4_remove 4 = .ok (.iload_n 3, 1) := by decide +kernel
theorem dX4_remove_5 : decode cX4_remove 5 = .ok (.aload_n 0, 1) := by decide +kernel
theorem dX4_remove_6 : decode cX4_remove 6 = .ok (.getfield 15, 3) := by decide +kernel
theorem dX4_remove_9 : decode cX4_remove 9 = .ok (.if_icmp .ge 34, 3) := by decide +kernel
theorem dX4_remove_12 : decode cX4_remove 12 = .ok (.aload_n 0, 1) := by decide +kernel
theorem dX4_remove_13 : decode cX4_remove 13 = .ok (.getfield 9, 3) := by decide +kernel
theorem dX4_remove_16 : decode cX4_remove 16 = .ok (.iload_n 2, 1) := by decide +kernel
theorem dX4_remove_17 : decode cX4_remove 17 = .ok (.aload_n 0, 1) := by decide +kernel
theorem dX4_remove_18 : decode cX4_remove 18 = .ok (.getfield 9, 3) := by decide +kernel
theorem dX4_remove_21 : decode cX4_remove 21 = .ok (.iload_n 3, 1) := by decide +kernel
theorem dX4_remove_22 : decode cX4_remove 22 = .ok (.iaload, 1) := by decide +kernel
theorem dX4_remove_23 : decode cX4_remove 23 = .ok (.iastore, 1) := by decide +kernel
theorem dX4_remove_24 : decode cX4_remove 24 = .ok (.aload_n 0, 1) := by decide +kernel
theorem dX4_remove_25 : decode cX4_remove 25 = .ok (.getfield 9, 3) := by decide +kernel
theorem dX4_remove_28 : decode cX4_remove 28 = .ok (.iload_n 3, 1) := by decide +kernel
theorem dX4_remove_29 : decode cX4_remove 29 = .ok (.iaload, 1) := by decide +kernel
theorem dX4_remove_30 : decode cX4_remove 30 = .ok (.iload_n 1, 1) := by decide +kernel
theorem dX4_remove_31 : decode cX4_remove 31 = .ok (.if_icmp .eq 6, 3) := by decide +kernel
theorem dX4_remove_34 : decode cX4_remove 34 = .ok (.iinc 2 1, 3) := by decide +kernel
theorem dX4_remove_37 : decode cX4_remove 37 = .ok (.iinc 3 1, 3) := by decide +kernel
theorem dX4_remove_40 : decode cX4_remove 40 = .ok (.goto (-36), 3) := by decide +kernel
theorem dX4_remove_43 : decode cX4_remove 43 = .ok (.aload_n 0, 1) := by decide +kernel
theorem dX4_remove_44 : decode cX4_remove 44 = .ok (.iload_n 2, 1) := by decide +kernel
theorem dX4_remove_45 : decode cX4_remove 45 = .ok (.putfield 15, 3) := by decide +kernel
theorem dX4_remove_48 : decode cX4_remove 48 = .ok (.return_, 1) := by decide +kernel
theorem dX5_init_0 : decode cX5_init 0 = .ok (.aload_n 0, 1) := by decide +kernel
theorem dX5_init_1 : decode cX5_init 1 = .ok (.invokespecial 3, 3) := by decide +kernel
theorem dX5_init_4 : decode cX5_init 4 = .ok (.aload_n 0, 1) := by decide +kernel
theorem dX5_init_5 : decode cX5_init 5 = .ok (.new 9, 3) := by decide +kernel
theorem dX5_init_8 : decode cX5_init 8 = .ok (.dup, 1) := by decide +kernel
theorem dX5_init_9 : decode cX5_init 9 = .ok (.invokespecial 11, 3) := by decide +kernel
theorem dX5_init_12 : decode cX5_init 12 = .ok (.putfield 12, 3) := by decide +kernel
theorem dX5_init_15 : decode cX5_init 15 = .ok (.aload_n 0, 1) := by decide +kernel
theorem dX5_init_16 : decode cX5_init 16 = .ok (.new 18, 3) := by decide +kernel
theorem dX5_init_19 : decode cX5_init 19 = .ok (.dup, 1) := by decide +kernel
theorem dX5_init_20 : decode cX5_init 20 = .ok (.invokespecial 20, 3) := by decide +kernel
theorem dX5_init_23 : decode cX5_init 23 = .ok (.putfield 21, 3) := by decide +kernel
theorem dX5_init_26 : decode cX5_init 26 = .ok (.aload_n 0, 1) := by decide +kernel
theorem dX5_init_27 : decode cX5_init 27 = .ok (.new 25, 3) := by decide +kernel
theorem dX5_init_30 : decode cX5_init 30 = .ok (.dup, 1) := by decide +kernel
theorem dX5_init_31 : decode cX5_init 31 = .ok (.invokespecial 27, 3) := by decide +kernel
theorem dX5_init_34 : decode cX5_init 34 = .ok (.putfield 28, 3) := by decide +kernel
theorem dX5_init_37 : decode cX5_init 37 = .ok (.aload_n 0, 1) := by decide +kernel
theorem dX5_init_38 : decode cX5_init 38 = .ok (.new 32, 3) := by decide +kernel
theorem dX5_init_41 : decode cX5_init 41 = .ok (.dup, 1) := by decide +kernel
theorem dX5_init_42 : decode cX5_init 42 = .ok (.aload_n 1, 1) := by decide +kernel
theorem dX5_init_43 : decode cX5_init 43 = .ok (.invokespecial 34, 3) := by decide +kernel
theorem dX5_init_46 : decode cX5_init 46 = .ok (.putfield 37, 3) := by decide +kernel
theorem dX5_init_49 : decode cX5_init 49 = .ok (.return_, 1) := by decide +kernel
theorem dX5_become_0 : decode cX5_become 0 = .ok (.aload_n 0, 1) := by decide +kernel
theorem dX5_become_1 : decode cX5_become 1 = .ok (.getfield 12, 3) := by decide +kernel
theorem dX5_become_4 : decode cX5_become 4 = .ok (.aload_n 1, 1) := by decide +kernel
theorem dX5_become_5 : decode cX5_become 5 = .ok (.getfield 12, 3) := by decide +kernel
theorem dX5_become_8 : decode cX5_become 8 = .ok (.invokevirtual 41, 3) := by decide +kernel
theorem dX5_become_11 : decode cX5_become 11 = .ok (.aload_n 0, 1) := by decide +kernel
theorem dX5_become_12 : decode cX5_become 12 = .ok (.getfield 21, 3) := by decide +kernel
theorem dX5_become_15 : decode cX5_become 15 = .ok (.aload_n 1, 1) := by decide +kernel
theorem dX5_become_16 : decode cX5_become 16 = .ok (.getfield 21, 3) := by decide +kernel
theorem dX5_become_19 : decode cX5_become 19 = .ok (.invokevirtual 45, 3) := by decide +kernel
theorem dX5_become_22 : decode cX5_become 22 = .ok (.aload_n 0, 1) := by decide +kernel
theorem dX5_become_23 : decode cX5_become 23 = .ok (.getfield 28, 3) := by decide +kernel
theorem dX5_become_26 : decode cX5_become 26 = .ok (.aload_n 1, 1) := by decide +kernel
theorem dX5_become_27 : decode cX5_become 27 = .ok (.getfield 28, 3) := by decide +kernel
theorem dX5_become_30 : decode cX5_become 30 = .ok (.invokevirtual 48, 3) := by decide +kernel
theorem dX5_become_33 : decode cX5_become 33 = .ok (.aload_n 0, 1) := by decide +kernel
theorem dX5_become_34 : decode cX5_become 34 = .ok (.getfield 37, 3) := by decide +kernel
theorem dX5_become_37 : decode cX5_become 37 = .ok (.aload_n 1, 1) := by decide +kernel
theorem dX5_become_38 : decode cX5_become 38 = .ok (.getfield 37, 3) := by decide +kernel
theorem dX5_become_41 : decode cX5_become 41 = .ok (.invokevirtual 51, 3) := by decide +kernel
theorem dX5_become_44 : decode cX5_become 44 = .ok (.return_, 1) := by decide +kernel
theorem dX5_readingLength_0 : decode cX5_readingLength 0 = .ok (.aload_n 0, 1) := by decide +kernel
theorem dX5_readingLength_1 : decode cX5_readingLength 1 = .ok (.getfield 28, 3) := by decide +kernel
theorem dX5_readingLength_4 : decode cX5_readingLength 4 = .ok (.iconst 0, 1) := by decide +kernel
theorem dX5_readingLength_5 : decode cX5_readingLength 5 = .ok (.invokevirtual 54, 3) := by decide +kernel
theorem dX5_readingLength_8 : decode cX5_readingLength 8 = .ok (.aload_n 1, 1) := by decide +kernel
theorem dX5_readingLength_9 : decode cX5_readingLength 9 = .ok (.invokevirtual 58, 3) := by decide +kernel
theorem dX5_readingLength_12 : decode cX5_readingLength 12 = .ok (.imul, 1) := by decide +kernel
theorem dX5_readingLength_13 : decode cX5_readingLength 13 = .ok (.istore_n 2, 1) := by decide +kernel
theorem dX5_readingLength_14 : decode cX5_readingLength 14 = .ok (.aload_n 0, 1) := by decide +kernel
theorem dX5_readingLength_15 : decode cX5_readingLength 15 = .ok (.getfield 28, 3) := by decide +kernel
theorem dX5_readingLength_18 : decode cX5_readingLength 18 = .ok (.iconst 1, 1) := by decide +kernel
theorem dX5_readingLength_19 : decode cX5_readingLength 19 = .ok (.invokevirtual 54, 3) := by decide +kernel
theorem dX5_readingLength_22 : decode cX5_readingLength 22 = .ok (.iload_n 2, 1) := by decide +kernel
theorem dX5_readingLength_23 : decode cX5_readingLength 23 = .ok (.invokestatic 64, 3) := by decide +kernel
theorem dX5_readingLength_26 : decode cX5_readingLength 26 = .ok (.ireturn, 1) := by decide +kernel
theorem dX5_latestEnd_0 : decode cX5_latestEnd 0 = .ok (.aload_n 0, 1) := by decide +kernel
theorem dX5_latestEnd_1 : decode cX5_latestEnd 1 = .ok (.getfield 37, 3) := by decide +kernel
theorem dX5_latestEnd_4 : decode cX5_latestEnd 4 = .ok (.iload_n 1, 1) := by decide +kernel
theorem dX5_latestEnd_5 : decode cX5_latestEnd 5 = .ok (.invokevirtual 70, 3) := by decide +kernel
theorem dX5_latestEnd_8 : decode cX5_latestEnd 8 = .ok (.istore_n 2, 1) := by decide +kernel
theorem dX5_latestEnd_9 : decode cX5_latestEnd 9 = .ok (.iload_n 2, 1) := by decide +kernel
theorem dX5_latestEnd_10 : decode cX5_latestEnd 10 = .ok (.bipush (-9), 2) := by decide +kernel
theorem dX5_latestEnd_12 : decode cX5_latestEnd 12 = .ok (.if_icmp .ne 9, 3) := by decide +kernel
theorem dX5_latestEnd_15 : decode cX5_latestEnd 15 = .ok (.sipush 9999, 3) := by decide +kernel
theorem dX5_latestEnd_18 : decode cX5_latestEnd 18 = .ok (.goto 23, 3) := by decide +kernel
theorem dX5_latestEnd_21 : decode cX5_latestEnd 21 = .ok (.aload_n 0, 1) := by decide +kernel
theorem dX5_latestEnd_22 : decode cX5_latestEnd 22 = .ok (.getfield 37, 3) := by decide +kernel
theorem dX5_latestEnd_25 : decode cX5_latestEnd 25 = .ok (.iload_n 2, 1) := by decide +kernel
theorem dX5_latestEnd_26 : decode cX5_latestEnd 26 = .ok (.invokevirtual 73, 3) := by decide +kernel
theorem dX5_latestEnd_29 : decode cX5_latestEnd 29 = .ok (.getfield 76, 3) := by decide +kernel
theorem dX5_latestEnd_32 : decode cX5_latestEnd 32 = .ok (.aload_n 0, 1) := by decide +kernel
theorem dX5_latestEnd_33 : decode cX5_latestEnd 33 = .ok (.getfield 28, 3) := by decide +kernel
theorem dX5_latestEnd_36 : decode cX5_latestEnd 36 = .ok (.iconst 2, 1) := by decide +kernel
theorem dX5_latestEnd_37 : decode cX5_latestEnd 37 = .ok (.invokevirtual 54, 3) := by decide +kernel
theorem dX5_latestEnd_40 : decode cX5_latestEnd 40 = .ok (.isub, 1) := by decide +kernel
theorem dX5_latestEnd_41 : decode cX5_latestEnd 41 = .ok (.ireturn, 1) := by decide +kernel
theorem dX5_faultsOf_0 : decode cX5_faultsOf 0 = .ok (.aload_n 0, 1) := by decide +kernel
theorem dX5_faultsOf_1 : decode cX5_faultsOf 1 = .ok (.getfield 37, 3) := by decide +kernel
theorem dX5_faultsOf_4 : decode cX5_faultsOf 4 = .ok (.iload_n 1, 1) := by decide +kernel
theorem dX5_faultsOf_5 : decode cX5_faultsOf 5 = .ok (.invokevirtual 73, 3) := by decide +kernel
theorem dX5_faultsOf_8 : decode cX5_faultsOf 8 = .ok (.astore_n 2, 1) := by decide +kernel
theorem dX5_faultsOf_9 : decode cX5_faultsOf 9 = .ok (.aload_n 0, 1) := by decide +kernel
theorem dX5_faultsOf_10 : decode cX5_faultsOf 10 = .ok (.getfield 28, 3) := by decide +kernel
theorem dX5_faultsOf_13 : decode cX5_faultsOf 13 = .ok (.iconst 3, 1) := by decide +kernel
theorem dX5_faultsOf_14 : decode cX5_faultsOf 14 = .ok (.invokevirtual 54, 3) := by decide +kernel
theorem dX5_faultsOf_17 : decode cX5_faultsOf 17 = .ok (.istore_n 3, 1) := by decide +kernel
theorem dX5_faultsOf_18 : decode cX5_faultsOf 18 = .ok (.iconst 0, 1) := by decide +kernel
theorem dX5_faultsOf_19 : decode cX5_faultsOf 19 = .ok (.istore 4, 2) := by decide +kernel
theorem dX5_faultsOf_21 : decode cX5_faultsOf 21 = .ok (.aload_n 2, 1) := by decide +kernel
theorem dX5_faultsOf_22 : decode cX5_faultsOf 22 = .ok (.invokevirtual 80, 3) := by decide +kernel
theorem dX5_faultsOf_25 : decode cX5_faultsOf 25 = .ok (.aload_n 0, 1) := by decide +kernel
theorem dX5_faultsOf_26 : decode cX5_faultsOf 26 = .ok (.aload_n 2, 1) := by decide +kernel
theorem dX5_faultsOf_27 : decode cX5_faultsOf 27 = .ok (.invokevirtual 83, 3) := by decide +kernel
theorem dX5_faultsOf_30 : decode cX5_faultsOf 30 = .ok (.if_icmp .ge 6, 3) := by decide +kernel
theorem dX5_faultsOf_33 : decode cX5_faultsOf 33 = .ok (.iinc 4 1, 3) := by decide +kernel
theorem dX5_faultsOf_36 : decode cX5_faultsOf 36 = .ok (.aload_n 2, 1) := by decide +kernel
theorem dX5_faultsOf_37 : decode cX5_faultsOf 37 = .ok (.getfield 87, 3) := by decide +kernel
theorem dX5_faultsOf_40 : decode cX5_faultsOf 40 = .ok (.aload_n 0, 1) := by decide +kernel
theorem dX5_faultsOf_41 : decode cX5_faultsOf 41 = .ok (.iload_n 1, 1) := by decide +kernel
theorem dX5_faultsOf_42 : decode cX5_faultsOf 42 = .ok (.invokevirtual 90, 3) := by decide +kernel
theorem dX5_faultsOf_45 : decode cX5_faultsOf 45 = .ok (.if_icmp .le 6, 3) := by decide +kernel
theorem dX5_faultsOf_48 : decode cX5_faultsOf 48 = .ok (.iinc 4 2, 3) := by decide +kernel
theorem dX5_faultsOf_51 : decode cX5_faultsOf 51 = .ok (.aload_n 0, 1) := by decide +kernel
theorem dX5_faultsOf_52 : decode cX5_faultsOf 52 = .ok (.getfield 37, 3) := by decide +kernel
theorem dX5_faultsOf_55 : decode cX5_faultsOf 55 = .ok (.iload_n 1, 1) := by decide +kernel
theorem dX5_faultsOf_56 : decode cX5_faultsOf 56 = .ok (.invokevirtual 93, 3) := by decide +kernel
theorem dX5_faultsOf_59 : decode cX5_faultsOf 59 = .ok (.ifCond .eq 6, 3) := by decide +kernel
theorem dX5_faultsOf_62 : decode cX5_faultsOf 62 = .ok (.iinc 4 4, 3) := by decide +kernel
theorem dX5_faultsOf_65 : decode cX5_faultsOf 65 = .ok (.aload_n 0, 1) := by decide +kernel
theorem dX5_faultsOf_66 : decode cX5_faultsOf 66 = .ok (.getfield 21, 3) := by decide +kernel
theorem dX5_faultsOf_69 : decode cX5_faultsOf 69 = .ok (.aload_n 2, 1) := by decide +kernel
theorem dX5_faultsOf_70 : decode cX5_faultsOf 70 = .ok (.getfield 76, 3) := by decide +kernel
theorem dX5_faultsOf_73 : decode cX5_faultsOf 73 = .ok (.iload_n 3, 1) := by decide +kernel
theorem dX5_faultsOf_74 : decode cX5_faultsOf 74 = .ok (.invokevirtual 97, 3) := by decide +kernel
theorem dX5_faultsOf_77 : decode cX5_faultsOf 77 = .ok (.ifCond .ne 18, 3) := by decide +kernel
theorem dX5_faultsOf_80 : decode cX5_faultsOf 80 = .ok (.aload_n 0, 1) := by decide +kernel
theorem dX5_faultsOf_81 : decode cX5_faultsOf 81 = .ok (.getfield 21, 3) := by decide +kernel
theorem dX5_faultsOf_84 : decode cX5_faultsOf 84 = .ok (.aload_n 2, 1) := by decide +kernel
theorem dX5_faultsOf_85 : decode cX5_faultsOf 85 = .ok (.getfield 87, 3) := by decide +kernel
theorem dX5_faultsOf_88 : decode cX5_faultsOf 88 = .ok (.iload_n 3, 1) := by decide +kernel
theorem dX5_faultsOf_89 : decode cX5_faultsOf 89 = .ok (.invokevirtual 97, 3) := by decide +kernel
theorem dX5_faultsOf_92 : decode cX5_faultsOf 92 = .ok (.ifCond .eq 6, 3) := by decide +kernel
theorem dX5_faultsOf_95 : decode cX5_faultsOf 95 = .ok (.iinc 4 8, 3) := by decide +kernel
theorem dX5_faultsOf_98 : decode cX5_faultsOf 98 = .ok (.aload_n 2, 1) := by decide +kernel
theorem dX5_faultsOf_99 : decode cX5_faultsOf 99 = .ok (.aload_n 0, 1) := by decide +kernel
theorem dX5_faultsOf_100 : decode cX5_faultsOf 100 = .ok (.getfield 28, 3) := by decide +kernel
theorem dX5_faultsOf_103 : decode cX5_faultsOf 103 = .ok (.iconst 4, 1) := by decide +kernel
theorem dX5_faultsOf_104 : decode cX5_faultsOf 104 = .ok (.invokevirtual 54, 3) := by decide +kernel
theorem dX5_faultsOf_107 : decode cX5_faultsOf 107 = .ok (.invokevirtual 101, 3) := by decide +kernel
theorem dX5_faultsOf_110 : decode cX5_faultsOf 110 = .ok (.ifCond .eq 6, 3) := by decide +kernel
theorem dX5_faultsOf_113 : decode cX5_faultsOf 113 = .ok (.iinc 4 16, 3) := by decide +kernel
theorem dX5_faultsOf_116 : decode cX5_faultsOf 116 = .ok (.aload_n 2, 1) := by decide +kernel
theorem dX5_faultsOf_117 : decode cX5_faultsOf 117 = .ok (.getfield 87, 3) := by decide +kernel
theorem dX5_faultsOf_120 : decode cX5_faultsOf 120 = .ok (.aload_n 0, 1) := by decide +kernel
theorem dX5_faultsOf_121 : decode cX5_faultsOf 121 = .ok (.getfield 12, 3) := by decide +kernel
theorem dX5_faultsOf_124 : decode cX5_faultsOf 124 = .ok (.invokevirtual 104, 3) := by decide +kernel
theorem dX5_faultsOf_127 : decode cX5_faultsOf 127 = .ok (.if_icmp .le 6, 3) := by decide +kernel
theorem dX5_faultsOf_130 : decode cX5_faultsOf 130 = .ok (.iinc 4 32, 3) := by decide +kernel
theorem dX5_faultsOf_133 : decode cX5_faultsOf 133 = .ok (.iload 4, 2) := by decide +kernel
theorem dX5_faultsOf_135 : decode cX5_faultsOf 135 = .ok (.ireturn, 1) := by decide +kernel
theorem dX5_countFaulty_0 : decode cX5_countFaulty 0 = .ok (.iload_n 1, 1) := by decide +kernel
theorem dX5_countFaulty_1 : decode cX5_countFaulty 1 = .ok (.ifCond .ne 7, 3) := by decide +kernel
theorem dX5_countFaulty_4 : decode cX5_countFaulty 4 = .ok (.iconst (-1), 1) := by decide +kernel
theorem dX5_countFaulty_5 : decode cX5_countFaulty 5 = .ok (.goto 4, 3) := by decide +kernel
theorem dX5_countFaulty_8 : decode cX5_countFaulty 8 = .ok (.iload_n 1, 1) := by decide +kernel
theorem dX5_countFaulty_9 : decode cX5_countFaulty 9 = .ok (.istore_n 2, 1) := by decide +kernel
theorem dX5_countFaulty_10 : decode cX5_countFaulty 10 = .ok (.iconst 0, 1) := by decide +kernel
theorem dX5_countFaulty_11 : decode cX5_countFaulty 11 = .ok (.istore_n 3, 1) := by decide +kernel
theorem dX5_countFaulty_12 : decode cX5_countFaulty 12 = .ok (.iconst 0, 1) := by decide +kernel
theorem dX5_countFaulty_13 : decode cX5_countFaulty 13 = .ok (.istore 4, 2) := by decide +kernel
theorem dX5_countFaulty_15 : decode cX5_countFaulty 15 = .ok (.iload 4, 2) := by decide +kernel
theorem dX5_countFaulty_17 : decode cX5_countFaulty 17 = .ok (.aload_n 0, 1) := by decide +kernel
theorem dX5_countFaulty_18 : decode cX5_countFaulty 18 = .ok (.getfield 37, 3) := by decide +kernel
theorem dX5_countFaulty_21 : decode cX5_countFaulty 21 = .ok (.invokevirtual 107, 3) := by decide +kernel
theorem dX5_countFaulty_24 : decode cX5_countFaulty 24 = .ok (.if_icmp .ge 23, 3) := by decide +kernel
theorem dX5_countFaulty_27 : decode cX5_countFaulty 27 = .ok (.aload_n 0, 1) := by decide +kernel
theorem dX5_countFaulty_28 : decode cX5_countFaulty 28 = .ok (.iload 4, 2) := by decide +kernel
theorem dX5_countFaulty_30 : decode cX5_countFaulty 30 = .ok (.invokevirtual 110, 3) := by decide +kernel
theorem dX5_countFaulty_33 : decode cX5_countFaulty 33 = .ok (.iload_n 2, 1) := by decide +kernel
theorem dX5_countFaulty_34 : decode cX5_countFaulty 34 = .ok (.iand, 1) := by decide +kernel
theorem dX5_countFaulty_35 : decode cX5_countFaulty 35 = .ok (.ifCond .eq 6, 3) := by decide +kernel
theorem dX5_countFaulty_38 : decode cX5_countFaulty 38 = .ok (.iinc 3 1, 3) := by decide +kernel
theorem dX5_countFaulty_41 : decode cX5_countFaulty 41 = .ok (.iinc 4 1, 3) := by decide +kernel
theorem dX5_countFaulty_44 : decode cX5_countFaulty 44 = .ok (.goto (-29), 3) := by decide +kernel
theorem dX5_countFaulty_47 : decode cX5_countFaulty 47 = .ok (.iload_n 3, 1) := by decide +kernel
theorem dX5_countFaulty_48 : decode cX5_countFaulty 48 = .ok (.ireturn, 1) := by decide +kernel
theorem dX6_init_0 : decode cX6_init 0 = .ok (.aload_n 0, 1) := by decide +kernel
theorem dX6_init_1 : decode cX6_init 1 = .ok (.invokespecial 1, 3) := by decide +kernel
theorem dX6_init_4 : decode cX6_init 4 = .ok (.aload_n 0, 1) := by decide +kernel
theorem dX6_init_5 : decode cX6_init 5 = .ok (.aload_n 1, 1) := by decide +kernel
theorem dX6_init_6 : decode cX6_init 6 = .ok (.putfield 7, 3) := by decide +kernel
theorem dX6_init_9 : decode cX6_init 9 = .ok (.aload_n 0, 1) := by decide +kernel
theorem dX6_init_10 : decode cX6_init 10 = .ok (.aload_n 1, 1) := by decide +kernel
theorem dX6_init_11 : decode cX6_init 11 = .ok (.putfield 13, 3) := by decide +kernel
theorem dX6_init_14 : decode cX6_init 14 = .ok (.return_, 1) := by decide +kernel
theorem dX6_become_0 : decode cX6_become 0 = .ok (.aload_n 0, 1) := by decide +kernel
theorem dX6_become_1 : decode cX6_become 1 = .ok (.aload_n 1, 1) := by decide +kernel
theorem dX6_become_2 : decode cX6_become 2 = .ok (.getfield 16, 3) := by decide +kernel
theorem dX6_become_5 : decode cX6_become 5 = .ok (.putfield 16, 3) := by decide +kernel
theorem dX6_become_8 : decode cX6_become 8 = .ok (.aload_n 0, 1) := by decide +kernel
theorem dX6_become_9 : decode cX6_become 9 = .ok (.aload_n 1, 1) := by decide +kernel
theorem dX6_become_10 : decode cX6_become 10 = .ok (.getfield 20, 3) := by decide +kernel
theorem dX6_become_13 : decode cX6_become 13 = .ok (.putfield 20, 3) := by decide +kernel
theorem dX6_become_16 : decode cX6_become 16 = .ok (.aload_n 0, 1) := by decide +kernel
theorem dX6_become_17 : decode cX6_become 17 = .ok (.aload_n 1, 1) := by decide +kernel
theorem dX6_become_18 : decode cX6_become 18 = .ok (.getfield 23, 3) := by decide +kernel
theorem dX6_become_21 : decode cX6_become 21 = .ok (.putfield 23, 3) := by decide +kernel
theorem dX6_become_24 : decode cX6_become 24 = .ok (.aload_n 0, 1) := by decide +kernel
theorem dX6_become_25 : decode cX6_become 25 = .ok (.aload_n 1, 1) := by decide +kernel
theorem dX6_become_26 : decode cX6_become 26 = .ok (.getfield 7, 3) := by decide +kernel
theorem dX6_become_29 : decode cX6_become 29 = .ok (.putfield 7, 3) := by decide +kernel
theorem dX6_become_32 : decode cX6_become 32 = .ok (.aload_n 0, 1) := by decide +kernel
theorem dX6_become_33 : decode cX6_become 33 = .ok (.aload_n 1, 1) := by decide +kernel
theorem dX6_become_34 : decode cX6_become 34 = .ok (.getfield 13, 3) := by decide +kernel
theorem dX6_become_37 : decode cX6_become 37 = .ok (.putfield 13, 3) := by decide +kernel
theorem dX6_become_40 : decode cX6_become 40 = .ok (.return_, 1) := by decide +kernel
theorem dX6_length_0 : decode cX6_length 0 = .ok (.aload_n 0, 1) := by decide +kernel
theorem dX6_length_1 : decode cX6_length 1 = .ok (.getfield 20, 3) := by decide +kernel
theorem dX6_length_4 : decode cX6_length 4 = .ok (.aload_n 0, 1) := by decide +kernel
theorem dX6_length_5 : decode cX6_length 5 = .ok (.getfield 16, 3) := by decide +kernel
theorem dX6_length_8 : decode cX6_length 8 = .ok (.isub, 1) := by decide +kernel
theorem dX6_length_9 : decode cX6_length 9 = .ok (.ireturn, 1) := by decide +kernel
theorem dX6_characters_0 : decode cX6_characters 0 = .ok (.aload_n 0, 1) := by decide +kernel
theorem dX6_characters_1 : decode cX6_characters 1 = .ok (.getfield 23, 3) := by decide +kernel
theorem dX6_characters_4 : decode cX6_characters 4 = .ok (.iconst 2, 1) := by decide +kernel
theorem dX6_characters_5 : decode cX6_characters 5 = .ok (.if_icmp .ne 23, 3) := by decide +kernel
theorem dX6_characters_8 : decode cX6_characters 8 = .ok (.aload_n 0, 1) := by decide +kernel
theorem dX6_characters_9 : decode cX6_characters 9 = .ok (.getfield 7, 3) := by decide +kernel
theorem dX6_characters_12 : decode cX6_characters 12 = .ok (.invokevirtual 26, 3) := by decide +kernel
theorem dX6_characters_15 : decode cX6_characters 15 = .ok (.aload_n 0, 1) := by decide +kernel
theorem dX6_characters_16 : decode cX6_characters 16 = .ok (.getfield 13, 3) := by decide +kernel
theorem dX6_characters_19 : decode cX6_characters 19 = .ok (.invokevirtual 26, 3) := by decide +kernel
theorem dX6_characters_22 : decode cX6_characters 22 = .ok (.iadd, 1) := by decide +kernel
theorem dX6_characters_23 : decode cX6_characters 23 = .ok (.iconst 4, 1) := by decide +kernel
theorem dX6_characters_24 : decode cX6_characters 24 = .ok (.iadd, 1) := by decide +kernel
theorem dX6_characters_25 : decode cX6_characters 25 = .ok (.goto 10, 3) := by decide +kernel
theorem dX6_characters_28 : decode cX6_characters 28 = .ok (.aload_n 0, 1) := by decide +kernel
theorem dX6_characters_29 : decode cX6_characters 29 = .ok (.getfield 7, 3) := by decide +kernel
theorem dX6_characters_32 : decode cX6_characters 32 = .ok (.invokevirtual 26, 3) := by decide +kernel
theorem dX6_characters_35 : decode cX6_characters 35 = .ok (.ireturn, 1) := by decide +kernel
theorem dX6_isTooWide_0 : decode cX6_isTooWide 0 = .ok (.aload_n 0, 1) := by decide +kernel
theorem dX6_isTooWide_1 : decode cX6_isTooWide 1 = .ok (.getfield 7, 3) := by decide +kernel
theorem dX6_isTooWide_4 : decode cX6_isTooWide 4 = .ok (.iload_n 1, 1) := by decide +kernel
theorem dX6_isTooWide_5 : decode cX6_isTooWide 5 = .ok (.invokevirtual 32, 3) := by decide +kernel
theorem dX6_isTooWide_8 : decode cX6_isTooWide 8 = .ok (.ifCond .ne 22, 3) := by decide +kernel
theorem dX6_isTooWide_11 : decode cX6_isTooWide 11 = .ok (.aload_n 0, 1) := by decide +kernel
theorem dX6_isTooWide_12 : decode cX6_isTooWide 12 = .ok (.getfield 23, 3) := by decide +kernel
theorem dX6_isTooWide_15 : decode cX6_isTooWide 15 = .ok (.iconst 2, 1) := by decide +kernel
theorem dX6_isTooWide_16 : decode cX6_isTooWide 16 = .ok (.if_icmp .ne 18, 3) := by decide +kernel
theorem dX6_isTooWide_19 : decode cX6_isTooWide 19 = .ok (.aload_n 0, 1) := by decide +kernel
theorem dX6_isTooWide_20 : decode cX6_isTooWide 20 = .ok (.getfield 13, 3) := by decide +kernel
theorem dX6_isTooWide_23 : decode cX6_isTooWide 23 = .ok (.iload_n 1, 1) := by decide +kernel
theorem dX6_isTooWide_24 : decode cX6_isTooWide 24 = .ok (.invokevirtual 32, 3) := by decide +kernel
theorem dX6_isTooWide_27 : decode cX6_isTooWide 27 = .ok (.ifCond .eq 7, 3) := by decide +kernel
theorem dX6_isTooWide_30 : decode cX6_isTooWide 30 = .ok (.iconst 1, 1) := by decide +kernel
theorem dX6_isTooWide_31 : decode cX6_isTooWide 31 = .ok (.goto 4, 3) := by decide +kernel
theorem dX6_isTooWide_34 : decode cX6_isTooWide 34 = .ok (.iconst 0, 1) := by decide +kernel
theorem dX6_isTooWide_35 : decode cX6_isTooWide 35 = .ok (.ireturn, 1) := by decide +kernel
theorem dX6_overlaps_0 : decode cX6_overlaps 0 = .ok (.aload_n 0, 1) := by decide +kernel
theorem dX6_overlaps_1 : decode cX6_overlaps 1 = .ok (.getfield 23, 3) := by decide +kernel
theorem dX6_overlaps_4 : decode cX6_overlaps 4 = .ok (.iconst 1, 1) := by decide +kernel
theorem dX6_overlaps_5 : decode cX6_overlaps 5 = .ok (.if_icmp .ne 28, 3) := by decide +kernel
theorem dX6_overlaps_8 : decode cX6_overlaps 8 = .ok (.aload_n 1, 1) := by decide +kernel
theorem dX6_overlaps_9 : decode cX6_overlaps 9 = .ok (.getfield 23, 3) := by decide +kernel
theorem dX6_overlaps_12 : decode cX6_overlaps 12 = .ok (.iconst 1, 1) := by decide +kernel
theorem dX6_overlaps_13 : decode cX6_overlaps 13 = .ok (.if_icmp .ne 20, 3) := by decide +kernel
theorem dX6_overlaps_16 : decode cX6_overlaps 16 = .ok (.aload_n 0, 1) := by decide +kernel
theorem dX6_overlaps_17 : decode cX6_overlaps 17 = .ok (.getfield 7, 3) := by decide +kernel
theorem dX6_overlaps_20 : decode cX6_overlaps 20 = .ok (.getfield 36, 3) := by decide +kernel
theorem dX6_overlaps_23 : decode cX6_overlaps 23 = .ok (.aload_n 1, 1) := by decide +kernel
theorem dX6_overlaps_24 : decode cX6_overlaps 24 = .ok (.getfield 7, 3) := by decide +kernel
theorem dX6_overlaps_27 : decode cX6_overlaps 27 = .ok (.getfield 36, 3) := by decide +kernel
theorem dX6_overlaps_30 : decode cX6_overlaps 30 = .ok (.if_icmp .ne 5, 3) := by decide +kernel
theorem dX6_overlaps_33 : decode cX6_overlaps 33 = .ok (.iconst 0, 1) := by decide +kernel
theorem dX6_overlaps_34 : decode cX6_overlaps 34 = .ok (.ireturn, 1) := by decide +kernel
theorem dX6_overlaps_35 : decode cX6_overlaps 35 = .ok (.aload_n 0, 1) := by decide +kernel
theorem dX6_overlaps_36 : decode cX6_overlaps 36 = .ok (.getfield 20, 3) := by decide +kernel
theorem dX6_overlaps_39 : decode cX6_overlaps 39 = .ok (.aload_n 1, 1) := by decide +kernel
theorem dX6_overlaps_40 : decode cX6_overlaps 40 = .ok (.getfield 20, 3) := by decide +kernel
theorem dX6_overlaps_43 : decode cX6_overlaps 43 = .ok (.invokestatic 39, 3) := by decide +kernel
theorem dX6_overlaps_46 : decode cX6_overlaps 46 = .ok (.aload_n 0, 1) := by decide +kernel
theorem dX6_overlaps_47 : decode cX6_overlaps 47 = .ok (.getfield 16, 3) := by decide +kernel
theorem dX6_overlaps_50 : decode cX6_overlaps 50 = .ok (.aload_n 1, 1) := by decide +kernel
theorem dX6_overlaps_51 : decode cX6_overlaps 51 = .ok (.getfield 16, 3) := by decide +kernel
theorem dX6_overlaps_54 : decode cX6_overlaps 54 = .ok (.invokestatic 45, 3) := by decide +kernel
theorem dX6_overlaps_57 : decode cX6_overlaps 57 = .ok (.isub, 1) := by decide +kernel
theorem dX6_overlaps_58 : decode cX6_overlaps 58 = .ok (.istore_n 2, 1) := by decide +kernel
theorem dX6_overlaps_59 : decode cX6_overlaps 59 = .ok (.iload_n 2, 1) := by decide +kernel
theorem dX6_overlaps_60 : decode cX6_overlaps 60 = .ok (.ifCond .le 24, 3) := by decide +kernel
theorem dX6_overlaps_63 : decode cX6_overlaps 63 = .ok (.iconst 2, 1) := by decide +kernel
theorem dX6_overlaps_64 : decode cX6_overlaps 64 = .ok (.iload_n 2, 1) := by decide +kernel
theorem dX6_overlaps_65 : decode cX6_overlaps 65 = .ok (.imul, 1) := by decide +kernel
theorem dX6_overlaps_66 : decode cX6_overlaps 66 = .ok (.aload_n 0, 1) := by decide +kernel
theorem dX6_overlaps_67 : decode cX6_overlaps 67 = .ok (.invokevirtual 48, 3) := by decide +kernel
theorem dX6_overlaps_70 : decode cX6_overlaps 70 = .ok (.aload_n 1, 1) := by decide +kernel
theorem dX6_overlaps_71 : decode cX6_overlaps 71 = .ok (.invokevirtual 48, 3) := by decide +kernel
theorem dX6_overlaps_74 : decode cX6_overlaps 74 = .ok (.invokestatic 39, 3) := by decide +kernel
theorem dX6_overlaps_77 : decode cX6_overlaps 77 = .ok (.if_icmp .lt 7, 3) := by decide +kernel
theorem dX6_overlaps_80 : decode cX6_overlaps 80 = .ok (.iconst 1, 1) := by decide +kernel
theorem dX6_overlaps_81 : decode cX6_overlaps 81 = .ok (.goto 4, 3) := by decide +kernel
theorem dX6_overlaps_84 : decode cX6_overlaps 84 = .ok (.iconst 0, 1) := by decide +kernel
theorem dX6_overlaps_85 : decode cX6_overlaps 85 = .ok (.ireturn, 1) := by decide +kernel
theorem dX6_takeIn_0 : decode cX6_takeIn 0 = .ok (.aload_n 0, 1) := by decide +kernel
theorem dX6_takeIn_1 : decode cX6_takeIn 1 = .ok (.aload_n 1, 1) := by decide +kernel
theorem dX6_takeIn_2 : decode cX6_takeIn 2 = .ok (.getfield 7, 3) := by decide +kernel
theorem dX6_takeIn_5 : decode cX6_takeIn 5 = .ok (.putfield 13, 3) := by decide +kernel
theorem dX6_takeIn_8 : decode cX6_takeIn 8 = .ok (.aload_n 0, 1) := by decide +kernel
theorem dX6_takeIn_9 : decode cX6_takeIn 9 = .ok (.iconst 2, 1) := by decide +kernel
theorem dX6_takeIn_10 : decode cX6_takeIn 10 = .ok (.putfield 23, 3) := by decide +kernel
theorem dX6_takeIn_13 : decode cX6_takeIn 13 = .ok (.aload_n 0, 1) := by decide +kernel
theorem dX6_takeIn_14 : decode cX6_takeIn 14 = .ok (.aload_n 0, 1) := by decide +kernel
theorem dX6_takeIn_15 : decode cX6_takeIn 15 = .ok (.getfield 20, 3) := by decide +kernel
theorem dX6_takeIn_18 : decode cX6_takeIn 18 = .ok (.aload_n 1, 1) := by decide +kernel
theorem dX6_takeIn_19 : decode cX6_takeIn 19 = .ok (.getfield 20, 3) := by decide +kernel
theorem dX6_takeIn_22 : decode cX6_takeIn 22 = .ok (.invokestatic 45, 3) := by decide +kernel
theorem dX6_takeIn_25 : decode cX6_takeIn 25 = .ok (.putfield 20, 3) := by decide +kernel
theorem dX6_takeIn_28 : decode cX6_takeIn 28 = .ok (.return_, 1) := by decide +kernel
theorem dX7_init_0 : decode cX7_init 0 = .ok (.aload_n 0, 1) := by decide +kernel
theorem dX7_init_1 : decode cX7_init 1 = .ok (.invokespecial 3, 3) := by decide +kernel
theorem dX7_init_4 : decode cX7_init 4 = .ok (.aload_n 0, 1) := by decide +kernel
theorem dX7_init_5 : decode cX7_init 5 = .ok (.bipush 16, 2) := by decide +kernel
theorem dX7_init_7 : decode cX7_init 7 = .ok (.anewarray 9, 3) := by decide +kernel
theorem dX7_init_10 : decode cX7_init 10 = .ok (.putfield 11, 3) := by decide +kernel
theorem dX7_init_13 : decode cX7_init 13 = .ok (.iconst 0, 1) := by decide +kernel
theorem dX7_init_14 : decode cX7_init 14 = .ok (.istore_n 2, 1) := by decide +kernel
theorem dX7_init_15 : decode cX7_init 15 = .ok (.iload_n 2, 1) := by decide +kernel
theorem dX7_init_16 : decode cX7_init 16 = .ok (.aload_n 0, 1) := by decide +kernel
theorem dX7_init_17 : decode cX7_init 17 = .ok (.getfield 11, 3) := by decide +kernel
theorem dX7_init_20 : decode cX7_init 20 = .ok (.arraylength, 1) := by decide +kernel
theorem dX7_init_21 : decode cX7_init 21 = .ok (.if_icmp .ge 23, 3) := by decide +kernel
theorem dX7_init_24 : decode cX7_init 24 = .ok (.aload_n 0, 1) := by decide +kernel
theorem dX7_init_25 : decode cX7_init 25 = .ok (.getfield 11, 3) := by decide +kernel
theorem dX7_init_28 : decode cX7_init 28 = .ok (.iload_n 2, 1) := by decide +kernel
theorem dX7_init_29 : decode cX7_init 29 = .ok (.new 9, 3) := by decide +kernel
theorem dX7_init_32 : decode cX7_init 32 = .ok (.dup, 1) := by decide +kernel
theorem dX7_init_33 : decode cX7_init 33 = .ok (.aload_n 1, 1) := by decide +kernel
theorem dX7_init_34 : decode cX7_init 34 = .ok (.invokespecial 17, 3) := by decide +kernel
theorem dX7_init_37 : decode cX7_init 37 = .ok (.aastore, 1) := by decide +kernel
theorem dX7_init_38 : decode cX7_init 38 = .ok (.iinc 2 1, 3) := by decide +kernel
theorem dX7_init_41 : decode cX7_init 41 = .ok (.goto (-26), 3) := by decide +kernel
theorem dX7_init_44 : decode cX7_init 44 = .ok (.aload_n 0, 1) := by decide +kernel
theorem dX7_init_45 : decode cX7_init 45 = .ok (.new 9, 3) := by decide +kernel
theorem dX7_init_48 : decode cX7_init 48 = .ok (.dup, 1) := by decide +kernel
theorem dX7_init_49 : decode cX7_init 49 = .ok (.aload_n 1, 1) := by decide +kernel
theorem dX7_init_50 : decode cX7_init 50 = .ok (.invokespecial 17, 3) := by decide +kernel
theorem dX7_init_53 : decode cX7_init 53 = .ok (.putfield 20, 3) := by decide +kernel
theorem dX7_init_56 : decode cX7_init 56 = .ok (.return_, 1) := by decide +kernel
theorem dX7_become_0 : decode cX7_become 0 = .ok (.aload_n 0, 1) := by decide +kernel
theorem dX7_become_1 : decode cX7_become 1 = .ok (.aload_n 1, 1) := by decide +kernel
theorem dX7_become_2 : decode cX7_become 2 = .ok (.getfield 24, 3) := by decide +kernel
theorem dX7_become_5 : decode cX7_become 5 = .ok (.putfield 24, 3) := by decide +kernel
theorem dX7_become_8 : decode cX7_become 8 = .ok (.iconst 0, 1) := by decide +kernel
theorem dX7_become_9 : decode cX7_become 9 = .ok (.istore_n 2, 1) := by decide +kernel
theorem dX7_become_10 : decode cX7_become 10 = .ok (.iload_n 2, 1) := by decide +kernel
theorem dX7_become_11 : decode cX7_become 11 = .ok (.aload_n 0, 1) := by decide +kernel
theorem dX7_become_12 : decode cX7_become 12 = .ok (.getfield 24, 3) := by decide +kernel
theorem dX7_become_15 : decode cX7_become 15 = .ok (.if_icmp .ge 24, 3) := by decide +kernel
theorem dX7_become_18 : decode cX7_become 18 = .ok (.aload_n 0, 1) := by decide +kernel
theorem dX7_become_19 : decode cX7_become 19 = .ok (.getfield 11, 3) := by decide +kernel
theorem dX7_become_22 : decode cX7_become 22 = .ok (.iload_n 2, 1) := by decide +kernel
theorem dX7_become_23 : decode cX7_become 23 = .ok (.aaload, 1) := by decide +kernel
theorem dX7_become_24 : decode cX7_become 24 = .ok (.aload_n 1, 1) := by decide +kernel
theorem dX7_become_25 : decode cX7_become 25 = .ok (.getfield 11, 3) := by decide +kernel
theorem dX7_become_28 : decode cX7_become 28 = .ok (.iload_n 2, 1) := by decide +kernel
theorem dX7_become_29 : decode cX7_become 29 = .ok (.aaload, 1) := by decide +kernel
theorem dX7_become_30 : decode cX7_become 30 = .ok (.invokevirtual 28, 3) := by decide +kernel
theorem dX7_become_33 : decode cX7_become 33 = .ok (.iinc 2 1, 3) := by decide +kernel
theorem dX7_become_36 : decode cX7_become 36 = .ok (.goto (-26), 3) := by decide +kernel
theorem dX7_become_39 : decode cX7_become 39 = .ok (.return_, 1) := by decide +kernel
theorem dX7_size_0 : decode cX7_size 0 = .ok (.aload_n 0, 1) := by decide +kernel
theorem dX7_size_1 : decode cX7_size 1 = .ok (.getfield 24, 3) := by decide +kernel
theorem dX7_size_4 : decode cX7_size 4 = .ok (.ireturn, 1) := by decide +kernel
theorem dX7_isFull_0 : decode cX7_isFull 0 = .ok (.aload_n 0, 1) := by decide +kernel
theorem dX7_isFull_1 : decode cX7_isFull 1 = .ok (.getfield 24, 3) := by decide +kernel
theorem dX7_isFull_4 : decode cX7_isFull 4 = .ok (.bipush 16, 2) := by decide +kernel
theorem dX7_isFull_6 : decode cX7_isFull 6 = .ok (.if_icmp .lt 7, 3) := by decide +kernel
theorem dX7_isFull_9 : decode cX7_isFull 9 = .ok (.iconst 1, 1) := by decide +kernel
theorem dX7_isFull_10 : decode cX7_isFull 10 = .ok (.goto 4, 3) := by decide +kernel
theorem dX7_isFull_13 : decode cX7_isFull 13 = .ok (.iconst 0, 1) := by decide +kernel
theorem dX7_isFull_14 : decode cX7_isFull 14 = .ok (.ireturn, 1) := by decide +kernel
theorem dX7_has_0 : decode cX7_has 0 = .ok (.iload_n 1, 1) := by decide +kernel
theorem dX7_has_1 : decode cX7_has 1 = .ok (.ifCond .lt 15, 3) := by decide +kernel
theorem dX7_has_4 : decode cX7_has 4 = .ok (.iload_n 1, 1) := by decide +kernel
theorem dX7_has_5 : decode cX7_has 5 = .ok (.aload_n 0, 1) := by decide +kernel
theorem dX7_has_6 : decode cX7_has 6 = .ok (.getfield 24, 3) := by decide +kernel
theorem dX7_has_9 : decode cX7_has 9 = .ok (.if_icmp .ge 7, 3) := by decide +kernel
theorem dX7_has_12 : decode cX7_has 12 = .ok (.iconst 1, 1) := by decide +kernel
theorem dX7_has_13 : decode cX7_has 13 = .ok (.goto 4, 3) := by decide +kernel
theorem dX7_has_16 : decode cX7_has 16 = .ok (.iconst 0, 1) := by decide +kernel
theorem dX7_has_17 : decode cX7_has 17 = .ok (.ireturn, 1) := by decide +kernel
theorem dX7_at_0 : decode cX7_at 0 = .ok (.aload_n 0, 1) := by decide +kernel
theorem dX7_at_1 : decode cX7_at 1 = .ok (.iload_n 1, 1) := by decide +kernel
theorem dX7_at_2 : decode cX7_at 2 = .ok (.invokevirtual 32, 3) := by decide +kernel
theorem dX7_at_5 : decode cX7_at 5 = .ok (.ifCond .eq 12, 3) := by decide +kernel
theorem dX7_at_8 : decode cX7_at 8 = .ok (.aload_n 0, 1) := by decide +kernel
theorem dX7_at_9 : decode cX7_at 9 = .ok (.getfield 11, 3) := by decide +kernel
theorem dX7_at_12 : decode cX7_at 12 = .ok (.iload_n 1, 1) := by decide +kernel
theorem dX7_at_13 : decode cX7_at 13 = .ok (.aaload, 1) := by decide +kernel
theorem dX7_at_14 : decode cX7_at 14 = .ok (.goto 7, 3) := by decide +kernel
theorem dX7_at_17 : decode cX7_at 17 = .ok (.aload_n 0, 1) := by decide +kernel
theorem dX7_at_18 : decode cX7_at 18 = .ok (.getfield 20, 3) := by decide +kernel
theorem dX7_at_21 : decode cX7_at 21 = .ok (.areturn, 1) := by decide +kernel
theorem dX7_empty_0 : decode cX7_empty 0 = .ok (.aload_n 0, 1) := by decide +kernel
theorem dX7_empty_1 : decode cX7_empty 1 = .ok (.iconst 0, 1) := by decide +kernel
theorem dX7_empty_2 : decode cX7_empty 2 = .ok (.putfield 24, 3) := by decide +kernel
theorem dX7_empty_5 : decode cX7_empty 5 = .ok (.return_, 1) := by decide +kernel
theorem dX7_insert_0 : decode cX7_insert 0 = .ok (.aload_n 0, 1) := by decide +kernel
theorem dX7_insert_1 : decode cX7_insert 1 = .ok (.invokevirtual 36, 3) := by decide +kernel
theorem dX7_insert_4 : decode cX7_insert 4 = .ok (.ifCond .eq 6, 3) := by decide +kernel
theorem dX7_insert_7 : decode cX7_insert 7 = .ok (.bipush (-9), 2) := by decide +kernel
theorem dX7_insert_9 : decode cX7_insert 9 = .ok (.ireturn, 1) := by decide +kernel
theorem dX7_insert_10 : decode cX7_insert 10 = .ok (.aload_n 0, 1) := by decide +kernel
theorem dX7_insert_11 : decode cX7_insert 11 = .ok (.getfield 11, 3) := by decide +kernel
theorem dX7_insert_14 : decode cX7_insert 14 = .ok (.aload_n 0, 1) := by decide +kernel
theorem dX7_insert_15 : decode cX7_insert 15 = .ok (.getfield 24, 3) := by decide +kernel
theorem dX7_insert_18 : decode cX7_insert 18 = .ok (.aaload, 1) := by decide +kernel
theorem dX7_insert_19 : decode cX7_insert 19 = .ok (.astore 4, 2) := by decide +kernel
theorem dX7_insert_21 : decode cX7_insert 21 = .ok (.aload 4, 2) := by decide +kernel
theorem dX7_insert_23 : decode cX7_insert 23 = .ok (.iload_n 1, 1) := by decide +kernel
theorem dX7_insert_24 : decode cX7_insert 24 = .ok (.putfield 40, 3) := by decide +kernel
theorem dX7_insert_27 : decode cX7_insert 27 = .ok (.aload 4, 2) := by decide +kernel
theorem dX7_insert_29 : decode cX7_insert 29 = .ok (.iload_n 2, 1) := by decide +kernel
theorem dX7_insert_30 : decode cX7_insert 30 = .ok (.putfield 43, 3) := by decide +kernel
theorem dX7_insert_33 : decode cX7_insert 33 = .ok (.aload 4, 2) := by decide +kernel
theorem dX7_insert_35 : decode cX7_insert 35 = .ok (.iconst 1, 1) := by decide +kernel
theorem dX7_insert_36 : decode cX7_insert 36 = .ok (.putfield 46, 3) := by decide +kernel
theorem dX7_insert_39 : decode cX7_insert 39 = .ok (.aload 4, 2) := by decide +kernel
theorem dX7_insert_41 : decode cX7_insert 41 = .ok (.aload_n 3, 1) := by decide +kernel
theorem dX7_insert_42 : decode cX7_insert 42 = .ok (.putfield 49, 3) := by decide +kernel
theorem dX7_insert_45 : decode cX7_insert 45 = .ok (.aload_n 0, 1) := by decide +kernel
theorem dX7_insert_46 : decode cX7_insert 46 = .ok (.dup, 1) := by decide +kernel
theorem dX7_insert_47 : decode cX7_insert 47 = .ok (.getfield 24, 3) := by decide +kernel
theorem dX7_insert_50 : decode cX7_insert 50 = .ok (.iconst 1, 1) := by decide +kernel
theorem dX7_insert_51 : decode cX7_insert 51 = .ok (.iadd, 1) := by decide +kernel
theorem dX7_insert_52 : decode cX7_insert 52 = .ok (.putfield 24, 3) := by decide +kernel
theorem dX7_insert_55 : decode cX7_insert 55 = .ok (.aload_n 0, 1) := by decide +kernel
theorem dX7_insert_56 : decode cX7_insert 56 = .ok (.aload_n 0, 1) := by decide +kernel
theorem dX7_insert_57 : decode cX7_insert 57 = .ok (.getfield 24, 3) := by decide +kernel
theorem dX7_insert_60 : decode cX7_insert 60 = .ok (.iconst 1, 1) := by decide +kernel
theorem dX7_insert_61 : decode cX7_insert 61 = .ok (.isub, 1) := by decide +kernel
theorem dX7_insert_62 : decode cX7_insert 62 = .ok (.invokevirtual 53, 3) := by decide +kernel
theorem dX7_insert_65 : decode cX7_insert 65 = .ok (.ireturn, 1) := by decide +kernel
theorem dX7_insertLike_0 : decode cX7_insertLike 0 = .ok (.aload_n 0, 1) := by decide +kernel
theorem dX7_insertLike_1 : decode cX7_insertLike 1 = .ok (.invokevirtual 36, 3) := by decide +kernel
theorem dX7_insertLike_4 : decode cX7_insertLike 4 = .ok (.ifCond .eq 4, 3) := by decide +kernel
theorem dX7_insertLike_7 : decode cX7_insertLike 7 = .ok (.return_, 1) := by decide +kernel
theorem dX7_insertLike_8 : decode cX7_insertLike 8 = .ok (.aload_n 0, 1) := by decide +kernel
theorem dX7_insertLike_9 : decode cX7_insertLike 9 = .ok (.getfield 11, 3) := by decide +kernel
theorem dX7_insertLike_12 : decode cX7_insertLike 12 = .ok (.aload_n 0, 1) := by decide +kernel
theorem dX7_insertLike_13 : decode cX7_insertLike 13 = .ok (.getfield 24, 3) := by decide +kernel
theorem dX7_insertLike_16 : decode cX7_insertLike 16 = .ok (.aaload, 1) := by decide +kernel
theorem dX7_insertLike_17 : decode cX7_insertLike 17 = .ok (.astore 4, 2) := by decide +kernel
theorem dX7_insertLike_19 : decode cX7_insertLike 19 = .ok (.aload 4, 2) := by decide +kernel
theorem dX7_insertLike_21 : decode cX7_insertLike 21 = .ok (.aload_n 1, 1) := by decide +kernel
theorem dX7_insertLike_22 : decode cX7_insertLike 22 = .ok (.invokevirtual 28, 3) := by decide +kernel
theorem dX7_insertLike_25 : decode cX7_insertLike 25 = .ok (.aload 4, 2) := by decide +kernel
theorem dX7_insertLike_27 : decode cX7_insertLike 27 = .ok (.iload_n 2, 1) := by decide +kernel
theorem dX7_insertLike_28 : decode cX7_insertLike 28 = .ok (.putfield 40, 3) := by decide +kernel
theorem dX7_insertLike_31 : decode cX7_insertLike 31 = .ok (.aload 4, 2) := by decide +kernel
theorem dX7_insertLike_33 : decode cX7_insertLike 33 = .ok (.iload_n 3, 1) := by decide +kernel
theorem dX7_insertLike_34 : decode cX7_insertLike 34 = .ok (.putfield 43, 3) := by decide +kernel
theorem dX7_insertLike_37 : decode cX7_insertLike 37 = .ok (.aload_n 0, 1) := by decide +kernel
theorem dX7_insertLike_38 : decode cX7_insertLike 38 = .ok (.dup, 1) := by decide +kernel
theorem dX7_insertLike_39 : decode cX7_insertLike 39 = .ok (.getfield 24, 3) := by decide +kernel
theorem dX7_insertLike_42 : decode cX7_insertLike 42 = .ok (.iconst 1, 1) := by decide +kernel
theorem dX7_insertLike_43 : decode cX7_insertLike 43 = .ok (.iadd, 1) := by decide +kernel
theorem dX7_insertLike_44 : decode cX7_insertLike 44 = .ok (.putfield 24, 3) := by decide +kernel
theorem dX7_insertLike_47 : decode cX7_insertLike 47 = .ok (.aload_n 0, 1) := by decide +kernel
theorem dX7_insertLike_48 : decode cX7_insertLike 48 = .ok (.aload_n 0, 1) := by decide +kernel
theorem dX7_insertLike_49 : decode cX7_insertLike 49 = .ok (.getfield 24, 3) := by decide +kernel
theorem dX7_insertLike_52 : decode cX7_insertLike 52 = .ok (.iconst 1, 1) := by decide +kernel
theorem dX7_insertLike_53 : decode cX7_insertLike 53 = .ok (.isub, 1) := by decide +kernel
theorem dX7_insertLike_54 : decode cX7_insertLike 54 = .ok (.invokevirtual 53, 3) := by decide +kernel
theorem dX7_insertLike_57 : decode cX7_insertLike 57 = .ok (.pop, 1) := by decide +kernel
theorem dX7_insertLike_58 : decode cX7_insertLike 58 = .ok (.return_, 1) := by decide +kernel
theorem dX7_remove_0 : decode cX7_remove 0 = .ok (.aload_n 0, 1) := by decide +kernel
theorem dX7_remove_1 : decode cX7_remove 1 = .ok (.iload_n 1, 1) := by decide +kernel
theorem dX7_remove_2 : decode cX7_remove 2 = .ok (.invokevirtual 32, 3) := by decide +kernel
theorem dX7_remove_5 : decode cX7_remove 5 = .ok (.ifCond .ne 4, 3) := by decide +kernel
theorem dX7_remove_8 : decode cX7_remove 8 = .ok (.return_, 1) := by decide +kernel
theorem dX7_remove_9 : decode cX7_remove 9 = .ok (.aload_n 0, 1) := by decide +kernel
theorem dX7_remove_10 : decode cX7_remove 10 = .ok (.getfield 11, 3) := by decide +kernel
theorem dX7_remove_13 : decode cX7_remove 13 = .ok (.iload_n 1, 1) := by decide +kernel
theorem dX7_remove_14 : decode cX7_remove 14 = .ok (.aaload, 1) := by decide +kernel
theorem dX7_remove_15 : decode cX7_remove 15 = .ok (.astore_n 2, 1) := by decide +kernel
theorem dX7_remove_16 : decode cX7_remove 16 = .ok (.iload_n 1, 1) := by decide +kernel
theorem dX7_remove_17 : decode cX7_remove 17 = .ok (.istore_n 3, 1) := by decide +kernel
theorem dX7_remove_18 : decode cX7_remove 18 = .ok (.iload_n 3, 1) := by decide +kernel
theorem dX7_remove_19 : decode cX7_remove 19 = .ok (.iconst 1, 1) := by decide +kernel
theorem dX7_remove_20 : decode cX7_remove 20 = .ok (.iadd, 1) := by decide +kernel
theorem dX7_remove_21 : decode cX7_remove 21 = .ok (.aload_n 0, 1) := by decide +kernel
theorem dX7_remove_22 : decode cX7_remove 22 = .ok (.getfield 24, 3) := by decide +kernel
theorem dX7_remove_25 : decode cX7_remove 25 = .ok (.if_icmp .ge 23, 3) := by decide +kernel
theorem dX7_remove_28 : decode cX7_remove 28 = .ok (.aload_n 0, 1) := by decide +kernel
theorem dX7_remove_29 : decode cX7_remove 29 = .ok (.getfield 11, 3) := by decide +kernel
theorem dX7_remove_32 : decode cX7_remove 32 = .ok (.iload_n 3, 1) := by decide +kernel
theorem dX7_remove_33 : decode cX7_remove 33 = .ok (.aload_n 0, 1) := by decide +kernel
theorem dX7_remove_34 : decode cX7_remove 34 = .ok (.getfield 11, 3) := by decide +kernel
theorem dX7_remove_37 : decode cX7_remove 37 = .ok (.iload_n 3, 1) := by decide +kernel
theorem dX7_remove_38 : decode cX7_remove 38 = .ok (.iconst 1, 1) := by decide +kernel
theorem dX7_remove_39 : decode cX7_remove 39 = .ok (.iadd, 1) := by decide +kernel
theorem dX7_remove_40 : decode cX7_remove 40 = .ok (.aaload, 1) := by decide +kernel
theorem dX7_remove_41 : decode cX7_remove 41 = .ok (.aastore, 1) := by decide +kernel
theorem dX7_remove_42 : decode cX7_remove 42 = .ok (.iinc 3 1, 3) := by decide +kernel
theorem dX7_remove_45 : decode cX7_remove 45 = .ok (.goto (-27), 3) := by decide +kernel
theorem dX7_remove_48 : decode cX7_remove 48 = .ok (.aload_n 0, 1) := by decide +kernel
theorem dX7_remove_49 : decode cX7_remove 49 = .ok (.dup, 1) := by decide +kernel
theorem dX7_remove_50 : decode cX7_remove 50 = .ok (.getfield 24, 3) := by decide +kernel
theorem dX7_remove_53 : decode cX7_remove 53 = .ok (.iconst 1, 1) := by decide +kernel
theorem dX7_remove_54 : decode cX7_remove 54 = .ok (.isub, 1) := by decide +kernel
theorem dX7_remove_55 : decode cX7_remove 55 = .ok (.putfield 24, 3) := by decide +kernel
theorem dX7_remove_58 : decode cX7_remove 58 = .ok (.aload_n 0, 1) := by decide +kernel
theorem dX7_remove_59 : decode cX7_remove 59 = .ok (.getfield 11, 3) := by decide +kernel
theorem dX7_remove_62 : decode cX7_remove 62 = .ok (.aload_n 0, 1) := by decide +kernel
theorem dX7_remove_63 : decode cX7_remove 63 = .ok (.getfield 24, 3) := by decide +kernel
theorem dX7_remove_66 : decode cX7_remove 66 = .ok (.aload_n 2, 1) := by decide +kernel
theorem dX7_remove_67 : decode cX7_remove 67 = .ok (.aastore, 1) := by decide +kernel
theorem dX7_remove_68 : decode cX7_remove 68 = .ok (.return_, 1) := by decide +kernel
theorem dX7_retime_0 : decode cX7_retime 0 = .ok (.aload_n 0, 1) := by decide +kernel
theorem dX7_retime_1 : decode cX7_retime 1 = .ok (.iload_n 1, 1) := by decide +kernel
theorem dX7_retime_2 : decode cX7_retime 2 = .ok (.invokevirtual 32, 3) := by decide +kernel
theorem dX7_retime_5 : decode cX7_retime 5 = .ok (.ifCond .ne 6, 3) := by decide +kernel
theorem dX7_retime_8 : decode cX7_retime 8 = .ok (.bipush (-9), 2) := by decide +kernel
theorem dX7_retime_10 : decode cX7_retime 10 = .ok (.ireturn, 1) := by decide +kernel
theorem dX7_retime_11 : decode cX7_retime 11 = .ok (.aload_n 0, 1) := by decide +kernel
theorem dX7_retime_12 : decode cX7_retime 12 = .ok (.iload_n 1, 1) := by decide +kernel
theorem dX7_retime_13 : decode cX7_retime 13 = .ok (.invokevirtual 57, 3) := by decide +kernel
theorem dX7_retime_16 : decode cX7_retime 16 = .ok (.aload_n 0, 1) := by decide +kernel
theorem dX7_retime_17 : decode cX7_retime 17 = .ok (.getfield 11, 3) := by decide +kernel
theorem dX7_retime_20 : decode cX7_retime 20 = .ok (.aload_n 0, 1) := by decide +kernel
theorem dX7_retime_21 : decode cX7_retime 21 = .ok (.getfield 24, 3) := by decide +kernel
theorem dX7_retime_24 : decode cX7_retime 24 = .ok (.aaload, 1) := by decide +kernel
theorem dX7_retime_25 : decode cX7_retime 25 = .ok (.iload_n 2, 1) := by decide +kernel
theorem dX7_retime_26 : decode cX7_retime 26 = .ok (.putfield 40, 3) := by decide +kernel
theorem dX7_retime_29 : decode cX7_retime 29 = .ok (.aload_n 0, 1) := by decide +kernel
theorem dX7_retime_30 : decode cX7_retime 30 = .ok (.getfield 11, 3) := by decide +kernel
theorem dX7_retime_33 : decode cX7_retime 33 = .ok (.aload_n 0, 1) := by decide +kernel
theorem dX7_retime_34 : decode cX7_retime 34 = .ok (.getfield 24, 3) := by decide +kernel
theorem dX7_retime_37 : decode cX7_retime 37 = .ok (.aaload, 1) := by decide +kernel
theorem dX7_retime_38 : decode cX7_retime 38 = .ok (.iload_n 3, 1) := by decide +kernel
theorem dX7_retime_39 : decode cX7_retime 39 = .ok (.putfield 43, 3) := by decide +kernel
theorem dX7_retime_42 : decode cX7_retime 42 = .ok (.aload_n 0, 1) := by decide +kernel
theorem dX7_retime_43 : decode cX7_retime 43 = .ok (.dup, 1) := by decide +kernel
theorem dX7_retime_44 : decode cX7_retime 44 = .ok (.getfield 24, 3) := by decide +kernel
theorem dX7_retime_47 : decode cX7_retime 47 = .ok (.iconst 1, 1) := by decide +kernel
theorem dX7_retime_48 : decode cX7_retime 48 = .ok (.iadd, 1) := by decide +kernel
theorem dX7_retime_49 : decode cX7_retime 49 = .ok (.putfield 24, 3) := by decide +kernel
theorem dX7_retime_52 : decode cX7_retime 52 = .ok (.aload_n 0, 1) := by decide +kernel
theorem dX7_retime_53 : decode cX7_retime 53 = .ok (.aload_n 0, 1) := by decide +kernel
theorem dX7_retime_54 : decode cX7_retime 54 = .ok (.getfield 24, 3) := by decide +kernel
theorem dX7_retime_57 : decode cX7_retime 57 = .ok (.iconst 1, 1) := by decide +kernel
theorem dX7_retime_58 : decode cX7_retime 58 = .ok (.isub, 1) := by decide +kernel
theorem dX7_retime_59 : decode cX7_retime 59 = .ok (.invokevirtual 53, 3) := by decide +kernel
theorem dX7_retime_62 : decode cX7_retime 62 = .ok (.ireturn, 1) := by decide +kernel
theorem dX7_settleAll_0 : decode cX7_settleAll 0 = .ok (.iconst 1, 1) := by decide +kernel
theorem dX7_settleAll_1 : decode cX7_settleAll 1 = .ok (.istore_n 1, 1) := by decide +kernel
theorem dX7_settleAll_2 : decode cX7_settleAll 2 = .ok (.iload_n 1, 1) := by decide +kernel
theorem dX7_settleAll_3 : decode cX7_settleAll 3 = .ok (.aload_n 0, 1) := by decide +kernel
theorem dX7_settleAll_4 : decode cX7_settleAll 4 = .ok (.getfield 24, 3) := by decide +kernel
theorem dX7_settleAll_7 : decode cX7_settleAll 7 = .ok (.if_icmp .ge 15, 3) := by decide +kernel
theorem dX7_settleAll_10 : decode cX7_settleAll 10 = .ok (.aload_n 0, 1) := by decide +kernel
theorem dX7_settleAll_11 : decode cX7_settleAll 11 = .ok (.iload_n 1, 1) := by decide +kernel
theorem dX7_settleAll_12 : decode cX7_settleAll 12 = .ok (.invokevirtual 53, 3) := by decide +kernel
theorem dX7_settleAll_15 : decode cX7_settleAll 15 = .ok (.pop, 1) := by decide +kernel
theorem dX7_settleAll_16 : decode cX7_settleAll 16 = .ok (.iinc 1 1, 3) := by decide +kernel
theorem dX7_settleAll_19 : decode cX7_settleAll 19 = .ok (.goto (-17), 3) := by decide +kernel
theorem dX7_settleAll_22 : decode cX7_settleAll 22 = .ok (.return_, 1) := by decide +kernel
theorem dX7_settle_0 : decode cX7_settle 0 = .ok (.aload_n 0, 1) := by decide +kernel
theorem dX7_settle_1 : decode cX7_settle 1 = .ok (.iload_n 1, 1) := by decide +kernel
theorem dX7_settle_2 : decode cX7_settle 2 = .ok (.invokevirtual 32, 3) := by decide +kernel
theorem dX7_settle_5 : decode cX7_settle 5 = .ok (.ifCond .eq 7, 3) := by decide +kernel
theorem dX7_settle_8 : decode cX7_settle 8 = .ok (.iload_n 1, 1) := by decide +kernel
theorem dX7_settle_9 : decode cX7_settle 9 = .ok (.goto 4, 3) := by decide +kernel
theorem dX7_settle_12 : decode cX7_settle 12 = .ok (.iconst 0, 1) := by decide +kernel
theorem dX7_settle_13 : decode cX7_settle 13 = .ok (.istore_n 2, 1) := by decide +kernel
theorem dX7_settle_14 : decode cX7_settle 14 = .ok (.iload_n 2, 1) := by decide +kernel
theorem dX7_settle_15 : decode cX7_settle 15 = .ok (.ifCond .le 62, 3) := by decide +kernel
theorem dX7_settle_18 : decode cX7_settle 18 = .ok (.aload_n 0, 1) := by decide +kernel
theorem dX7_settle_19 : decode cX7_settle 19 = .ok (.getfield 11, 3) := by decide +kernel
theorem dX7_settle_22 : decode cX7_settle 22 = .ok (.iload_n 2, 1) := by decide +kernel
theorem dX7_settle_23 : decode cX7_settle 23 = .ok (.iconst 1, 1) := by decide +kernel
theorem dX7_settle_24 : decode cX7_settle 24 = .ok (.isub, 1) := by decide +kernel
theorem dX7_settle_25 : decode cX7_settle 25 = .ok (.aaload, 1) := by decide +kernel
theorem dX7_settle_26 : decode cX7_settle 26 = .ok (.getfield 40, 3) := by decide +kernel
theorem dX7_settle_29 : decode cX7_settle 29 = .ok (.aload_n 0, 1) := by decide +kernel
theorem dX7_settle_30 : decode cX7_settle 30 = .ok (.getfield 11, 3) := by decide +kernel
theorem dX7_settle_33 : decode cX7_settle 33 = .ok (.iload_n 2, 1) := by decide +kernel
theorem dX7_settle_34 : decode cX7_settle 34 = .ok (.aaload, 1) := by decide +kernel
theorem dX7_settle_35 : decode cX7_settle 35 = .ok (.getfield 40, 3) := by decide +kernel
theorem dX7_settle_38 : decode cX7_settle 38 = .ok (.if_icmp .le 39, 3) := by decide +kernel
theorem dX7_settle_41 : decode cX7_settle 41 = .ok (.aload_n 0, 1) := by decide +kernel
theorem dX7_settle_42 : decode cX7_settle 42 = .ok (.getfield 11, 3) := by decide +kernel
theorem dX7_settle_45 : decode cX7_settle 45 = .ok (.iload_n 2, 1) := by decide +kernel
theorem dX7_settle_46 : decode cX7_settle 46 = .ok (.iconst 1, 1) := by decide +kernel
theorem dX7_settle_47 : decode cX7_settle 47 = .ok (.isub, 1) := by decide +kernel
theorem dX7_settle_48 : decode cX7_settle 48 = .ok (.aaload, 1) := by decide +kernel
theorem dX7_settle_49 : decode cX7_settle 49 = .ok (.astore_n 3, 1) := by decide +kernel
theorem dX7_settle_50 : decode cX7_settle 50 = .ok (.aload_n 0, 1) := by decide +kernel
theorem dX7_settle_51 : decode cX7_settle 51 = .ok (.getfield 11, 3) := by decide +kernel
theorem dX7_settle_54 : decode cX7_settle 54 = .ok (.iload_n 2, 1) := by decide +kernel
theorem dX7_settle_55 : decode cX7_settle 55 = .ok (.iconst 1, 1) := by decide +kernel
theorem dX7_settle_56 : decode cX7_settle 56 = .ok (.isub, 1) := by decide +kernel
theorem dX7_settle_57 : decode cX7_settle 57 = .ok (.aload_n 0, 1) := by decide +kernel
theorem dX7_settle_58 : decode cX7_settle 58 = .ok (.getfield 11, 3) := by decide +kernel
theorem dX7_settle_61 : decode cX7_settle 61 = .ok (.iload_n 2, 1) := by decide +kernel
theorem dX7_settle_62 : decode cX7_settle 62 = .ok (.aaload, 1) := by decide +kernel
theorem dX7_settle_63 : decode cX7_settle 63 = .ok (.aastore, 1) := by decide +kernel
theorem dX7_settle_64 : decode cX7_settle 64 = .ok (.aload_n 0, 1) := by decide +kernel
theorem dX7_settle_65 : decode cX7_settle 65 = .ok (.getfield 11, 3) := by decide +kernel
theorem dX7_settle_68 : decode cX7_settle 68 = .ok (.iload_n 2, 1) := by decide +kernel
theorem dX7_settle_69 : decode cX7_settle 69 = .ok (.aload_n 3, 1) := by decide +kernel
theorem dX7_settle_70 : decode cX7_settle 70 = .ok (.aastore, 1) := by decide +kernel
theorem dX7_settle_71 : decode cX7_settle 71 = .ok (.iinc 2 (-1), 3) := by decide +kernel
theorem dX7_settle_74 : decode cX7_settle 74 = .ok (.goto (-60), 3) := by decide +kernel
theorem dX7_settle_77 : decode cX7_settle 77 = .ok (.iload_n 2, 1) := by decide +kernel
theorem dX7_settle_78 : decode cX7_settle 78 = .ok (.ireturn, 1) := by decide +kernel
theorem dX7_next_0 : decode cX7_next 0 = .ok (.iload_n 1, 1) := by decide +kernel
theorem dX7_next_1 : decode cX7_next 1 = .ok (.iconst 1, 1) := by decide +kernel
theorem dX7_next_2 : decode cX7_next 2 = .ok (.iadd, 1) := by decide +kernel
theorem dX7_next_3 : decode cX7_next 3 = .ok (.istore_n 2, 1) := by decide +kernel
theorem dX7_next_4 : decode cX7_next 4 = .ok (.aload_n 0, 1) := by decide +kernel
theorem dX7_next_5 : decode cX7_next 5 = .ok (.iload_n 1, 1) := by decide +kernel
theorem dX7_next_6 : decode cX7_next 6 = .ok (.invokevirtual 32, 3) := by decide +kernel
theorem dX7_next_9 : decode cX7_next 9 = .ok (.ifCond .eq 40, 3) := by decide +kernel
theorem dX7_next_12 : decode cX7_next 12 = .ok (.iload_n 2, 1) := by decide +kernel
theorem dX7_next_13 : decode cX7_next 13 = .ok (.aload_n 0, 1) := by decide +kernel
theorem dX7_next_14 : decode cX7_next 14 = .ok (.getfield 24, 3) := by decide +kernel
theorem dX7_next_17 : decode cX7_next 17 = .ok (.if_icmp .ge 32, 3) := by decide +kernel
theorem dX7_next_20 : decode cX7_next 20 = .ok (.aload_n 0, 1) := by decide +kernel
theorem dX7_next_21 : decode cX7_next 21 = .ok (.getfield 11, 3) := by decide +kernel
theorem dX7_next_24 : decode cX7_next 24 = .ok (.iload_n 2, 1) := by decide +kernel
theorem dX7_next_25 : decode cX7_next 25 = .ok (.aaload, 1) := by decide +kernel
theorem dX7_next_26 : decode cX7_next 26 = .ok (.getfield 40, 3) := by decide +kernel
theorem dX7_next_29 : decode cX7_next 29 = .ok (.aload_n 0, 1) := by decide +kernel
theorem dX7_next_30 : decode cX7_next 30 = .ok (.getfield 11, 3) := by decide +kernel
theorem dX7_next_33 : decode cX7_next 33 = .ok (.iload_n 1, 1) := by decide +kernel
theorem dX7_next_34 : decode cX7_next 34 = .ok (.aaload, 1) := by decide +kernel
theorem dX7_next_35 : decode cX7_next 35 = .ok (.getfield 40, 3) := by decide +kernel
theorem dX7_next_38 : decode cX7_next 38 = .ok (.if_icmp .le 5, 3) := by decide +kernel
theorem dX7_next_41 : decode cX7_next 41 = .ok (.iload_n 2, 1) := by decide +kernel
theorem dX7_next_42 : decode cX7_next 42 = .ok (.ireturn, 1) := by decide +kernel
theorem dX7_next_43 : decode cX7_next 43 = .ok (.iinc 2 1, 3) := by decide +kernel
theorem dX7_next_46 : decode cX7_next 46 = .ok (.goto (-42), 3) := by decide +kernel
theorem dX7_next_49 : decode cX7_next 49 = .ok (.bipush (-9), 2) := by decide +kernel
theorem dX7_next_51 : decode cX7_next 51 = .ok (.ireturn, 1) := by decide +kernel
theorem dX7_sharesFirst_0 : decode cX7_sharesFirst 0 = .ok (.aload_n 0, 1) := by decide +kernel
theorem dX7_sharesFirst_1 : decode cX7_sharesFirst 1 = .ok (.iload_n 1, 1) := by decide +kernel
theorem dX7_sharesFirst_2 : decode cX7_sharesFirst 2 = .ok (.invokevirtual 61, 3) := by decide +kernel
theorem dX7_sharesFirst_5 : decode cX7_sharesFirst 5 = .ok (.getfield 40, 3) := by decide +kernel
theorem dX7_sharesFirst_8 : decode cX7_sharesFirst 8 = .ok (.istore_n 2, 1) := by decide +kernel
theorem dX7_sharesFirst_9 : decode cX7_sharesFirst 9 = .ok (.aload_n 0, 1) := by decide +kernel
theorem dX7_sharesFirst_10 : decode cX7_sharesFirst 10 = .ok (.iload_n 1, 1) := by decide +kernel
theorem dX7_sharesFirst_11 : decode cX7_sharesFirst 11 = .ok (.iconst 1, 1) := by decide +kernel
theorem dX7_sharesFirst_12 : decode cX7_sharesFirst 12 = .ok (.isub, 1) := by decide +kernel
theorem dX7_sharesFirst_13 : decode cX7_sharesFirst 13 = .ok (.invokevirtual 32, 3) := by decide +kernel
theorem dX7_sharesFirst_16 : decode cX7_sharesFirst 16 = .ok (.ifCond .eq 17, 3) := by decide +kernel
theorem dX7_sharesFirst_19 : decode cX7_sharesFirst 19 = .ok (.aload_n 0, 1) := by decide +kernel
theorem dX7_sharesFirst_20 : decode cX7_sharesFirst 20 = .ok (.iload_n 1, 1) := by decide +kernel
theorem dX7_sharesFirst_21 : decode cX7_sharesFirst 21 = .ok (.iconst 1, 1) := by decide +kernel
theorem dX7_sharesFirst_22 : decode cX7_sharesFirst 22 = .ok (.isub, 1) := by decide +kernel
theorem dX7_sharesFirst_23 : decode cX7_sharesFirst 23 = .ok (.invokevirtual 61, 3) := by decide +kernel
theorem dX7_sharesFirst_26 : decode cX7_sharesFirst 26 = .ok (.getfield 40, 3) := by decide +kernel
theorem dX7_sharesFirst_29 : decode cX7_sharesFirst 29 = .ok (.iload_n 2, 1) := by decide +kernel
theorem dX7_sharesFirst_30 : decode cX7_sharesFirst 30 = .ok (.if_icmp .eq 27, 3) := by decide +kernel
theorem dX7_sharesFirst_33 : decode cX7_sharesFirst 33 = .ok (.aload_n 0, 1) := by decide +kernel
theorem dX7_sharesFirst_34 : decode cX7_sharesFirst 34 = .ok (.iload_n 1, 1) := by decide +kernel
theorem dX7_sharesFirst_35 : decode cX7_sharesFirst 35 = .ok (.iconst 1, 1) := by decide +kernel
theorem dX7_sharesFirst_36 : decode cX7_sharesFirst 36 = .ok (.iadd, 1) := by decide +kernel
theorem dX7_sharesFirst_37 : decode cX7_sharesFirst 37 = .ok (.invokevirtual 32, 3) := by decide +kernel
theorem dX7_sharesFirst_40 : decode cX7_sharesFirst 40 = .ok (.ifCond .eq 21, 3) := by decide +kernel
theorem dX7_sharesFirst_43 : decode cX7_sharesFirst 43 = .ok (.aload_n 0, 1) := by decide +kernel
theorem dX7_sharesFirst_44 : decode cX7_sharesFirst 44 = .ok (.iload_n 1, 1) := by decide +kernel
theorem dX7_sharesFirst_45 : decode cX7_sharesFirst 45 = .ok (.iconst 1, 1) := by decide +kernel
theorem dX7_sharesFirst_46 : decode cX7_sharesFirst 46 = .ok (.iadd, 1) := by decide +kernel
theorem dX7_sharesFirst_47 : decode cX7_sharesFirst 47 = .ok (.invokevirtual 61, 3) := by decide +kernel
theorem dX7_sharesFirst_50 : decode cX7_sharesFirst 50 = .ok (.getfield 40, 3) := by decide +kernel
theorem dX7_sharesFirst_53 : decode cX7_sharesFirst 53 = .ok (.iload_n 2, 1) := by decide +kernel
theorem dX7_sharesFirst_54 : decode cX7_sharesFirst 54 = .ok (.if_icmp .ne 7, 3) := by decide +kernel
theorem dX7_sharesFirst_57 : decode cX7_sharesFirst 57 = .ok (.iconst 1, 1) := by decide +kernel
theorem dX7_sharesFirst_58 : decode cX7_sharesFirst 58 = .ok (.goto 4, 3) := by decide +kernel
theorem dX7_sharesFirst_61 : decode cX7_sharesFirst 61 = .ok (.iconst 0, 1) := by decide +kernel
theorem dX7_sharesFirst_62 : decode cX7_sharesFirst 62 = .ok (.ireturn, 1) := by decide +kernel
theorem dX7_allLengths_0 : decode cX7_allLengths 0 = .ok (.iconst 0, 1) := by decide +kernel
theorem dX7_allLengths_1 : decode cX7_allLengths 1 = .ok (.istore_n 1, 1) := by decide +kernel
theorem dX7_allLengths_2 : decode cX7_allLengths 2 = .ok (.iconst 0, 1) := by decide +kernel
theorem dX7_allLengths_3 : decode cX7_allLengths 3 = .ok (.istore_n 2, 1) := by decide +kernel
theorem dX7_allLengths_4 : decode cX7_allLengths 4 = .ok (.iload_n 2, 1) := by decide +kernel
theorem dX7_allLengths_5 : decode cX7_allLengths 5 = .ok (.aload_n 0, 1) := by decide +kernel
theorem dX7_allLengths_6 : decode cX7_allLengths 6 = .ok (.getfield 24, 3) := by decide +kernel
theorem dX7_allLengths_9 : decode cX7_allLengths 9 = .ok (.if_icmp .ge 21, 3) := by decide +kernel
theorem dX7_allLengths_12 : decode cX7_allLengths 12 = .ok (.iload_n 1, 1) := by decide +kernel
theorem dX7_allLengths_13 : decode cX7_allLengths 13 = .ok (.aload_n 0, 1) := by decide +kernel
theorem dX7_allLengths_14 : decode cX7_allLengths 14 = .ok (.getfield 11, 3) := by decide +kernel
theorem dX7_allLengths_17 : decode cX7_allLengths 17 = .ok (.iload_n 2, 1) := by decide +kernel
theorem dX7_allLengths_18 : decode cX7_allLengths 18 = .ok (.aaload, 1) := by decide +kernel
theorem dX7_allLengths_19 : decode cX7_allLengths 19 = .ok (.invokevirtual 65, 3) := by decide +kernel
theorem dX7_allLengths_22 : decode cX7_allLengths 22 = .ok (.iadd, 1) := by decide +kernel
theorem dX7_allLengths_23 : decode cX7_allLengths 23 = .ok (.istore_n 1, 1) := by decide +kernel
theorem dX7_allLengths_24 : decode cX7_allLengths 24 = .ok (.iinc 2 1, 3) := by decide +kernel
theorem dX7_allLengths_27 : decode cX7_allLengths 27 = .ok (.goto (-23), 3) := by decide +kernel
theorem dX7_allLengths_30 : decode cX7_allLengths 30 = .ok (.iload_n 1, 1) := by decide +kernel
theorem dX7_allLengths_31 : decode cX7_allLengths 31 = .ok (.ireturn, 1) := by decide +kernel
theorem dX7_greatestEnd_0 : decode cX7_greatestEnd 0 = .ok (.iconst 0, 1) := by decide +kernel
theorem dX7_greatestEnd_1 : decode cX7_greatestEnd 1 = .ok (.istore_n 1, 1) := by decide +kernel
theorem dX7_greatestEnd_2 : decode cX7_greatestEnd 2 = .ok (.iconst 0, 1) := by decide +kernel
theorem dX7_greatestEnd_3 : decode cX7_greatestEnd 3 = .ok (.istore_n 2, 1) := by decide +kernel
theorem dX7_greatestEnd_4 : decode cX7_greatestEnd 4 = .ok (.iload_n 2, 1) := by decide +kernel
theorem dX7_greatestEnd_5 : decode cX7_greatestEnd 5 = .ok (.aload_n 0, 1) := by decide +kernel
theorem dX7_greatestEnd_6 : decode cX7_greatestEnd 6 = .ok (.getfield 24, 3) := by decide +kernel
theorem dX7_greatestEnd_9 : decode cX7_greatestEnd 9 = .ok (.if_icmp .ge 23, 3) := by decide +kernel
theorem dX7_greatestEnd_12 : decode cX7_greatestEnd 12 = .ok (.iload_n 1, 1) := by decide +kernel
theorem dX7_greatestEnd_13 : decode cX7_greatestEnd 13 = .ok (.aload_n 0, 1) := by decide +kernel
theorem dX7_greatestEnd_14 : decode cX7_greatestEnd 14 = .ok (.getfield 11, 3) := by decide +kernel
theorem dX7_greatestEnd_17 : decode cX7_greatestEnd 17 = .ok (.iload_n 2, 1) := by decide +kernel
theorem dX7_greatestEnd_18 : decode cX7_greatestEnd 18 = .ok (.aaload, 1) := by decide +kernel
theorem dX7_greatestEnd_19 : decode cX7_greatestEnd 19 = .ok (.getfield 43, 3) := by decide +kernel
theorem dX7_greatestEnd_22 : decode cX7_greatestEnd 22 = .ok (.invokestatic 69, 3) := by decide +kernel
theorem dX7_greatestEnd_25 : decode cX7_greatestEnd 25 = .ok (.istore_n 1, 1) := by decide +kernel
theorem dX7_greatestEnd_26 : decode cX7_greatestEnd 26 = .ok (.iinc 2 1, 3) := by decide +kernel
theorem dX7_greatestEnd_29 : decode cX7_greatestEnd 29 = .ok (.goto (-25), 3) := by decide +kernel
theorem dX7_greatestEnd_32 : decode cX7_greatestEnd 32 = .ok (.iload_n 1, 1) := by decide +kernel
theorem dX7_greatestEnd_33 : decode cX7_greatestEnd 33 = .ok (.ireturn, 1) := by decide +kernel
theorem dX7_countPairs_0 : decode cX7_countPairs 0 = .ok (.iconst 0, 1) := by decide +kernel
theorem dX7_countPairs_1 : decode cX7_countPairs 1 = .ok (.istore_n 1, 1) := by decide +kernel
theorem dX7_countPairs_2 : decode cX7_countPairs 2 = .ok (.iconst 0, 1) := by decide +kernel
theorem dX7_countPairs_3 : decode cX7_countPairs 3 = .ok (.istore_n 2, 1) := by decide +kernel
theorem dX7_countPairs_4 : decode cX7_countPairs 4 = .ok (.iload_n 2, 1) := by decide +kernel
theorem dX7_countPairs_5 : decode cX7_countPairs 5 = .ok (.aload_n 0, 1) := by decide +kernel
theorem dX7_countPairs_6 : decode cX7_countPairs 6 = .ok (.getfield 24, 3) := by decide +kernel
theorem dX7_countPairs_9 : decode cX7_countPairs 9 = .ok (.if_icmp .ge 25, 3) := by decide +kernel
theorem dX7_countPairs_12 : decode cX7_countPairs 12 = .ok (.aload_n 0, 1) := by decide +kernel
theorem dX7_countPairs_13 : decode cX7_countPairs 13 = .ok (.getfield 11, 3) := by decide +kernel
theorem dX7_countPairs_16 : decode cX7_countPairs 16 = .ok (.iload_n 2, 1) := by decide +kernel
theorem dX7_countPairs_17 : decode cX7_countPairs 17 = .ok (.aaload, 1) := by decide +kernel
theorem dX7_countPairs_18 : decode cX7_countPairs 18 = .ok (.getfield 46, 3) := by decide +kernel
theorem dX7_countPairs_21 : decode cX7_countPairs 21 = .ok (.iconst 2, 1) := by decide +kernel
theorem dX7_countPairs_22 : decode cX7_countPairs 22 = .ok (.if_icmp .ne 6, 3) := by decide +kernel
theorem dX7_countPairs_25 : decode cX7_countPairs 25 = .ok (.iinc 1 1, 3) := by decide +kernel
theorem dX7_countPairs_28 : decode cX7_countPairs 28 = .ok (.iinc 2 1, 3) := by decide +kernel
theorem dX7_countPairs_31 : decode cX7_countPairs 31 = .ok (.goto (-27), 3) := by decide +kernel
theorem dX7_countPairs_34 : decode cX7_countPairs 34 = .ok (.iload_n 1, 1) := by decide +kernel
theorem dX7_countPairs_35 : decode cX7_countPairs 35 = .ok (.ireturn, 1) := by decide +kernel
theorem dX7_shownAt_0 : decode cX7_shownAt 0 = .ok (.iconst 0, 1) := by decide +kernel
theorem dX7_shownAt_1 : decode cX7_shownAt 1 = .ok (.istore_n 2, 1) := by decide +kernel
theorem dX7_shownAt_2 : decode cX7_shownAt 2 = .ok (.iconst 0, 1) := by decide +kernel
theorem dX7_shownAt_3 : decode cX7_shownAt 3 = .ok (.istore_n 3, 1) := by decide +kernel
theorem dX7_shownAt_4 : decode cX7_shownAt 4 = .ok (.iload_n 3, 1) := by decide +kernel
theorem dX7_shownAt_5 : decode cX7_shownAt 5 = .ok (.aload_n 0, 1) := by decide +kernel
theorem dX7_shownAt_6 : decode cX7_shownAt 6 = .ok (.getfield 24, 3) := by decide +kernel
theorem dX7_shownAt_9 : decode cX7_shownAt 9 = .ok (.if_icmp .ge 41, 3) := by decide +kernel
theorem dX7_shownAt_12 : decode cX7_shownAt 12 = .ok (.aload_n 0, 1) := by decide +kernel
theorem dX7_shownAt_13 : decode cX7_shownAt 13 = .ok (.getfield 11, 3) := by decide +kernel
theorem dX7_shownAt_16 : decode cX7_shownAt 16 = .ok (.iload_n 3, 1) := by decide +kernel
theorem dX7_shownAt_17 : decode cX7_shownAt 17 = .ok (.aaload, 1) := by decide +kernel
theorem dX7_shownAt_18 : decode cX7_shownAt 18 = .ok (.getfield 40, 3) := by decide +kernel
theorem dX7_shownAt_21 : decode cX7_shownAt 21 = .ok (.iload_n 1, 1) := by decide +kernel
theorem dX7_shownAt_22 : decode cX7_shownAt 22 = .ok (.if_icmp .gt 22, 3) := by decide +kernel
theorem dX7_shownAt_25 : decode cX7_shownAt 25 = .ok (.iload_n 1, 1) := by decide +kernel
theorem dX7_shownAt_26 : decode cX7_shownAt 26 = .ok (.aload_n 0, 1) := by decide +kernel
theorem dX7_shownAt_27 : decode cX7_shownAt 27 = .ok (.getfield 11, 3) := by decide +kernel
theorem dX7_shownAt_30 : decode cX7_shownAt 30 = .ok (.iload_n 3, 1) := by decide +kernel
theorem dX7_shownAt_31 : decode cX7_shownAt 31 = .ok (.aaload, 1) := by decide +kernel
theorem dX7_shownAt_32 : decode cX7_shownAt 32 = .ok (.getfield 43, 3) := by decide +kernel
theorem dX7_shownAt_35 : decode cX7_shownAt 35 = .ok (.if_icmp .ge 9, 3) := by decide +kernel
theorem dX7_shownAt_38 : decode cX7_shownAt 38 = .ok (.iload_n 2, 1) := by decide +kernel
theorem dX7_shownAt_39 : decode cX7_shownAt 39 = .ok (.iconst 1, 1) := by decide +kernel
theorem dX7_shownAt_40 : decode cX7_shownAt 40 = .ok (.iload_n 3, 1) := by decide +kernel
theorem dX7_shownAt_41 : decode cX7_shownAt 41 = .ok (.ishl, 1) := by decide +kernel
theorem dX7_shownAt_42 : decode cX7_shownAt 42 = .ok (.ior, 1) := by decide +kernel
theorem dX7_shownAt_43 : decode cX7_shownAt 43 = .ok (.istore_n 2, 1) := by decide +kernel
theorem dX7_shownAt_44 : decode cX7_shownAt 44 = .ok (.iinc 3 1, 3) := by decide +kernel
theorem dX7_shownAt_47 : decode cX7_shownAt 47 = .ok (.goto (-43), 3) := by decide +kernel
theorem dX7_shownAt_50 : decode cX7_shownAt 50 = .ok (.iload_n 2, 1) := by decide +kernel
theorem dX7_shownAt_51 : decode cX7_shownAt 51 = .ok (.ireturn, 1) := by decide +kernel
theorem dX8_init_0 : decode cX8_init 0 = .ok (.aload_n 0, 1) := by decide +kernel
theorem dX8_init_1 : decode cX8_init 1 = .ok (.invokespecial 3, 3) := by decide +kernel
theorem dX8_init_4 : decode cX8_init 4 = .ok (.aload_n 0, 1) := by decide +kernel
theorem dX8_init_5 : decode cX8_init 5 = .ok (.bipush 10, 2) := by decide +kernel
theorem dX8_init_7 : decode cX8_init 7 = .ok (.newarray .int, 2) := by decide +kernel
theorem dX8_init_9 : decode cX8_init 9 = .ok (.putfield 9, 3) := by decide +kernel
theorem dX8_init_12 : decode cX8_init 12 = .ok (.aload_n 0, 1) := by decide +kernel
theorem dX8_init_13 : decode cX8_init 13 = .ok (.bipush 10, 2) := by decide +kernel
theorem dX8_init_15 : decode cX8_init 15 = .ok (.newarray .int, 2) := by decide +kernel
theorem dX8_init_17 : decode cX8_init 17 = .ok (.putfield 15, 3) := by decide +kernel
theorem dX8_init_20 : decode cX8_init 20 = .ok (.aload_n 0, 1) := by decide +kernel
theorem dX8_init_21 : decode cX8_init 21 = .ok (.new 18, 3) := by decide +kernel
theorem dX8_init_24 : decode cX8_init 24 = .ok (.dup, 1) := by decide +kernel
theorem dX8_init_25 : decode cX8_init 25 = .ok (.aload_n 1, 1) := by decide +kernel
theorem dX8_init_26 : decode cX8_init 26 = .ok (.invokespecial 20, 3) := by decide +kernel
theorem dX8_init_29 : decode cX8_init 29 = .ok (.putfield 23, 3) := by decide +kernel
theorem dX8_init_32 : decode cX8_init 32 = .ok (.return_, 1) := by decide +kernel
theorem dX8_carryOut_0 : decode cX8_carryOut 0 = .ok (.aload_n 0, 1) := by decide +kernel
theorem dX8_carryOut_1 : decode cX8_carryOut 1 = .ok (.getfield 23, 3) := by decide +kernel
theorem dX8_carryOut_4 : decode cX8_carryOut 4 = .ok (.aload_n 1, 1) := by decide +kernel
theorem dX8_carryOut_5 : decode cX8_carryOut 5 = .ok (.invokevirtual 27, 3) := by decide +kernel
theorem dX8_carryOut_8 : decode cX8_carryOut 8 = .ok (.aload_n 0, 1) := by decide +kernel
theorem dX8_carryOut_9 : decode cX8_carryOut 9 = .ok (.iconst 0, 1) := by decide +kernel
theorem dX8_carryOut_10 : decode cX8_carryOut 10 = .ok (.putfield 31, 3) := by decide +kernel
theorem dX8_carryOut_13 : decode cX8_carryOut 13 = .ok (.iload_n 2, 1) := by decide +kernel
theorem dX8_carryOut_14 : decode cX8_carryOut 14 = .ok (.iconst 1, 1) := by decide +kernel
theorem dX8_carryOut_15 : decode cX8_carryOut 15 = .ok (.iand, 1) := by decide +kernel
theorem dX8_carryOut_16 : decode cX8_carryOut 16 = .ok (.ifCond .eq 13, 3) := by decide +kernel
theorem dX8_carryOut_19 : decode cX8_carryOut 19 = .ok (.aload_n 0, 1) := by decide +kernel
theorem dX8_carryOut_20 : decode cX8_carryOut 20 = .ok (.aload_n 1, 1) := by decide +kernel
theorem dX8_carryOut_21 : decode cX8_carryOut 21 = .ok (.invokevirtual 35, 3) := by decide +kernel
theorem dX8_carryOut_24 : decode cX8_carryOut 24 = .ok (.ifCond .ne 5, 3) := by decide +kernel
theorem dX8_carryOut_27 : decode cX8_carryOut 27 = .ok (.iconst 0, 1) := by decide +kernel
theorem dX8_carryOut_28 : decode cX8_carryOut 28 = .ok (.ireturn, 1) := by decide +kernel
theorem dX8_carryOut_29 : decode cX8_carryOut 29 = .ok (.iload_n 2, 1) := by decide +kernel
theorem dX8_carryOut_30 : decode cX8_carryOut 30 = .ok (.iconst 2, 1) := by decide +kernel
theorem dX8_carryOut_31 : decode cX8_carryOut 31 = .ok (.iand, 1) := by decide +kernel
theorem dX8_carryOut_32 : decode cX8_carryOut 32 = .ok (.ifCond .eq 7, 3) := by decide +kernel
theorem dX8_carryOut_35 : decode cX8_carryOut 35 = .ok (.aload_n 0, 1) := by decide +kernel
theorem dX8_carryOut_36 : decode cX8_carryOut 36 = .ok (.invokevirtual 39, 3) := by decide +kernel
theorem dX8_carryOut_39 : decode cX8_carryOut 39 = .ok (.iload_n 2, 1) := by decide +kernel
theorem dX8_carryOut_40 : decode cX8_carryOut 40 = .ok (.iconst 4, 1) := by decide +kernel
theorem dX8_carryOut_41 : decode cX8_carryOut 41 = .ok (.iand, 1) := by decide +kernel
theorem dX8_carryOut_42 : decode cX8_carryOut 42 = .ok (.ifCond .eq 7, 3) := by decide +kernel
theorem dX8_carryOut_45 : decode cX8_carryOut 45 = .ok (.aload_n 0, 1) := by decide +kernel
theorem dX8_carryOut_46 : decode cX8_carryOut 46 = .ok (.invokevirtual 42, 3) := by decide +kernel
theorem dX8_carryOut_49 : decode cX8_carryOut 49 = .ok (.iload_n 2, 1) := by decide +kernel
theorem dX8_carryOut_50 : decode cX8_carryOut 50 = .ok (.bipush 8, 2) := by decide +kernel
theorem dX8_carryOut_52 : decode cX8_carryOut 52 = .ok (.iand, 1) := by decide +kernel
theorem dX8_carryOut_53 : decode cX8_carryOut 53 = .ok (.ifCond .eq 7, 3) := by decide +kernel
theorem dX8_carryOut_56 : decode cX8_carryOut 56 = .ok (.aload_n 0, 1) := by decide +kernel
theorem dX8_carryOut_57 : decode cX8_carryOut 57 = .ok (.invokevirtual 45, 3) := by decide +kernel
theorem dX8_carryOut_60 : decode cX8_carryOut 60 = .ok (.iload_n 2, 1) := by decide +kernel
theorem dX8_carryOut_61 : decode cX8_carryOut 61 = .ok (.bipush 16, 2) := by decide +kernel
theorem dX8_carryOut_63 : decode cX8_carryOut 63 = .ok (.iand, 1) := by decide +kernel
theorem dX8_carryOut_64 : decode cX8_carryOut 64 = .ok (.ifCond .eq 7, 3) := by decide +kernel
theorem dX8_carryOut_67 : decode cX8_carryOut 67 = .ok (.aload_n 0, 1) := by decide +kernel
theorem dX8_carryOut_68 : decode cX8_carryOut 68 = .ok (.invokevirtual 48, 3) := by decide +kernel
theorem dX8_carryOut_71 : decode cX8_carryOut 71 = .ok (.iconst 1, 1) := by decide +kernel
theorem dX8_carryOut_72 : decode cX8_carryOut 72 = .ok (.ireturn, 1) := by decide +kernel
theorem dX8_countStretches_0 : decode cX8_countStretches 0 = .ok (.aload_n 0, 1) := by decide +kernel
theorem dX8_countStretches_1 : decode cX8_countStretches 1 = .ok (.aload_n 1, 1) := by decide +kernel
theorem dX8_countStretches_2 : decode cX8_countStretches 2 = .ok (.aload_n 2, 1) := by decide +kernel
theorem dX8_countStretches_3 : decode cX8_countStretches 3 = .ok (.invokevirtual 51, 3) := by decide +kernel
theorem dX8_countStretches_6 : decode cX8_countStretches 6 = .ok (.aload_n 0, 1) := by decide +kernel
theorem dX8_countStretches_7 : decode cX8_countStretches 7 = .ok (.getfield 55, 3) := by decide +kernel
theorem dX8_countStretches_10 : decode cX8_countStretches 10 = .ok (.ireturn, 1) := by decide +kernel
theorem dX8_map_0 : decode cX8_map 0 = .ok (.aload_n 0, 1) := by decide +kernel
theorem dX8_map_1 : decode cX8_map 1 = .ok (.getfield 23, 3) := by decide +kernel
theorem dX8_map_4 : decode cX8_map 4 = .ok (.getfield 58, 3) := by decide +kernel
theorem dX8_map_7 : decode cX8_map 7 = .ok (.astore_n 2, 1) := by decide +kernel
theorem dX8_map_8 : decode cX8_map 8 = .ok (.aload_n 2, 1) := by decide +kernel
theorem dX8_map_9 : decode cX8_map 9 = .ok (.invokevirtual 62, 3) := by decide +kernel
theorem dX8_map_12 : decode cX8_map 12 = .ok (.iconst 0, 1) := by decide +kernel
theorem dX8_map_13 : decode cX8_map 13 = .ok (.istore_n 3, 1) := by decide +kernel
theorem dX8_map_14 : decode cX8_map 14 = .ok (.iload_n 3, 1) := by decide +kernel
theorem dX8_map_15 : decode cX8_map 15 = .ok (.aload_n 1, 1) := by decide +kernel
theorem dX8_map_16 : decode cX8_map 16 = .ok (.getfield 58, 3) := by decide +kernel
theorem dX8_map_19 : decode cX8_map 19 = .ok (.invokevirtual 67, 3) := by decide +kernel
theorem dX8_map_22 : decode cX8_map 22 = .ok (.if_icmp .ge 100, 3) := by decide +kernel
theorem dX8_map_25 : decode cX8_map 25 = .ok (.aload_n 1, 1) := by decide +kernel
theorem dX8_map_26 : decode cX8_map 26 = .ok (.getfield 58, 3) := by decide +kernel
theorem dX8_map_29 : decode cX8_map 29 = .ok (.iload_n 3, 1) := by decide +kernel
theorem dX8_map_30 : decode cX8_map 30 = .ok (.invokevirtual 71, 3) := by decide +kernel
theorem dX8_map_33 : decode cX8_map 33 = .ok (.astore 4, 2) := by decide +kernel
theorem dX8_map_35 : decode cX8_map 35 = .ok (.aload_n 0, 1) := by decide +kernel
theorem dX8_map_36 : decode cX8_map 36 = .ok (.aload 4, 2) := by decide +kernel
theorem dX8_map_38 : decode cX8_map 38 = .ok (.aload_n 1, 1) := by decide +kernel
theorem dX8_map_39 : decode cX8_map 39 = .ok (.getfield 75, 3) := by decide +kernel
theorem dX8_map_42 : decode cX8_map 42 = .ok (.invokevirtual 51, 3) := by decide +kernel
theorem dX8_map_45 : decode cX8_map 45 = .ok (.aload_n 0, 1) := by decide +kernel
theorem dX8_map_46 : decode cX8_map 46 = .ok (.getfield 55, 3) := by decide +kernel
theorem dX8_map_49 : decode cX8_map 49 = .ok (.ifCond .ne 13, 3) := by decide +kernel
theorem dX8_map_52 : decode cX8_map 52 = .ok (.aload_n 0, 1) := by decide +kernel
theorem dX8_map_53 : decode cX8_map 53 = .ok (.dup, 1) := by decide +kernel
theorem dX8_map_54 : decode cX8_map 54 = .ok (.getfield 31, 3) := by decide +kernel
theorem dX8_map_57 : decode cX8_map 57 = .ok (.iconst 1, 1) := by decide +kernel
theorem dX8_map_58 : decode cX8_map 58 = .ok (.iadd, 1) := by decide +kernel
theorem dX8_map_59 : decode cX8_map 59 = .ok (.putfield 31, 3) := by decide +kernel
theorem dX8_map_62 : decode cX8_map 62 = .ok (.aload_n 2, 1) := by decide +kernel
theorem dX8_map_63 : decode cX8_map 63 = .ok (.invokevirtual 67, 3) := by decide +kernel
theorem dX8_map_66 : decode cX8_map 66 = .ok (.aload_n 0, 1) := by decide +kernel
theorem dX8_map_67 : decode cX8_map 67 = .ok (.getfield 55, 3) := by decide +kernel
theorem dX8_map_70 : decode cX8_map 70 = .ok (.iadd, 1) := by decide +kernel
theorem dX8_map_71 : decode cX8_map 71 = .ok (.bipush 16, 2) := by decide +kernel
theorem dX8_map_73 : decode cX8_map 73 = .ok (.if_icmp .le 5, 3) := by decide +kernel
theorem dX8_map_76 : decode cX8_map 76 = .ok (.iconst 0, 1) := by decide +kernel
theorem dX8_map_77 : decode cX8_map 77 = .ok (.ireturn, 1) := by decide +kernel
theorem dX8_map_78 : decode cX8_map 78 = .ok (.iconst 0, 1) := by decide +kernel
theorem dX8_map_79 : decode cX8_map 79 = .ok (.istore 5, 2) := by decide +kernel
theorem dX8_map_81 : decode cX8_map 81 = .ok (.iload 5, 2) := by decide +kernel
theorem dX8_map_83 : decode cX8_map 83 = .ok (.aload_n 0, 1) := by decide +kernel
theorem dX8_map_84 : decode cX8_map 84 = .ok (.getfield 55, 3) := by decide +kernel
theorem dX8_map_87 : decode cX8_map 87 = .ok (.if_icmp .ge 29, 3) := by decide +kernel
theorem dX8_map_90 : decode cX8_map 90 = .ok (.aload_n 2, 1) := by decide +kernel
theorem dX8_map_91 : decode cX8_map 91 = .ok (.aload 4, 2) := by decide +kernel
theorem dX8_map_93 : decode cX8_map 93 = .ok (.aload_n 0, 1) := by decide +kernel
theorem dX8_map_94 : decode cX8_map 94 = .ok (.getfield 9, 3) := by decide +kernel
theorem dX8_map_97 : decode cX8_map 97 = .ok (.iload 5, 2) := by decide +kernel
theorem dX8_map_99 : decode cX8_map 99 = .ok (.iaload, 1) := by decide +kernel
theorem dX8_map_100 : decode cX8_map 100 = .ok (.aload_n 0, 1) := by decide +kernel
theorem dX8_map_101 : decode cX8_map 101 = .ok (.getfield 15, 3) := by decide +kernel
theorem dX8_map_104 : decode cX8_map 104 = .ok (.iload 5, 2) := by decide +kernel
theorem dX8_map_106 : decode cX8_map 106 = .ok (.iaload, 1) := by decide +kernel
theorem dX8_map_107 : decode cX8_map 107 = .ok (.invokevirtual 79, 3) := by decide +kernel
theorem dX8_map_110 : decode cX8_map 110 = .ok (.iinc 5 1, 3) := by decide +kernel
theorem dX8_map_113 : decode cX8_map 113 = .ok (.goto (-32), 3) := by decide +kernel
theorem dX8_map_116 : decode cX8_map 116 = .ok (.iinc 3 1, 3) := by decide +kernel
theorem dX8_map_119 : decode cX8_map 119 = .ok (.goto (-105), 3) := by decide +kernel
theorem dX8_map_122 : decode cX8_map 122 = .ok (.iconst 1, 1) := by decide +kernel
theorem dX8_map_123 : decode cX8_map 123 = .ok (.ireturn, 1) := by decide +kernel
theorem dX8_findStretches_0 : decode cX8_findStretches 0 = .ok (.aload_n 0, 1) := by decide +kernel
theorem dX8_findStretches_1 : decode cX8_findStretches 1 = .ok (.iconst 0, 1) := by decide +kernel
theorem dX8_findStretches_2 : decode cX8_findStretches 2 = .ok (.putfield 55, 3) := by decide +kernel
theorem dX8_findStretches_5 : decode cX8_findStretches 5 = .ok (.iconst 0, 1) := by decide +kernel
theorem dX8_findStretches_6 : decode cX8_findStretches 6 = .ok (.istore_n 3, 1) := by decide +kernel
theorem dX8_findStretches_7 : decode cX8_findStretches 7 = .ok (.iconst 0, 1) := by decide +kernel
theorem dX8_findStretches_8 : decode cX8_findStretches 8 = .ok (.istore 4, 2) := by decide +kernel
theorem dX8_findStretches_10 : decode cX8_findStretches 10 = .ok (.iload 4, 2) := by decide +kernel
theorem dX8_findStretches_12 : decode cX8_findStretches 12 = .ok (.aload_n 2, 1) := by decide +kernel
theorem dX8_findStretches_13 : decode cX8_findStretches 13 = .ok (.invokevirtual 83, 3) := by decide +kernel
theorem dX8_findStretches_16 : decode cX8_findStretches 16 = .ok (.if_icmp .ge 82, 3) := by decide +kernel
theorem dX8_findStretches_19 : decode cX8_findStretches 19 = .ok (.aload_n 2, 1) := by decide +kernel
theorem dX8_findStretches_20 : decode cX8_findStretches 20 = .ok (.iload 4, 2) := by decide +kernel
theorem dX8_findStretches_22 : decode cX8_findStretches 22 = .ok (.invokevirtual 86, 3) := by decide +kernel
theorem dX8_findStretches_25 : decode cX8_findStretches 25 = .ok (.istore 5, 2) := by decide +kernel
theorem dX8_findStretches_27 : decode cX8_findStretches 27 = .ok (.aload_n 1, 1) := by decide +kernel
theorem dX8_findStretches_28 : decode cX8_findStretches 28 = .ok (.getfield 90, 3) := by decide +kernel
theorem dX8_findStretches_31 : decode cX8_findStretches 31 = .ok (.iload 5, 2) := by decide +kernel
theorem dX8_findStretches_33 : decode cX8_findStretches 33 = .ok (.invokestatic 95, 3) := by decide +kernel
theorem dX8_findStretches_36 : decode cX8_findStretches 36 = .ok (.istore 6, 2) := by decide +kernel
theorem dX8_findStretches_38 : decode cX8_findStretches 38 = .ok (.aload_n 1, 1) := by decide +kernel
theorem dX8_findStretches_39 : decode cX8_findStretches 39 = .ok (.getfield 101, 3) := by decide +kernel
theorem dX8_findStretches_42 : decode cX8_findStretches 42 = .ok (.iload 5, 2) := by decide +kernel
theorem dX8_findStretches_44 : decode cX8_findStretches 44 = .ok (.aload_n 2, 1) := by decide +kernel
theorem dX8_findStretches_45 : decode cX8_findStretches 45 = .ok (.iload 4, 2) := by decide +kernel
theorem dX8_findStretches_47 : decode cX8_findStretches 47 = .ok (.invokevirtual 104, 3) := by decide +kernel
theorem dX8_findStretches_50 : decode cX8_findStretches 50 = .ok (.iadd, 1) := by decide +kernel
theorem dX8_findStretches_51 : decode cX8_findStretches 51 = .ok (.invokestatic 107, 3) := by decide +kernel
theorem dX8_findStretches_54 : decode cX8_findStretches 54 = .ok (.istore 7, 2) := by decide +kernel
theorem dX8_findStretches_56 : decode cX8_findStretches 56 = .ok (.iload 7, 2) := by decide +kernel
theorem dX8_findStretches_58 : decode cX8_findStretches 58 = .ok (.iload 6, 2) := by decide +kernel
theorem dX8_findStretches_60 : decode cX8_findStretches 60 = .ok (.isub, 1) := by decide +kernel
theorem dX8_findStretches_61 : decode cX8_findStretches 61 = .ok (.iconst 4, 1) := by decide +kernel
theorem dX8_findStretches_62 : decode cX8_findStretches 62 = .ok (.if_icmp .lt 21, 3) := by decide +kernel
theorem dX8_findStretches_65 : decode cX8_findStretches 65 = .ok (.aload_n 0, 1) := by decide +kernel
theorem dX8_findStretches_66 : decode cX8_findStretches 66 = .ok (.iload_n 3, 1) := by decide +kernel
theorem dX8_findStretches_67 : decode cX8_findStretches 67 = .ok (.iload 6, 2) := by decide +kernel
theorem dX8_findStretches_69 : decode cX8_findStretches 69 = .ok (.iadd, 1) := by decide +kernel
theorem dX8_findStretches_70 : decode cX8_findStretches 70 = .ok (.iload 5, 2) := by decide +kernel
theorem dX8_findStretches_72 : decode cX8_findStretches 72 = .ok (.isub, 1) := by decide +kernel
theorem dX8_findStretches_73 : decode cX8_findStretches 73 = .ok (.iload_n 3, 1) := by decide +kernel
theorem dX8_findStretches_74 : decode cX8_findStretches 74 = .ok (.iload 7, 2) := by decide +kernel
theorem dX8_findStretches_76 : decode cX8_findStretches 76 = .ok (.iadd, 1) := by decide +kernel
theorem dX8_findStretches_77 : decode cX8_findStretches 77 = .ok (.iload 5, 2) := by decide +kernel
theorem dX8_findStretches_79 : decode cX8_findStretches 79 = .ok (.isub, 1) := by decide +kernel
theorem dX8_findStretches_80 : decode cX8_findStretches 80 = .ok (.invokevirtual 110, 3) := by decide +kernel
theorem dX8_findStretches_83 : decode cX8_findStretches 83 = .ok (.iload_n 3, 1) := by decide +kernel
theorem dX8_findStretches_84 : decode cX8_findStretches 84 = .ok (.aload_n 2, 1) := by decide +kernel
theorem dX8_findStretches_85 : decode cX8_findStretches 85 = .ok (.iload 4, 2) := by decide +kernel
theorem dX8_findStretches_87 : decode cX8_findStretches 87 = .ok (.invokevirtual 104, 3) := by decide +kernel
theorem dX8_findStretches_90 : decode cX8_findStretches 90 = .ok (.iadd, 1) := by decide +kernel
theorem dX8_findStretches_91 : decode cX8_findStretches 91 = .ok (.istore_n 3, 1) := by decide +kernel
theorem dX8_findStretches_92 : decode cX8_findStretches 92 = .ok (.iinc 4 1, 3) := by decide +kernel
theorem dX8_findStretches_95 : decode cX8_findStretches 95 = .ok (.goto (-85), 3) := by decide +kernel
theorem dX8_findStretches_98 : decode cX8_findStretches 98 = .ok (.return_, 1) := by decide +kernel
theorem dX8_put_0 : decode cX8_put 0 = .ok (.aload_n 0, 1) := by decide +kernel
theorem dX8_put_1 : decode cX8_put 1 = .ok (.getfield 55, 3) := by decide +kernel
theorem dX8_put_4 : decode cX8_put 4 = .ok (.ifCond .le 33, 3) := by decide +kernel
theorem dX8_put_7 : decode cX8_put 7 = .ok (.aload_n 0, 1) := by decide +kernel
theorem dX8_put_8 : decode cX8_put 8 = .ok (.getfield 15, 3) := by decide +kernel
theorem dX8_put_11 : decode cX8_put 11 = .ok (.aload_n 0, 1) := by decide +kernel
theorem dX8_put_12 : decode cX8_put 12 = .ok (.getfield 55, 3) := by decide +kernel
theorem dX8_put_15 : decode cX8_put 15 = .ok (.iconst 1, 1) := by decide +kernel
theorem dX8_put_16 : decode cX8_put 16 = .ok (.isub, 1) := by decide +kernel
theorem dX8_put_17 : decode cX8_put 17 = .ok (.iaload, 1) := by decide +kernel
theorem dX8_put_18 : decode cX8_put 18 = .ok (.iload_n 1, 1) := by decide +kernel
theorem dX8_put_19 : decode cX8_put 19 = .ok (.if_icmp .ne 18, 3) := by decide +kernel
theorem dX8_put_22 : decode cX8_put 22 = .ok (.aload_n 0, 1) := by decide +kernel
theorem dX8_put_23 : decode cX8_put 23 = .ok (.getfield 15, 3) := by decide +kernel
theorem dX8_put_26 : decode cX8_put 26 = .ok (.aload_n 0, 1) := by decide +kernel
theorem dX8_put_27 : decode cX8_put 27 = .ok (.getfield 55, 3) := by decide +kernel
theorem dX8_put_30 : decode cX8_put 30 = .ok (.iconst 1, 1) := by decide +kernel
theorem dX8_put_31 : decode cX8_put 31 = .ok (.isub, 1) := by decide +kernel
theorem dX8_put_32 : decode cX8_put 32 = .ok (.iload_n 2, 1) := by decide +kernel
theorem dX8_put_33 : decode cX8_put 33 = .ok (.iastore, 1) := by decide +kernel
theorem dX8_put_34 : decode cX8_put 34 = .ok (.goto 42, 3) := by decide +kernel
theorem dX8_put_37 : decode cX8_put 37 = .ok (.aload_n 0, 1) := by decide +kernel
theorem dX8_put_38 : decode cX8_put 38 = .ok (.getfield 55, 3) := by decide +kernel
theorem dX8_put_41 : decode cX8_put 41 = .ok (.bipush 10, 2) := by decide +kernel
theorem dX8_put_43 : decode cX8_put 43 = .ok (.if_icmp .ge 33, 3) := by decide +kernel
theorem dX8_put_46 : decode cX8_put 46 = .ok (.aload_n 0, 1) := by decide +kernel
theorem dX8_put_47 : decode cX8_put 47 = .ok (.getfield 9, 3) := by decide +kernel
theorem dX8_put_50 : decode cX8_put 50 = .ok (.aload_n 0, 1) := by decide +kernel
theorem dX8_put_51 : decode cX8_put 51 = .ok (.getfield 55, 3) := by decide +kernel
theorem dX8_put_54 : decode cX8_put 54 = .ok (.iload_n 1, 1) := by decide +kernel
theorem dX8_put_55 : decode cX8_put 55 = .ok (.iastore, 1) := by decide +kernel
theorem dX8_put_56 : decode cX8_put 56 = .ok (.aload_n 0, 1) := by decide +kernel
theorem dX8_put_57 : decode cX8_put 57 = .ok (.getfield 15, 3) := by decide +kernel
theorem dX8_put_60 : decode cX8_put 60 = .ok (.aload_n 0, 1) := by decide +kernel
theorem dX8_put_61 : decode cX8_put 61 = .ok (.getfield 55, 3) := by decide +kernel
theorem dX8_put_64 : decode cX8_put 64 = .ok (.iload_n 2, 1) := by decide +kernel
theorem dX8_put_65 : decode cX8_put 65 = .ok (.iastore, 1) := by decide +kernel
theorem dX8_put_66 : decode cX8_put 66 = .ok (.aload_n 0, 1) := by decide +kernel
theorem dX8_put_67 : decode cX8_put 67 = .ok (.dup, 1) := by decide +kernel
theorem dX8_put_68 : decode cX8_put 68 = .ok (.getfield 55, 3) := by decide +kernel
theorem dX8_put_71 : decode cX8_put 71 = .ok (.iconst 1, 1) := by decide +kernel
theorem dX8_put_72 : decode cX8_put 72 = .ok (.iadd, 1) := by decide +kernel
theorem dX8_put_73 : decode cX8_put 73 = .ok (.putfield 55, 3) := by decide +kernel
theorem dX8_put_76 : decode cX8_put 76 = .ok (.return_, 1) := by decide +kernel
theorem dX8_merge_0 : decode cX8_merge 0 = .ok (.aload_n 0, 1) := by decide +kernel
theorem dX8_merge_1 : decode cX8_merge 1 = .ok (.getfield 23, 3) := by decide +kernel
theorem dX8_merge_4 : decode cX8_merge 4 = .ok (.getfield 58, 3) := by decide +kernel
theorem dX8_merge_7 : decode cX8_merge 7 = .ok (.astore_n 1, 1) := by decide +kernel
theorem dX8_merge_8 : decode cX8_merge 8 = .ok (.iconst 0, 1) := by decide +kernel
theorem dX8_merge_9 : decode cX8_merge 9 = .ok (.istore_n 2, 1) := by decide +kernel
theorem dX8_merge_10 : decode cX8_merge 10 = .ok (.iload_n 2, 1) := by decide +kernel
theorem dX8_merge_11 : decode cX8_merge 11 = .ok (.iconst 1, 1) := by decide +kernel
theorem dX8_merge_12 : decode cX8_merge 12 = .ok (.iadd, 1) := by decide +kernel
theorem dX8_merge_13 : decode cX8_merge 13 = .ok (.aload_n 1, 1) := by decide +kernel
theorem dX8_merge_14 : decode cX8_merge 14 = .ok (.invokevirtual 67, 3) := by decide +kernel
theorem dX8_merge_17 : decode cX8_merge 17 = .ok (.if_icmp .ge 49, 3) := by decide +kernel
theorem dX8_merge_20 : decode cX8_merge 20 = .ok (.aload_n 1, 1) := by decide +kernel
theorem dX8_merge_21 : decode cX8_merge 21 = .ok (.iload_n 2, 1) := by decide +kernel
theorem dX8_merge_22 : decode cX8_merge 22 = .ok (.invokevirtual 71, 3) := by decide +kernel
theorem dX8_merge_25 : decode cX8_merge 25 = .ok (.aload_n 1, 1) := by decide +kernel
theorem dX8_merge_26 : decode cX8_merge 26 = .ok (.iload_n 2, 1) := by decide +kernel
theorem dX8_merge_27 : decode cX8_merge 27 = .ok (.iconst 1, 1) := by decide +kernel
theorem dX8_merge_28 : decode cX8_merge 28 = .ok (.iadd, 1) := by decide +kernel
theorem dX8_merge_29 : decode cX8_merge 29 = .ok (.invokevirtual 71, 3) := by decide +kernel
theorem dX8_merge_32 : decode cX8_merge 32 = .ok (.invokevirtual 114, 3) := by decide +kernel
theorem dX8_merge_35 : decode cX8_merge 35 = .ok (.ifCond .eq 25, 3) := by decide +kernel
theorem dX8_merge_38 : decode cX8_merge 38 = .ok (.aload_n 1, 1) := by decide +kernel
theorem dX8_merge_39 : decode cX8_merge 39 = .ok (.iload_n 2, 1) := by decide +kernel
theorem dX8_merge_40 : decode cX8_merge 40 = .ok (.invokevirtual 71, 3) := by decide +kernel
theorem dX8_merge_43 : decode cX8_merge 43 = .ok (.aload_n 1, 1) := by decide +kernel
theorem dX8_merge_44 : decode cX8_merge 44 = .ok (.iload_n 2, 1) := by decide +kernel
theorem dX8_merge_45 : decode cX8_merge 45 = .ok (.iconst 1, 1) := by decide +kernel
theorem dX8_merge_46 : decode cX8_merge 46 = .ok (.iadd, 1) := by decide +kernel
theorem dX8_merge_47 : decode cX8_merge 47 = .ok (.invokevirtual 71, 3) := by decide +kernel
theorem dX8_merge_50 : decode cX8_merge 50 = .ok (.invokevirtual 118, 3) := by decide +kernel
theorem dX8_merge_53 : decode cX8_merge 53 = .ok (.aload_n 1, 1) := by decide +kernel
theorem dX8_merge_54 : decode cX8_merge 54 = .ok (.iload_n 2, 1) := by decide +kernel
theorem dX8_merge_55 : decode cX8_merge 55 = .ok (.iconst 1, 1) := by decide +kernel
theorem dX8_merge_56 : decode cX8_merge 56 = .ok (.iadd, 1) := by decide +kernel
theorem dX8_merge_57 : decode cX8_merge 57 = .ok (.invokevirtual 122, 3) := by decide +kernel
theorem dX8_merge_60 : decode cX8_merge 60 = .ok (.iinc 2 1, 3) := by decide +kernel
theorem dX8_merge_63 : decode cX8_merge 63 = .ok (.goto (-53), 3) := by decide +kernel
theorem dX8_merge_66 : decode cX8_merge 66 = .ok (.return_, 1) := by decide +kernel
theorem dX8_stretch_0 : decode cX8_stretch 0 = .ok (.aload_n 0, 1) := by decide +kernel
theorem dX8_stretch_1 : decode cX8_stretch 1 = .ok (.getfield 23, 3) := by decide +kernel
theorem dX8_stretch_4 : decode cX8_stretch 4 = .ok (.getfield 75, 3) := by decide +kernel
theorem dX8_stretch_7 : decode cX8_stretch 7 = .ok (.invokevirtual 126, 3) := by decide +kernel
theorem dX8_stretch_10 : decode cX8_stretch 10 = .ok (.istore_n 1, 1) := by decide +kernel
theorem dX8_stretch_11 : decode cX8_stretch 11 = .ok (.iconst 0, 1) := by decide +kernel
theorem dX8_stretch_12 : decode cX8_stretch 12 = .ok (.istore_n 2, 1) := by decide +kernel
theorem dX8_stretch_13 : decode cX8_stretch 13 = .ok (.iload_n 2, 1) := by decide +kernel
theorem dX8_stretch_14 : decode cX8_stretch 14 = .ok (.aload_n 0, 1) := by decide +kernel
theorem dX8_stretch_15 : decode cX8_stretch 15 = .ok (.getfield 23, 3) := by decide +kernel
theorem dX8_stretch_18 : decode cX8_stretch 18 = .ok (.getfield 58, 3) := by decide +kernel
theorem dX8_stretch_21 : decode cX8_stretch 21 = .ok (.invokevirtual 67, 3) := by decide +kernel
theorem dX8_stretch_24 : decode cX8_stretch 24 = .ok (.if_icmp .ge 68, 3) := by decide +kernel
theorem dX8_stretch_27 : decode cX8_stretch 27 = .ok (.aload_n 0, 1) := by decide +kernel
theorem dX8_stretch_28 : decode cX8_stretch 28 = .ok (.getfield 23, 3) := by decide +kernel
theorem dX8_stretch_31 : decode cX8_stretch 31 = .ok (.getfield 58, 3) := by decide +kernel
theorem dX8_stretch_34 : decode cX8_stretch 34 = .ok (.iload_n 2, 1) := by decide +kernel
theorem dX8_stretch_35 : decode cX8_stretch 35 = .ok (.invokevirtual 71, 3) := by decide +kernel
theorem dX8_stretch_38 : decode cX8_stretch 38 = .ok (.astore_n 3, 1) := by decide +kernel
theorem dX8_stretch_39 : decode cX8_stretch 39 = .ok (.iload_n 1, 1) := by decide +kernel
theorem dX8_stretch_40 : decode cX8_stretch 40 = .ok (.aload_n 0, 1) := by decide +kernel
theorem dX8_stretch_41 : decode cX8_stretch 41 = .ok (.getfield 23, 3) := by decide +kernel
theorem dX8_stretch_44 : decode cX8_stretch 44 = .ok (.iload_n 2, 1) := by decide +kernel
theorem dX8_stretch_45 : decode cX8_stretch 45 = .ok (.invokevirtual 129, 3) := by decide +kernel
theorem dX8_stretch_48 : decode cX8_stretch 48 = .ok (.invokestatic 107, 3) := by decide +kernel
theorem dX8_stretch_51 : decode cX8_stretch 51 = .ok (.istore 4, 2) := by decide +kernel
theorem dX8_stretch_53 : decode cX8_stretch 53 = .ok (.aload_n 3, 1) := by decide +kernel
theorem dX8_stretch_54 : decode cX8_stretch 54 = .ok (.getfield 90, 3) := by decide +kernel
theorem dX8_stretch_57 : decode cX8_stretch 57 = .ok (.aload_n 0, 1) := by decide +kernel
theorem dX8_stretch_58 : decode cX8_stretch 58 = .ok (.getfield 23, 3) := by decide +kernel
theorem dX8_stretch_61 : decode cX8_stretch 61 = .ok (.aload_n 3, 1) := by decide +kernel
theorem dX8_stretch_62 : decode cX8_stretch 62 = .ok (.invokevirtual 132, 3) := by decide +kernel
theorem dX8_stretch_65 : decode cX8_stretch 65 = .ok (.iadd, 1) := by decide +kernel
theorem dX8_stretch_66 : decode cX8_stretch 66 = .ok (.istore 5, 2) := by decide +kernel
theorem dX8_stretch_68 : decode cX8_stretch 68 = .ok (.aload_n 3, 1) := by decide +kernel
theorem dX8_stretch_69 : decode cX8_stretch 69 = .ok (.aload_n 3, 1) := by decide +kernel
theorem dX8_stretch_70 : decode cX8_stretch 70 = .ok (.getfield 101, 3) := by decide +kernel
theorem dX8_stretch_73 : decode cX8_stretch 73 = .ok (.iload 5, 2) := by decide +kernel
theorem dX8_stretch_75 : decode cX8_stretch 75 = .ok (.iload 4, 2) := by decide +kernel
theorem dX8_stretch_77 : decode cX8_stretch 77 = .ok (.invokestatic 107, 3) := by decide +kernel
theorem dX8_stretch_80 : decode cX8_stretch 80 = .ok (.invokestatic 95, 3) := by decide +kernel
theorem dX8_stretch_83 : decode cX8_stretch 83 = .ok (.putfield 101, 3) := by decide +kernel
theorem dX8_stretch_86 : decode cX8_stretch 86 = .ok (.iinc 2 1, 3) := by decide +kernel
theorem dX8_stretch_89 : decode cX8_stretch 89 = .ok (.goto (-76), 3) := by decide +kernel
theorem dX8_stretch_92 : decode cX8_stretch 92 = .ok (.return_, 1) := by decide +kernel
theorem dX8_snap_0 : decode cX8_snap 0 = .ok (.aload_n 0, 1) := by decide +kernel
theorem dX8_snap_1 : decode cX8_snap 1 = .ok (.getfield 23, 3) := by decide +kernel
theorem dX8_snap_4 : decode cX8_snap 4 = .ok (.getfield 136, 3) := by decide +kernel
theorem dX8_snap_7 : decode cX8_snap 7 = .ok (.iconst 3, 1) := by decide +kernel
theorem dX8_snap_8 : decode cX8_snap 8 = .ok (.invokevirtual 140, 3) := by decide +kernel
theorem dX8_snap_11 : decode cX8_snap 11 = .ok (.istore_n 1, 1) := by decide +kernel
theorem dX8_snap_12 : decode cX8_snap 12 = .ok (.iconst 0, 1) := by decide +kernel
theorem dX8_snap_13 : decode cX8_snap 13 = .ok (.istore_n 2, 1) := by decide +kernel
theorem dX8_snap_14 : decode cX8_snap 14 = .ok (.iload_n 2, 1) := by decide +kernel
theorem dX8_snap_15 : decode cX8_snap 15 = .ok (.aload_n 0, 1) := by decide +kernel
theorem dX8_snap_16 : decode cX8_snap 16 = .ok (.getfield 23, 3) := by decide +kernel
theorem dX8_snap_19 : decode cX8_snap 19 = .ok (.getfield 58, 3) := by decide +kernel
theorem dX8_snap_22 : decode cX8_snap 22 = .ok (.invokevirtual 67, 3) := by decide +kernel
theorem dX8_snap_25 : decode cX8_snap 25 = .ok (.if_icmp .ge 99, 3) := by decide +kernel
theorem dX8_snap_28 : decode cX8_snap 28 = .ok (.aload_n 0, 1) := by decide +kernel
theorem dX8_snap_29 : decode cX8_snap 29 = .ok (.getfield 23, 3) := by decide +kernel
theorem dX8_snap_32 : decode cX8_snap 32 = .ok (.getfield 58, 3) := by decide +kernel
theorem dX8_snap_35 : decode cX8_snap 35 = .ok (.iload_n 2, 1) := by decide +kernel
theorem dX8_snap_36 : decode cX8_snap 36 = .ok (.invokevirtual 71, 3) := by decide +kernel
theorem dX8_snap_39 : decode cX8_snap 39 = .ok (.astore_n 3, 1) := by decide +kernel
theorem dX8_snap_40 : decode cX8_snap 40 = .ok (.aload_n 0, 1) := by decide +kernel
theorem dX8_snap_41 : decode cX8_snap 41 = .ok (.getfield 23, 3) := by decide +kernel
theorem dX8_snap_44 : decode cX8_snap 44 = .ok (.getfield 144, 3) := by decide +kernel
theorem dX8_snap_47 : decode cX8_snap 47 = .ok (.aload_n 3, 1) := by decide +kernel
theorem dX8_snap_48 : decode cX8_snap 48 = .ok (.getfield 90, 3) := by decide +kernel
theorem dX8_snap_51 : decode cX8_snap 51 = .ok (.iload_n 1, 1) := by decide +kernel
theorem dX8_snap_52 : decode cX8_snap 52 = .ok (.invokevirtual 148, 3) := by decide +kernel
theorem dX8_snap_55 : decode cX8_snap 55 = .ok (.istore 4, 2) := by decide +kernel
theorem dX8_snap_57 : decode cX8_snap 57 = .ok (.iload 4, 2) := by decide +kernel
theorem dX8_snap_59 : decode cX8_snap 59 = .ok (.bipush (-9), 2) := by decide +kernel
theorem dX8_snap_61 : decode cX8_snap 61 = .ok (.if_icmp .eq 18, 3) := by decide +kernel
theorem dX8_snap_64 : decode cX8_snap 64 = .ok (.iload 4, 2) := by decide +kernel
theorem dX8_snap_66 : decode cX8_snap 66 = .ok (.aload_n 3, 1) := by decide +kernel
theorem dX8_snap_67 : decode cX8_snap 67 = .ok (.getfield 101, 3) := by decide +kernel
theorem dX8_snap_70 : decode cX8_snap 70 = .ok (.if_icmp .ge 9, 3) := by decide +kernel
theorem dX8_snap_73 : decode cX8_snap 73 = .ok (.aload_n 3, 1) := by decide +kernel
theorem dX8_snap_74 : decode cX8_snap 74 = .ok (.iload 4, 2) := by decide +kernel
theorem dX8_snap_76 : decode cX8_snap 76 = .ok (.putfield 90, 3) := by decide +kernel
theorem dX8_snap_79 : decode cX8_snap 79 = .ok (.aload_n 0, 1) := by decide +kernel
theorem dX8_snap_80 : decode cX8_snap 80 = .ok (.getfield 23, 3) := by decide +kernel
theorem dX8_snap_83 : decode cX8_snap 83 = .ok (.getfield 144, 3) := by decide +kernel
theorem dX8_snap_86 : decode cX8_snap 86 = .ok (.aload_n 3, 1) := by decide +kernel
theorem dX8_snap_87 : decode cX8_snap 87 = .ok (.getfield 101, 3) := by decide +kernel
theorem dX8_snap_90 : decode cX8_snap 90 = .ok (.iload_n 1, 1) := by decide +kernel
theorem dX8_snap_91 : decode cX8_snap 91 = .ok (.invokevirtual 148, 3) := by decide +kernel
theorem dX8_snap_94 : decode cX8_snap 94 = .ok (.istore 4, 2) := by decide +kernel
theorem dX8_snap_96 : decode cX8_snap 96 = .ok (.iload 4, 2) := by decide +kernel
theorem dX8_snap_98 : decode cX8_snap 98 = .ok (.bipush (-9), 2) := by decide +kernel
theorem dX8_snap_100 : decode cX8_snap 100 = .ok (.if_icmp .eq 18, 3) := by decide +kernel
theorem dX8_snap_103 : decode cX8_snap 103 = .ok (.iload 4, 2) := by decide +kernel
theorem dX8_snap_105 : decode cX8_snap 105 = .ok (.aload_n 3, 1) := by decide +kernel
theorem dX8_snap_106 : decode cX8_snap 106 = .ok (.getfield 90, 3) := by decide +kernel
theorem dX8_snap_109 : decode cX8_snap 109 = .ok (.if_icmp .le 9, 3) := by decide +kernel
theorem dX8_snap_112 : decode cX8_snap 112 = .ok (.aload_n 3, 1) := by decide +kernel
theorem dX8_snap_113 : decode cX8_snap 113 = .ok (.iload 4, 2) := by decide +kernel
theorem dX8_snap_115 : decode cX8_snap 115 = .ok (.putfield 101, 3) := by decide +kernel
theorem dX8_snap_118 : decode cX8_snap 118 = .ok (.iinc 2 1, 3) := by decide +kernel
theorem dX8_snap_121 : decode cX8_snap 121 = .ok (.goto (-107), 3) := by decide +kernel
theorem dX8_snap_124 : decode cX8_snap 124 = .ok (.aload_n 0, 1) := by decide +kernel
theorem dX8_snap_125 : decode cX8_snap 125 = .ok (.getfield 23, 3) := by decide +kernel
theorem dX8_snap_128 : decode cX8_snap 128 = .ok (.getfield 58, 3) := by decide +kernel
theorem dX8_snap_131 : decode cX8_snap 131 = .ok (.invokevirtual 153, 3) := by decide +kernel
theorem dX8_snap_134 : decode cX8_snap 134 = .ok (.return_, 1) := by decide +kernel
theorem dX8_keepGaps_0 : decode cX8_keepGaps 0 = .ok (.iconst 0, 1) := by decide +kernel
theorem dX8_keepGaps_1 : decode cX8_keepGaps 1 = .ok (.istore_n 1, 1) := by decide +kernel
theorem dX8_keepGaps_2 : decode cX8_keepGaps 2 = .ok (.iload_n 1, 1) := by decide +kernel
theorem dX8_keepGaps_3 : decode cX8_keepGaps 3 = .ok (.aload_n 0, 1) := by decide +kernel
theorem dX8_keepGaps_4 : decode cX8_keepGaps 4 = .ok (.getfield 23, 3) := by decide +kernel
theorem dX8_keepGaps_7 : decode cX8_keepGaps 7 = .ok (.getfield 58, 3) := by decide +kernel
theorem dX8_keepGaps_10 : decode cX8_keepGaps 10 = .ok (.invokevirtual 67, 3) := by decide +kernel
theorem dX8_keepGaps_13 : decode cX8_keepGaps 13 = .ok (.if_icmp .ge 51, 3) := by decide +kernel
theorem dX8_keepGaps_16 : decode cX8_keepGaps 16 = .ok (.aload_n 0, 1) := by decide +kernel
theorem dX8_keepGaps_17 : decode cX8_keepGaps 17 = .ok (.getfield 23, 3) := by decide +kernel
theorem dX8_keepGaps_20 : decode cX8_keepGaps 20 = .ok (.getfield 58, 3) := by decide +kernel
theorem dX8_keepGaps_23 : decode cX8_keepGaps 23 = .ok (.iload_n 1, 1) := by decide +kernel
theorem dX8_keepGaps_24 : decode cX8_keepGaps 24 = .ok (.invokevirtual 71, 3) := by decide +kernel
theorem dX8_keepGaps_27 : decode cX8_keepGaps 27 = .ok (.astore_n 2, 1) := by decide +kernel
theorem dX8_keepGaps_28 : decode cX8_keepGaps 28 = .ok (.aload_n 0, 1) := by decide +kernel
theorem dX8_keepGaps_29 : decode cX8_keepGaps 29 = .ok (.getfield 23, 3) := by decide +kernel
theorem dX8_keepGaps_32 : decode cX8_keepGaps 32 = .ok (.iload_n 1, 1) := by decide +kernel
theorem dX8_keepGaps_33 : decode cX8_keepGaps 33 = .ok (.invokevirtual 129, 3) := by decide +kernel
theorem dX8_keepGaps_36 : decode cX8_keepGaps 36 = .ok (.aload_n 2, 1) := by decide +kernel
theorem dX8_keepGaps_37 : decode cX8_keepGaps 37 = .ok (.getfield 90, 3) := by decide +kernel
theorem dX8_keepGaps_40 : decode cX8_keepGaps 40 = .ok (.iconst 1, 1) := by decide +kernel
theorem dX8_keepGaps_41 : decode cX8_keepGaps 41 = .ok (.iadd, 1) := by decide +kernel
theorem dX8_keepGaps_42 : decode cX8_keepGaps 42 = .ok (.invokestatic 95, 3) := by decide +kernel
theorem dX8_keepGaps_45 : decode cX8_keepGaps 45 = .ok (.istore_n 3, 1) := by decide +kernel
theorem dX8_keepGaps_46 : decode cX8_keepGaps 46 = .ok (.aload_n 2, 1) := by decide +kernel
theorem dX8_keepGaps_47 : decode cX8_keepGaps 47 = .ok (.aload_n 2, 1) := by decide +kernel
theorem dX8_keepGaps_48 : decode cX8_keepGaps 48 = .ok (.getfield 101, 3) := by decide +kernel
theorem dX8_keepGaps_51 : decode cX8_keepGaps 51 = .ok (.iload_n 3, 1) := by decide +kernel
theorem dX8_keepGaps_52 : decode cX8_keepGaps 52 = .ok (.invokestatic 107, 3) := by decide +kernel
theorem dX8_keepGaps_55 : decode cX8_keepGaps 55 = .ok (.putfield 101, 3) := by decide +kernel
theorem dX8_keepGaps_58 : decode cX8_keepGaps 58 = .ok (.iinc 1 1, 3) := by decide +kernel
theorem dX8_keepGaps_61 : decode cX8_keepGaps 61 = .ok (.goto (-59), 3) := by decide +kernel
theorem dX8_keepGaps_64 : decode cX8_keepGaps 64 = .ok (.return_, 1) := by decide +kernel
theorem dX9_init_0 : decode cX9_init 0 = .ok (.aload_n 0, 1) := by decide +kernel
theorem dX9_init_1 : decode cX9_init 1 = .ok (.invokespecial 1, 3) := by decide +kernel
theorem dX9_init_4 : decode cX9_init 4 = .ok (.aload_n 0, 1) := by decide +kernel
theorem dX9_init_5 : decode cX9_init 5 = .ok (.bipush 40, 2) := by decide +kernel
theorem dX9_init_7 : decode cX9_init 7 = .ok (.newarray .byte, 2) := by decide +kernel
theorem dX9_init_9 : decode cX9_init 9 = .ok (.putfield 9, 3) := by decide +kernel
theorem dX9_init_12 : decode cX9_init 12 = .ok (.new 13, 3) := by decide +kernel
theorem dX9_init_15 : decode cX9_init 15 = .ok (.dup, 1) := by decide +kernel
theorem dX9_init_16 : decode cX9_init 16 = .ok (.iconst 0, 1) := by decide +kernel
theorem dX9_init_17 : decode cX9_init 17 = .ok (.aload_n 0, 1) := by decide +kernel
theorem dX9_init_18 : decode cX9_init 18 = .ok (.getfield 9, 3) := by decide +kernel
theorem dX9_init_21 : decode cX9_init 21 = .ok (.iconst 0, 1) := by decide +kernel
theorem dX9_init_22 : decode cX9_init 22 = .ok (.invokespecial 15, 3) := by decide +kernel
theorem dX9_init_25 : decode cX9_init 25 = .ok (.astore_n 1, 1) := by decide +kernel
theorem dX9_init_26 : decode cX9_init 26 = .ok (.aload_n 0, 1) := by decide +kernel
theorem dX9_init_27 : decode cX9_init 27 = .ok (.new 18, 3) := by decide +kernel
theorem dX9_init_30 : decode cX9_init 30 = .ok (.dup, 1) := by decide +kernel
theorem dX9_init_31 : decode cX9_init 31 = .ok (.aload_n 1, 1) := by decide +kernel
theorem dX9_init_32 : decode cX9_init 32 = .ok (.invokespecial 20, 3) := by decide +kernel
theorem dX9_init_35 : decode cX9_init 35 = .ok (.putfield 23, 3) := by decide +kernel
theorem dX9_init_38 : decode cX9_init 38 = .ok (.aload_n 0, 1) := by decide +kernel
theorem dX9_init_39 : decode cX9_init 39 = .ok (.new 27, 3) := by decide +kernel
theorem dX9_init_42 : decode cX9_init 42 = .ok (.dup, 1) := by decide +kernel
theorem dX9_init_43 : decode cX9_init 43 = .ok (.aload_n 1, 1) := by decide +kernel
theorem dX9_init_44 : decode cX9_init 44 = .ok (.invokespecial 29, 3) := by decide +kernel
theorem dX9_init_47 : decode cX9_init 47 = .ok (.putfield 30, 3) := by decide +kernel
theorem dX9_init_50 : decode cX9_init 50 = .ok (.aload_n 0, 1) := by decide +kernel
theorem dX9_init_51 : decode cX9_init 51 = .ok (.new 34, 3) := by decide +kernel
theorem dX9_init_54 : decode cX9_init 54 = .ok (.dup, 1) := by decide +kernel
theorem dX9_init_55 : decode cX9_init 55 = .ok (.aload_n 1, 1) := by decide +kernel
theorem dX9_init_56 : decode cX9_init 56 = .ok (.invokespecial 36, 3) := by decide +kernel
theorem dX9_init_59 : decode cX9_init 59 = .ok (.putfield 37, 3) := by decide +kernel
theorem dX9_init_62 : decode cX9_init 62 = .ok (.return_, 1) := by decide +kernel
theorem dX9_piece_0 : decode cX9_piece 0 = .ok (.iload_n 1, 1) := by decide +kernel
theorem dX9_piece_1 : decode cX9_piece 1 = .ok (.iconst 0, 1) := by decide +kernel
theorem dX9_piece_2 : decode cX9_piece 2 = .ok (.sipush 9999, 3) := by decide +kernel
theorem dX9_piece_5 : decode cX9_piece 5 = .ok (.invokestatic 41, 3) := by decide +kernel
theorem dX9_piece_8 : decode cX9_piece 8 = .ok (.ifCond .eq 14, 3) := by decide +kernel
theorem dX9_piece_11 : decode cX9_piece 11 = .ok (.iload_n 2, 1) := by decide +kernel
theorem dX9_piece_12 : decode cX9_piece 12 = .ok (.iconst 1, 1) := by decide +kernel
theorem dX9_piece_13 : decode cX9_piece 13 = .ok (.sipush 5000, 3) := by decide +kernel
theorem dX9_piece_16 : decode cX9_piece 16 = .ok (.invokestatic 41, 3) := by decide +kernel
theorem dX9_piece_19 : decode cX9_piece 19 = .ok (.ifCond .ne 5, 3) := by decide +kernel
theorem dX9_piece_22 : decode cX9_piece 22 = .ok (.iconst (-1), 1) := by decide +kernel
theorem dX9_piece_23 : decode cX9_piece 23 = .ok (.ireturn, 1) := by decide +kernel
theorem dX9_piece_24 : decode cX9_piece 24 = .ok (.iload_n 1, 1) := by decide +kernel
theorem dX9_piece_25 : decode cX9_piece 25 = .ok (.iload_n 2, 1) := by decide +kernel
theorem dX9_piece_26 : decode cX9_piece 26 = .ok (.iadd, 1) := by decide +kernel
theorem dX9_piece_27 : decode cX9_piece 27 = .ok (.sipush 10000, 3) := by decide +kernel
theorem dX9_piece_30 : decode cX9_piece 30 = .ok (.if_icmp .le 5, 3) := by decide +kernel
theorem dX9_piece_33 : decode cX9_piece 33 = .ok (.iconst (-1), 1) := by decide +kernel
theorem dX9_piece_34 : decode cX9_piece 34 = .ok (.ireturn, 1) := by decide +kernel
theorem dX9_piece_35 : decode cX9_piece 35 = .ok (.aload_n 0, 1) := by decide +kernel
theorem dX9_piece_36 : decode cX9_piece 36 = .ok (.getfield 23, 3) := by decide +kernel
theorem dX9_piece_39 : decode cX9_piece 39 = .ok (.getfield 45, 3) := by decide +kernel
theorem dX9_piece_42 : decode cX9_piece 42 = .ok (.invokevirtual 49, 3) := by decide +kernel
theorem dX9_piece_45 : decode cX9_piece 45 = .ok (.bipush 10, 2) := by decide +kernel
theorem dX9_piece_47 : decode cX9_piece 47 = .ok (.if_icmp .ge 21, 3) := by decide +kernel
theorem dX9_piece_50 : decode cX9_piece 50 = .ok (.aload_n 0, 1) := by decide +kernel
theorem dX9_piece_51 : decode cX9_piece 51 = .ok (.getfield 23, 3) := by decide +kernel
theorem dX9_piece_54 : decode cX9_piece 54 = .ok (.getfield 45, 3) := by decide +kernel
theorem dX9_piece_57 : decode cX9_piece 57 = .ok (.invokevirtual 55, 3) := by decide +kernel
theorem dX9_piece_60 : decode cX9_piece 60 = .ok (.iload_n 2, 1) := by decide +kernel
theorem dX9_piece_61 : decode cX9_piece 61 = .ok (.iadd, 1) := by decide +kernel
theorem dX9_piece_62 : decode cX9_piece 62 = .ok (.sipush 9999, 3) := by decide +kernel
theorem dX9_piece_65 : decode cX9_piece 65 = .ok (.if_icmp .le 6, 3) := by decide +kernel
theorem dX9_piece_68 : decode cX9_piece 68 = .ok (.bipush (-3), 2) := by decide +kernel
theorem dX9_piece_70 : decode cX9_piece 70 = .ok (.ireturn, 1) := by decide +kernel
theorem dX9_piece_71 : decode cX9_piece 71 = .ok (.aload_n 0, 1) := by decide +kernel
theorem dX9_piece_72 : decode cX9_piece 72 = .ok (.getfield 37, 3) := by decide +kernel
theorem dX9_piece_75 : decode cX9_piece 75 = .ok (.aload_n 0, 1) := by decide +kernel
theorem dX9_piece_76 : decode cX9_piece 76 = .ok (.getfield 23, 3) := by decide +kernel
theorem dX9_piece_79 : decode cX9_piece 79 = .ok (.invokevirtual 58, 3) := by decide +kernel
theorem dX9_piece_82 : decode cX9_piece 82 = .ok (.aload_n 0, 1) := by decide +kernel
theorem dX9_piece_83 : decode cX9_piece 83 = .ok (.getfield 23, 3) := by decide +kernel
theorem dX9_piece_86 : decode cX9_piece 86 = .ok (.getfield 45, 3) := by decide +kernel
theorem dX9_piece_89 : decode cX9_piece 89 = .ok (.iload_n 1, 1) := by decide +kernel
theorem dX9_piece_90 : decode cX9_piece 90 = .ok (.iload_n 2, 1) := by decide +kernel
theorem dX9_piece_91 : decode cX9_piece 91 = .ok (.invokevirtual 62, 3) := by decide +kernel
theorem dX9_piece_94 : decode cX9_piece 94 = .ok (.aload_n 0, 1) := by decide +kernel
theorem dX9_piece_95 : decode cX9_piece 95 = .ok (.getfield 23, 3) := by decide +kernel
theorem dX9_piece_98 : decode cX9_piece 98 = .ok (.getfield 45, 3) := by decide +kernel
theorem dX9_piece_101 : decode cX9_piece 101 = .ok (.invokevirtual 49, 3) := by decide +kernel
theorem dX9_piece_104 : decode cX9_piece 104 = .ok (.iconst 1, 1) := by decide +kernel
theorem dX9_piece_105 : decode cX9_piece 105 = .ok (.isub, 1) := by decide +kernel
theorem dX9_piece_106 : decode cX9_piece 106 = .ok (.ireturn, 1) := by decide +kernel
theorem dX9_dropPiece_0 : decode cX9_dropPiece 0 = .ok (.aload_n 0, 1) := by decide +kernel
theorem dX9_dropPiece_1 : decode cX9_dropPiece 1 = .ok (.getfield 23, 3) := by decide +kernel
theorem dX9_dropPiece_4 : decode cX9_dropPiece 4 = .ok (.getfield 45, 3) := by decide +kernel
theorem dX9_dropPiece_7 : decode cX9_dropPiece 7 = .ok (.iload_n 1, 1) := by decide +kernel
theorem dX9_dropPiece_8 : decode cX9_dropPiece 8 = .ok (.invokevirtual 66, 3) := by decide +kernel
theorem dX9_dropPiece_11 : decode cX9_dropPiece 11 = .ok (.ifCond .ne 5, 3) := by decide +kernel
theorem dX9_dropPiece_14 : decode cX9_dropPiece 14 = .ok (.iconst (-1), 1) := by decide +kernel
theorem dX9_dropPiece_15 : decode cX9_dropPiece 15 = .ok (.ireturn, 1) := by decide +kernel
theorem dX9_dropPiece_16 : decode cX9_dropPiece 16 = .ok (.aload_n 0, 1) := by decide +kernel
theorem dX9_dropPiece_17 : decode cX9_dropPiece 17 = .ok (.getfield 37, 3) := by decide +kernel
theorem dX9_dropPiece_20 : decode cX9_dropPiece 20 = .ok (.aload_n 0, 1) := by decide +kernel
theorem dX9_dropPiece_21 : decode cX9_dropPiece 21 = .ok (.getfield 23, 3) := by decide +kernel
theorem dX9_dropPiece_24 : decode cX9_dropPiece 24 = .ok (.invokevirtual 58, 3) := by decide +kernel
theorem dX9_dropPiece_27 : decode cX9_dropPiece 27 = .ok (.aload_n 0, 1) := by decide +kernel
theorem dX9_dropPiece_28 : decode cX9_dropPiece 28 = .ok (.getfield 23, 3) := by decide +kernel
theorem dX9_dropPiece_31 : decode cX9_dropPiece 31 = .ok (.getfield 45, 3) := by decide +kernel
theorem dX9_dropPiece_34 : decode cX9_dropPiece 34 = .ok (.iload_n 1, 1) := by decide +kernel
theorem dX9_dropPiece_35 : decode cX9_dropPiece 35 = .ok (.invokevirtual 70, 3) := by decide +kernel
theorem dX9_dropPiece_38 : decode cX9_dropPiece 38 = .ok (.aload_n 0, 1) := by decide +kernel
theorem dX9_dropPiece_39 : decode cX9_dropPiece 39 = .ok (.getfield 23, 3) := by decide +kernel
theorem dX9_dropPiece_42 : decode cX9_dropPiece 42 = .ok (.getfield 45, 3) := by decide +kernel
theorem dX9_dropPiece_45 : decode cX9_dropPiece 45 = .ok (.invokevirtual 55, 3) := by decide +kernel
theorem dX9_dropPiece_48 : decode cX9_dropPiece 48 = .ok (.ireturn, 1) := by decide +kernel
theorem dX9_pieceAt_0 : decode cX9_pieceAt 0 = .ok (.aload_n 0, 1) := by decide +kernel
theorem dX9_pieceAt_1 : decode cX9_pieceAt 1 = .ok (.getfield 23, 3) := by decide +kernel
theorem dX9_pieceAt_4 : decode cX9_pieceAt 4 = .ok (.getfield 45, 3) := by decide +kernel
theorem dX9_pieceAt_7 : decode cX9_pieceAt 7 = .ok (.iload_n 1, 1) := by decide +kernel
theorem dX9_pieceAt_8 : decode cX9_pieceAt 8 = .ok (.invokevirtual 66, 3) := by decide +kernel
theorem dX9_pieceAt_11 : decode cX9_pieceAt 11 = .ok (.ifCond .ne 5, 3) := by decide +kernel
theorem dX9_pieceAt_14 : decode cX9_pieceAt 14 = .ok (.iconst (-1), 1) := by decide +kernel
theorem dX9_pieceAt_15 : decode cX9_pieceAt 15 = .ok (.ireturn, 1) := by decide +kernel
theorem dX9_pieceAt_16 : decode cX9_pieceAt 16 = .ok (.iload_n 2, 1) := by decide +kernel
theorem dX9_pieceAt_17 : decode cX9_pieceAt 17 = .ok (.tableswitch 63 0 2 #[27, 39, 51], 27) := by decide +kernel
theorem dX9_pieceAt_44 : decode cX9_pieceAt 44 = .ok (.aload_n 0, 1) := by decide +kernel
theorem dX9_pieceAt_45 : decode cX9_pieceAt 45 = .ok (.getfield 23, 3) := by decide +kernel
theorem dX9_pieceAt_48 : decode cX9_pieceAt 48 = .ok (.getfield 45, 3) := by decide +kernel
theorem dX9_pieceAt_51 : decode cX9_pieceAt 51 = .ok (.iload_n 1, 1) := by decide +kernel
theorem dX9_pieceAt_52 : decode cX9_pieceAt 52 = .ok (.invokevirtual 74, 3) := by decide +kernel
theorem dX9_pieceAt_55 : decode cX9_pieceAt 55 = .ok (.ireturn, 1) := by decide +kernel
theorem dX9_pieceAt_56 : decode cX9_pieceAt 56 = .ok (.aload_n 0, 1) := by decide +kernel
theorem dX9_pieceAt_57 : decode cX9_pieceAt 57 = .ok (.getfield 23, 3) := by decide +kernel
theorem dX9_pieceAt_60 : decode cX9_pieceAt 60 = .ok (.getfield 45, 3) := by decide +kernel
theorem dX9_pieceAt_63 : decode cX9_pieceAt 63 = .ok (.iload_n 1, 1) := by decide +kernel
theorem dX9_pieceAt_64 : decode cX9_pieceAt 64 = .ok (.invokevirtual 78, 3) := by decide +kernel
theorem dX9_pieceAt_67 : decode cX9_pieceAt 67 = .ok (.ireturn, 1) := by decide +kernel
theorem dX9_pieceAt_68 : decode cX9_pieceAt 68 = .ok (.aload_n 0, 1) := by decide +kernel
theorem dX9_pieceAt_69 : decode cX9_pieceAt 69 = .ok (.getfield 23, 3) := by decide +kernel
theorem dX9_pieceAt_72 : decode cX9_pieceAt 72 = .ok (.getfield 45, 3) := by decide +kernel
theorem dX9_pieceAt_75 : decode cX9_pieceAt 75 = .ok (.iload_n 1, 1) := by decide +kernel
theorem dX9_pieceAt_76 : decode cX9_pieceAt 76 = .ok (.invokevirtual 81, 3) := by decide +kernel
theorem dX9_pieceAt_79 : decode cX9_pieceAt 79 = .ok (.ireturn, 1) := by decide +kernel
theorem dX9_pieceAt_80 : decode cX9_pieceAt 80 = .ok (.iconst (-1), 1) := by decide +kernel
theorem dX9_pieceAt_81 : decode cX9_pieceAt 81 = .ok (.ireturn, 1) := by decide +kernel
theorem dX9_shot_0 : decode cX9_shot 0 = .ok (.iload_n 1, 1) := by decide +kernel
theorem dX9_shot_1 : decode cX9_shot 1 = .ok (.iconst 1, 1) := by decide +kernel
theorem dX9_shot_2 : decode cX9_shot 2 = .ok (.sipush 9998, 3) := by decide +kernel
theorem dX9_shot_5 : decode cX9_shot 5 = .ok (.invokestatic 41, 3) := by decide +kernel
theorem dX9_shot_8 : decode cX9_shot 8 = .ok (.ifCond .ne 5, 3) := by decide +kernel
theorem dX9_shot_11 : decode cX9_shot 11 = .ok (.iconst (-1), 1) := by decide +kernel
theorem dX9_shot_12 : decode cX9_shot 12 = .ok (.ireturn, 1) := by decide +kernel
theorem dX9_shot_13 : decode cX9_shot 13 = .ok (.iload_n 2, 1) := by decide +kernel
theorem dX9_shot_14 : decode cX9_shot 14 = .ok (.ifCond .eq 35, 3) := by decide +kernel
theorem dX9_shot_17 : decode cX9_shot 17 = .ok (.aload_n 0, 1) := by decide +kernel
theorem dX9_shot_18 : decode cX9_shot 18 = .ok (.getfield 23, 3) := by decide +kernel
theorem dX9_shot_21 : decode cX9_shot 21 = .ok (.getfield 84, 3) := by decide +kernel
theorem dX9_shot_24 : decode cX9_shot 24 = .ok (.iload_n 1, 1) := by decide +kernel
theorem dX9_shot_25 : decode cX9_shot 25 = .ok (.invokevirtual 88, 3) := by decide +kernel
theorem dX9_shot_28 : decode cX9_shot 28 = .ok (.ifCond .ne 21, 3) := by decide +kernel
theorem dX9_shot_31 : decode cX9_shot 31 = .ok (.aload_n 0, 1) := by decide +kernel
theorem dX9_shot_32 : decode cX9_shot 32 = .ok (.getfield 23, 3) := by decide +kernel
theorem dX9_shot_35 : decode cX9_shot 35 = .ok (.getfield 84, 3) := by decide +kernel
theorem dX9_shot_38 : decode cX9_shot 38 = .ok (.invokevirtual 91, 3) := by decide +kernel
theorem dX9_shot_41 : decode cX9_shot 41 = .ok (.bipush 20, 2) := by decide +kernel
theorem dX9_shot_43 : decode cX9_shot 43 = .ok (.if_icmp .lt 6, 3) := by decide +kernel
theorem dX9_shot_46 : decode cX9_shot 46 = .ok (.bipush (-3), 2) := by decide +kernel
theorem dX9_shot_48 : decode cX9_shot 48 = .ok (.ireturn, 1) := by decide +kernel
theorem dX9_shot_49 : decode cX9_shot 49 = .ok (.aload_n 0, 1) := by decide +kernel
theorem dX9_shot_50 : decode cX9_shot 50 = .ok (.getfield 37, 3) := by decide +kernel
theorem dX9_shot_53 : decode cX9_shot 53 = .ok (.aload_n 0, 1) := by decide +kernel
theorem dX9_shot_54 : decode cX9_shot 54 = .ok (.getfield 23, 3) := by decide +kernel
theorem dX9_shot_57 : decode cX9_shot 57 = .ok (.invokevirtual 58, 3) := by decide +kernel
theorem dX9_shot_60 : decode cX9_shot 60 = .ok (.iload_n 2, 1) := by decide +kernel
theorem dX9_shot_61 : decode cX9_shot 61 = .ok (.ifCond .eq 17, 3) := by decide +kernel
theorem dX9_shot_64 : decode cX9_shot 64 = .ok (.aload_n 0, 1) := by decide +kernel
theorem dX9_shot_65 : decode cX9_shot 65 = .ok (.getfield 23, 3) := by decide +kernel
theorem dX9_shot_68 : decode cX9_shot 68 = .ok (.getfield 84, 3) := by decide +kernel
theorem dX9_shot_71 : decode cX9_shot 71 = .ok (.iload_n 1, 1) := by decide +kernel
theorem dX9_shot_72 : decode cX9_shot 72 = .ok (.invokevirtual 92, 3) := by decide +kernel
theorem dX9_shot_75 : decode cX9_shot 75 = .ok (.goto 14, 3) := by decide +kernel
theorem dX9_shot_78 : decode cX9_shot 78 = .ok (.aload_n 0, 1) := by decide +kernel
theorem dX9_shot_79 : decode cX9_shot 79 = .ok (.getfield 23, 3) := by decide +kernel
theorem dX9_shot_82 : decode cX9_shot 82 = .ok (.getfield 84, 3) := by decide +kernel
theorem dX9_shot_85 : decode cX9_shot 85 = .ok (.iload_n 1, 1) := by decide +kernel
theorem dX9_shot_86 : decode cX9_shot 86 = .ok (.invokevirtual 95, 3) := by decide +kernel
theorem dX9_shot_89 : decode cX9_shot 89 = .ok (.aload_n 0, 1) := by decide +kernel
theorem dX9_shot_90 : decode cX9_shot 90 = .ok (.getfield 23, 3) := by decide +kernel
theorem dX9_shot_93 : decode cX9_shot 93 = .ok (.getfield 84, 3) := by decide +kernel
theorem dX9_shot_96 : decode cX9_shot 96 = .ok (.invokevirtual 91, 3) := by decide +kernel
theorem dX9_shot_99 : decode cX9_shot 99 = .ok (.ireturn, 1) := by decide +kernel
theorem dX9_shotAt_0 : decode cX9_shotAt 0 = .ok (.iload_n 1, 1) := by decide +kernel
theorem dX9_shotAt_1 : decode cX9_shotAt 1 = .ok (.ifCond .ge 7, 3) := by decide +kernel
theorem dX9_shotAt_4 : decode cX9_shotAt 4 = .ok (.iconst (-1), 1) := by decide +kernel
theorem dX9_shotAt_5 : decode cX9_shotAt 5 = .ok (.goto 14, 3) := by decide +kernel
theorem dX9_shotAt_8 : decode cX9_shotAt 8 = .ok (.aload_n 0, 1) := by decide +kernel
theorem dX9_shotAt_9 : decode cX9_shotAt 9 = .ok (.getfield 23, 3) := by decide +kernel
theorem dX9_shotAt_12 : decode cX9_shotAt 12 = .ok (.getfield 84, 3) := by decide +kernel
theorem dX9_shotAt_15 : decode cX9_shotAt 15 = .ok (.iload_n 1, 1) := by decide +kernel
theorem dX9_shotAt_16 : decode cX9_shotAt 16 = .ok (.invokevirtual 96, 3) := by decide +kernel
theorem dX9_shotAt_19 : decode cX9_shotAt 19 = .ok (.ireturn, 1) := by decide +kernel
theorem dX9_toNew_0 : decode cX9_toNew 0 = .ok (.iload_n 1, 1) := by decide +kernel
theorem dX9_toNew_1 : decode cX9_toNew 1 = .ok (.iconst 0, 1) := by decide +kernel
theorem dX9_toNew_2 : decode cX9_toNew 2 = .ok (.sipush 9999, 3) := by decide +kernel
theorem dX9_toNew_5 : decode cX9_toNew 5 = .ok (.invokestatic 41, 3) := by decide +kernel
theorem dX9_toNew_8 : decode cX9_toNew 8 = .ok (.ifCond .eq 7, 3) := by decide +kernel
theorem dX9_toNew_11 : decode cX9_toNew 11 = .ok (.iload_n 2, 1) := by decide +kernel
theorem dX9_toNew_12 : decode cX9_toNew 12 = .ok (.ifCond .ge 5, 3) := by decide +kernel
theorem dX9_toNew_15 : decode cX9_toNew 15 = .ok (.iconst (-1), 1) := by decide +kernel
theorem dX9_toNew_16 : decode cX9_toNew 16 = .ok (.ireturn, 1) := by decide +kernel
theorem dX9_toNew_17 : decode cX9_toNew 17 = .ok (.aload_n 0, 1) := by decide +kernel
theorem dX9_toNew_18 : decode cX9_toNew 18 = .ok (.getfield 23, 3) := by decide +kernel
theorem dX9_toNew_21 : decode cX9_toNew 21 = .ok (.getfield 45, 3) := by decide +kernel
theorem dX9_toNew_24 : decode cX9_toNew 24 = .ok (.iload_n 1, 1) := by decide +kernel
theorem dX9_toNew_25 : decode cX9_toNew 25 = .ok (.iload_n 2, 1) := by decide +kernel
theorem dX9_toNew_26 : decode cX9_toNew 26 = .ok (.invokevirtual 99, 3) := by decide +kernel
theorem dX9_toNew_29 : decode cX9_toNew 29 = .ok (.ireturn, 1) := by decide +kernel
theorem dX9_toOld_0 : decode cX9_toOld 0 = .ok (.iload_n 1, 1) := by decide +kernel
theorem dX9_toOld_1 : decode cX9_toOld 1 = .ok (.iconst 0, 1) := by decide +kernel
theorem dX9_toOld_2 : decode cX9_toOld 2 = .ok (.sipush 9999, 3) := by decide +kernel
theorem dX9_toOld_5 : decode cX9_toOld 5 = .ok (.invokestatic 41, 3) := by decide +kernel
theorem dX9_toOld_8 : decode cX9_toOld 8 = .ok (.ifCond .eq 17, 3) := by decide +kernel
theorem dX9_toOld_11 : decode cX9_toOld 11 = .ok (.aload_n 0, 1) := by decide +kernel
theorem dX9_toOld_12 : decode cX9_toOld 12 = .ok (.getfield 23, 3) := by decide +kernel
theorem dX9_toOld_15 : decode cX9_toOld 15 = .ok (.getfield 45, 3) := by decide +kernel
theorem dX9_toOld_18 : decode cX9_toOld 18 = .ok (.iload_n 1, 1) := by decide +kernel
theorem dX9_toOld_19 : decode cX9_toOld 19 = .ok (.invokevirtual 103, 3) := by decide +kernel
theorem dX9_toOld_22 : decode cX9_toOld 22 = .ok (.goto 4, 3) := by decide +kernel
theorem dX9_toOld_25 : decode cX9_toOld 25 = .ok (.iconst (-1), 1) := by decide +kernel
theorem dX9_toOld_26 : decode cX9_toOld 26 = .ok (.ireturn, 1) := by decide +kernel
theorem dX9_type_0 : decode cX9_type 0 = .ok (.iload_n 1, 1) := by decide +kernel
theorem dX9_type_1 : decode cX9_type 1 = .ok (.bipush 32, 2) := by decide +kernel
theorem dX9_type_3 : decode cX9_type 3 = .ok (.bipush 126, 2) := by decide +kernel
theorem dX9_type_5 : decode cX9_type 5 = .ok (.invokestatic 41, 3) := by decide +kernel
theorem dX9_type_8 : decode cX9_type 8 = .ok (.ifCond .ne 5, 3) := by decide +kernel
theorem dX9_type_11 : decode cX9_type 11 = .ok (.iconst (-1), 1) := by decide +kernel
theorem dX9_type_12 : decode cX9_type 12 = .ok (.ireturn, 1) := by decide +kernel
theorem dX9_type_13 : decode cX9_type 13 = .ok (.aload_n 0, 1) := by decide +kernel
theorem dX9_type_14 : decode cX9_type 14 = .ok (.getfield 106, 3) := by decide +kernel
theorem dX9_type_17 : decode cX9_type 17 = .ok (.ifCond .lt 15, 3) := by decide +kernel
theorem dX9_type_20 : decode cX9_type 20 = .ok (.aload_n 0, 1) := by decide +kernel
theorem dX9_type_21 : decode cX9_type 21 = .ok (.getfield 106, 3) := by decide +kernel
theorem dX9_type_24 : decode cX9_type 24 = .ok (.aload_n 0, 1) := by decide +kernel
theorem dX9_type_25 : decode cX9_type 25 = .ok (.getfield 9, 3) := by decide +kernel
theorem dX9_type_28 : decode cX9_type 28 = .ok (.arraylength, 1) := by decide +kernel
theorem dX9_type_29 : decode cX9_type 29 = .ok (.if_icmp .lt 6, 3) := by decide +kernel
theorem dX9_type_32 : decode cX9_type 32 = .ok (.bipush (-3), 2) := by decide +kernel
theorem dX9_type_34 : decode cX9_type 34 = .ok (.ireturn, 1) := by decide +kernel
theorem dX9_type_35 : decode cX9_type 35 = .ok (.aload_n 0, 1) := by decide +kernel
theorem dX9_type_36 : decode cX9_type 36 = .ok (.getfield 9, 3) := by decide +kernel
theorem dX9_type_39 : decode cX9_type 39 = .ok (.aload_n 0, 1) := by decide +kernel
theorem dX9_type_40 : decode cX9_type 40 = .ok (.getfield 106, 3) := by decide +kernel
theorem dX9_type_43 : decode cX9_type 43 = .ok (.iload_n 1, 1) := by decide +kernel
theorem dX9_type_44 : decode cX9_type 44 = .ok (.i2b, 1) := by decide +kernel
theorem dX9_type_45 : decode cX9_type 45 = .ok (.bastore, 1) := by decide +kernel
theorem dX9_type_46 : decode cX9_type 46 = .ok (.aload_n 0, 1) := by decide +kernel
theorem dX9_type_47 : decode cX9_type 47 = .ok (.dup, 1) := by decide +kernel
theorem dX9_type_48 : decode cX9_type 48 = .ok (.getfield 106, 3) := by decide +kernel
theorem dX9_type_51 : decode cX9_type 51 = .ok (.iconst 1, 1) := by decide +kernel
theorem dX9_type_52 : decode cX9_type 52 = .ok (.iadd, 1) := by decide +kernel
theorem dX9_type_53 : decode cX9_type 53 = .ok (.putfield 106, 3) := by decide +kernel
theorem dX9_type_56 : decode cX9_type 56 = .ok (.aload_n 0, 1) := by decide +kernel
theorem dX9_type_57 : decode cX9_type 57 = .ok (.getfield 106, 3) := by decide +kernel
theorem dX9_type_60 : decode cX9_type 60 = .ok (.ireturn, 1) := by decide +kernel
theorem dX9_clear_0 : decode cX9_clear 0 = .ok (.aload_n 0, 1) := by decide +kernel
theorem dX9_clear_1 : decode cX9_clear 1 = .ok (.getfield 106, 3) := by decide +kernel
theorem dX9_clear_4 : decode cX9_clear 4 = .ok (.istore_n 1, 1) := by decide +kernel
theorem dX9_clear_5 : decode cX9_clear 5 = .ok (.aload_n 0, 1) := by decide +kernel
theorem dX9_clear_6 : decode cX9_clear 6 = .ok (.iconst 0, 1) := by decide +kernel
theorem dX9_clear_7 : decode cX9_clear 7 = .ok (.putfield 106, 3) := by decide +kernel
theorem dX9_clear_10 : decode cX9_clear 10 = .ok (.iload_n 1, 1) := by decide +kernel
theorem dX9_clear_11 : decode cX9_clear 11 = .ok (.ireturn, 1) := by decide +kernel
theorem dX9_add_0 : decode cX9_add 0 = .ok (.iload_n 1, 1) := by decide +kernel
theorem dX9_add_1 : decode cX9_add 1 = .ok (.iload_n 2, 1) := by decide +kernel
theorem dX9_add_2 : decode cX9_add 2 = .ok (.invokestatic 110, 3) := by decide +kernel
theorem dX9_add_5 : decode cX9_add 5 = .ok (.ifCond .eq 12, 3) := by decide +kernel
theorem dX9_add_8 : decode cX9_add 8 = .ok (.iload_n 3, 1) := by decide +kernel
theorem dX9_add_9 : decode cX9_add 9 = .ok (.iconst 0, 1) := by decide +kernel
theorem dX9_add_10 : decode cX9_add 10 = .ok (.iconst 3, 1) := by decide +kernel
theorem dX9_add_11 : decode cX9_add 11 = .ok (.invokestatic 41, 3) := by decide +kernel
theorem dX9_add_14 : decode cX9_add 14 = .ok (.ifCond .ne 5, 3) := by decide +kernel
theorem dX9_add_17 : decode cX9_add 17 = .ok (.iconst (-1), 1) := by decide +kernel
theorem dX9_add_18 : decode cX9_add 18 = .ok (.ireturn, 1) := by decide +kernel
theorem dX9_add_19 : decode cX9_add 19 = .ok (.aload_n 0, 1) := by decide +kernel
theorem dX9_add_20 : decode cX9_add 20 = .ok (.getfield 23, 3) := by decide +kernel
theorem dX9_add_23 : decode cX9_add 23 = .ok (.getfield 114, 3) := by decide +kernel
theorem dX9_add_26 : decode cX9_add 26 = .ok (.invokevirtual 118, 3) := by decide +kernel
theorem dX9_add_29 : decode cX9_add 29 = .ok (.ifCond .eq 6, 3) := by decide +kernel
theorem dX9_add_32 : decode cX9_add 32 = .ok (.bipush (-3), 2) := by decide +kernel
theorem dX9_add_34 : decode cX9_add 34 = .ok (.ireturn, 1) := by decide +kernel
theorem dX9_add_35 : decode cX9_add 35 = .ok (.aload_n 0, 1) := by decide +kernel
theorem dX9_add_36 : decode cX9_add 36 = .ok (.getfield 106, 3) := by decide +kernel
theorem dX9_add_39 : decode cX9_add 39 = .ok (.ifCond .ne 6, 3) := by decide +kernel
theorem dX9_add_42 : decode cX9_add 42 = .ok (.bipush (-10), 2) := by decide +kernel
theorem dX9_add_44 : decode cX9_add 44 = .ok (.ireturn, 1) := by decide +kernel
theorem dX9_add_45 : decode cX9_add 45 = .ok (.aload_n 0, 1) := by decide +kernel
theorem dX9_add_46 : decode cX9_add 46 = .ok (.invokevirtual 124, 3) := by decide +kernel
theorem dX9_add_49 : decode cX9_add 49 = .ok (.istore 4, 2) := by decide +kernel
theorem dX9_add_51 : decode cX9_add 51 = .ok (.iload 4, 2) := by decide +kernel
theorem dX9_add_53 : decode cX9_add 53 = .ok (.bipush (-9), 2) := by decide +kernel
theorem dX9_add_55 : decode cX9_add 55 = .ok (.if_icmp .eq 9, 3) := by decide +kernel
theorem dX9_add_58 : decode cX9_add 58 = .ok (.bipush (-10), 2) := by decide +kernel
theorem dX9_add_60 : decode cX9_add 60 = .ok (.iload 4, 2) := by decide +kernel
theorem dX9_add_62 : decode cX9_add 62 = .ok (.isub, 1) := by decide +kernel
theorem dX9_add_63 : decode cX9_add 63 = .ok (.ireturn, 1) := by decide +kernel
theorem dX9_add_64 : decode cX9_add 64 = .ok (.aload_n 0, 1) := by decide +kernel
theorem dX9_add_65 : decode cX9_add 65 = .ok (.getfield 37, 3) := by decide +kernel
theorem dX9_add_68 : decode cX9_add 68 = .ok (.aload_n 0, 1) := by decide +kernel
theorem dX9_add_69 : decode cX9_add 69 = .ok (.getfield 23, 3) := by decide +kernel
theorem dX9_add_72 : decode cX9_add 72 = .ok (.invokevirtual 58, 3) := by decide +kernel
theorem dX9_add_75 : decode cX9_add 75 = .ok (.aload_n 0, 1) := by decide +kernel
theorem dX9_add_76 : decode cX9_add 76 = .ok (.getfield 23, 3) := by decide +kernel
theorem dX9_add_79 : decode cX9_add 79 = .ok (.getfield 114, 3) := by decide +kernel
theorem dX9_add_82 : decode cX9_add 82 = .ok (.iload_n 1, 1) := by decide +kernel
theorem dX9_add_83 : decode cX9_add 83 = .ok (.iload_n 2, 1) := by decide +kernel
theorem dX9_add_84 : decode cX9_add 84 = .ok (.new 13, 3) := by decide +kernel
theorem dX9_add_87 : decode cX9_add 87 = .ok (.dup, 1) := by decide +kernel
theorem dX9_add_88 : decode cX9_add 88 = .ok (.iload_n 3, 1) := by decide +kernel
theorem dX9_add_89 : decode cX9_add 89 = .ok (.aload_n 0, 1) := by decide +kernel
theorem dX9_add_90 : decode cX9_add 90 = .ok (.getfield 9, 3) := by decide +kernel
theorem dX9_add_93 : decode cX9_add 93 = .ok (.aload_n 0, 1) := by decide +kernel
theorem dX9_add_94 : decode cX9_add 94 = .ok (.getfield 106, 3) := by decide +kernel
theorem dX9_add_97 : decode cX9_add 97 = .ok (.invokespecial 15, 3) := by decide +kernel
theorem dX9_add_100 : decode cX9_add 100 = .ok (.invokevirtual 127, 3) := by decide +kernel
theorem dX9_add_103 : decode cX9_add 103 = .ok (.ireturn, 1) := by decide +kernel
theorem dX9_drop_0 : decode cX9_drop 0 = .ok (.aload_n 0, 1) := by decide +kernel
theorem dX9_drop_1 : decode cX9_drop 1 = .ok (.getfield 23, 3) := by decide +kernel
theorem dX9_drop_4 : decode cX9_drop 4 = .ok (.getfield 114, 3) := by decide +kernel
theorem dX9_drop_7 : decode cX9_drop 7 = .ok (.iload_n 1, 1) := by decide +kernel
theorem dX9_drop_8 : decode cX9_drop 8 = .ok (.invokevirtual 130, 3) := by decide +kernel
theorem dX9_drop_11 : decode cX9_drop 11 = .ok (.ifCond .ne 5, 3) := by decide +kernel
theorem dX9_drop_14 : decode cX9_drop 14 = .ok (.iconst (-1), 1) := by decide +kernel
theorem dX9_drop_15 : decode cX9_drop 15 = .ok (.ireturn, 1) := by decide +kernel
theorem dX9_drop_16 : decode cX9_drop 16 = .ok (.aload_n 0, 1) := by decide +kernel
theorem dX9_drop_17 : decode cX9_drop 17 = .ok (.getfield 37, 3) := by decide +kernel
theorem dX9_drop_20 : decode cX9_drop 20 = .ok (.aload_n 0, 1) := by decide +kernel
theorem dX9_drop_21 : decode cX9_drop 21 = .ok (.getfield 23, 3) := by decide +kernel
theorem dX9_drop_24 : decode cX9_drop 24 = .ok (.invokevirtual 58, 3) := by decide +kernel
theorem dX9_drop_27 : decode cX9_drop 27 = .ok (.aload_n 0, 1) := by decide +kernel
theorem dX9_drop_28 : decode cX9_drop 28 = .ok (.getfield 23, 3) := by decide +kernel
theorem dX9_drop_31 : decode cX9_drop 31 = .ok (.getfield 114, 3) := by decide +kernel
theorem dX9_drop_34 : decode cX9_drop 34 = .ok (.iload_n 1, 1) := by decide +kernel
theorem dX9_drop_35 : decode cX9_drop 35 = .ok (.invokevirtual 131, 3) := by decide +kernel
theorem dX9_drop_38 : decode cX9_drop 38 = .ok (.aload_n 0, 1) := by decide +kernel
theorem dX9_drop_39 : decode cX9_drop 39 = .ok (.getfield 23, 3) := by decide +kernel
theorem dX9_drop_42 : decode cX9_drop 42 = .ok (.getfield 114, 3) := by decide +kernel
theorem dX9_drop_45 : decode cX9_drop 45 = .ok (.invokevirtual 132, 3) := by decide +kernel
theorem dX9_drop_48 : decode cX9_drop 48 = .ok (.ireturn, 1) := by decide +kernel
theorem dX9_move_0 : decode cX9_move 0 = .ok (.aload_n 0, 1) := by decide +kernel
theorem dX9_move_1 : decode cX9_move 1 = .ok (.getfield 23, 3) := by decide +kernel
theorem dX9_move_4 : decode cX9_move 4 = .ok (.getfield 114, 3) := by decide +kernel
theorem dX9_move_7 : decode cX9_move 7 = .ok (.iload_n 1, 1) := by decide +kernel
theorem dX9_move_8 : decode cX9_move 8 = .ok (.invokevirtual 130, 3) := by decide +kernel
theorem dX9_move_11 : decode cX9_move 11 = .ok (.ifCond .eq 11, 3) := by decide +kernel
theorem dX9_move_14 : decode cX9_move 14 = .ok (.iload_n 2, 1) := by decide +kernel
theorem dX9_move_15 : decode cX9_move 15 = .ok (.iload_n 3, 1) := by decide +kernel
theorem dX9_move_16 : decode cX9_move 16 = .ok (.invokestatic 110, 3) := by decide +kernel
theorem dX9_move_19 : decode cX9_move 19 = .ok (.ifCond .ne 5, 3) := by decide +kernel
theorem dX9_move_22 : decode cX9_move 22 = .ok (.iconst (-1), 1) := by decide +kernel
theorem dX9_move_23 : decode cX9_move 23 = .ok (.ireturn, 1) := by decide +kernel
theorem dX9_move_24 : decode cX9_move 24 = .ok (.aload_n 0, 1) := by decide +kernel
theorem dX9_move_25 : decode cX9_move 25 = .ok (.getfield 37, 3) := by decide +kernel
theorem dX9_move_28 : decode cX9_move 28 = .ok (.aload_n 0, 1) := by decide +kernel
theorem dX9_move_29 : decode cX9_move 29 = .ok (.getfield 23, 3) := by decide +kernel
theorem dX9_move_32 : decode cX9_move 32 = .ok (.invokevirtual 58, 3) := by decide +kernel
theorem dX9_move_35 : decode cX9_move 35 = .ok (.aload_n 0, 1) := by decide +kernel
theorem dX9_move_36 : decode cX9_move 36 = .ok (.getfield 23, 3) := by decide +kernel
theorem dX9_move_39 : decode cX9_move 39 = .ok (.getfield 114, 3) := by decide +kernel
theorem dX9_move_42 : decode cX9_move 42 = .ok (.iload_n 1, 1) := by decide +kernel
theorem dX9_move_43 : decode cX9_move 43 = .ok (.iload_n 2, 1) := by decide +kernel
theorem dX9_move_44 : decode cX9_move 44 = .ok (.iload_n 3, 1) := by decide +kernel
theorem dX9_move_45 : decode cX9_move 45 = .ok (.invokevirtual 133, 3) := by decide +kernel
theorem dX9_move_48 : decode cX9_move 48 = .ok (.ireturn, 1) := by decide +kernel
theorem dX9_subtitle_0 : decode cX9_subtitle 0 = .ok (.aload_n 0, 1) := by decide +kernel
theorem dX9_subtitle_1 : decode cX9_subtitle 1 = .ok (.getfield 23, 3) := by decide +kernel
theorem dX9_subtitle_4 : decode cX9_subtitle 4 = .ok (.getfield 114, 3) := by decide +kernel
theorem dX9_subtitle_7 : decode cX9_subtitle 7 = .ok (.iload_n 1, 1) := by decide +kernel
theorem dX9_subtitle_8 : decode cX9_subtitle 8 = .ok (.invokevirtual 130, 3) := by decide +kernel
theorem dX9_subtitle_11 : decode cX9_subtitle 11 = .ok (.ifCond .ne 5, 3) := by decide +kernel
theorem dX9_subtitle_14 : decode cX9_subtitle 14 = .ok (.iconst (-1), 1) := by decide +kernel
theorem dX9_subtitle_15 : decode cX9_subtitle 15 = .ok (.ireturn, 1) := by decide +kernel
theorem dX9_subtitle_16 : decode cX9_subtitle 16 = .ok (.aload_n 0, 1) := by decide +kernel
theorem dX9_subtitle_17 : decode cX9_subtitle 17 = .ok (.getfield 23, 3) := by decide +kernel
theorem dX9_subtitle_20 : decode cX9_subtitle 20 = .ok (.getfield 114, 3) := by decide +kernel
theorem dX9_subtitle_23 : decode cX9_subtitle 23 = .ok (.iload_n 1, 1) := by decide +kernel
theorem dX9_subtitle_24 : decode cX9_subtitle 24 = .ok (.invokevirtual 137, 3) := by decide +kernel
theorem dX9_subtitle_27 : decode cX9_subtitle 27 = .ok (.astore_n 3, 1) := by decide +kernel
theorem dX9_subtitle_28 : decode cX9_subtitle 28 = .ok (.iload_n 2, 1) := by decide +kernel
theorem dX9_subtitle_29 : decode cX9_subtitle 29 = .ok (.tableswitch 93 0 6 #[43, 48, 53, 58, 63, 72, 81], 43) := by decide +kernel
theorem dX9_subtitle_72 : decode cX9_subtitle 72 = .ok (.aload_n 3, 1) := by decide +kernel
theorem dX9_subtitle_73 : decode cX9_subtitle 73 = .ok (.getfield 140, 3) := by decide +kernel
theorem dX9_subtitle_76 : decode cX9_subtitle 76 = .ok (.ireturn, 1) := by decide +kernel
theorem dX9_subtitle_77 : decode cX9_subtitle 77 = .ok (.aload_n 3, 1) := by decide +kernel
theorem dX9_subtitle_78 : decode cX9_subtitle 78 = .ok (.getfield 145, 3) := by decide +kernel
theorem dX9_subtitle_81 : decode cX9_subtitle 81 = .ok (.ireturn, 1) := by decide +kernel
theorem dX9_subtitle_82 : decode cX9_subtitle 82 = .ok (.aload_n 3, 1) := by decide +kernel
theorem dX9_subtitle_83 : decode cX9_subtitle 83 = .ok (.getfield 148, 3) := by decide +kernel
theorem dX9_subtitle_86 : decode cX9_subtitle 86 = .ok (.ireturn, 1) := by decide +kernel
theorem dX9_subtitle_87 : decode cX9_subtitle 87 = .ok (.aload_n 3, 1) := by decide +kernel
theorem dX9_subtitle_88 : decode cX9_subtitle 88 = .ok (.invokevirtual 151, 3) := by decide +kernel
theorem dX9_subtitle_91 : decode cX9_subtitle 91 = .ok (.ireturn, 1) := by decide +kernel
theorem dX9_subtitle_92 : decode cX9_subtitle 92 = .ok (.aload_n 0, 1) := by decide +kernel
theorem dX9_subtitle_93 : decode cX9_subtitle 93 = .ok (.getfield 23, 3) := by decide +kernel
theorem dX9_subtitle_96 : decode cX9_subtitle 96 = .ok (.aload_n 3, 1) := by decide +kernel
theorem dX9_subtitle_97 : decode cX9_subtitle 97 = .ok (.invokevirtual 154, 3) := by decide +kernel
theorem dX9_subtitle_100 : decode cX9_subtitle 100 = .ok (.ireturn, 1) := by decide +kernel
theorem dX9_subtitle_101 : decode cX9_subtitle 101 = .ok (.aload_n 0, 1) := by decide +kernel
theorem dX9_subtitle_102 : decode cX9_subtitle 102 = .ok (.getfield 23, 3) := by decide +kernel
theorem dX9_subtitle_105 : decode cX9_subtitle 105 = .ok (.iload_n 1, 1) := by decide +kernel
theorem dX9_subtitle_106 : decode cX9_subtitle 106 = .ok (.invokevirtual 158, 3) := by decide +kernel
theorem dX9_subtitle_109 : decode cX9_subtitle 109 = .ok (.ireturn, 1) := by decide +kernel
theorem dX9_subtitle_110 : decode cX9_subtitle 110 = .ok (.aload_n 0, 1) := by decide +kernel
theorem dX9_subtitle_111 : decode cX9_subtitle 111 = .ok (.getfield 23, 3) := by decide +kernel
theorem dX9_subtitle_114 : decode cX9_subtitle 114 = .ok (.getfield 114, 3) := by decide +kernel
theorem dX9_subtitle_117 : decode cX9_subtitle 117 = .ok (.iload_n 1, 1) := by decide +kernel
theorem dX9_subtitle_118 : decode cX9_subtitle 118 = .ok (.invokevirtual 161, 3) := by decide +kernel
theorem dX9_subtitle_121 : decode cX9_subtitle 121 = .ok (.ireturn, 1) := by decide +kernel
theorem dX9_subtitle_122 : decode cX9_subtitle 122 = .ok (.iconst (-1), 1) := by decide +kernel
theorem dX9_subtitle_123 : decode cX9_subtitle 123 = .ok (.ireturn, 1) := by decide +kernel
theorem dX9_part_0 : decode cX9_part 0 = .ok (.aload_n 0, 1) := by decide +kernel
theorem dX9_part_1 : decode cX9_part 1 = .ok (.getfield 23, 3) := by decide +kernel
theorem dX9_part_4 : decode cX9_part 4 = .ok (.getfield 114, 3) := by decide +kernel
theorem dX9_part_7 : decode cX9_part 7 = .ok (.iload_n 1, 1) := by decide +kernel
theorem dX9_part_8 : decode cX9_part 8 = .ok (.invokevirtual 130, 3) := by decide +kernel
theorem dX9_part_11 : decode cX9_part 11 = .ok (.ifCond .eq 12, 3) := by decide +kernel
theorem dX9_part_14 : decode cX9_part 14 = .ok (.iload_n 2, 1) := by decide +kernel
theorem dX9_part_15 : decode cX9_part 15 = .ok (.iconst 0, 1) := by decide +kernel
theorem dX9_part_16 : decode cX9_part 16 = .ok (.iconst 1, 1) := by decide +kernel
theorem dX9_part_17 : decode cX9_part 17 = .ok (.invokestatic 41, 3) := by decide +kernel
theorem dX9_part_20 : decode cX9_part 20 = .ok (.ifCond .ne 5, 3) := by decide +kernel
theorem dX9_part_23 : decode cX9_part 23 = .ok (.iconst (-1), 1) := by decide +kernel
theorem dX9_part_24 : decode cX9_part 24 = .ok (.ireturn, 1) := by decide +kernel
theorem dX9_part_25 : decode cX9_part 25 = .ok (.iload_n 3, 1) := by decide +kernel
theorem dX9_part_26 : decode cX9_part 26 = .ok (.ifCond .lt 14, 3) := by decide +kernel
theorem dX9_part_29 : decode cX9_part 29 = .ok (.iload_n 3, 1) := by decide +kernel
theorem dX9_part_30 : decode cX9_part 30 = .ok (.iconst 3, 1) := by decide +kernel
theorem dX9_part_31 : decode cX9_part 31 = .ok (.if_icmp .le 11, 3) := by decide +kernel
theorem dX9_part_34 : decode cX9_part 34 = .ok (.iload_n 3, 1) := by decide +kernel
theorem dX9_part_35 : decode cX9_part 35 = .ok (.bipush 10, 2) := by decide +kernel
theorem dX9_part_37 : decode cX9_part 37 = .ok (.if_icmp .ge 5, 3) := by decide +kernel
theorem dX9_part_40 : decode cX9_part 40 = .ok (.iconst (-1), 1) := by decide +kernel
theorem dX9_part_41 : decode cX9_part 41 = .ok (.ireturn, 1) := by decide +kernel
theorem dX9_part_42 : decode cX9_part 42 = .ok (.aload_n 0, 1) := by decide +kernel
theorem dX9_part_43 : decode cX9_part 43 = .ok (.getfield 23, 3) := by decide +kernel
theorem dX9_part_46 : decode cX9_part 46 = .ok (.getfield 114, 3) := by decide +kernel
theorem dX9_part_49 : decode cX9_part 49 = .ok (.iload_n 1, 1) := by decide +kernel
theorem dX9_part_50 : decode cX9_part 50 = .ok (.invokevirtual 137, 3) := by decide +kernel
theorem dX9_part_53 : decode cX9_part 53 = .ok (.astore 4, 2) := by decide +kernel
theorem dX9_part_55 : decode cX9_part 55 = .ok (.iload_n 2, 1) := by decide +kernel
theorem dX9_part_56 : decode cX9_part 56 = .ok (.aload 4, 2) := by decide +kernel
theorem dX9_part_58 : decode cX9_part 58 = .ok (.getfield 148, 3) := by decide +kernel
theorem dX9_part_61 : decode cX9_part 61 = .ok (.if_icmp .lt 6, 3) := by decide +kernel
theorem dX9_part_64 : decode cX9_part 64 = .ok (.bipush (-9), 2) := by decide +kernel
theorem dX9_part_66 : decode cX9_part 66 = .ok (.ireturn, 1) := by decide +kernel
theorem dX9_part_67 : decode cX9_part 67 = .ok (.iload_n 2, 1) := by decide +kernel
theorem dX9_part_68 : decode cX9_part 68 = .ok (.ifCond .ne 11, 3) := by decide +kernel
theorem dX9_part_71 : decode cX9_part 71 = .ok (.aload 4, 2) := by decide +kernel
theorem dX9_part_73 : decode cX9_part 73 = .ok (.getfield 164, 3) := by decide +kernel
theorem dX9_part_76 : decode cX9_part 76 = .ok (.goto 8, 3) := by decide +kernel
theorem dX9_part_79 : decode cX9_part 79 = .ok (.aload 4, 2) := by decide +kernel
theorem dX9_part_81 : decode cX9_part 81 = .ok (.getfield 168, 3) := by decide +kernel
theorem dX9_part_84 : decode cX9_part 84 = .ok (.astore 5, 2) := by decide +kernel
theorem dX9_part_86 : decode cX9_part 86 = .ok (.iload_n 3, 1) := by decide +kernel
theorem dX9_part_87 : decode cX9_part 87 = .ok (.bipush 10, 2) := by decide +kernel
theorem dX9_part_89 : decode cX9_part 89 = .ok (.if_icmp .lt 13, 3) := by decide +kernel
theorem dX9_part_92 : decode cX9_part 92 = .ok (.aload 5, 2) := by decide +kernel
theorem dX9_part_94 : decode cX9_part 94 = .ok (.iload_n 3, 1) := by decide +kernel
theorem dX9_part_95 : decode cX9_part 95 = .ok (.bipush 10, 2) := by decide +kernel
theorem dX9_part_97 : decode cX9_part 97 = .ok (.isub, 1) := by decide +kernel
theorem dX9_part_98 : decode cX9_part 98 = .ok (.invokevirtual 171, 3) := by decide +kernel
theorem dX9_part_101 : decode cX9_part 101 = .ok (.ireturn, 1) := by decide +kernel
theorem dX9_part_102 : decode cX9_part 102 = .ok (.iload_n 3, 1) := by decide +kernel
theorem dX9_part_103 : decode cX9_part 103 = .ok (.ifCond .ne 9, 3) := by decide +kernel
theorem dX9_part_106 : decode cX9_part 106 = .ok (.aload 5, 2) := by decide +kernel
theorem dX9_part_108 : decode cX9_part 108 = .ok (.getfield 174, 3) := by decide +kernel
theorem dX9_part_111 : decode cX9_part 111 = .ok (.ireturn, 1) := by decide +kernel
theorem dX9_part_112 : decode cX9_part 112 = .ok (.iload_n 3, 1) := by decide +kernel
theorem dX9_part_113 : decode cX9_part 113 = .ok (.iconst 1, 1) := by decide +kernel
theorem dX9_part_114 : decode cX9_part 114 = .ok (.if_icmp .ne 9, 3) := by decide +kernel
theorem dX9_part_117 : decode cX9_part 117 = .ok (.aload 5, 2) := by decide +kernel
theorem dX9_part_119 : decode cX9_part 119 = .ok (.invokevirtual 177, 3) := by decide +kernel
theorem dX9_part_122 : decode cX9_part 122 = .ok (.ireturn, 1) := by decide +kernel
theorem dX9_part_123 : decode cX9_part 123 = .ok (.aload 5, 2) := by decide +kernel
theorem dX9_part_125 : decode cX9_part 125 = .ok (.aload_n 0, 1) := by decide +kernel
theorem dX9_part_126 : decode cX9_part 126 = .ok (.getfield 23, 3) := by decide +kernel
theorem dX9_part_129 : decode cX9_part 129 = .ok (.getfield 180, 3) := by decide +kernel
theorem dX9_part_132 : decode cX9_part 132 = .ok (.iconst 4, 1) := by decide +kernel
theorem dX9_part_133 : decode cX9_part 133 = .ok (.invokevirtual 184, 3) := by decide +kernel
theorem dX9_part_136 : decode cX9_part 136 = .ok (.invokevirtual 187, 3) := by decide +kernel
theorem dX9_part_139 : decode cX9_part 139 = .ok (.istore 6, 2) := by decide +kernel
theorem dX9_part_141 : decode cX9_part 141 = .ok (.iload_n 3, 1) := by decide +kernel
theorem dX9_part_142 : decode cX9_part 142 = .ok (.iconst 2, 1) := by decide +kernel
theorem dX9_part_143 : decode cX9_part 143 = .ok (.if_icmp .ne 21, 3) := by decide +kernel
theorem dX9_part_146 : decode cX9_part 146 = .ok (.iload 6, 2) := by decide +kernel
theorem dX9_part_148 : decode cX9_part 148 = .ok (.bipush (-9), 2) := by decide +kernel
theorem dX9_part_150 : decode cX9_part 150 = .ok (.if_icmp .ne 11, 3) := by decide +kernel
theorem dX9_part_153 : decode cX9_part 153 = .ok (.aload 5, 2) := by decide +kernel
theorem dX9_part_155 : decode cX9_part 155 = .ok (.invokevirtual 177, 3) := by decide +kernel
theorem dX9_part_158 : decode cX9_part 158 = .ok (.goto 5, 3) := by decide +kernel
theorem dX9_part_161 : decode cX9_part 161 = .ok (.iload 6, 2) := by decide +kernel
theorem dX9_part_163 : decode cX9_part 163 = .ok (.ireturn, 1) := by decide +kernel
theorem dX9_part_164 : decode cX9_part 164 = .ok (.iload 6, 2) := by decide +kernel
theorem dX9_part_166 : decode cX9_part 166 = .ok (.bipush (-9), 2) := by decide +kernel
theorem dX9_part_168 : decode cX9_part 168 = .ok (.if_icmp .ne 8, 3) := by decide +kernel
theorem dX9_part_171 : decode cX9_part 171 = .ok (.bipush (-9), 2) := by decide +kernel
theorem dX9_part_173 : decode cX9_part 173 = .ok (.goto 10, 3) := by decide +kernel
theorem dX9_part_176 : decode cX9_part 176 = .ok (.aload 5, 2) := by decide +kernel
theorem dX9_part_178 : decode cX9_part 178 = .ok (.iload 6, 2) := by decide +kernel
theorem dX9_part_180 : decode cX9_part 180 = .ok (.invokevirtual 190, 3) := by decide +kernel
theorem dX9_part_183 : decode cX9_part 183 = .ok (.ireturn, 1) := by decide +kernel
theorem dX9_set_0 : decode cX9_set 0 = .ok (.aload_n 0, 1) := by decide +kernel
theorem dX9_set_1 : decode cX9_set 1 = .ok (.getfield 23, 3) := by decide +kernel
theorem dX9_set_4 : decode cX9_set 4 = .ok (.getfield 180, 3) := by decide +kernel
theorem dX9_set_7 : decode cX9_set 7 = .ok (.iload_n 1, 1) := by decide +kernel
theorem dX9_set_8 : decode cX9_set 8 = .ok (.iload_n 2, 1) := by decide +kernel
theorem dX9_set_9 : decode cX9_set 9 = .ok (.invokevirtual 193, 3) := by decide +kernel
theorem dX9_set_12 : decode cX9_set 12 = .ok (.ifCond .ne 5, 3) := by decide +kernel
theorem dX9_set_15 : decode cX9_set 15 = .ok (.iconst (-1), 1) := by decide +kernel
theorem dX9_set_16 : decode cX9_set 16 = .ok (.ireturn, 1) := by decide +kernel
theorem dX9_set_17 : decode cX9_set 17 = .ok (.aload_n 0, 1) := by decide +kernel
theorem dX9_set_18 : decode cX9_set 18 = .ok (.getfield 37, 3) := by decide +kernel
theorem dX9_set_21 : decode cX9_set 21 = .ok (.aload_n 0, 1) := by decide +kernel
theorem dX9_set_22 : decode cX9_set 22 = .ok (.getfield 23, 3) := by decide +kernel
theorem dX9_set_25 : decode cX9_set 25 = .ok (.invokevirtual 58, 3) := by decide +kernel
theorem dX9_set_28 : decode cX9_set 28 = .ok (.aload_n 0, 1) := by decide +kernel
theorem dX9_set_29 : decode cX9_set 29 = .ok (.getfield 23, 3) := by decide +kernel
theorem dX9_set_32 : decode cX9_set 32 = .ok (.getfield 180, 3) := by decide +kernel
theorem dX9_set_35 : decode cX9_set 35 = .ok (.iload_n 1, 1) := by decide +kernel
theorem dX9_set_36 : decode cX9_set 36 = .ok (.invokevirtual 184, 3) := by decide +kernel
theorem dX9_set_39 : decode cX9_set 39 = .ok (.istore_n 3, 1) := by decide +kernel
theorem dX9_set_40 : decode cX9_set 40 = .ok (.aload_n 0, 1) := by decide +kernel
theorem dX9_set_41 : decode cX9_set 41 = .ok (.getfield 23, 3) := by decide +kernel
theorem dX9_set_44 : decode cX9_set 44 = .ok (.getfield 180, 3) := by decide +kernel
theorem dX9_set_47 : decode cX9_set 47 = .ok (.iload_n 1, 1) := by decide +kernel
theorem dX9_set_48 : decode cX9_set 48 = .ok (.iload_n 2, 1) := by decide +kernel
theorem dX9_set_49 : decode cX9_set 49 = .ok (.invokevirtual 196, 3) := by decide +kernel
theorem dX9_set_52 : decode cX9_set 52 = .ok (.iload_n 3, 1) := by decide +kernel
theorem dX9_set_53 : decode cX9_set 53 = .ok (.ireturn, 1) := by decide +kernel
theorem dX9_conform_0 : decode cX9_conform 0 = .ok (.iload_n 1, 1) := by decide +kernel
theorem dX9_conform_1 : decode cX9_conform 1 = .ok (.iconst 1, 1) := by decide +kernel
theorem dX9_conform_2 : decode cX9_conform 2 = .ok (.bipush 31, 2) := by decide +kernel
theorem dX9_conform_4 : decode cX9_conform 4 = .ok (.invokestatic 41, 3) := by decide +kernel
theorem dX9_conform_7 : decode cX9_conform 7 = .ok (.ifCond .ne 5, 3) := by decide +kernel
theorem dX9_conform_10 : decode cX9_conform 10 = .ok (.iconst (-1), 1) := by decide +kernel
theorem dX9_conform_11 : decode cX9_conform 11 = .ok (.ireturn, 1) := by decide +kernel
theorem dX9_conform_12 : decode cX9_conform 12 = .ok (.aload_n 0, 1) := by decide +kernel
theorem dX9_conform_13 : decode cX9_conform 13 = .ok (.getfield 30, 3) := by decide +kernel
theorem dX9_conform_16 : decode cX9_conform 16 = .ok (.aload_n 0, 1) := by decide +kernel
theorem dX9_conform_17 : decode cX9_conform 17 = .ok (.getfield 23, 3) := by decide +kernel
theorem dX9_conform_20 : decode cX9_conform 20 = .ok (.iload_n 1, 1) := by decide +kernel
theorem dX9_conform_21 : decode cX9_conform 21 = .ok (.invokevirtual 199, 3) := by decide +kernel
theorem dX9_conform_24 : decode cX9_conform 24 = .ok (.ifCond .ne 6, 3) := by decide +kernel
theorem dX9_conform_27 : decode cX9_conform 27 = .ok (.bipush (-3), 2) := by decide +kernel
theorem dX9_conform_29 : decode cX9_conform 29 = .ok (.ireturn, 1) := by decide +kernel
theorem dX9_conform_30 : decode cX9_conform 30 = .ok (.aload_n 0, 1) := by decide +kernel
theorem dX9_conform_31 : decode cX9_conform 31 = .ok (.getfield 37, 3) := by decide +kernel
theorem dX9_conform_34 : decode cX9_conform 34 = .ok (.aload_n 0, 1) := by decide +kernel
theorem dX9_conform_35 : decode cX9_conform 35 = .ok (.getfield 23, 3) := by decide +kernel
theorem dX9_conform_38 : decode cX9_conform 38 = .ok (.invokevirtual 58, 3) := by decide +kernel
theorem dX9_conform_41 : decode cX9_conform 41 = .ok (.aload_n 0, 1) := by decide +kernel
theorem dX9_conform_42 : decode cX9_conform 42 = .ok (.getfield 23, 3) := by decide +kernel
theorem dX9_conform_45 : decode cX9_conform 45 = .ok (.aload_n 0, 1) := by decide +kernel
theorem dX9_conform_46 : decode cX9_conform 46 = .ok (.getfield 30, 3) := by decide +kernel
theorem dX9_conform_49 : decode cX9_conform 49 = .ok (.getfield 203, 3) := by decide +kernel
theorem dX9_conform_52 : decode cX9_conform 52 = .ok (.invokevirtual 206, 3) := by decide +kernel
theorem dX9_conform_55 : decode cX9_conform 55 = .ok (.aload_n 0, 1) := by decide +kernel
theorem dX9_conform_56 : decode cX9_conform 56 = .ok (.getfield 23, 3) := by decide +kernel
theorem dX9_conform_59 : decode cX9_conform 59 = .ok (.getfield 114, 3) := by decide +kernel
theorem dX9_conform_62 : decode cX9_conform 62 = .ok (.invokevirtual 132, 3) := by decide +kernel
theorem dX9_conform_65 : decode cX9_conform 65 = .ok (.ireturn, 1) := by decide +kernel
theorem dX9_ifConform_0 : decode cX9_ifConform 0 = .ok (.iload_n 1, 1) := by decide +kernel
theorem dX9_ifConform_1 : decode cX9_ifConform 1 = .ok (.iconst 1, 1) := by decide +kernel
theorem dX9_ifConform_2 : decode cX9_ifConform 2 = .ok (.bipush 31, 2) := by decide +kernel
theorem dX9_ifConform_4 : decode cX9_ifConform 4 = .ok (.invokestatic 41, 3) := by decide +kernel
theorem dX9_ifConform_7 : decode cX9_ifConform 7 = .ok (.ifCond .eq 12, 3) := by decide +kernel
theorem dX9_ifConform_10 : decode cX9_ifConform 10 = .ok (.iload_n 2, 1) := by decide +kernel
theorem dX9_ifConform_11 : decode cX9_ifConform 11 = .ok (.iconst 0, 1) := by decide +kernel
theorem dX9_ifConform_12 : decode cX9_ifConform 12 = .ok (.iconst 4, 1) := by decide +kernel
theorem dX9_ifConform_13 : decode cX9_ifConform 13 = .ok (.invokestatic 41, 3) := by decide +kernel
theorem dX9_ifConform_16 : decode cX9_ifConform 16 = .ok (.ifCond .ne 5, 3) := by decide +kernel
theorem dX9_ifConform_19 : decode cX9_ifConform 19 = .ok (.iconst (-1), 1) := by decide +kernel
theorem dX9_ifConform_20 : decode cX9_ifConform 20 = .ok (.ireturn, 1) := by decide +kernel
theorem dX9_ifConform_21 : decode cX9_ifConform 21 = .ok (.aload_n 0, 1) := by decide +kernel
theorem dX9_ifConform_22 : decode cX9_ifConform 22 = .ok (.getfield 30, 3) := by decide +kernel
theorem dX9_ifConform_25 : decode cX9_ifConform 25 = .ok (.aload_n 0, 1) := by decide +kernel
theorem dX9_ifConform_26 : decode cX9_ifConform 26 = .ok (.getfield 23, 3) := by decide +kernel
theorem dX9_ifConform_29 : decode cX9_ifConform 29 = .ok (.iload_n 1, 1) := by decide +kernel
theorem dX9_ifConform_30 : decode cX9_ifConform 30 = .ok (.invokevirtual 199, 3) := by decide +kernel
theorem dX9_ifConform_33 : decode cX9_ifConform 33 = .ok (.ifCond .ne 6, 3) := by decide +kernel
theorem dX9_ifConform_36 : decode cX9_ifConform 36 = .ok (.bipush (-3), 2) := by decide +kernel
theorem dX9_ifConform_38 : decode cX9_ifConform 38 = .ok (.ireturn, 1) := by decide +kernel
theorem dX9_ifConform_39 : decode cX9_ifConform 39 = .ok (.iload_n 2, 1) := by decide +kernel
theorem dX9_ifConform_40 : decode cX9_ifConform 40 = .ok (.tableswitch 86 0 3 #[32, 46, 60, 72], 32) := by decide +kernel
theorem dX9_ifConform_72 : decode cX9_ifConform 72 = .ok (.aload_n 0, 1) := by decide +kernel
theorem dX9_ifConform_73 : decode cX9_ifConform 73 = .ok (.getfield 30, 3) := by decide +kernel
theorem dX9_ifConform_76 : decode cX9_ifConform 76 = .ok (.getfield 203, 3) := by decide +kernel
theorem dX9_ifConform_79 : decode cX9_ifConform 79 = .ok (.getfield 114, 3) := by decide +kernel
theorem dX9_ifConform_82 : decode cX9_ifConform 82 = .ok (.invokevirtual 132, 3) := by decide +kernel
theorem dX9_ifConform_85 : decode cX9_ifConform 85 = .ok (.ireturn, 1) := by decide +kernel
theorem dX9_ifConform_86 : decode cX9_ifConform 86 = .ok (.aload_n 0, 1) := by decide +kernel
theorem dX9_ifConform_87 : decode cX9_ifConform 87 = .ok (.getfield 30, 3) := by decide +kernel
theorem dX9_ifConform_90 : decode cX9_ifConform 90 = .ok (.getfield 203, 3) := by decide +kernel
theorem dX9_ifConform_93 : decode cX9_ifConform 93 = .ok (.getfield 114, 3) := by decide +kernel
theorem dX9_ifConform_96 : decode cX9_ifConform 96 = .ok (.invokevirtual 209, 3) := by decide +kernel
theorem dX9_ifConform_99 : decode cX9_ifConform 99 = .ok (.ireturn, 1) := by decide +kernel
theorem dX9_ifConform_100 : decode cX9_ifConform 100 = .ok (.aload_n 0, 1) := by decide +kernel
theorem dX9_ifConform_101 : decode cX9_ifConform 101 = .ok (.getfield 30, 3) := by decide +kernel
theorem dX9_ifConform_104 : decode cX9_ifConform 104 = .ok (.getfield 203, 3) := by decide +kernel
theorem dX9_ifConform_107 : decode cX9_ifConform 107 = .ok (.iconst 0, 1) := by decide +kernel
theorem dX9_ifConform_108 : decode cX9_ifConform 108 = .ok (.invokevirtual 212, 3) := by decide +kernel
theorem dX9_ifConform_111 : decode cX9_ifConform 111 = .ok (.ireturn, 1) := by decide +kernel
theorem dX9_ifConform_112 : decode cX9_ifConform 112 = .ok (.aload_n 0, 1) := by decide +kernel
theorem dX9_ifConform_113 : decode cX9_ifConform 113 = .ok (.getfield 30, 3) := by decide +kernel
theorem dX9_ifConform_116 : decode cX9_ifConform 116 = .ok (.getfield 203, 3) := by decide +kernel
theorem dX9_ifConform_119 : decode cX9_ifConform 119 = .ok (.getfield 114, 3) := by decide +kernel
theorem dX9_ifConform_122 : decode cX9_ifConform 122 = .ok (.invokevirtual 215, 3) := by decide +kernel
theorem dX9_ifConform_125 : decode cX9_ifConform 125 = .ok (.ireturn, 1) := by decide +kernel
theorem dX9_ifConform_126 : decode cX9_ifConform 126 = .ok (.aload_n 0, 1) := by decide +kernel
theorem dX9_ifConform_127 : decode cX9_ifConform 127 = .ok (.getfield 30, 3) := by decide +kernel
theorem dX9_ifConform_130 : decode cX9_ifConform 130 = .ok (.getfield 218, 3) := by decide +kernel
theorem dX9_ifConform_133 : decode cX9_ifConform 133 = .ok (.ireturn, 1) := by decide +kernel
theorem dX9_stretches_0 : decode cX9_stretches 0 = .ok (.aload_n 0, 1) := by decide +kernel
theorem dX9_stretches_1 : decode cX9_stretches 1 = .ok (.getfield 23, 3) := by decide +kernel
theorem dX9_stretches_4 : decode cX9_stretches 4 = .ok (.getfield 114, 3) := by decide +kernel
theorem dX9_stretches_7 : decode cX9_stretches 7 = .ok (.iload_n 1, 1) := by decide +kernel
theorem dX9_stretches_8 : decode cX9_stretches 8 = .ok (.invokevirtual 130, 3) := by decide +kernel
theorem dX9_stretches_11 : decode cX9_stretches 11 = .ok (.ifCond .ne 5, 3) := by decide +kernel
theorem dX9_stretches_14 : decode cX9_stretches 14 = .ok (.iconst (-1), 1) := by decide +kernel
theorem dX9_stretches_15 : decode cX9_stretches 15 = .ok (.ireturn, 1) := by decide +kernel
theorem dX9_stretches_16 : decode cX9_stretches 16 = .ok (.aload_n 0, 1) := by decide +kernel
theorem dX9_stretches_17 : decode cX9_stretches 17 = .ok (.getfield 30, 3) := by decide +kernel
theorem dX9_stretches_20 : decode cX9_stretches 20 = .ok (.aload_n 0, 1) := by decide +kernel
theorem dX9_stretches_21 : decode cX9_stretches 21 = .ok (.getfield 23, 3) := by decide +kernel
theorem dX9_stretches_24 : decode cX9_stretches 24 = .ok (.getfield 114, 3) := by decide +kernel
theorem dX9_stretches_27 : decode cX9_stretches 27 = .ok (.iload_n 1, 1) := by decide +kernel
theorem dX9_stretches_28 : decode cX9_stretches 28 = .ok (.invokevirtual 137, 3) := by decide +kernel
theorem dX9_stretches_31 : decode cX9_stretches 31 = .ok (.aload_n 0, 1) := by decide +kernel
theorem dX9_stretches_32 : decode cX9_stretches 32 = .ok (.getfield 23, 3) := by decide +kernel
theorem dX9_stretches_35 : decode cX9_stretches 35 = .ok (.getfield 45, 3) := by decide +kernel
theorem dX9_stretches_38 : decode cX9_stretches 38 = .ok (.invokevirtual 221, 3) := by decide +kernel
theorem dX9_stretches_41 : decode cX9_stretches 41 = .ok (.ireturn, 1) := by decide +kernel
theorem dX9_shown_0 : decode cX9_shown 0 = .ok (.iload_n 1, 1) := by decide +kernel
theorem dX9_shown_1 : decode cX9_shown 1 = .ok (.iconst 0, 1) := by decide +kernel
theorem dX9_shown_2 : decode cX9_shown 2 = .ok (.sipush 9999, 3) := by decide +kernel
theorem dX9_shown_5 : decode cX9_shown 5 = .ok (.invokestatic 41, 3) := by decide +kernel
theorem dX9_shown_8 : decode cX9_shown 8 = .ok (.ifCond .eq 17, 3) := by decide +kernel
theorem dX9_shown_11 : decode cX9_shown 11 = .ok (.aload_n 0, 1) := by decide +kernel
theorem dX9_shown_12 : decode cX9_shown 12 = .ok (.getfield 23, 3) := by decide +kernel
theorem dX9_shown_15 : decode cX9_shown 15 = .ok (.getfield 114, 3) := by decide +kernel
theorem dX9_shown_18 : decode cX9_shown 18 = .ok (.iload_n 1, 1) := by decide +kernel
theorem dX9_shown_19 : decode cX9_shown 19 = .ok (.invokevirtual 225, 3) := by decide +kernel
theorem dX9_shown_22 : decode cX9_shown 22 = .ok (.goto 4, 3) := by decide +kernel
theorem dX9_shown_25 : decode cX9_shown 25 = .ok (.iconst (-1), 1) := by decide +kernel
theorem dX9_shown_26 : decode cX9_shown 26 = .ok (.ireturn, 1) := by decide +kernel
theorem dX9_faults_0 : decode cX9_faults 0 = .ok (.iload_n 1, 1) := by decide +kernel
theorem dX9_faults_1 : decode cX9_faults 1 = .ok (.iconst 0, 1) := by decide +kernel
theorem dX9_faults_2 : decode cX9_faults 2 = .ok (.bipush 32, 2) := by decide +kernel
theorem dX9_faults_4 : decode cX9_faults 4 = .ok (.invokestatic 41, 3) := by decide +kernel
theorem dX9_faults_7 : decode cX9_faults 7 = .ok (.ifCond .eq 11, 3) := by decide +kernel
theorem dX9_faults_10 : decode cX9_faults 10 = .ok (.iload_n 1, 1) := by decide +kernel
theorem dX9_faults_11 : decode cX9_faults 11 = .ok (.invokestatic 228, 3) := by decide +kernel
theorem dX9_faults_14 : decode cX9_faults 14 = .ok (.iconst 1, 1) := by decide +kernel
theorem dX9_faults_15 : decode cX9_faults 15 = .ok (.if_icmp .le 5, 3) := by decide +kernel
theorem dX9_faults_18 : decode cX9_faults 18 = .ok (.iconst (-1), 1) := by decide +kernel
theorem dX9_faults_19 : decode cX9_faults 19 = .ok (.ireturn, 1) := by decide +kernel
theorem dX9_faults_20 : decode cX9_faults 20 = .ok (.aload_n 0, 1) := by decide +kernel
theorem dX9_faults_21 : decode cX9_faults 21 = .ok (.getfield 23, 3) := by decide +kernel
theorem dX9_faults_24 : decode cX9_faults 24 = .ok (.iload_n 1, 1) := by decide +kernel
theorem dX9_faults_25 : decode cX9_faults 25 = .ok (.invokevirtual 212, 3) := by decide +kernel
theorem dX9_faults_28 : decode cX9_faults 28 = .ok (.ireturn, 1) := by decide +kernel
theorem dX9_told_0 : decode cX9_told 0 = .ok (.iload_n 1, 1) := by decide +kernel
theorem dX9_told_1 : decode cX9_told 1 = .ok (.ifCond .lt 20, 3) := by decide +kernel
theorem dX9_told_4 : decode cX9_told 4 = .ok (.iload_n 1, 1) := by decide +kernel
theorem dX9_told_5 : decode cX9_told 5 = .ok (.iconst 4, 1) := by decide +kernel
theorem dX9_told_6 : decode cX9_told 6 = .ok (.if_icmp .gt 15, 3) := by decide +kernel
theorem dX9_told_9 : decode cX9_told 9 = .ok (.aload_n 0, 1) := by decide +kernel
theorem dX9_told_10 : decode cX9_told 10 = .ok (.getfield 23, 3) := by decide +kernel
theorem dX9_told_13 : decode cX9_told 13 = .ok (.getfield 180, 3) := by decide +kernel
theorem dX9_told_16 : decode cX9_told 16 = .ok (.iload_n 1, 1) := by decide +kernel
theorem dX9_told_17 : decode cX9_told 17 = .ok (.invokevirtual 184, 3) := by decide +kernel
theorem dX9_told_20 : decode cX9_told 20 = .ok (.ireturn, 1) := by decide +kernel
theorem dX9_told_21 : decode cX9_told 21 = .ok (.iload_n 1, 1) := by decide +kernel
theorem dX9_told_22 : decode cX9_told 22 = .ok (.tableswitch 110 5 11 #[42, 53, 64, 75, 86, 97, 102], 42) := by decide +kernel
theorem dX9_told_64 : decode cX9_told 64 = .ok (.aload_n 0, 1) := by decide +kernel
theorem dX9_told_65 : decode cX9_told 65 = .ok (.getfield 23, 3) := by decide +kernel
theorem dX9_told_68 : decode cX9_told 68 = .ok (.getfield 45, 3) := by decide +kernel
theorem dX9_told_71 : decode cX9_told 71 = .ok (.invokevirtual 49, 3) := by decide +kernel
theorem dX9_told_74 : decode cX9_told 74 = .ok (.ireturn, 1) := by decide +kernel
theorem dX9_told_75 : decode cX9_told 75 = .ok (.aload_n 0, 1) := by decide +kernel
theorem dX9_told_76 : decode cX9_told 76 = .ok (.getfield 23, 3) := by decide +kernel
theorem dX9_told_79 : decode cX9_told 79 = .ok (.getfield 45, 3) := by decide +kernel
theorem dX9_told_82 : decode cX9_told 82 = .ok (.invokevirtual 55, 3) := by decide +kernel
theorem dX9_told_85 : decode cX9_told 85 = .ok (.ireturn, 1) := by decide +kernel
theorem dX9_told_86 : decode cX9_told 86 = .ok (.aload_n 0, 1) := by decide +kernel
theorem dX9_told_87 : decode cX9_told 87 = .ok (.getfield 23, 3) := by decide +kernel
theorem dX9_told_90 : decode cX9_told 90 = .ok (.getfield 84, 3) := by decide +kernel
theorem dX9_told_93 : decode cX9_told 93 = .ok (.invokevirtual 91, 3) := by decide +kernel
theorem dX9_told_96 : decode cX9_told 96 = .ok (.ireturn, 1) := by decide +kernel
theorem dX9_told_97 : decode cX9_told 97 = .ok (.aload_n 0, 1) := by decide +kernel
theorem dX9_told_98 : decode cX9_told 98 = .ok (.getfield 23, 3) := by decide +kernel
theorem dX9_told_101 : decode cX9_told 101 = .ok (.getfield 114, 3) := by decide +kernel
theorem dX9_told_104 : decode cX9_told 104 = .ok (.invokevirtual 132, 3) := by decide +kernel
theorem dX9_told_107 : decode cX9_told 107 = .ok (.ireturn, 1) := by decide +kernel
theorem dX9_told_108 : decode cX9_told 108 = .ok (.aload_n 0, 1) := by decide +kernel
theorem dX9_told_109 : decode cX9_told 109 = .ok (.getfield 23, 3) := by decide +kernel
theorem dX9_told_112 : decode cX9_told 112 = .ok (.getfield 114, 3) := by decide +kernel
theorem dX9_told_115 : decode cX9_told 115 = .ok (.invokevirtual 233, 3) := by decide +kernel
theorem dX9_told_118 : decode cX9_told 118 = .ok (.ireturn, 1) := by decide +kernel
theorem dX9_told_119 : decode cX9_told 119 = .ok (.aload_n 0, 1) := by decide +kernel
theorem dX9_told_120 : decode cX9_told 120 = .ok (.getfield 106, 3) := by decide +kernel
theorem dX9_told_123 : decode cX9_told 123 = .ok (.ireturn, 1) := by decide +kernel
theorem dX9_told_124 : decode cX9_told 124 = .ok (.aload_n 0, 1) := by decide +kernel
theorem dX9_told_125 : decode cX9_told 125 = .ok (.getfield 37, 3) := by decide +kernel
theorem dX9_told_128 : decode cX9_told 128 = .ok (.invokevirtual 236, 3) := by decide +kernel
theorem dX9_told_131 : decode cX9_told 131 = .ok (.ireturn, 1) := by decide +kernel
theorem dX9_told_132 : decode cX9_told 132 = .ok (.iconst (-1), 1) := by decide +kernel
theorem dX9_told_133 : decode cX9_told 133 = .ok (.ireturn, 1) := by decide +kernel
theorem dX9_undo_0 : decode cX9_undo 0 = .ok (.aload_n 0, 1) := by decide +kernel
theorem dX9_undo_1 : decode cX9_undo 1 = .ok (.getfield 37, 3) := by decide +kernel
theorem dX9_undo_4 : decode cX9_undo 4 = .ok (.invokevirtual 236, 3) := by decide +kernel
theorem dX9_undo_7 : decode cX9_undo 7 = .ok (.ifCond .ne 6, 3) := by decide +kernel
theorem dX9_undo_10 : decode cX9_undo 10 = .ok (.bipush (-2), 2) := by decide +kernel
theorem dX9_undo_12 : decode cX9_undo 12 = .ok (.ireturn, 1) := by decide +kernel
theorem dX9_undo_13 : decode cX9_undo 13 = .ok (.aload_n 0, 1) := by decide +kernel
theorem dX9_undo_14 : decode cX9_undo 14 = .ok (.getfield 37, 3) := by decide +kernel
theorem dX9_undo_17 : decode cX9_undo 17 = .ok (.aload_n 0, 1) := by decide +kernel
theorem dX9_undo_18 : decode cX9_undo 18 = .ok (.getfield 23, 3) := by decide +kernel
theorem dX9_undo_21 : decode cX9_undo 21 = .ok (.invokevirtual 237, 3) := by decide +kernel
theorem dX9_undo_24 : decode cX9_undo 24 = .ok (.aload_n 0, 1) := by decide +kernel
theorem dX9_undo_25 : decode cX9_undo 25 = .ok (.getfield 37, 3) := by decide +kernel
theorem dX9_undo_28 : decode cX9_undo 28 = .ok (.invokevirtual 236, 3) := by decide +kernel
theorem dX9_undo_31 : decode cX9_undo 31 = .ok (.ireturn, 1) := by decide +kernel
theorem dX9_digest_0 : decode cX9_digest 0 = .ok (.ldc2_w 240, 3) := by decide +kernel
theorem dX9_digest_3 : decode cX9_digest 3 = .ok (.lstore_n 1, 1) := by decide +kernel
theorem dX9_digest_4 : decode cX9_digest 4 = .ok (.iconst 0, 1) := by decide +kernel
theorem dX9_digest_5 : decode cX9_digest 5 = .ok (.istore_n 3, 1) := by decide +kernel
theorem dX9_digest_6 : decode cX9_digest 6 = .ok (.iload_n 3, 1) := by decide +kernel
theorem dX9_digest_7 : decode cX9_digest 7 = .ok (.bipush 11, 2) := by decide +kernel
theorem dX9_digest_9 : decode cX9_digest 9 = .ok (.if_icmp .gt 22, 3) := by decide +kernel
theorem dX9_digest_12 : decode cX9_digest 12 = .ok (.ldc2_w 242, 3) := by decide +kernel
theorem dX9_digest_15 : decode cX9_digest 15 = .ok (.lload_n 1, 1) := by decide +kernel
theorem dX9_digest_16 : decode cX9_digest 16 = .ok (.lmul, 1) := by decide +kernel
theorem dX9_digest_17 : decode cX9_digest 17 = .ok (.aload_n 0, 1) := by decide +kernel
theorem dX9_digest_18 : decode cX9_digest 18 = .ok (.iload_n 3, 1) := by decide +kernel
theorem dX9_digest_19 : decode cX9_digest 19 = .ok (.invokevirtual 244, 3) := by decide +kernel
theorem dX9_digest_22 : decode cX9_digest 22 = .ok (.i2l, 1) := by decide +kernel
theorem dX9_digest_23 : decode cX9_digest 23 = .ok (.ladd, 1) := by decide +kernel
theorem dX9_digest_24 : decode cX9_digest 24 = .ok (.lstore_n 1, 1) := by decide +kernel
theorem dX9_digest_25 : decode cX9_digest 25 = .ok (.iinc 3 1, 3) := by decide +kernel
theorem dX9_digest_28 : decode cX9_digest 28 = .ok (.goto (-22), 3) := by decide +kernel
theorem dX9_digest_31 : decode cX9_digest 31 = .ok (.iconst 0, 1) := by decide +kernel
theorem dX9_digest_32 : decode cX9_digest 32 = .ok (.istore_n 3, 1) := by decide +kernel
theorem dX9_digest_33 : decode cX9_digest 33 = .ok (.iload_n 3, 1) := by decide +kernel
theorem dX9_digest_34 : decode cX9_digest 34 = .ok (.aload_n 0, 1) := by decide +kernel
theorem dX9_digest_35 : decode cX9_digest 35 = .ok (.getfield 23, 3) := by decide +kernel
theorem dX9_digest_38 : decode cX9_digest 38 = .ok (.getfield 45, 3) := by decide +kernel
theorem dX9_digest_41 : decode cX9_digest 41 = .ok (.invokevirtual 49, 3) := by decide +kernel
theorem dX9_digest_44 : decode cX9_digest 44 = .ok (.if_icmp .ge 39, 3) := by decide +kernel
theorem dX9_digest_47 : decode cX9_digest 47 = .ok (.iconst 0, 1) := by decide +kernel
theorem dX9_digest_48 : decode cX9_digest 48 = .ok (.istore 4, 2) := by decide +kernel
theorem dX9_digest_50 : decode cX9_digest 50 = .ok (.iload 4, 2) := by decide +kernel
theorem dX9_digest_52 : decode cX9_digest 52 = .ok (.iconst 2, 1) := by decide +kernel
theorem dX9_digest_53 : decode cX9_digest 53 = .ok (.if_icmp .gt 24, 3) := by decide +kernel
theorem dX9_digest_56 : decode cX9_digest 56 = .ok (.ldc2_w 242, 3) := by decide +kernel
theorem dX9_digest_59 : decode cX9_digest 59 = .ok (.lload_n 1, 1) := by decide +kernel
theorem dX9_digest_60 : decode cX9_digest 60 = .ok (.lmul, 1) := by decide +kernel
theorem dX9_digest_61 : decode cX9_digest 61 = .ok (.aload_n 0, 1) := by decide +kernel
theorem dX9_digest_62 : decode cX9_digest 62 = .ok (.iload_n 3, 1) := by decide +kernel
theorem dX9_digest_63 : decode cX9_digest 63 = .ok (.iload 4, 2) := by decide +kernel
theorem dX9_digest_65 : decode cX9_digest 65 = .ok (.invokevirtual 247, 3) := by decide +kernel
theorem dX9_digest_68 : decode cX9_digest 68 = .ok (.i2l, 1) := by decide +kernel
theorem dX9_digest_69 : decode cX9_digest 69 = .ok (.ladd, 1) := by decide +kernel
theorem dX9_digest_70 : decode cX9_digest 70 = .ok (.lstore_n 1, 1) := by decide +kernel
theorem dX9_digest_71 : decode cX9_digest 71 = .ok (.iinc 4 1, 3) := by decide +kernel
theorem dX9_digest_74 : decode cX9_digest 74 = .ok (.goto (-24), 3) := by decide +kernel
theorem dX9_digest_77 : decode cX9_digest 77 = .ok (.iinc 3 1, 3) := by decide +kernel
theorem dX9_digest_80 : decode cX9_digest 80 = .ok (.goto (-47), 3) := by decide +kernel
theorem dX9_digest_83 : decode cX9_digest 83 = .ok (.iconst 0, 1) := by decide +kernel
theorem dX9_digest_84 : decode cX9_digest 84 = .ok (.istore_n 3, 1) := by decide +kernel
theorem dX9_digest_85 : decode cX9_digest 85 = .ok (.iload_n 3, 1) := by decide +kernel
theorem dX9_digest_86 : decode cX9_digest 86 = .ok (.aload_n 0, 1) := by decide +kernel
theorem dX9_digest_87 : decode cX9_digest 87 = .ok (.getfield 23, 3) := by decide +kernel
theorem dX9_digest_90 : decode cX9_digest 90 = .ok (.getfield 84, 3) := by decide +kernel
theorem dX9_digest_93 : decode cX9_digest 93 = .ok (.invokevirtual 91, 3) := by decide +kernel
theorem dX9_digest_96 : decode cX9_digest 96 = .ok (.if_icmp .ge 22, 3) := by decide +kernel
theorem dX9_digest_99 : decode cX9_digest 99 = .ok (.ldc2_w 242, 3) := by decide +kernel
theorem dX9_digest_102 : decode cX9_digest 102 = .ok (.lload_n 1, 1) := by decide +kernel
theorem dX9_digest_103 : decode cX9_digest 103 = .ok (.lmul, 1) := by decide +kernel
theorem dX9_digest_104 : decode cX9_digest 104 = .ok (.aload_n 0, 1) := by decide +kernel
theorem dX9_digest_105 : decode cX9_digest 105 = .ok (.iload_n 3, 1) := by decide +kernel
theorem dX9_digest_106 : decode cX9_digest 106 = .ok (.invokevirtual 250, 3) := by decide +kernel
theorem dX9_digest_109 : decode cX9_digest 109 = .ok (.i2l, 1) := by decide +kernel
theorem dX9_digest_110 : decode cX9_digest 110 = .ok (.ladd, 1) := by decide +kernel
theorem dX9_digest_111 : decode cX9_digest 111 = .ok (.lstore_n 1, 1) := by decide +kernel
theorem dX9_digest_112 : decode cX9_digest 112 = .ok (.iinc 3 1, 3) := by decide +kernel
theorem dX9_digest_115 : decode cX9_digest 115 = .ok (.goto (-30), 3) := by decide +kernel
theorem dX9_digest_118 : decode cX9_digest 118 = .ok (.iconst 0, 1) := by decide +kernel
theorem dX9_digest_119 : decode cX9_digest 119 = .ok (.istore_n 3, 1) := by decide +kernel
theorem dX9_digest_120 : decode cX9_digest 120 = .ok (.iload_n 3, 1) := by decide +kernel
theorem dX9_digest_121 : decode cX9_digest 121 = .ok (.aload_n 0, 1) := by decide +kernel
theorem dX9_digest_122 : decode cX9_digest 122 = .ok (.getfield 23, 3) := by decide +kernel
theorem dX9_digest_125 : decode cX9_digest 125 = .ok (.getfield 114, 3) := by decide +kernel
theorem dX9_digest_128 : decode cX9_digest 128 = .ok (.invokevirtual 132, 3) := by decide +kernel
theorem dX9_digest_131 : decode cX9_digest 131 = .ok (.if_icmp .ge 16, 3) := by decide +kernel
theorem dX9_digest_134 : decode cX9_digest 134 = .ok (.aload_n 0, 1) := by decide +kernel
theorem dX9_digest_135 : decode cX9_digest 135 = .ok (.lload_n 1, 1) := by decide +kernel
theorem dX9_digest_136 : decode cX9_digest 136 = .ok (.iload_n 3, 1) := by decide +kernel
theorem dX9_digest_137 : decode cX9_digest 137 = .ok (.invokevirtual 253, 3) := by decide +kernel
theorem dX9_digest_140 : decode cX9_digest 140 = .ok (.lstore_n 1, 1) := by decide +kernel
theorem dX9_digest_141 : decode cX9_digest 141 = .ok (.iinc 3 1, 3) := by decide +kernel
theorem dX9_digest_144 : decode cX9_digest 144 = .ok (.goto (-24), 3) := by decide +kernel
theorem dX9_digest_147 : decode cX9_digest 147 = .ok (.ldc2_w 242, 3) := by decide +kernel
theorem dX9_digest_150 : decode cX9_digest 150 = .ok (.lload_n 1, 1) := by decide +kernel
theorem dX9_digest_151 : decode cX9_digest 151 = .ok (.lmul, 1) := by decide +kernel
theorem dX9_digest_152 : decode cX9_digest 152 = .ok (.aload_n 0, 1) := by decide +kernel
theorem dX9_digest_153 : decode cX9_digest 153 = .ok (.iconst 0, 1) := by decide +kernel
theorem dX9_digest_154 : decode cX9_digest 154 = .ok (.invokevirtual 257, 3) := by decide +kernel
theorem dX9_digest_157 : decode cX9_digest 157 = .ok (.i2l, 1) := by decide +kernel
theorem dX9_digest_158 : decode cX9_digest 158 = .ok (.ladd, 1) := by decide +kernel
theorem dX9_digest_159 : decode cX9_digest 159 = .ok (.lstore_n 1, 1) := by decide +kernel
theorem dX9_digest_160 : decode cX9_digest 160 = .ok (.iconst 1, 1) := by decide +kernel
theorem dX9_digest_161 : decode cX9_digest 161 = .ok (.istore_n 3, 1) := by decide +kernel
theorem dX9_digest_162 : decode cX9_digest 162 = .ok (.iload_n 3, 1) := by decide +kernel
theorem dX9_digest_163 : decode cX9_digest 163 = .ok (.bipush 32, 2) := by decide +kernel
theorem dX9_digest_165 : decode cX9_digest 165 = .ok (.if_icmp .gt 23, 3) := by decide +kernel
theorem dX9_digest_168 : decode cX9_digest 168 = .ok (.ldc2_w 242, 3) := by decide +kernel
theorem dX9_digest_171 : decode cX9_digest 171 = .ok (.lload_n 1, 1) := by decide +kernel
theorem dX9_digest_172 : decode cX9_digest 172 = .ok (.lmul, 1) := by decide +kernel
theorem dX9_digest_173 : decode cX9_digest 173 = .ok (.aload_n 0, 1) := by decide +kernel
theorem dX9_digest_174 : decode cX9_digest 174 = .ok (.iload_n 3, 1) := by decide +kernel
theorem dX9_digest_175 : decode cX9_digest 175 = .ok (.invokevirtual 257, 3) := by decide +kernel
theorem dX9_digest_178 : decode cX9_digest 178 = .ok (.i2l, 1) := by decide +kernel
theorem dX9_digest_179 : decode cX9_digest 179 = .ok (.ladd, 1) := by decide +kernel
theorem dX9_digest_180 : decode cX9_digest 180 = .ok (.lstore_n 1, 1) := by decide +kernel
theorem dX9_digest_181 : decode cX9_digest 181 = .ok (.iload_n 3, 1) := by decide +kernel
theorem dX9_digest_182 : decode cX9_digest 182 = .ok (.iconst 2, 1) := by decide +kernel
theorem dX9_digest_183 : decode cX9_digest 183 = .ok (.imul, 1) := by decide +kernel
theorem dX9_digest_184 : decode cX9_digest 184 = .ok (.istore_n 3, 1) := by decide +kernel
theorem dX9_digest_185 : decode cX9_digest 185 = .ok (.goto (-23), 3) := by decide +kernel
theorem dX9_digest_188 : decode cX9_digest 188 = .ok (.iconst 0, 1) := by decide +kernel
theorem dX9_digest_189 : decode cX9_digest 189 = .ok (.istore_n 3, 1) := by decide +kernel
theorem dX9_digest_190 : decode cX9_digest 190 = .ok (.iload_n 3, 1) := by decide +kernel
theorem dX9_digest_191 : decode cX9_digest 191 = .ok (.iconst 4, 1) := by decide +kernel
theorem dX9_digest_192 : decode cX9_digest 192 = .ok (.if_icmp .gt 24, 3) := by decide +kernel
theorem dX9_digest_195 : decode cX9_digest 195 = .ok (.ldc2_w 242, 3) := by decide +kernel
theorem dX9_digest_198 : decode cX9_digest 198 = .ok (.lload_n 1, 1) := by decide +kernel
theorem dX9_digest_199 : decode cX9_digest 199 = .ok (.lmul, 1) := by decide +kernel
theorem dX9_digest_200 : decode cX9_digest 200 = .ok (.aload_n 0, 1) := by decide +kernel
theorem dX9_digest_201 : decode cX9_digest 201 = .ok (.bipush 31, 2) := by decide +kernel
theorem dX9_digest_203 : decode cX9_digest 203 = .ok (.iload_n 3, 1) := by decide +kernel
theorem dX9_digest_204 : decode cX9_digest 204 = .ok (.invokevirtual 260, 3) := by decide +kernel
theorem dX9_digest_207 : decode cX9_digest 207 = .ok (.i2l, 1) := by decide +kernel
theorem dX9_digest_208 : decode cX9_digest 208 = .ok (.ladd, 1) := by decide +kernel
theorem dX9_digest_209 : decode cX9_digest 209 = .ok (.lstore_n 1, 1) := by decide +kernel
theorem dX9_digest_210 : decode cX9_digest 210 = .ok (.iinc 3 1, 3) := by decide +kernel
theorem dX9_digest_213 : decode cX9_digest 213 = .ok (.goto (-23), 3) := by decide +kernel
theorem dX9_digest_216 : decode cX9_digest 216 = .ok (.lload_n 1, 1) := by decide +kernel
theorem dX9_digest_217 : decode cX9_digest 217 = .ok (.lreturn, 1) := by decide +kernel
theorem dX9_hashSubtitle_0 : decode cX9_hashSubtitle 0 = .ok (.lload_n 1, 1) := by decide +kernel
theorem dX9_hashSubtitle_1 : decode cX9_hashSubtitle 1 = .ok (.lstore 4, 2) := by decide +kernel
theorem dX9_hashSubtitle_3 : decode cX9_hashSubtitle 3 = .ok (.iconst 0, 1) := by decide +kernel
theorem dX9_hashSubtitle_4 : decode cX9_hashSubtitle 4 = .ok (.istore 6, 2) := by decide +kernel
theorem dX9_hashSubtitle_6 : decode cX9_hashSubtitle 6 = .ok (.iload 6, 2) := by decide +kernel
theorem dX9_hashSubtitle_8 : decode cX9_hashSubtitle 8 = .ok (.bipush 6, 2) := by decide +kernel
theorem dX9_hashSubtitle_10 : decode cX9_hashSubtitle 10 = .ok (.if_icmp .gt 26, 3) := by decide +kernel
theorem dX9_hashSubtitle_13 : decode cX9_hashSubtitle 13 = .ok (.ldc2_w 242, 3) := by decide +kernel
theorem dX9_hashSubtitle_16 : decode cX9_hashSubtitle 16 = .ok (.lload 4, 2) := by decide +kernel
theorem dX9_hashSubtitle_18 : decode cX9_hashSubtitle 18 = .ok (.lmul, 1) := by decide +kernel
theorem dX9_hashSubtitle_19 : decode cX9_hashSubtitle 19 = .ok (.aload_n 0, 1) := by decide +kernel
theorem dX9_hashSubtitle_20 : decode cX9_hashSubtitle 20 = .ok (.iload_n 3, 1) := by decide +kernel
theorem dX9_hashSubtitle_21 : decode cX9_hashSubtitle 21 = .ok (.iload 6, 2) := by decide +kernel
theorem dX9_hashSubtitle_23 : decode cX9_hashSubtitle 23 = .ok (.invokevirtual 263, 3) := by decide +kernel
theorem dX9_hashSubtitle_26 : decode cX9_hashSubtitle 26 = .ok (.i2l, 1) := by decide +kernel
theorem dX9_hashSubtitle_27 : decode cX9_hashSubtitle 27 = .ok (.ladd, 1) := by decide +kernel
theorem dX9_hashSubtitle_28 : decode cX9_hashSubtitle 28 = .ok (.lstore 4, 2) := by decide +kernel
theorem dX9_hashSubtitle_30 : decode cX9_hashSubtitle 30 = .ok (.iinc 6 1, 3) := by decide +kernel
theorem dX9_hashSubtitle_33 : decode cX9_hashSubtitle 33 = .ok (.goto (-27), 3) := by decide +kernel
theorem dX9_hashSubtitle_36 : decode cX9_hashSubtitle 36 = .ok (.ldc2_w 242, 3) := by decide +kernel
theorem dX9_hashSubtitle_39 : decode cX9_hashSubtitle 39 = .ok (.lload 4, 2) := by decide +kernel
theorem dX9_hashSubtitle_41 : decode cX9_hashSubtitle 41 = .ok (.lmul, 1) := by decide +kernel
theorem dX9_hashSubtitle_42 : decode cX9_hashSubtitle 42 = .ok (.aload_n 0, 1) := by decide +kernel
theorem dX9_hashSubtitle_43 : decode cX9_hashSubtitle 43 = .ok (.iload_n 3, 1) := by decide +kernel
theorem dX9_hashSubtitle_44 : decode cX9_hashSubtitle 44 = .ok (.invokevirtual 266, 3) := by decide +kernel
theorem dX9_hashSubtitle_47 : decode cX9_hashSubtitle 47 = .ok (.i2l, 1) := by decide +kernel
theorem dX9_hashSubtitle_48 : decode cX9_hashSubtitle 48 = .ok (.ladd, 1) := by decide +kernel
theorem dX9_hashSubtitle_49 : decode cX9_hashSubtitle 49 = .ok (.lstore 4, 2) := by decide +kernel
theorem dX9_hashSubtitle_51 : decode cX9_hashSubtitle 51 = .ok (.aload_n 0, 1) := by decide +kernel
theorem dX9_hashSubtitle_52 : decode cX9_hashSubtitle 52 = .ok (.iload_n 3, 1) := by decide +kernel
theorem dX9_hashSubtitle_53 : decode cX9_hashSubtitle 53 = .ok (.iconst 2, 1) := by decide +kernel
theorem dX9_hashSubtitle_54 : decode cX9_hashSubtitle 54 = .ok (.invokevirtual 263, 3) := by decide +kernel
theorem dX9_hashSubtitle_57 : decode cX9_hashSubtitle 57 = .ok (.istore 6, 2) := by decide +kernel
theorem dX9_hashSubtitle_59 : decode cX9_hashSubtitle 59 = .ok (.iconst 0, 1) := by decide +kernel
theorem dX9_hashSubtitle_60 : decode cX9_hashSubtitle 60 = .ok (.istore 7, 2) := by decide +kernel
theorem dX9_hashSubtitle_62 : decode cX9_hashSubtitle 62 = .ok (.iload 7, 2) := by decide +kernel
theorem dX9_hashSubtitle_64 : decode cX9_hashSubtitle 64 = .ok (.iload 6, 2) := by decide +kernel
theorem dX9_hashSubtitle_66 : decode cX9_hashSubtitle 66 = .ok (.if_icmp .ge 91, 3) := by decide +kernel
theorem dX9_hashSubtitle_69 : decode cX9_hashSubtitle 69 = .ok (.iconst 0, 1) := by decide +kernel
theorem dX9_hashSubtitle_70 : decode cX9_hashSubtitle 70 = .ok (.istore 8, 2) := by decide +kernel
theorem dX9_hashSubtitle_72 : decode cX9_hashSubtitle 72 = .ok (.iload 8, 2) := by decide +kernel
theorem dX9_hashSubtitle_74 : decode cX9_hashSubtitle 74 = .ok (.iconst 3, 1) := by decide +kernel
theorem dX9_hashSubtitle_75 : decode cX9_hashSubtitle 75 = .ok (.if_icmp .gt 28, 3) := by decide +kernel
theorem dX9_hashSubtitle_78 : decode cX9_hashSubtitle 78 = .ok (.ldc2_w 242, 3) := by decide +kernel
theorem dX9_hashSubtitle_81 : decode cX9_hashSubtitle 81 = .ok (.lload 4, 2) := by decide +kernel
theorem dX9_hashSubtitle_83 : decode cX9_hashSubtitle 83 = .ok (.lmul, 1) := by decide +kernel
theorem dX9_hashSubtitle_84 : decode cX9_hashSubtitle 84 = .ok (.aload_n 0, 1) := by decide +kernel
theorem dX9_hashSubtitle_85 : decode cX9_hashSubtitle 85 = .ok (.iload_n 3, 1) := by decide +kernel
theorem dX9_hashSubtitle_86 : decode cX9_hashSubtitle 86 = .ok (.iload 7, 2) := by decide +kernel
theorem dX9_hashSubtitle_88 : decode cX9_hashSubtitle 88 = .ok (.iload 8, 2) := by decide +kernel
theorem dX9_hashSubtitle_90 : decode cX9_hashSubtitle 90 = .ok (.invokevirtual 269, 3) := by decide +kernel
theorem dX9_hashSubtitle_93 : decode cX9_hashSubtitle 93 = .ok (.i2l, 1) := by decide +kernel
theorem dX9_hashSubtitle_94 : decode cX9_hashSubtitle 94 = .ok (.ladd, 1) := by decide +kernel
theorem dX9_hashSubtitle_95 : decode cX9_hashSubtitle 95 = .ok (.lstore 4, 2) := by decide +kernel
theorem dX9_hashSubtitle_97 : decode cX9_hashSubtitle 97 = .ok (.iinc 8 1, 3) := by decide +kernel
theorem dX9_hashSubtitle_100 : decode cX9_hashSubtitle 100 = .ok (.goto (-28), 3) := by decide +kernel
theorem dX9_hashSubtitle_103 : decode cX9_hashSubtitle 103 = .ok (.aload_n 0, 1) := by decide +kernel
theorem dX9_hashSubtitle_104 : decode cX9_hashSubtitle 104 = .ok (.iload_n 3, 1) := by decide +kernel
theorem dX9_hashSubtitle_105 : decode cX9_hashSubtitle 105 = .ok (.iload 7, 2) := by decide +kernel
theorem dX9_hashSubtitle_107 : decode cX9_hashSubtitle 107 = .ok (.iconst 1, 1) := by decide +kernel
theorem dX9_hashSubtitle_108 : decode cX9_hashSubtitle 108 = .ok (.invokevirtual 269, 3) := by decide +kernel
theorem dX9_hashSubtitle_111 : decode cX9_hashSubtitle 111 = .ok (.istore 8, 2) := by decide +kernel
theorem dX9_hashSubtitle_113 : decode cX9_hashSubtitle 113 = .ok (.iconst 0, 1) := by decide +kernel
theorem dX9_hashSubtitle_114 : decode cX9_hashSubtitle 114 = .ok (.istore 9, 2) := by decide +kernel
theorem dX9_hashSubtitle_116 : decode cX9_hashSubtitle 116 = .ok (.iload 9, 2) := by decide +kernel
theorem dX9_hashSubtitle_118 : decode cX9_hashSubtitle 118 = .ok (.iload 8, 2) := by decide +kernel
theorem dX9_hashSubtitle_120 : decode cX9_hashSubtitle 120 = .ok (.if_icmp .ge 31, 3) := by decide +kernel
theorem dX9_hashSubtitle_123 : decode cX9_hashSubtitle 123 = .ok (.ldc2_w 242, 3) := by decide +kernel
theorem dX9_hashSubtitle_126 : decode cX9_hashSubtitle 126 = .ok (.lload 4, 2) := by decide +kernel
theorem dX9_hashSubtitle_128 : decode cX9_hashSubtitle 128 = .ok (.lmul, 1) := by decide +kernel
theorem dX9_hashSubtitle_129 : decode cX9_hashSubtitle 129 = .ok (.aload_n 0, 1) := by decide +kernel
theorem dX9_hashSubtitle_130 : decode cX9_hashSubtitle 130 = .ok (.iload_n 3, 1) := by decide +kernel
theorem dX9_hashSubtitle_131 : decode cX9_hashSubtitle 131 = .ok (.iload 7, 2) := by decide +kernel
theorem dX9_hashSubtitle_133 : decode cX9_hashSubtitle 133 = .ok (.bipush 10, 2) := by decide +kernel
theorem dX9_hashSubtitle_135 : decode cX9_hashSubtitle 135 = .ok (.iload 9, 2) := by decide +kernel
theorem dX9_hashSubtitle_137 : decode cX9_hashSubtitle 137 = .ok (.iadd, 1) := by decide +kernel
theorem dX9_hashSubtitle_138 : decode cX9_hashSubtitle 138 = .ok (.invokevirtual 269, 3) := by decide +kernel
theorem dX9_hashSubtitle_141 : decode cX9_hashSubtitle 141 = .ok (.i2l, 1) := by decide +kernel
theorem dX9_hashSubtitle_142 : decode cX9_hashSubtitle 142 = .ok (.ladd, 1) := by decide +kernel
theorem dX9_hashSubtitle_143 : decode cX9_hashSubtitle 143 = .ok (.lstore 4, 2) := by decide +kernel
theorem dX9_hashSubtitle_145 : decode cX9_hashSubtitle 145 = .ok (.iinc 9 1, 3) := by decide +kernel
theorem dX9_hashSubtitle_148 : decode cX9_hashSubtitle 148 = .ok (.goto (-32), 3) := by decide +kernel
theorem dX9_hashSubtitle_151 : decode cX9_hashSubtitle 151 = .ok (.iinc 7 1, 3) := by decide +kernel
theorem dX9_hashSubtitle_154 : decode cX9_hashSubtitle 154 = .ok (.goto (-92), 3) := by decide +kernel
theorem dX9_hashSubtitle_157 : decode cX9_hashSubtitle 157 = .ok (.lload 4, 2) := by decide +kernel
theorem dX9_hashSubtitle_159 : decode cX9_hashSubtitle 159 = .ok (.lreturn, 1) := by decide +kernel
theorem dX9_firstWrongBlank_0 : decode cX9_firstWrongBlank 0 = .ok (.iconst 0, 1) := by decide +kernel
theorem dX9_firstWrongBlank_1 : decode cX9_firstWrongBlank 1 = .ok (.istore_n 1, 1) := by decide +kernel
theorem dX9_firstWrongBlank_2 : decode cX9_firstWrongBlank 2 = .ok (.iconst 0, 1) := by decide +kernel
theorem dX9_firstWrongBlank_3 : decode cX9_firstWrongBlank 3 = .ok (.istore_n 2, 1) := by decide +kernel
theorem dX9_firstWrongBlank_4 : decode cX9_firstWrongBlank 4 = .ok (.iload_n 2, 1) := by decide +kernel
theorem dX9_firstWrongBlank_5 : decode cX9_firstWrongBlank 5 = .ok (.aload_n 0, 1) := by decide +kernel
theorem dX9_firstWrongBlank_6 : decode cX9_firstWrongBlank 6 = .ok (.getfield 106, 3) := by decide +kernel
theorem dX9_firstWrongBlank_9 : decode cX9_firstWrongBlank 9 = .ok (.if_icmp .ge 65, 3) := by decide +kernel
theorem dX9_firstWrongBlank_12 : decode cX9_firstWrongBlank 12 = .ok (.iload_n 2, 1) := by decide +kernel
theorem dX9_firstWrongBlank_13 : decode cX9_firstWrongBlank 13 = .ok (.aload_n 0, 1) := by decide +kernel
theorem dX9_firstWrongBlank_14 : decode cX9_firstWrongBlank 14 = .ok (.getfield 9, 3) := by decide +kernel
theorem dX9_firstWrongBlank_17 : decode cX9_firstWrongBlank 17 = .ok (.arraylength, 1) := by decide +kernel
theorem dX9_firstWrongBlank_18 : decode cX9_firstWrongBlank 18 = .ok (.if_icmp .ge 56, 3) := by decide +kernel
theorem dX9_firstWrongBlank_21 : decode cX9_firstWrongBlank 21 = .ok (.aload_n 0, 1) := by decide +kernel
theorem dX9_firstWrongBlank_22 : decode cX9_firstWrongBlank 22 = .ok (.getfield 9, 3) := by decide +kernel
theorem dX9_firstWrongBlank_25 : decode cX9_firstWrongBlank 25 = .ok (.iload_n 2, 1) := by decide +kernel
theorem dX9_firstWrongBlank_26 : decode cX9_firstWrongBlank 26 = .ok (.baload, 1) := by decide +kernel
theorem dX9_firstWrongBlank_27 : decode cX9_firstWrongBlank 27 = .ok (.bipush 32, 2) := by decide +kernel
theorem dX9_firstWrongBlank_29 : decode cX9_firstWrongBlank 29 = .ok (.if_icmp .ne 7, 3) := by decide +kernel
theorem dX9_firstWrongBlank_32 : decode cX9_firstWrongBlank 32 = .ok (.iconst 1, 1) := by decide +kernel
theorem dX9_firstWrongBlank_33 : decode cX9_firstWrongBlank 33 = .ok (.goto 4, 3) := by decide +kernel
theorem dX9_firstWrongBlank_36 : decode cX9_firstWrongBlank 36 = .ok (.iconst 0, 1) := by decide +kernel
theorem dX9_firstWrongBlank_37 : decode cX9_firstWrongBlank 37 = .ok (.istore_n 3, 1) := by decide +kernel
theorem dX9_firstWrongBlank_38 : decode cX9_firstWrongBlank 38 = .ok (.iload_n 3, 1) := by decide +kernel
theorem dX9_firstWrongBlank_39 : decode cX9_firstWrongBlank 39 = .ok (.ifCond .eq 19, 3) := by decide +kernel
theorem dX9_firstWrongBlank_42 : decode cX9_firstWrongBlank 42 = .ok (.iload_n 1, 1) := by decide +kernel
theorem dX9_firstWrongBlank_43 : decode cX9_firstWrongBlank 43 = .ok (.ifCond .eq 13, 3) := by decide +kernel
theorem dX9_firstWrongBlank_46 : decode cX9_firstWrongBlank 46 = .ok (.iload_n 2, 1) := by decide +kernel
theorem dX9_firstWrongBlank_47 : decode cX9_firstWrongBlank 47 = .ok (.aload_n 0, 1) := by decide +kernel
theorem dX9_firstWrongBlank_48 : decode cX9_firstWrongBlank 48 = .ok (.getfield 106, 3) := by decide +kernel
theorem dX9_firstWrongBlank_51 : decode cX9_firstWrongBlank 51 = .ok (.iconst 1, 1) := by decide +kernel
theorem dX9_firstWrongBlank_52 : decode cX9_firstWrongBlank 52 = .ok (.isub, 1) := by decide +kernel
theorem dX9_firstWrongBlank_53 : decode cX9_firstWrongBlank 53 = .ok (.if_icmp .ne 5, 3) := by decide +kernel
theorem dX9_firstWrongBlank_56 : decode cX9_firstWrongBlank 56 = .ok (.iload_n 2, 1) := by decide +kernel
theorem dX9_firstWrongBlank_57 : decode cX9_firstWrongBlank 57 = .ok (.ireturn, 1) := by decide +kernel
theorem dX9_firstWrongBlank_58 : decode cX9_firstWrongBlank 58 = .ok (.iload_n 3, 1) := by decide +kernel
theorem dX9_firstWrongBlank_59 : decode cX9_firstWrongBlank 59 = .ok (.ifCond .ne 7, 3) := by decide +kernel
theorem dX9_firstWrongBlank_62 : decode cX9_firstWrongBlank 62 = .ok (.iconst 1, 1) := by decide +kernel
theorem dX9_firstWrongBlank_63 : decode cX9_firstWrongBlank 63 = .ok (.goto 4, 3) := by decide +kernel
theorem dX9_firstWrongBlank_66 : decode cX9_firstWrongBlank 66 = .ok (.iconst 0, 1) := by decide +kernel
theorem dX9_firstWrongBlank_67 : decode cX9_firstWrongBlank 67 = .ok (.istore_n 1, 1) := by decide +kernel
theorem dX9_firstWrongBlank_68 : decode cX9_firstWrongBlank 68 = .ok (.iinc 2 1, 3) := by decide +kernel
theorem dX9_firstWrongBlank_71 : decode cX9_firstWrongBlank 71 = .ok (.goto (-67), 3) := by decide +kernel
theorem dX9_firstWrongBlank_74 : decode cX9_firstWrongBlank 74 = .ok (.bipush (-9), 2) := by decide +kernel
theorem dX9_firstWrongBlank_76 : decode cX9_firstWrongBlank 76 = .ok (.ireturn, 1) := by decide +kernel
theorem dX9_isWithin_0 : decode cX9_isWithin 0 = .ok (.iload_n 0, 1) := by decide +kernel
theorem dX9_isWithin_1 : decode cX9_isWithin 1 = .ok (.iload_n 1, 1) := by decide +kernel
theorem dX9_isWithin_2 : decode cX9_isWithin 2 = .ok (.if_icmp .lt 12, 3) := by decide +kernel
theorem dX9_isWithin_5 : decode cX9_isWithin 5 = .ok (.iload_n 0, 1) := by decide +kernel
theorem dX9_isWithin_6 : decode cX9_isWithin 6 = .ok (.iload_n 2, 1) := by decide +kernel
theorem dX9_isWithin_7 : decode cX9_isWithin 7 = .ok (.if_icmp .gt 7, 3) := by decide +kernel
theorem dX9_isWithin_10 : decode cX9_isWithin 10 = .ok (.iconst 1, 1) := by decide +kernel
theorem dX9_isWithin_11 : decode cX9_isWithin 11 = .ok (.goto 4, 3) := by decide +kernel
theorem dX9_isWithin_14 : decode cX9_isWithin 14 = .ok (.iconst 0, 1) := by decide +kernel
theorem dX9_isWithin_15 : decode cX9_isWithin 15 = .ok (.ireturn, 1) := by decide +kernel
theorem dX9_isTime_0 : decode cX9_isTime 0 = .ok (.iload_n 0, 1) := by decide +kernel
theorem dX9_isTime_1 : decode cX9_isTime 1 = .ok (.ifCond .lt 19, 3) := by decide +kernel
theorem dX9_isTime_4 : decode cX9_isTime 4 = .ok (.iload_n 0, 1) := by decide +kernel
theorem dX9_isTime_5 : decode cX9_isTime 5 = .ok (.iload_n 1, 1) := by decide +kernel
theorem dX9_isTime_6 : decode cX9_isTime 6 = .ok (.if_icmp .ge 14, 3) := by decide +kernel
theorem dX9_isTime_9 : decode cX9_isTime 9 = .ok (.iload_n 1, 1) := by decide +kernel
theorem dX9_isTime_10 : decode cX9_isTime 10 = .ok (.sipush 9999, 3) := by decide +kernel
theorem dX9_isTime_13 : decode cX9_isTime 13 = .ok (.if_icmp .gt 7, 3) := by decide +kernel
theorem dX9_isTime_16 : decode cX9_isTime 16 = .ok (.iconst 1, 1) := by decide +kernel
theorem dX9_isTime_17 : decode cX9_isTime 17 = .ok (.goto 4, 3) := by decide +kernel
theorem dX9_isTime_20 : decode cX9_isTime 20 = .ok (.iconst 0, 1) := by decide +kernel
theorem dX9_isTime_21 : decode cX9_isTime 21 = .ok (.ireturn, 1) := by decide +kernel
theorem dJ6_bitCount_0f7a4_0 : decode cJ6_bitCount_0f7a4 0 = .ok (.iload_n 0, 1) := by decide +kernel
theorem dJ6_bitCount_0f7a4_1 : decode cJ6_bitCount_0f7a4 1 = .ok (.iload_n 0, 1) := by decide +kernel
theorem dJ6_bitCount_0f7a4_2 : decode cJ6_bitCount_0f7a4 2 = .ok (.iconst 1, 1) := by decide +kernel
theorem dJ6_bitCount_0f7a4_3 : decode cJ6_bitCount_0f7a4 3 = .ok (.iushr, 1) := by decide +kernel
theorem dJ6_bitCount_0f7a4_4 : decode cJ6_bitCount_0f7a4 4 = .ok (.ldc_w 265, 3) := by decide +kernel
theorem dJ6_bitCount_0f7a4_7 : decode cJ6_bitCount_0f7a4 7 = .ok (.iand, 1) := by decide +kernel
theorem dJ6_bitCount_0f7a4_8 : decode cJ6_bitCount_0f7a4 8 = .ok (.isub, 1) := by decide +kernel
theorem dJ6_bitCount_0f7a4_9 : decode cJ6_bitCount_0f7a4 9 = .ok (.istore_n 0, 1) := by decide +kernel
theorem dJ6_bitCount_0f7a4_10 : decode cJ6_bitCount_0f7a4 10 = .ok (.iload_n 0, 1) := by decide +kernel
theorem dJ6_bitCount_0f7a4_11 : decode cJ6_bitCount_0f7a4 11 = .ok (.ldc_w 266, 3) := by decide +kernel
theorem dJ6_bitCount_0f7a4_14 : decode cJ6_bitCount_0f7a4 14 = .ok (.iand, 1) := by decide +kernel
theorem dJ6_bitCount_0f7a4_15 : decode cJ6_bitCount_0f7a4 15 = .ok (.iload_n 0, 1) := by decide +kernel
theorem dJ6_bitCount_0f7a4_16 : decode cJ6_bitCount_0f7a4 16 = .ok (.iconst 2, 1) := by decide +kernel
theorem dJ6_bitCount_0f7a4_17 : decode cJ6_bitCount_0f7a4 17 = .ok (.iushr, 1) := by decide +kernel
theorem dJ6_bitCount_0f7a4_18 : decode cJ6_bitCount_0f7a4 18 = .ok (.ldc_w 266, 3) := by decide +kernel
theorem dJ6_bitCount_0f7a4_21 : decode cJ6_bitCount_0f7a4 21 = .ok (.iand, 1) := by decide +kernel
theorem dJ6_bitCount_0f7a4_22 : decode cJ6_bitCount_0f7a4 22 = .ok (.iadd, 1) := by decide +kernel
theorem dJ6_bitCount_0f7a4_23 : decode cJ6_bitCount_0f7a4 23 = .ok (.istore_n 0, 1) := by decide +kernel
theorem dJ6_bitCount_0f7a4_24 : decode cJ6_bitCount_0f7a4 24 = .ok (.iload_n 0, 1) := by decide +kernel
theorem dJ6_bitCount_0f7a4_25 : decode cJ6_bitCount_0f7a4 25 = .ok (.iload_n 0, 1) := by decide +kernel
theorem dJ6_bitCount_0f7a4_26 : decode cJ6_bitCount_0f7a4 26 = .ok (.iconst 4, 1) := by decide +kernel
theorem dJ6_bitCount_0f7a4_27 : decode cJ6_bitCount_0f7a4 27 = .ok (.iushr, 1) := by decide +kernel
theorem dJ6_bitCount_0f7a4_28 : decode cJ6_bitCount_0f7a4 28 = .ok (.iadd, 1) := by decide +kernel
theorem dJ6_bitCount_0f7a4_29 : decode cJ6_bitCount_0f7a4 29 = .ok (.ldc_w 267, 3) := by decide +kernel
theorem dJ6_bitCount_0f7a4_32 : decode cJ6_bitCount_0f7a4 32 = .ok (.iand, 1) := by decide +kernel
theorem dJ6_bitCount_0f7a4_33 : decode cJ6_bitCount_0f7a4 33 = .ok (.istore_n 0, 1) := by decide +kernel
theorem dJ6_bitCount_0f7a4_34 : decode cJ6_bitCount_0f7a4 34 = .ok (.iload_n 0, 1) := by decide +kernel
theorem dJ6_bitCount_0f7a4_35 : decode cJ6_bitCount_0f7a4 35 = .ok (.iload_n 0, 1) := by decide +kernel
theorem dJ6_bitCount_0f7a4_36 : decode cJ6_bitCount_0f7a4 36 = .ok (.bipush 8, 2) := by decide +kernel
theorem dJ6_bitCount_0f7a4_38 : decode cJ6_bitCount_0f7a4 38 = .ok (.iushr, 1) := by decide +kernel
theorem dJ6_bitCount_0f7a4_39 : decode cJ6_bitCount_0f7a4 39 = .ok (.iadd, 1) := by decide +kernel
theorem dJ6_bitCount_0f7a4_40 : decode cJ6_bitCount_0f7a4 40 = .ok (.istore_n 0, 1) := by decide +kernel
theorem dJ6_bitCount_0f7a4_41 : decode cJ6_bitCount_0f7a4 41 = .ok (.iload_n 0, 1) := by decide +kernel
theorem dJ6_bitCount_0f7a4_42 : decode cJ6_bitCount_0f7a4 42 = .ok (.iload_n 0, 1) := by decide +kernel
theorem dJ6_bitCount_0f7a4_43 : decode cJ6_bitCount_0f7a4 43 = .ok (.bipush 16, 2) := by decide +kernel
theorem dJ6_bitCount_0f7a4_45 : decode cJ6_bitCount_0f7a4 45 = .ok (.iushr, 1) := by decide +kernel
theorem dJ6_bitCount_0f7a4_46 : decode cJ6_bitCount_0f7a4 46 = .ok (.iadd, 1) := by decide +kernel
theorem dJ6_bitCount_0f7a4_47 : decode cJ6_bitCount_0f7a4 47 = .ok (.istore_n 0, 1) := by decide +kernel
theorem dJ6_bitCount_0f7a4_48 : decode cJ6_bitCount_0f7a4 48 = .ok (.iload_n 0, 1) := by decide +kernel
theorem dJ6_bitCount_0f7a4_49 : decode cJ6_bitCount_0f7a4 49 = .ok (.bipush 63, 2) := by decide +kernel
theorem dJ6_bitCount_0f7a4_51 : decode cJ6_bitCount_0f7a4 51 = .ok (.iand, 1) := by decide +kernel
theorem dJ6_bitCount_0f7a4_52 : decode cJ6_bitCount_0f7a4 52 = .ok (.ireturn, 1) := by decide +kernel
theorem dJ9_abs_0f7a4_0 : decode cJ9_abs_0f7a4 0 = .ok (.iload_n 0, 1) := by decide +kernel
theorem dJ9_abs_0f7a4_1 : decode cJ9_abs_0f7a4 1 = .ok (.ifCond .ge 8, 3) := by decide +kernel
theorem dJ9_abs_0f7a4_4 : decode cJ9_abs_0f7a4 4 = .ok (.iload_n 0, 1) := by decide +kernel
theorem dJ9_abs_0f7a4_5 : decode cJ9_abs_0f7a4 5 = .ok (.ineg, 1) := by decide +kernel
theorem dJ9_abs_0f7a4_6 : decode cJ9_abs_0f7a4 6 = .ok (.goto 4, 3) := by decide +kernel
theorem dJ9_abs_0f7a4_9 : decode cJ9_abs_0f7a4 9 = .ok (.iload_n 0, 1) := by decide +kernel
theorem dJ9_abs_0f7a4_10 : decode cJ9_abs_0f7a4 10 = .ok (.ireturn, 1) := by decide +kernel
theorem dJ9_max_7cf53_0 : decode cJ9_max_7cf53 0 = .ok (.iload_n 0, 1) := by decide +kernel
theorem dJ9_max_7cf53_1 : decode cJ9_max_7cf53 1 = .ok (.iload_n 1, 1) := by decide +kernel
theorem dJ9_max_7cf53_2 : decode cJ9_max_7cf53 2 = .ok (.if_icmp .lt 7, 3) := by decide +kernel
theorem dJ9_max_7cf53_5 : decode cJ9_max_7cf53 5 = .ok (.iload_n 0, 1) := by decide +kernel
theorem dJ9_max_7cf53_6 : decode cJ9_max_7cf53 6 = .ok (.goto 4, 3) := by decide +kernel
theorem dJ9_max_7cf53_9 : decode cJ9_max_7cf53 9 = .ok (.iload_n 1, 1) := by decide +kernel
theorem dJ9_max_7cf53_10 : decode cJ9_max_7cf53 10 = .ok (.ireturn, 1) := by decide +kernel
theorem dJ9_min_7cf53_0 : decode cJ9_min_7cf53 0 = .ok (.iload_n 0, 1) := by decide +kernel
theorem dJ9_min_7cf53_1 : decode cJ9_min_7cf53 1 = .ok (.iload_n 1, 1) := by decide +kernel
theorem dJ9_min_7cf53_2 : decode cJ9_min_7cf53 2 = .ok (.if_icmp .gt 7, 3) := by decide +kernel
theorem dJ9_min_7cf53_5 : decode cJ9_min_7cf53 5 = .ok (.iload_n 0, 1) := by decide +kernel
theorem dJ9_min_7cf53_6 : decode cJ9_min_7cf53 6 = .ok (.goto 4, 3) := by decide +kernel
theorem dJ9_min_7cf53_9 : decode cJ9_min_7cf53 9 = .ok (.iload_n 1, 1) := by decide +kernel
theorem dJ9_min_7cf53_10 : decode cJ9_min_7cf53 10 = .ok (.ireturn, 1) := by decide +kernel
theorem dJ0_length_8abf5_0 : decode cJ0_length_8abf5 0 = .ok (.aload_n 0, 1) := by decide +kernel
theorem dJ0_length_8abf5_1 : decode cJ0_length_8abf5 1 = .ok (.getfield 9, 3) := by decide +kernel
theorem dJ0_length_8abf5_4 : decode cJ0_length_8abf5 4 = .ok (.arraylength, 1) := by decide +kernel
theorem dJ0_length_8abf5_5 : decode cJ0_length_8abf5 5 = .ok (.aload_n 0, 1) := by decide +kernel
theorem dJ0_length_8abf5_6 : decode cJ0_length_8abf5 6 = .ok (.invokevirtual 335, 3) := by decide +kernel
theorem dJ0_length_8abf5_9 : decode cJ0_length_8abf5 9 = .ok (.ishr, 1) := by decide +kernel
theorem dJ0_length_8abf5_10 : decode cJ0_length_8abf5 10 = .ok (.ireturn, 1) := by decide +kernel
theorem dJ0_charAt_5068e_0 : decode cJ0_charAt_5068e 0 = .ok (.aload_n 0, 1) := by decide +kernel
theorem dJ0_charAt_5068e_1 : decode cJ0_charAt_5068e 1 = .ok (.invokevirtual 492, 3) := by decide +kernel
theorem dJ0_charAt_5068e_4 : decode cJ0_charAt_5068e 4 = .ok (.ifCond .eq 12, 3) := by decide +kernel
theorem dJ0_charAt_5068e_7 : decode cJ0_charAt_5068e 7 = .ok (.aload_n 0, 1) := by decide +kernel
theorem dJ0_charAt_5068e_8 : decode cJ0_charAt_5068e 8 = .ok (.getfield 9, 3) := by decide +kernel
theorem dJ0_charAt_5068e_11 : decode cJ0_charAt_5068e 11 = .ok (.iload_n 1, 1) := by decide +kernel
theorem dJ0_charAt_5068e_12 : decode cJ0_charAt_5068e 12 = .ok (.invokestatic 495, 3) := by decide +kernel
theorem dJ0_charAt_5068e_15 : decode cJ0_charAt_5068e 15 = .ok (.ireturn, 1) := by decide +kernel
theorem dJ0_charAt_5068e_16 : decode cJ0_charAt_5068e 16 = .ok (.aload_n 0, 1) := by decide +kernel
theorem dJ0_charAt_5068e_17 : decode cJ0_charAt_5068e 17 = .ok (.getfield 9, 3) := by decide +kernel
theorem dJ0_charAt_5068e_20 : decode cJ0_charAt_5068e 20 = .ok (.iload_n 1, 1) := by decide +kernel
theorem dJ0_charAt_5068e_21 : decode cJ0_charAt_5068e 21 = .ok (.invokestatic 498, 3) := by decide +kernel
theorem dJ0_charAt_5068e_24 : decode cJ0_charAt_5068e 24 = .ok (.ireturn, 1) := by decide +kernel
theorem dJ0_coder_7d493_0 : decode cJ0_coder_7d493 0 = .ok (.getstatic 38, 3) := by decide +kernel
theorem dJ0_coder_7d493_3 : decode cJ0_coder_7d493 3 = .ok (.ifCond .eq 10, 3) := by decide +kernel
theorem dJ0_coder_7d493_6 : decode cJ0_coder_7d493 6 = .ok (.aload_n 0, 1) := by decide +kernel
theorem dJ0_coder_7d493_7 : decode cJ0_coder_7d493 7 = .ok (.getfield 15, 3) := by decide +kernel
theorem dJ0_coder_7d493_10 : decode cJ0_coder_7d493 10 = .ok (.goto 4, 3) := by decide +kernel
theorem dJ0_coder_7d493_13 : decode cJ0_coder_7d493 13 = .ok (.iconst 1, 1) := by decide +kernel
theorem dJ0_coder_7d493_14 : decode cJ0_coder_7d493 14 = .ok (.ireturn, 1) := by decide +kernel
theorem dJ0_isLatin1_aae02_0 : decode cJ0_isLatin1_aae02 0 = .ok (.getstatic 38, 3) := by decide +kernel
theorem dJ0_isLatin1_aae02_3 : decode cJ0_isLatin1_aae02 3 = .ok (.ifCond .eq 14, 3) := by decide +kernel
theorem dJ0_isLatin1_aae02_6 : decode cJ0_isLatin1_aae02 6 = .ok (.aload_n 0, 1) := by decide +kernel
theorem dJ0_isLatin1_aae02_7 : decode cJ0_isLatin1_aae02 7 = .ok (.getfield 15, 3) := by decide +kernel
theorem dJ0_isLatin1_aae02_10 : decode cJ0_isLatin1_aae02 10 = .ok (.ifCond .ne 7, 3) := by decide +kernel
theorem dJ0_isLatin1_aae02_13 : decode cJ0_isLatin1_aae02 13 = .ok (.iconst 1, 1) := by decide +kernel
theorem dJ0_isLatin1_aae02_14 : decode cJ0_isLatin1_aae02 14 = .ok (.goto 4, 3) := by decide +kernel
theorem dJ0_isLatin1_aae02_17 : decode cJ0_isLatin1_aae02 17 = .ok (.iconst 0, 1) := by decide +kernel
theorem dJ0_isLatin1_aae02_18 : decode cJ0_isLatin1_aae02 18 = .ok (.ireturn, 1) := by decide +kernel
theorem dJ0_checkIndex_df160_0 : decode cJ0_checkIndex_df160 0 = .ok (.iload_n 0, 1) := by decide +kernel
theorem dJ0_checkIndex_df160_1 : decode cJ0_checkIndex_df160 1 = .ok (.iload_n 1, 1) := by decide +kernel
theorem dJ0_checkIndex_df160_2 : decode cJ0_checkIndex_df160 2 = .ok (.getstatic 1053, 3) := by decide +kernel
theorem dJ0_checkIndex_df160_5 : decode cJ0_checkIndex_df160 5 = .ok (.invokestatic 1059, 3) := by decide +kernel
theorem dJ0_checkIndex_df160_8 : decode cJ0_checkIndex_df160 8 = .ok (.pop, 1) := by decide +kernel
theorem dJ0_checkIndex_df160_9 : decode cJ0_checkIndex_df160 9 = .ok (.return_, 1) := by decide +kernel
theorem dJ1_charAt_3b067_0 : decode cJ1_charAt_3b067 0 = .ok (.iload_n 1, 1) := by decide +kernel
theorem dJ1_charAt_3b067_1 : decode cJ1_charAt_3b067 1 = .ok (.aload_n 0, 1) := by decide +kernel
theorem dJ1_charAt_3b067_2 : decode cJ1_charAt_3b067 2 = .ok (.arraylength, 1) := by decide +kernel
theorem dJ1_charAt_3b067_3 : decode cJ1_charAt_3b067 3 = .ok (.invokestatic 9, 3) := by decide +kernel
theorem dJ1_charAt_3b067_6 : decode cJ1_charAt_3b067 6 = .ok (.aload_n 0, 1) := by decide +kernel
theorem dJ1_charAt_3b067_7 : decode cJ1_charAt_3b067 7 = .ok (.iload_n 1, 1) := by decide +kernel
theorem dJ1_charAt_3b067_8 : decode cJ1_charAt_3b067 8 = .ok (.baload, 1) := by decide +kernel
theorem dJ1_charAt_3b067_9 : decode cJ1_charAt_3b067 9 = .ok (.sipush 255, 3) := by decide +kernel
theorem dJ1_charAt_3b067_12 : decode cJ1_charAt_3b067 12 = .ok (.iand, 1) := by decide +kernel
theorem dJ1_charAt_3b067_13 : decode cJ1_charAt_3b067 13 = .ok (.i2c, 1) := by decide +kernel
theorem dJ1_charAt_3b067_14 : decode cJ1_charAt_3b067 14 = .ok (.ireturn, 1) := by decide +kernel
theorem dJ2_getChar_3b067_0 : decode cJ2_getChar_3b067 0 = .ok (.getstatic 44, 3) := by decide +kernel
theorem dJ2_getChar_3b067_3 : decode cJ2_getChar_3b067 3 = .ok (.ifCond .ne 25, 3) := by decide +kernel
theorem dJ2_getChar_3b067_6 : decode cJ2_getChar_3b067 6 = .ok (.iload_n 1, 1) := by decide +kernel
theorem dJ2_getChar_3b067_7 : decode cJ2_getChar_3b067 7 = .ok (.ifCond .lt 11, 3) := by decide +kernel
theorem dJ2_getChar_3b067_10 : decode cJ2_getChar_3b067 10 = .ok (.iload_n 1, 1) := by decide +kernel
theorem dJ2_getChar_3b067_11 : decode cJ2_getChar_3b067 11 = .ok (.aload_n 0, 1) := by decide +kernel
theorem dJ2_getChar_3b067_12 : decode cJ2_getChar_3b067 12 = .ok (.invokestatic 48, 3) := by decide +kernel
theorem dJ2_getChar_3b067_15 : decode cJ2_getChar_3b067 15 = .ok (.if_icmp .lt 13, 3) := by decide +kernel
theorem dJ2_getChar_3b067_18 : decode cJ2_getChar_3b067 18 = .ok (.new 52, 3) := by decide +kernel
theorem dJ2_getChar_3b067_21 : decode cJ2_getChar_3b067 21 = .ok (.dup, 1) := by decide +kernel
theorem dJ2_getChar_3b067_22 : decode cJ2_getChar_3b067 22 = .ok (.ldc 54, 2) := by decide +kernel
theorem dJ2_getChar_3b067_24 : decode cJ2_getChar_3b067 24 = .ok (.invokespecial 56, 3) := by decide +kernel
theorem dJ2_getChar_3b067_27 : decode cJ2_getChar_3b067 27 = .ok (.athrow, 1) := by decide +kernel
theorem dJ2_getChar_3b067_28 : decode cJ2_getChar_3b067 28 = .ok (.iload_n 1, 1) := by decide +kernel
theorem dJ2_getChar_3b067_29 : decode cJ2_getChar_3b067 29 = .ok (.iconst 1, 1) := by decide +kernel
theorem dJ2_getChar_3b067_30 : decode cJ2_getChar_3b067 30 = .ok (.ishl, 1) := by decide +kernel
theorem dJ2_getChar_3b067_31 : decode cJ2_getChar_3b067 31 = .ok (.istore_n 1, 1) := by decide +kernel
theorem dJ2_getChar_3b067_32 : decode cJ2_getChar_3b067 32 = .ok (.aload_n 0, 1) := by decide +kernel
theorem dJ2_getChar_3b067_33 : decode cJ2_getChar_3b067 33 = .ok (.iload_n 1, 1) := by decide +kernel
theorem dJ2_getChar_3b067_34 : decode cJ2_getChar_3b067 34 = .ok (.iinc 1 1, 3) := by decide +kernel
theorem dJ2_getChar_3b067_37 : decode cJ2_getChar_3b067 37 = .ok (.baload, 1) := by decide +kernel
theorem dJ2_getChar_3b067_38 : decode cJ2_getChar_3b067 38 = .ok (.sipush 255, 3) := by decide +kernel
theorem dJ2_getChar_3b067_41 : decode cJ2_getChar_3b067 41 = .ok (.iand, 1) := by decide +kernel
theorem dJ2_getChar_3b067_42 : decode cJ2_getChar_3b067 42 = .ok (.getstatic 59, 3) := by decide +kernel
theorem dJ2_getChar_3b067_45 : decode cJ2_getChar_3b067 45 = .ok (.ishl, 1) := by decide +kernel
theorem dJ2_getChar_3b067_46 : decode cJ2_getChar_3b067 46 = .ok (.aload_n 0, 1) := by decide +kernel
theorem dJ2_getChar_3b067_47 : decode cJ2_getChar_3b067 47 = .ok (.iload_n 1, 1) := by decide +kernel
theorem dJ2_getChar_3b067_48 : decode cJ2_getChar_3b067 48 = .ok (.baload, 1) := by decide +kernel
theorem dJ2_getChar_3b067_49 : decode cJ2_getChar_3b067 49 = .ok (.sipush 255, 3) := by decide +kernel
theorem dJ2_getChar_3b067_52 : decode cJ2_getChar_3b067 52 = .ok (.iand, 1) := by decide +kernel
theorem dJ2_getChar_3b067_53 : decode cJ2_getChar_3b067 53 = .ok (.getstatic 63, 3) := by decide +kernel
theorem dJ2_getChar_3b067_56 : decode cJ2_getChar_3b067 56 = .ok (.ishl, 1) := by decide +kernel
theorem dJ2_getChar_3b067_57 : decode cJ2_getChar_3b067 57 = .ok (.ior, 1) := by decide +kernel
theorem dJ2_getChar_3b067_58 : decode cJ2_getChar_3b067 58 = .ok (.i2c, 1) := by decide +kernel
theorem dJ2_getChar_3b067_59 : decode cJ2_getChar_3b067 59 = .ok (.ireturn, 1) := by decide +kernel
theorem dJ2_length_9d52b_0 : decode cJ2_length_9d52b 0 = .ok (.aload_n 0, 1) := by decide +kernel
theorem dJ2_length_9d52b_1 : decode cJ2_length_9d52b 1 = .ok (.arraylength, 1) := by decide +kernel
theorem dJ2_length_9d52b_2 : decode cJ2_length_9d52b 2 = .ok (.iconst 1, 1) := by decide +kernel
theorem dJ2_length_9d52b_3 : decode cJ2_length_9d52b 3 = .ok (.ishr, 1) := by decide +kernel
theorem dJ2_length_9d52b_4 : decode cJ2_length_9d52b 4 = .ok (.ireturn, 1) := by decide +kernel
theorem dJ2_charAt_3b067_0 : decode cJ2_charAt_3b067 0 = .ok (.iload_n 1, 1) := by decide +kernel
theorem dJ2_charAt_3b067_1 : decode cJ2_charAt_3b067 1 = .ok (.aload_n 0, 1) := by decide +kernel
theorem dJ2_charAt_3b067_2 : decode cJ2_charAt_3b067 2 = .ok (.invokestatic 67, 3) := by decide +kernel
theorem dJ2_charAt_3b067_5 : decode cJ2_charAt_3b067 5 = .ok (.aload_n 0, 1) := by decide +kernel
theorem dJ2_charAt_3b067_6 : decode cJ2_charAt_3b067 6 = .ok (.iload_n 1, 1) := by decide +kernel
theorem dJ2_charAt_3b067_7 : decode cJ2_charAt_3b067 7 = .ok (.invokestatic 71, 3) := by decide +kernel
theorem dJ2_charAt_3b067_10 : decode cJ2_charAt_3b067 10 = .ok (.ireturn, 1) := by decide +kernel
theorem dJ2_checkIndex_2214a_0 : decode cJ2_checkIndex_2214a 0 = .ok (.iload_n 0, 1) := by decide +kernel
theorem dJ2_checkIndex_2214a_1 : decode cJ2_checkIndex_2214a 1 = .ok (.aload_n 1, 1) := by decide +kernel
theorem dJ2_checkIndex_2214a_2 : decode cJ2_checkIndex_2214a 2 = .ok (.invokestatic 48, 3) := by decide +kernel
theorem dJ2_checkIndex_2214a_5 : decode cJ2_checkIndex_2214a 5 = .ok (.invokestatic 414, 3) := by decide +kernel
theorem dJ2_checkIndex_2214a_8 : decode cJ2_checkIndex_2214a 8 = .ok (.return_, 1) := by decide +kernel
theorem dJ3_checkIndex_8e157_0 : decode cJ3_checkIndex_8e157 0 = .ok (.iload_n 0, 1) := by decide +kernel
theorem dJ3_checkIndex_8e157_1 : decode cJ3_checkIndex_8e157 1 = .ok (.ifCond .lt 8, 3) := by decide +kernel
theorem dJ3_checkIndex_8e157_4 : decode cJ3_checkIndex_8e157 4 = .ok (.iload_n 0, 1) := by decide +kernel
theorem dJ3_checkIndex_8e157_5 : decode cJ3_checkIndex_8e157 5 = .ok (.iload_n 1, 1) := by decide +kernel
theorem dJ3_checkIndex_8e157_6 : decode cJ3_checkIndex_8e157 6 = .ok (.if_icmp .lt 10, 3) := by decide +kernel
theorem dJ3_checkIndex_8e157_9 : decode cJ3_checkIndex_8e157 9 = .ok (.aload_n 2, 1) := by decide +kernel
theorem dJ3_checkIndex_8e157_10 : decode cJ3_checkIndex_8e157 10 = .ok (.iload_n 0, 1) := by decide +kernel
theorem dJ3_checkIndex_8e157_11 : decode cJ3_checkIndex_8e157 11 = .ok (.iload_n 1, 1) := by decide +kernel
theorem dJ3_checkIndex_8e157_12 : decode cJ3_checkIndex_8e157 12 = .ok (.invokestatic 95, 3) := by decide +kernel
theorem dJ3_checkIndex_8e157_15 : decode cJ3_checkIndex_8e157 15 = .ok (.athrow, 1) := by decide +kernel
theorem dJ3_checkIndex_8e157_16 : decode cJ3_checkIndex_8e157 16 = .ok (.iload_n 0, 1) := by decide +kernel
theorem dJ3_checkIndex_8e157_17 : decode cJ3_checkIndex_8e157 17 = .ok (.ireturn, 1) := by decide +kernel
theorem dL_law_0 : decode cL_law 0 = .ok (.new 7, 3) := by decide +kernel
theorem dL_law_3 : decode cL_law 3 = .ok (.dup, 1) := by decide +kernel
theorem dL_law_4 : decode cL_law 4 = .ok (.invokespecial 9, 3) := by decide +kernel
theorem dL_law_7 : decode cL_law 7 = .ok (.astore_n 1, 1) := by decide +kernel
theorem dL_law_8 : decode cL_law 8 = .ok (.new 10, 3) := by decide +kernel
theorem dL_law_11 : decode cL_law 11 = .ok (.dup, 1) := by decide +kernel
theorem dL_law_12 : decode cL_law 12 = .ok (.invokespecial 12, 3) := by decide +kernel
theorem dL_law_15 : decode cL_law 15 = .ok (.astore_n 2, 1) := by decide +kernel
theorem dL_law_16 : decode cL_law 16 = .ok (.iconst 0, 1) := by decide +kernel
theorem dL_law_17 : decode cL_law 17 = .ok (.istore_n 3, 1) := by decide +kernel
theorem dL_law_18 : decode cL_law 18 = .ok (.iload_n 3, 1) := by decide +kernel
theorem dL_law_19 : decode cL_law 19 = .ok (.aload_n 0, 1) := by decide +kernel
theorem dL_law_20 : decode cL_law 20 = .ok (.arraylength, 1) := by decide +kernel
theorem dL_law_21 : decode cL_law 21 = .ok (.iconst 4, 1) := by decide +kernel
theorem dL_law_22 : decode cL_law 22 = .ok (.isub, 1) := by decide +kernel
theorem dL_law_23 : decode cL_law 23 = .ok (.if_icmp .gt 769, 3) := by decide +kernel
theorem dL_law_26 : decode cL_law 26 = .ok (.aload_n 0, 1) := by decide +kernel
theorem dL_law_27 : decode cL_law 27 = .ok (.iload_n 3, 1) := by decide +kernel
theorem dL_law_28 : decode cL_law 28 = .ok (.iaload, 1) := by decide +kernel
theorem dL_law_29 : decode cL_law 29 = .ok (.bipush 31, 2) := by decide +kernel
theorem dL_law_31 : decode cL_law 31 = .ok (.iand, 1) := by decide +kernel
theorem dL_law_32 : decode cL_law 32 = .ok (.tableswitch 754 0 22 #[108, 141, 164, 197, 246, 269, 302, 325, 348, 361, 404, 427, 470, 503, 546, 579, 602, 635, 658, 681, 704, 727, 740], 108) := by decide +kernel
theorem dL_law_140 : decode cL_law 140 = .ok (.aload_n 1, 1) := by decide +kernel
theorem dL_law_141 : decode cL_law 141 = .ok (.aload_n 0, 1) := by decide +kernel
theorem dL_law_142 : decode cL_law 142 = .ok (.iload_n 3, 1) := by decide +kernel
theorem dL_law_143 : decode cL_law 143 = .ok (.iconst 1, 1) := by decide +kernel
theorem dL_law_144 : decode cL_law 144 = .ok (.iadd, 1) := by decide +kernel
theorem dL_law_145 : decode cL_law 145 = .ok (.iaload, 1) := by decide +kernel
theorem dL_law_146 : decode cL_law 146 = .ok (.aload_n 0, 1) := by decide +kernel
theorem dL_law_147 : decode cL_law 147 = .ok (.iload_n 3, 1) := by decide +kernel
theorem dL_law_148 : decode cL_law 148 = .ok (.iconst 2, 1) := by decide +kernel
theorem dL_law_149 : decode cL_law 149 = .ok (.iadd, 1) := by decide +kernel
theorem dL_law_150 : decode cL_law 150 = .ok (.iaload, 1) := by decide +kernel
theorem dL_law_151 : decode cL_law 151 = .ok (.invokevirtual 13, 3) := by decide +kernel
theorem dL_law_154 : decode cL_law 154 = .ok (.aload_n 2, 1) := by decide +kernel
theorem dL_law_155 : decode cL_law 155 = .ok (.aload_n 0, 1) := by decide +kernel
theorem dL_law_156 : decode cL_law 156 = .ok (.iload_n 3, 1) := by decide +kernel
theorem dL_law_157 : decode cL_law 157 = .ok (.iconst 1, 1) := by decide +kernel
theorem dL_law_158 : decode cL_law 158 = .ok (.iadd, 1) := by decide +kernel
theorem dL_law_159 : decode cL_law 159 = .ok (.iaload, 1) := by decide +kernel
theorem dL_law_160 : decode cL_law 160 = .ok (.aload_n 0, 1) := by decide +kernel
theorem dL_law_161 : decode cL_law 161 = .ok (.iload_n 3, 1) := by decide +kernel
theorem dL_law_162 : decode cL_law 162 = .ok (.iconst 2, 1) := by decide +kernel
theorem dL_law_163 : decode cL_law 163 = .ok (.iadd, 1) := by decide +kernel
theorem dL_law_164 : decode cL_law 164 = .ok (.iaload, 1) := by decide +kernel
theorem dL_law_165 : decode cL_law 165 = .ok (.invokevirtual 17, 3) := by decide +kernel
theorem dL_law_168 : decode cL_law 168 = .ok (.if_icmp .eq 618, 3) := by decide +kernel
theorem dL_law_171 : decode cL_law 171 = .ok (.iconst 0, 1) := by decide +kernel
theorem dL_law_172 : decode cL_law 172 = .ok (.ireturn, 1) := by decide +kernel
theorem dL_law_173 : decode cL_law 173 = .ok (.aload_n 1, 1) := by decide +kernel
theorem dL_law_174 : decode cL_law 174 = .ok (.aload_n 0, 1) := by decide +kernel
theorem dL_law_175 : decode cL_law 175 = .ok (.iload_n 3, 1) := by decide +kernel
theorem dL_law_176 : decode cL_law 176 = .ok (.iconst 1, 1) := by decide +kernel
theorem dL_law_177 : decode cL_law 177 = .ok (.iadd, 1) := by decide +kernel
theorem dL_law_178 : decode cL_law 178 = .ok (.iaload, 1) := by decide +kernel
theorem dL_law_179 : decode cL_law 179 = .ok (.invokevirtual 18, 3) := by decide +kernel
theorem dL_law_182 : decode cL_law 182 = .ok (.aload_n 2, 1) := by decide +kernel
theorem dL_law_183 : decode cL_law 183 = .ok (.aload_n 0, 1) := by decide +kernel
theorem dL_law_184 : decode cL_law 184 = .ok (.iload_n 3, 1) := by decide +kernel
theorem dL_law_185 : decode cL_law 185 = .ok (.iconst 1, 1) := by decide +kernel
theorem dL_law_186 : decode cL_law 186 = .ok (.iadd, 1) := by decide +kernel
theorem dL_law_187 : decode cL_law 187 = .ok (.iaload, 1) := by decide +kernel
theorem dL_law_188 : decode cL_law 188 = .ok (.invokevirtual 22, 3) := by decide +kernel
theorem dL_law_191 : decode cL_law 191 = .ok (.if_icmp .eq 595, 3) := by decide +kernel
theorem dL_law_194 : decode cL_law 194 = .ok (.iconst 0, 1) := by decide +kernel
theorem dL_law_195 : decode cL_law 195 = .ok (.ireturn, 1) := by decide +kernel
theorem dL_law_196 : decode cL_law 196 = .ok (.aload_n 1, 1) := by decide +kernel
theorem dL_law_197 : decode cL_law 197 = .ok (.aload_n 0, 1) := by decide +kernel
theorem dL_law_198 : decode cL_law 198 = .ok (.iload_n 3, 1) := by decide +kernel
theorem dL_law_199 : decode cL_law 199 = .ok (.iconst 1, 1) := by decide +kernel
theorem dL_law_200 : decode cL_law 200 = .ok (.iadd, 1) := by decide +kernel
theorem dL_law_201 : decode cL_law 201 = .ok (.iaload, 1) := by decide +kernel
theorem dL_law_202 : decode cL_law 202 = .ok (.aload_n 0, 1) := by decide +kernel
theorem dL_law_203 : decode cL_law 203 = .ok (.iload_n 3, 1) := by decide +kernel
theorem dL_law_204 : decode cL_law 204 = .ok (.iconst 2, 1) := by decide +kernel
theorem dL_law_205 : decode cL_law 205 = .ok (.iadd, 1) := by decide +kernel
theorem dL_law_206 : decode cL_law 206 = .ok (.iaload, 1) := by decide +kernel
theorem dL_law_207 : decode cL_law 207 = .ok (.invokevirtual 23, 3) := by decide +kernel
theorem dL_law_210 : decode cL_law 210 = .ok (.aload_n 2, 1) := by decide +kernel
theorem dL_law_211 : decode cL_law 211 = .ok (.aload_n 0, 1) := by decide +kernel
theorem dL_law_212 : decode cL_law 212 = .ok (.iload_n 3, 1) := by decide +kernel
theorem dL_law_213 : decode cL_law 213 = .ok (.iconst 1, 1) := by decide +kernel
theorem dL_law_214 : decode cL_law 214 = .ok (.iadd, 1) := by decide +kernel
theorem dL_law_215 : decode cL_law 215 = .ok (.iaload, 1) := by decide +kernel
theorem dL_law_216 : decode cL_law 216 = .ok (.aload_n 0, 1) := by decide +kernel
theorem dL_law_217 : decode cL_law 217 = .ok (.iload_n 3, 1) := by decide +kernel
theorem dL_law_218 : decode cL_law 218 = .ok (.iconst 2, 1) := by decide +kernel
theorem dL_law_219 : decode cL_law 219 = .ok (.iadd, 1) := by decide +kernel
theorem dL_law_220 : decode cL_law 220 = .ok (.iaload, 1) := by decide +kernel
theorem dL_law_221 : decode cL_law 221 = .ok (.invokevirtual 26, 3) := by decide +kernel
theorem dL_law_224 : decode cL_law 224 = .ok (.if_icmp .eq 562, 3) := by decide +kernel
theorem dL_law_227 : decode cL_law 227 = .ok (.iconst 0, 1) := by decide +kernel
theorem dL_law_228 : decode cL_law 228 = .ok (.ireturn, 1) := by decide +kernel
theorem dL_law_229 : decode cL_law 229 = .ok (.aload_n 1, 1) := by decide +kernel
theorem dL_law_230 : decode cL_law 230 = .ok (.aload_n 0, 1) := by decide +kernel
theorem dL_law_231 : decode cL_law 231 = .ok (.iload_n 3, 1) := by decide +kernel
theorem dL_law_232 : decode cL_law 232 = .ok (.iconst 1, 1) := by decide +kernel
theorem dL_law_233 : decode cL_law 233 = .ok (.iadd, 1) := by decide +kernel
theorem dL_law_234 : decode cL_law 234 = .ok (.iaload, 1) := by decide +kernel
theorem dL_law_235 : decode cL_law 235 = .ok (.aload_n 0, 1) := by decide +kernel
theorem dL_law_236 : decode cL_law 236 = .ok (.iload_n 3, 1) := by decide +kernel
theorem dL_law_237 : decode cL_law 237 = .ok (.iconst 2, 1) := by decide +kernel
theorem dL_law_238 : decode cL_law 238 = .ok (.iadd, 1) := by decide +kernel
theorem dL_law_239 : decode cL_law 239 = .ok (.iaload, 1) := by decide +kernel
theorem dL_law_240 : decode cL_law 240 = .ok (.ifCond .eq 7, 3) := by decide +kernel
theorem dL_law_243 : decode cL_law 243 = .ok (.iconst 1, 1) := by decide +kernel
theorem dL_law_244 : decode cL_law 244 = .ok (.goto 4, 3) := by decide +kernel
theorem dL_law_247 : decode cL_law 247 = .ok (.iconst 0, 1) := by decide +kernel
theorem dL_law_248 : decode cL_law 248 = .ok (.invokevirtual 27, 3) := by decide +kernel
theorem dL_law_251 : decode cL_law 251 = .ok (.aload_n 2, 1) := by decide +kernel
theorem dL_law_252 : decode cL_law 252 = .ok (.aload_n 0, 1) := by decide +kernel
theorem dL_law_253 : decode cL_law 253 = .ok (.iload_n 3, 1) := by decide +kernel
theorem dL_law_254 : decode cL_law 254 = .ok (.iconst 1, 1) := by decide +kernel
theorem dL_law_255 : decode cL_law 255 = .ok (.iadd, 1) := by decide +kernel
theorem dL_law_256 : decode cL_law 256 = .ok (.iaload, 1) := by decide +kernel
theorem dL_law_257 : decode cL_law 257 = .ok (.aload_n 0, 1) := by decide +kernel
theorem dL_law_258 : decode cL_law 258 = .ok (.iload_n 3, 1) := by decide +kernel
theorem dL_law_259 : decode cL_law 259 = .ok (.iconst 2, 1) := by decide +kernel
theorem dL_law_260 : decode cL_law 260 = .ok (.iadd, 1) := by decide +kernel
theorem dL_law_261 : decode cL_law 261 = .ok (.iaload, 1) := by decide +kernel
theorem dL_law_262 : decode cL_law 262 = .ok (.ifCond .eq 7, 3) := by decide +kernel
theorem dL_law_265 : decode cL_law 265 = .ok (.iconst 1, 1) := by decide +kernel
theorem dL_law_266 : decode cL_law 266 = .ok (.goto 4, 3) := by decide +kernel
theorem dL_law_269 : decode cL_law 269 = .ok (.iconst 0, 1) := by decide +kernel
theorem dL_law_270 : decode cL_law 270 = .ok (.invokevirtual 31, 3) := by decide +kernel
theorem dL_law_273 : decode cL_law 273 = .ok (.if_icmp .eq 513, 3) := by decide +kernel
theorem dL_law_276 : decode cL_law 276 = .ok (.iconst 0, 1) := by decide +kernel
theorem dL_law_277 : decode cL_law 277 = .ok (.ireturn, 1) := by decide +kernel
theorem dL_law_278 : decode cL_law 278 = .ok (.aload_n 1, 1) := by decide +kernel
theorem dL_law_279 : decode cL_law 279 = .ok (.aload_n 0, 1) := by decide +kernel
theorem dL_law_280 : decode cL_law 280 = .ok (.iload_n 3, 1) := by decide +kernel
theorem dL_law_281 : decode cL_law 281 = .ok (.iconst 1, 1) := by decide +kernel
theorem dL_law_282 : decode cL_law 282 = .ok (.iadd, 1) := by decide +kernel
theorem dL_law_283 : decode cL_law 283 = .ok (.iaload, 1) := by decide +kernel
theorem dL_law_284 : decode cL_law 284 = .ok (.invokevirtual 32, 3) := by decide +kernel
theorem dL_law_287 : decode cL_law 287 = .ok (.aload_n 2, 1) := by decide +kernel
theorem dL_law_288 : decode cL_law 288 = .ok (.aload_n 0, 1) := by decide +kernel
theorem dL_law_289 : decode cL_law 289 = .ok (.iload_n 3, 1) := by decide +kernel
theorem dL_law_290 : decode cL_law 290 = .ok (.iconst 1, 1) := by decide +kernel
theorem dL_law_291 : decode cL_law 291 = .ok (.iadd, 1) := by decide +kernel
theorem dL_law_292 : decode cL_law 292 = .ok (.iaload, 1) := by decide +kernel
theorem dL_law_293 : decode cL_law 293 = .ok (.invokevirtual 35, 3) := by decide +kernel
theorem dL_law_296 : decode cL_law 296 = .ok (.if_icmp .eq 490, 3) := by decide +kernel
theorem dL_law_299 : decode cL_law 299 = .ok (.iconst 0, 1) := by decide +kernel
theorem dL_law_300 : decode cL_law 300 = .ok (.ireturn, 1) := by decide +kernel
theorem dL_law_301 : decode cL_law 301 = .ok (.aload_n 1, 1) := by decide +kernel
theorem dL_law_302 : decode cL_law 302 = .ok (.aload_n 0, 1) := by decide +kernel
theorem dL_law_303 : decode cL_law 303 = .ok (.iload_n 3, 1) := by decide +kernel
theorem dL_law_304 : decode cL_law 304 = .ok (.iconst 1, 1) := by decide +kernel
theorem dL_law_305 : decode cL_law 305 = .ok (.iadd, 1) := by decide +kernel
theorem dL_law_306 : decode cL_law 306 = .ok (.iaload, 1) := by decide +kernel
theorem dL_law_307 : decode cL_law 307 = .ok (.aload_n 0, 1) := by decide +kernel
theorem dL_law_308 : decode cL_law 308 = .ok (.iload_n 3, 1) := by decide +kernel
theorem dL_law_309 : decode cL_law 309 = .ok (.iconst 2, 1) := by decide +kernel
theorem dL_law_310 : decode cL_law 310 = .ok (.iadd, 1) := by decide +kernel
theorem dL_law_311 : decode cL_law 311 = .ok (.iaload, 1) := by decide +kernel
theorem dL_law_312 : decode cL_law 312 = .ok (.invokevirtual 36, 3) := by decide +kernel
theorem dL_law_315 : decode cL_law 315 = .ok (.aload_n 2, 1) := by decide +kernel
theorem dL_law_316 : decode cL_law 316 = .ok (.aload_n 0, 1) := by decide +kernel
theorem dL_law_317 : decode cL_law 317 = .ok (.iload_n 3, 1) := by decide +kernel
theorem dL_law_318 : decode cL_law 318 = .ok (.iconst 1, 1) := by decide +kernel
theorem dL_law_319 : decode cL_law 319 = .ok (.iadd, 1) := by decide +kernel
theorem dL_law_320 : decode cL_law 320 = .ok (.iaload, 1) := by decide +kernel
theorem dL_law_321 : decode cL_law 321 = .ok (.aload_n 0, 1) := by decide +kernel
theorem dL_law_322 : decode cL_law 322 = .ok (.iload_n 3, 1) := by decide +kernel
theorem dL_law_323 : decode cL_law 323 = .ok (.iconst 2, 1) := by decide +kernel
theorem dL_law_324 : decode cL_law 324 = .ok (.iadd, 1) := by decide +kernel
theorem dL_law_325 : decode cL_law 325 = .ok (.iaload, 1) := by decide +kernel
theorem dL_law_326 : decode cL_law 326 = .ok (.invokevirtual 39, 3) := by decide +kernel
theorem dL_law_329 : decode cL_law 329 = .ok (.if_icmp .eq 457, 3) := by decide +kernel
theorem dL_law_332 : decode cL_law 332 = .ok (.iconst 0, 1) := by decide +kernel
theorem dL_law_333 : decode cL_law 333 = .ok (.ireturn, 1) := by decide +kernel
theorem dL_law_334 : decode cL_law 334 = .ok (.aload_n 1, 1) := by decide +kernel
theorem dL_law_335 : decode cL_law 335 = .ok (.aload_n 0, 1) := by decide +kernel
theorem dL_law_336 : decode cL_law 336 = .ok (.iload_n 3, 1) := by decide +kernel
theorem dL_law_337 : decode cL_law 337 = .ok (.iconst 1, 1) := by decide +kernel
theorem dL_law_338 : decode cL_law 338 = .ok (.iadd, 1) := by decide +kernel
theorem dL_law_339 : decode cL_law 339 = .ok (.iaload, 1) := by decide +kernel
theorem dL_law_340 : decode cL_law 340 = .ok (.invokevirtual 40, 3) := by decide +kernel
theorem dL_law_343 : decode cL_law 343 = .ok (.aload_n 2, 1) := by decide +kernel
theorem dL_law_344 : decode cL_law 344 = .ok (.aload_n 0, 1) := by decide +kernel
theorem dL_law_345 : decode cL_law 345 = .ok (.iload_n 3, 1) := by decide +kernel
theorem dL_law_346 : decode cL_law 346 = .ok (.iconst 1, 1) := by decide +kernel
theorem dL_law_347 : decode cL_law 347 = .ok (.iadd, 1) := by decide +kernel
theorem dL_law_348 : decode cL_law 348 = .ok (.iaload, 1) := by decide +kernel
theorem dL_law_349 : decode cL_law 349 = .ok (.invokevirtual 43, 3) := by decide +kernel
theorem dL_law_352 : decode cL_law 352 = .ok (.if_icmp .eq 434, 3) := by decide +kernel
theorem dL_law_355 : decode cL_law 355 = .ok (.iconst 0, 1) := by decide +kernel
theorem dL_law_356 : decode cL_law 356 = .ok (.ireturn, 1) := by decide +kernel
theorem dL_law_357 : decode cL_law 357 = .ok (.aload_n 1, 1) := by decide +kernel
theorem dL_law_358 : decode cL_law 358 = .ok (.aload_n 0, 1) := by decide +kernel
theorem dL_law_359 : decode cL_law 359 = .ok (.iload_n 3, 1) := by decide +kernel
theorem dL_law_360 : decode cL_law 360 = .ok (.iconst 1, 1) := by decide +kernel
theorem dL_law_361 : decode cL_law 361 = .ok (.iadd, 1) := by decide +kernel
theorem dL_law_362 : decode cL_law 362 = .ok (.iaload, 1) := by decide +kernel
theorem dL_law_363 : decode cL_law 363 = .ok (.invokevirtual 44, 3) := by decide +kernel
theorem dL_law_366 : decode cL_law 366 = .ok (.aload_n 2, 1) := by decide +kernel
theorem dL_law_367 : decode cL_law 367 = .ok (.aload_n 0, 1) := by decide +kernel
theorem dL_law_368 : decode cL_law 368 = .ok (.iload_n 3, 1) := by decide +kernel
theorem dL_law_369 : decode cL_law 369 = .ok (.iconst 1, 1) := by decide +kernel
theorem dL_law_370 : decode cL_law 370 = .ok (.iadd, 1) := by decide +kernel
theorem dL_law_371 : decode cL_law 371 = .ok (.iaload, 1) := by decide +kernel
theorem dL_law_372 : decode cL_law 372 = .ok (.invokevirtual 47, 3) := by decide +kernel
theorem dL_law_375 : decode cL_law 375 = .ok (.if_icmp .eq 411, 3) := by decide +kernel
theorem dL_law_378 : decode cL_law 378 = .ok (.iconst 0, 1) := by decide +kernel
theorem dL_law_379 : decode cL_law 379 = .ok (.ireturn, 1) := by decide +kernel
theorem dL_law_380 : decode cL_law 380 = .ok (.aload_n 1, 1) := by decide +kernel
theorem dL_law_381 : decode cL_law 381 = .ok (.invokevirtual 48, 3) := by decide +kernel
theorem dL_law_384 : decode cL_law 384 = .ok (.aload_n 2, 1) := by decide +kernel
theorem dL_law_385 : decode cL_law 385 = .ok (.invokevirtual 52, 3) := by decide +kernel
theorem dL_law_388 : decode cL_law 388 = .ok (.if_icmp .eq 398, 3) := by decide +kernel
theorem dL_law_391 : decode cL_law 391 = .ok (.iconst 0, 1) := by decide +kernel
theorem dL_law_392 : decode cL_law 392 = .ok (.ireturn, 1) := by decide +kernel
theorem dL_law_393 : decode cL_law 393 = .ok (.aload_n 1, 1) := by decide +kernel
theorem dL_law_394 : decode cL_law 394 = .ok (.aload_n 0, 1) := by decide +kernel
theorem dL_law_395 : decode cL_law 395 = .ok (.iload_n 3, 1) := by decide +kernel
theorem dL_law_396 : decode cL_law 396 = .ok (.iconst 1, 1) := by decide +kernel
theorem dL_law_397 : decode cL_law 397 = .ok (.iadd, 1) := by decide +kernel
theorem dL_law_398 : decode cL_law 398 = .ok (.iaload, 1) := by decide +kernel
theorem dL_law_399 : decode cL_law 399 = .ok (.aload_n 0, 1) := by decide +kernel
theorem dL_law_400 : decode cL_law 400 = .ok (.iload_n 3, 1) := by decide +kernel
theorem dL_law_401 : decode cL_law 401 = .ok (.iconst 2, 1) := by decide +kernel
theorem dL_law_402 : decode cL_law 402 = .ok (.iadd, 1) := by decide +kernel
theorem dL_law_403 : decode cL_law 403 = .ok (.iaload, 1) := by decide +kernel
theorem dL_law_404 : decode cL_law 404 = .ok (.aload_n 0, 1) := by decide +kernel
theorem dL_law_405 : decode cL_law 405 = .ok (.iload_n 3, 1) := by decide +kernel
theorem dL_law_406 : decode cL_law 406 = .ok (.iconst 3, 1) := by decide +kernel
theorem dL_law_407 : decode cL_law 407 = .ok (.iadd, 1) := by decide +kernel
theorem dL_law_408 : decode cL_law 408 = .ok (.iaload, 1) := by decide +kernel
theorem dL_law_409 : decode cL_law 409 = .ok (.invokevirtual 53, 3) := by decide +kernel
theorem dL_law_412 : decode cL_law 412 = .ok (.aload_n 2, 1) := by decide +kernel
theorem dL_law_413 : decode cL_law 413 = .ok (.aload_n 0, 1) := by decide +kernel
theorem dL_law_414 : decode cL_law 414 = .ok (.iload_n 3, 1) := by decide +kernel
theorem dL_law_415 : decode cL_law 415 = .ok (.iconst 1, 1) := by decide +kernel
theorem dL_law_416 : decode cL_law 416 = .ok (.iadd, 1) := by decide +kernel
theorem dL_law_417 : decode cL_law 417 = .ok (.iaload, 1) := by decide +kernel
theorem dL_law_418 : decode cL_law 418 = .ok (.aload_n 0, 1) := by decide +kernel
theorem dL_law_419 : decode cL_law 419 = .ok (.iload_n 3, 1) := by decide +kernel
theorem dL_law_420 : decode cL_law 420 = .ok (.iconst 2, 1) := by decide +kernel
theorem dL_law_421 : decode cL_law 421 = .ok (.iadd, 1) := by decide +kernel
theorem dL_law_422 : decode cL_law 422 = .ok (.iaload, 1) := by decide +kernel
theorem dL_law_423 : decode cL_law 423 = .ok (.aload_n 0, 1) := by decide +kernel
theorem dL_law_424 : decode cL_law 424 = .ok (.iload_n 3, 1) := by decide +kernel
theorem dL_law_425 : decode cL_law 425 = .ok (.iconst 3, 1) := by decide +kernel
theorem dL_law_426 : decode cL_law 426 = .ok (.iadd, 1) := by decide +kernel
theorem dL_law_427 : decode cL_law 427 = .ok (.iaload, 1) := by decide +kernel
theorem dL_law_428 : decode cL_law 428 = .ok (.invokevirtual 57, 3) := by decide +kernel
theorem dL_law_431 : decode cL_law 431 = .ok (.if_icmp .eq 355, 3) := by decide +kernel
theorem dL_law_434 : decode cL_law 434 = .ok (.iconst 0, 1) := by decide +kernel
theorem dL_law_435 : decode cL_law 435 = .ok (.ireturn, 1) := by decide +kernel
theorem dL_law_436 : decode cL_law 436 = .ok (.aload_n 1, 1) := by decide +kernel
theorem dL_law_437 : decode cL_law 437 = .ok (.aload_n 0, 1) := by decide +kernel
theorem dL_law_438 : decode cL_law 438 = .ok (.iload_n 3, 1) := by decide +kernel
theorem dL_law_439 : decode cL_law 439 = .ok (.iconst 1, 1) := by decide +kernel
theorem dL_law_440 : decode cL_law 440 = .ok (.iadd, 1) := by decide +kernel
theorem dL_law_441 : decode cL_law 441 = .ok (.iaload, 1) := by decide +kernel
theorem dL_law_442 : decode cL_law 442 = .ok (.invokevirtual 58, 3) := by decide +kernel
theorem dL_law_445 : decode cL_law 445 = .ok (.aload_n 2, 1) := by decide +kernel
theorem dL_law_446 : decode cL_law 446 = .ok (.aload_n 0, 1) := by decide +kernel
theorem dL_law_447 : decode cL_law 447 = .ok (.iload_n 3, 1) := by decide +kernel
theorem dL_law_448 : decode cL_law 448 = .ok (.iconst 1, 1) := by decide +kernel
theorem dL_law_449 : decode cL_law 449 = .ok (.iadd, 1) := by decide +kernel
theorem dL_law_450 : decode cL_law 450 = .ok (.iaload, 1) := by decide +kernel
theorem dL_law_451 : decode cL_law 451 = .ok (.invokevirtual 61, 3) := by decide +kernel
theorem dL_law_454 : decode cL_law 454 = .ok (.if_icmp .eq 332, 3) := by decide +kernel
theorem dL_law_457 : decode cL_law 457 = .ok (.iconst 0, 1) := by decide +kernel
theorem dL_law_458 : decode cL_law 458 = .ok (.ireturn, 1) := by decide +kernel
theorem dL_law_459 : decode cL_law 459 = .ok (.aload_n 1, 1) := by decide +kernel
theorem dL_law_460 : decode cL_law 460 = .ok (.aload_n 0, 1) := by decide +kernel
theorem dL_law_461 : decode cL_law 461 = .ok (.iload_n 3, 1) := by decide +kernel
theorem dL_law_462 : decode cL_law 462 = .ok (.iconst 1, 1) := by decide +kernel
theorem dL_law_463 : decode cL_law 463 = .ok (.iadd, 1) := by decide +kernel
theorem dL_law_464 : decode cL_law 464 = .ok (.iaload, 1) := by decide +kernel
theorem dL_law_465 : decode cL_law 465 = .ok (.aload_n 0, 1) := by decide +kernel
theorem dL_law_466 : decode cL_law 466 = .ok (.iload_n 3, 1) := by decide +kernel
theorem dL_law_467 : decode cL_law 467 = .ok (.iconst 2, 1) := by decide +kernel
theorem dL_law_468 : decode cL_law 468 = .ok (.iadd, 1) := by decide +kernel
theorem dL_law_469 : decode cL_law 469 = .ok (.iaload, 1) := by decide +kernel
theorem dL_law_470 : decode cL_law 470 = .ok (.aload_n 0, 1) := by decide +kernel
theorem dL_law_471 : decode cL_law 471 = .ok (.iload_n 3, 1) := by decide +kernel
theorem dL_law_472 : decode cL_law 472 = .ok (.iconst 3, 1) := by decide +kernel
theorem dL_law_473 : decode cL_law 473 = .ok (.iadd, 1) := by decide +kernel
theorem dL_law_474 : decode cL_law 474 = .ok (.iaload, 1) := by decide +kernel
theorem dL_law_475 : decode cL_law 475 = .ok (.invokevirtual 62, 3) := by decide +kernel
theorem dL_law_478 : decode cL_law 478 = .ok (.aload_n 2, 1) := by decide +kernel
theorem dL_law_479 : decode cL_law 479 = .ok (.aload_n 0, 1) := by decide +kernel
theorem dL_law_480 : decode cL_law 480 = .ok (.iload_n 3, 1) := by decide +kernel
theorem dL_law_481 : decode cL_law 481 = .ok (.iconst 1, 1) := by decide +kernel
theorem dL_law_482 : decode cL_law 482 = .ok (.iadd, 1) := by decide +kernel
theorem dL_law_483 : decode cL_law 483 = .ok (.iaload, 1) := by decide +kernel
theorem dL_law_484 : decode cL_law 484 = .ok (.aload_n 0, 1) := by decide +kernel
theorem dL_law_485 : decode cL_law 485 = .ok (.iload_n 3, 1) := by decide +kernel
theorem dL_law_486 : decode cL_law 486 = .ok (.iconst 2, 1) := by decide +kernel
theorem dL_law_487 : decode cL_law 487 = .ok (.iadd, 1) := by decide +kernel
theorem dL_law_488 : decode cL_law 488 = .ok (.iaload, 1) := by decide +kernel
theorem dL_law_489 : decode cL_law 489 = .ok (.aload_n 0, 1) := by decide +kernel
theorem dL_law_490 : decode cL_law 490 = .ok (.iload_n 3, 1) := by decide +kernel
theorem dL_law_491 : decode cL_law 491 = .ok (.iconst 3, 1) := by decide +kernel
theorem dL_law_492 : decode cL_law 492 = .ok (.iadd, 1) := by decide +kernel
theorem dL_law_493 : decode cL_law 493 = .ok (.iaload, 1) := by decide +kernel
theorem dL_law_494 : decode cL_law 494 = .ok (.invokevirtual 65, 3) := by decide +kernel
theorem dL_law_497 : decode cL_law 497 = .ok (.if_icmp .eq 289, 3) := by decide +kernel
theorem dL_law_500 : decode cL_law 500 = .ok (.iconst 0, 1) := by decide +kernel
theorem dL_law_501 : decode cL_law 501 = .ok (.ireturn, 1) := by decide +kernel
theorem dL_law_502 : decode cL_law 502 = .ok (.aload_n 1, 1) := by decide +kernel
theorem dL_law_503 : decode cL_law 503 = .ok (.aload_n 0, 1) := by decide +kernel
theorem dL_law_504 : decode cL_law 504 = .ok (.iload_n 3, 1) := by decide +kernel
theorem dL_law_505 : decode cL_law 505 = .ok (.iconst 1, 1) := by decide +kernel
theorem dL_law_506 : decode cL_law 506 = .ok (.iadd, 1) := by decide +kernel
theorem dL_law_507 : decode cL_law 507 = .ok (.iaload, 1) := by decide +kernel
theorem dL_law_508 : decode cL_law 508 = .ok (.aload_n 0, 1) := by decide +kernel
theorem dL_law_509 : decode cL_law 509 = .ok (.iload_n 3, 1) := by decide +kernel
theorem dL_law_510 : decode cL_law 510 = .ok (.iconst 2, 1) := by decide +kernel
theorem dL_law_511 : decode cL_law 511 = .ok (.iadd, 1) := by decide +kernel
theorem dL_law_512 : decode cL_law 512 = .ok (.iaload, 1) := by decide +kernel
theorem dL_law_513 : decode cL_law 513 = .ok (.invokevirtual 66, 3) := by decide +kernel
theorem dL_law_516 : decode cL_law 516 = .ok (.aload_n 2, 1) := by decide +kernel
theorem dL_law_517 : decode cL_law 517 = .ok (.aload_n 0, 1) := by decide +kernel
theorem dL_law_518 : decode cL_law 518 = .ok (.iload_n 3, 1) := by decide +kernel
theorem dL_law_519 : decode cL_law 519 = .ok (.iconst 1, 1) := by decide +kernel
theorem dL_law_520 : decode cL_law 520 = .ok (.iadd, 1) := by decide +kernel
theorem dL_law_521 : decode cL_law 521 = .ok (.iaload, 1) := by decide +kernel
theorem dL_law_522 : decode cL_law 522 = .ok (.aload_n 0, 1) := by decide +kernel
theorem dL_law_523 : decode cL_law 523 = .ok (.iload_n 3, 1) := by decide +kernel
theorem dL_law_524 : decode cL_law 524 = .ok (.iconst 2, 1) := by decide +kernel
theorem dL_law_525 : decode cL_law 525 = .ok (.iadd, 1) := by decide +kernel
theorem dL_law_526 : decode cL_law 526 = .ok (.iaload, 1) := by decide +kernel
theorem dL_law_527 : decode cL_law 527 = .ok (.invokevirtual 69, 3) := by decide +kernel
theorem dL_law_530 : decode cL_law 530 = .ok (.if_icmp .eq 256, 3) := by decide +kernel
theorem dL_law_533 : decode cL_law 533 = .ok (.iconst 0, 1) := by decide +kernel
theorem dL_law_534 : decode cL_law 534 = .ok (.ireturn, 1) := by decide +kernel
theorem dL_law_535 : decode cL_law 535 = .ok (.aload_n 1, 1) := by decide +kernel
theorem dL_law_536 : decode cL_law 536 = .ok (.aload_n 0, 1) := by decide +kernel
theorem dL_law_537 : decode cL_law 537 = .ok (.iload_n 3, 1) := by decide +kernel
theorem dL_law_538 : decode cL_law 538 = .ok (.iconst 1, 1) := by decide +kernel
theorem dL_law_539 : decode cL_law 539 = .ok (.iadd, 1) := by decide +kernel
theorem dL_law_540 : decode cL_law 540 = .ok (.iaload, 1) := by decide +kernel
theorem dL_law_541 : decode cL_law 541 = .ok (.aload_n 0, 1) := by decide +kernel
theorem dL_law_542 : decode cL_law 542 = .ok (.iload_n 3, 1) := by decide +kernel
theorem dL_law_543 : decode cL_law 543 = .ok (.iconst 2, 1) := by decide +kernel
theorem dL_law_544 : decode cL_law 544 = .ok (.iadd, 1) := by decide +kernel
theorem dL_law_545 : decode cL_law 545 = .ok (.iaload, 1) := by decide +kernel
theorem dL_law_546 : decode cL_law 546 = .ok (.aload_n 0, 1) := by decide +kernel
theorem dL_law_547 : decode cL_law 547 = .ok (.iload_n 3, 1) := by decide +kernel
theorem dL_law_548 : decode cL_law 548 = .ok (.iconst 3, 1) := by decide +kernel
theorem dL_law_549 : decode cL_law 549 = .ok (.iadd, 1) := by decide +kernel
theorem dL_law_550 : decode cL_law 550 = .ok (.iaload, 1) := by decide +kernel
theorem dL_law_551 : decode cL_law 551 = .ok (.invokevirtual 70, 3) := by decide +kernel
theorem dL_law_554 : decode cL_law 554 = .ok (.aload_n 2, 1) := by decide +kernel
theorem dL_law_555 : decode cL_law 555 = .ok (.aload_n 0, 1) := by decide +kernel
theorem dL_law_556 : decode cL_law 556 = .ok (.iload_n 3, 1) := by decide +kernel
theorem dL_law_557 : decode cL_law 557 = .ok (.iconst 1, 1) := by decide +kernel
theorem dL_law_558 : decode cL_law 558 = .ok (.iadd, 1) := by decide +kernel
theorem dL_law_559 : decode cL_law 559 = .ok (.iaload, 1) := by decide +kernel
theorem dL_law_560 : decode cL_law 560 = .ok (.aload_n 0, 1) := by decide +kernel
theorem dL_law_561 : decode cL_law 561 = .ok (.iload_n 3, 1) := by decide +kernel
theorem dL_law_562 : decode cL_law 562 = .ok (.iconst 2, 1) := by decide +kernel
theorem dL_law_563 : decode cL_law 563 = .ok (.iadd, 1) := by decide +kernel
theorem dL_law_564 : decode cL_law 564 = .ok (.iaload, 1) := by decide +kernel
theorem dL_law_565 : decode cL_law 565 = .ok (.aload_n 0, 1) := by decide +kernel
theorem dL_law_566 : decode cL_law 566 = .ok (.iload_n 3, 1) := by decide +kernel
theorem dL_law_567 : decode cL_law 567 = .ok (.iconst 3, 1) := by decide +kernel
theorem dL_law_568 : decode cL_law 568 = .ok (.iadd, 1) := by decide +kernel
theorem dL_law_569 : decode cL_law 569 = .ok (.iaload, 1) := by decide +kernel
theorem dL_law_570 : decode cL_law 570 = .ok (.invokevirtual 73, 3) := by decide +kernel
theorem dL_law_573 : decode cL_law 573 = .ok (.if_icmp .eq 213, 3) := by decide +kernel
theorem dL_law_576 : decode cL_law 576 = .ok (.iconst 0, 1) := by decide +kernel
theorem dL_law_577 : decode cL_law 577 = .ok (.ireturn, 1) := by decide +kernel
theorem dL_law_578 : decode cL_law 578 = .ok (.aload_n 1, 1) := by decide +kernel
theorem dL_law_579 : decode cL_law 579 = .ok (.aload_n 0, 1) := by decide +kernel
theorem dL_law_580 : decode cL_law 580 = .ok (.iload_n 3, 1) := by decide +kernel
theorem dL_law_581 : decode cL_law 581 = .ok (.iconst 1, 1) := by decide +kernel
theorem dL_law_582 : decode cL_law 582 = .ok (.iadd, 1) := by decide +kernel
theorem dL_law_583 : decode cL_law 583 = .ok (.iaload, 1) := by decide +kernel
theorem dL_law_584 : decode cL_law 584 = .ok (.aload_n 0, 1) := by decide +kernel
theorem dL_law_585 : decode cL_law 585 = .ok (.iload_n 3, 1) := by decide +kernel
theorem dL_law_586 : decode cL_law 586 = .ok (.iconst 2, 1) := by decide +kernel
theorem dL_law_587 : decode cL_law 587 = .ok (.iadd, 1) := by decide +kernel
theorem dL_law_588 : decode cL_law 588 = .ok (.iaload, 1) := by decide +kernel
theorem dL_law_589 : decode cL_law 589 = .ok (.invokevirtual 74, 3) := by decide +kernel
theorem dL_law_592 : decode cL_law 592 = .ok (.aload_n 2, 1) := by decide +kernel
theorem dL_law_593 : decode cL_law 593 = .ok (.aload_n 0, 1) := by decide +kernel
theorem dL_law_594 : decode cL_law 594 = .ok (.iload_n 3, 1) := by decide +kernel
theorem dL_law_595 : decode cL_law 595 = .ok (.iconst 1, 1) := by decide +kernel
theorem dL_law_596 : decode cL_law 596 = .ok (.iadd, 1) := by decide +kernel
theorem dL_law_597 : decode cL_law 597 = .ok (.iaload, 1) := by decide +kernel
theorem dL_law_598 : decode cL_law 598 = .ok (.aload_n 0, 1) := by decide +kernel
theorem dL_law_599 : decode cL_law 599 = .ok (.iload_n 3, 1) := by decide +kernel
theorem dL_law_600 : decode cL_law 600 = .ok (.iconst 2, 1) := by decide +kernel
theorem dL_law_601 : decode cL_law 601 = .ok (.iadd, 1) := by decide +kernel
theorem dL_law_602 : decode cL_law 602 = .ok (.iaload, 1) := by decide +kernel
theorem dL_law_603 : decode cL_law 603 = .ok (.invokevirtual 77, 3) := by decide +kernel
theorem dL_law_606 : decode cL_law 606 = .ok (.if_icmp .eq 180, 3) := by decide +kernel
theorem dL_law_609 : decode cL_law 609 = .ok (.iconst 0, 1) := by decide +kernel
theorem dL_law_610 : decode cL_law 610 = .ok (.ireturn, 1) := by decide +kernel
theorem dL_law_611 : decode cL_law 611 = .ok (.aload_n 1, 1) := by decide +kernel
theorem dL_law_612 : decode cL_law 612 = .ok (.aload_n 0, 1) := by decide +kernel
theorem dL_law_613 : decode cL_law 613 = .ok (.iload_n 3, 1) := by decide +kernel
theorem dL_law_614 : decode cL_law 614 = .ok (.iconst 1, 1) := by decide +kernel
theorem dL_law_615 : decode cL_law 615 = .ok (.iadd, 1) := by decide +kernel
theorem dL_law_616 : decode cL_law 616 = .ok (.iaload, 1) := by decide +kernel
theorem dL_law_617 : decode cL_law 617 = .ok (.invokevirtual 78, 3) := by decide +kernel
theorem dL_law_620 : decode cL_law 620 = .ok (.aload_n 2, 1) := by decide +kernel
theorem dL_law_621 : decode cL_law 621 = .ok (.aload_n 0, 1) := by decide +kernel
theorem dL_law_622 : decode cL_law 622 = .ok (.iload_n 3, 1) := by decide +kernel
theorem dL_law_623 : decode cL_law 623 = .ok (.iconst 1, 1) := by decide +kernel
theorem dL_law_624 : decode cL_law 624 = .ok (.iadd, 1) := by decide +kernel
theorem dL_law_625 : decode cL_law 625 = .ok (.iaload, 1) := by decide +kernel
theorem dL_law_626 : decode cL_law 626 = .ok (.invokevirtual 81, 3) := by decide +kernel
theorem dL_law_629 : decode cL_law 629 = .ok (.if_icmp .eq 157, 3) := by decide +kernel
theorem dL_law_632 : decode cL_law 632 = .ok (.iconst 0, 1) := by decide +kernel
theorem dL_law_633 : decode cL_law 633 = .ok (.ireturn, 1) := by decide +kernel
theorem dL_law_634 : decode cL_law 634 = .ok (.aload_n 1, 1) := by decide +kernel
theorem dL_law_635 : decode cL_law 635 = .ok (.aload_n 0, 1) := by decide +kernel
theorem dL_law_636 : decode cL_law 636 = .ok (.iload_n 3, 1) := by decide +kernel
theorem dL_law_637 : decode cL_law 637 = .ok (.iconst 1, 1) := by decide +kernel
theorem dL_law_638 : decode cL_law 638 = .ok (.iadd, 1) := by decide +kernel
theorem dL_law_639 : decode cL_law 639 = .ok (.iaload, 1) := by decide +kernel
theorem dL_law_640 : decode cL_law 640 = .ok (.aload_n 0, 1) := by decide +kernel
theorem dL_law_641 : decode cL_law 641 = .ok (.iload_n 3, 1) := by decide +kernel
theorem dL_law_642 : decode cL_law 642 = .ok (.iconst 2, 1) := by decide +kernel
theorem dL_law_643 : decode cL_law 643 = .ok (.iadd, 1) := by decide +kernel
theorem dL_law_644 : decode cL_law 644 = .ok (.iaload, 1) := by decide +kernel
theorem dL_law_645 : decode cL_law 645 = .ok (.invokevirtual 82, 3) := by decide +kernel
theorem dL_law_648 : decode cL_law 648 = .ok (.aload_n 2, 1) := by decide +kernel
theorem dL_law_649 : decode cL_law 649 = .ok (.aload_n 0, 1) := by decide +kernel
theorem dL_law_650 : decode cL_law 650 = .ok (.iload_n 3, 1) := by decide +kernel
theorem dL_law_651 : decode cL_law 651 = .ok (.iconst 1, 1) := by decide +kernel
theorem dL_law_652 : decode cL_law 652 = .ok (.iadd, 1) := by decide +kernel
theorem dL_law_653 : decode cL_law 653 = .ok (.iaload, 1) := by decide +kernel
theorem dL_law_654 : decode cL_law 654 = .ok (.aload_n 0, 1) := by decide +kernel
theorem dL_law_655 : decode cL_law 655 = .ok (.iload_n 3, 1) := by decide +kernel
theorem dL_law_656 : decode cL_law 656 = .ok (.iconst 2, 1) := by decide +kernel
theorem dL_law_657 : decode cL_law 657 = .ok (.iadd, 1) := by decide +kernel
theorem dL_law_658 : decode cL_law 658 = .ok (.iaload, 1) := by decide +kernel
theorem dL_law_659 : decode cL_law 659 = .ok (.invokevirtual 85, 3) := by decide +kernel
theorem dL_law_662 : decode cL_law 662 = .ok (.if_icmp .eq 124, 3) := by decide +kernel
theorem dL_law_665 : decode cL_law 665 = .ok (.iconst 0, 1) := by decide +kernel
theorem dL_law_666 : decode cL_law 666 = .ok (.ireturn, 1) := by decide +kernel
theorem dL_law_667 : decode cL_law 667 = .ok (.aload_n 1, 1) := by decide +kernel
theorem dL_law_668 : decode cL_law 668 = .ok (.aload_n 0, 1) := by decide +kernel
theorem dL_law_669 : decode cL_law 669 = .ok (.iload_n 3, 1) := by decide +kernel
theorem dL_law_670 : decode cL_law 670 = .ok (.iconst 1, 1) := by decide +kernel
theorem dL_law_671 : decode cL_law 671 = .ok (.iadd, 1) := by decide +kernel
theorem dL_law_672 : decode cL_law 672 = .ok (.iaload, 1) := by decide +kernel
theorem dL_law_673 : decode cL_law 673 = .ok (.invokevirtual 86, 3) := by decide +kernel
theorem dL_law_676 : decode cL_law 676 = .ok (.aload_n 2, 1) := by decide +kernel
theorem dL_law_677 : decode cL_law 677 = .ok (.aload_n 0, 1) := by decide +kernel
theorem dL_law_678 : decode cL_law 678 = .ok (.iload_n 3, 1) := by decide +kernel
theorem dL_law_679 : decode cL_law 679 = .ok (.iconst 1, 1) := by decide +kernel
theorem dL_law_680 : decode cL_law 680 = .ok (.iadd, 1) := by decide +kernel
theorem dL_law_681 : decode cL_law 681 = .ok (.iaload, 1) := by decide +kernel
theorem dL_law_682 : decode cL_law 682 = .ok (.invokevirtual 89, 3) := by decide +kernel
theorem dL_law_685 : decode cL_law 685 = .ok (.if_icmp .eq 101, 3) := by decide +kernel
theorem dL_law_688 : decode cL_law 688 = .ok (.iconst 0, 1) := by decide +kernel
theorem dL_law_689 : decode cL_law 689 = .ok (.ireturn, 1) := by decide +kernel
theorem dL_law_690 : decode cL_law 690 = .ok (.aload_n 1, 1) := by decide +kernel
theorem dL_law_691 : decode cL_law 691 = .ok (.aload_n 0, 1) := by decide +kernel
theorem dL_law_692 : decode cL_law 692 = .ok (.iload_n 3, 1) := by decide +kernel
theorem dL_law_693 : decode cL_law 693 = .ok (.iconst 1, 1) := by decide +kernel
theorem dL_law_694 : decode cL_law 694 = .ok (.iadd, 1) := by decide +kernel
theorem dL_law_695 : decode cL_law 695 = .ok (.iaload, 1) := by decide +kernel
theorem dL_law_696 : decode cL_law 696 = .ok (.invokevirtual 90, 3) := by decide +kernel
theorem dL_law_699 : decode cL_law 699 = .ok (.aload_n 2, 1) := by decide +kernel
theorem dL_law_700 : decode cL_law 700 = .ok (.aload_n 0, 1) := by decide +kernel
theorem dL_law_701 : decode cL_law 701 = .ok (.iload_n 3, 1) := by decide +kernel
theorem dL_law_702 : decode cL_law 702 = .ok (.iconst 1, 1) := by decide +kernel
theorem dL_law_703 : decode cL_law 703 = .ok (.iadd, 1) := by decide +kernel
theorem dL_law_704 : decode cL_law 704 = .ok (.iaload, 1) := by decide +kernel
theorem dL_law_705 : decode cL_law 705 = .ok (.invokevirtual 93, 3) := by decide +kernel
theorem dL_law_708 : decode cL_law 708 = .ok (.if_icmp .eq 78, 3) := by decide +kernel
theorem dL_law_711 : decode cL_law 711 = .ok (.iconst 0, 1) := by decide +kernel
theorem dL_law_712 : decode cL_law 712 = .ok (.ireturn, 1) := by decide +kernel
theorem dL_law_713 : decode cL_law 713 = .ok (.aload_n 1, 1) := by decide +kernel
theorem dL_law_714 : decode cL_law 714 = .ok (.aload_n 0, 1) := by decide +kernel
theorem dL_law_715 : decode cL_law 715 = .ok (.iload_n 3, 1) := by decide +kernel
theorem dL_law_716 : decode cL_law 716 = .ok (.iconst 1, 1) := by decide +kernel
theorem dL_law_717 : decode cL_law 717 = .ok (.iadd, 1) := by decide +kernel
theorem dL_law_718 : decode cL_law 718 = .ok (.iaload, 1) := by decide +kernel
theorem dL_law_719 : decode cL_law 719 = .ok (.invokevirtual 94, 3) := by decide +kernel
theorem dL_law_722 : decode cL_law 722 = .ok (.aload_n 2, 1) := by decide +kernel
theorem dL_law_723 : decode cL_law 723 = .ok (.aload_n 0, 1) := by decide +kernel
theorem dL_law_724 : decode cL_law 724 = .ok (.iload_n 3, 1) := by decide +kernel
theorem dL_law_725 : decode cL_law 725 = .ok (.iconst 1, 1) := by decide +kernel
theorem dL_law_726 : decode cL_law 726 = .ok (.iadd, 1) := by decide +kernel
theorem dL_law_727 : decode cL_law 727 = .ok (.iaload, 1) := by decide +kernel
theorem dL_law_728 : decode cL_law 728 = .ok (.invokevirtual 97, 3) := by decide +kernel
theorem dL_law_731 : decode cL_law 731 = .ok (.if_icmp .eq 55, 3) := by decide +kernel
theorem dL_law_734 : decode cL_law 734 = .ok (.iconst 0, 1) := by decide +kernel
theorem dL_law_735 : decode cL_law 735 = .ok (.ireturn, 1) := by decide +kernel
theorem dL_law_736 : decode cL_law 736 = .ok (.aload_n 1, 1) := by decide +kernel
theorem dL_law_737 : decode cL_law 737 = .ok (.aload_n 0, 1) := by decide +kernel
theorem dL_law_738 : decode cL_law 738 = .ok (.iload_n 3, 1) := by decide +kernel
theorem dL_law_739 : decode cL_law 739 = .ok (.iconst 1, 1) := by decide +kernel
theorem dL_law_740 : decode cL_law 740 = .ok (.iadd, 1) := by decide +kernel
theorem dL_law_741 : decode cL_law 741 = .ok (.iaload, 1) := by decide +kernel
theorem dL_law_742 : decode cL_law 742 = .ok (.invokevirtual 98, 3) := by decide +kernel
theorem dL_law_745 : decode cL_law 745 = .ok (.aload_n 2, 1) := by decide +kernel
theorem dL_law_746 : decode cL_law 746 = .ok (.aload_n 0, 1) := by decide +kernel
theorem dL_law_747 : decode cL_law 747 = .ok (.iload_n 3, 1) := by decide +kernel
theorem dL_law_748 : decode cL_law 748 = .ok (.iconst 1, 1) := by decide +kernel
theorem dL_law_749 : decode cL_law 749 = .ok (.iadd, 1) := by decide +kernel
theorem dL_law_750 : decode cL_law 750 = .ok (.iaload, 1) := by decide +kernel
theorem dL_law_751 : decode cL_law 751 = .ok (.invokevirtual 101, 3) := by decide +kernel
theorem dL_law_754 : decode cL_law 754 = .ok (.if_icmp .eq 32, 3) := by decide +kernel
theorem dL_law_757 : decode cL_law 757 = .ok (.iconst 0, 1) := by decide +kernel
theorem dL_law_758 : decode cL_law 758 = .ok (.ireturn, 1) := by decide +kernel
theorem dL_law_759 : decode cL_law 759 = .ok (.aload_n 1, 1) := by decide +kernel
theorem dL_law_760 : decode cL_law 760 = .ok (.invokevirtual 102, 3) := by decide +kernel
theorem dL_law_763 : decode cL_law 763 = .ok (.aload_n 2, 1) := by decide +kernel
theorem dL_law_764 : decode cL_law 764 = .ok (.invokevirtual 105, 3) := by decide +kernel
theorem dL_law_767 : decode cL_law 767 = .ok (.if_icmp .eq 19, 3) := by decide +kernel
theorem dL_law_770 : decode cL_law 770 = .ok (.iconst 0, 1) := by decide +kernel
theorem dL_law_771 : decode cL_law 771 = .ok (.ireturn, 1) := by decide +kernel
theorem dL_law_772 : decode cL_law 772 = .ok (.aload_n 1, 1) := by decide +kernel
theorem dL_law_773 : decode cL_law 773 = .ok (.invokevirtual 106, 3) := by decide +kernel
theorem dL_law_776 : decode cL_law 776 = .ok (.aload_n 2, 1) := by decide +kernel
theorem dL_law_777 : decode cL_law 777 = .ok (.invokevirtual 110, 3) := by decide +kernel
theorem dL_law_780 : decode cL_law 780 = .ok (.lcmp, 1) := by decide +kernel
theorem dL_law_781 : decode cL_law 781 = .ok (.ifCond .eq 5, 3) := by decide +kernel
theorem dL_law_784 : decode cL_law 784 = .ok (.iconst 0, 1) := by decide +kernel
theorem dL_law_785 : decode cL_law 785 = .ok (.ireturn, 1) := by decide +kernel
theorem dL_law_786 : decode cL_law 786 = .ok (.iinc 3 4, 3) := by decide +kernel
theorem dL_law_789 : decode cL_law 789 = .ok (.goto (-771), 3) := by decide +kernel
theorem dL_law_792 : decode cL_law 792 = .ok (.iconst 1, 1) := by decide +kernel
theorem dL_law_793 : decode cL_law 793 = .ok (.ireturn, 1) := by decide +kernel
end
section
theorem dX10_init_0 : decode cX10_init 0 = .ok (.aload_n 0, 1) := by decide +kernel
theorem dX10_init_1 : decode cX10_init 1 = .ok (.invokespecial 1, 3) := by decide +kernel
theorem dX10_init_4 : decode cX10_init 4 = .ok (.aload_n 0, 1) := by decide +kernel
theorem dX10_init_5 : decode cX10_init 5 = .ok (.sipush 12960, 3) := by decide +kernel
theorem dX10_init_8 : decode cX10_init 8 = .ok (.newarray .int, 2) := by decide +kernel
theorem dX10_init_10 : decode cX10_init 10 = .ok (.putfield 7, 3) := by decide +kernel
theorem dX10_init_13 : decode cX10_init 13 = .ok (.aload_n 0, 1) := by decide +kernel
theorem dX10_init_14 : decode cX10_init 14 = .ok (.bipush 40, 2) := by decide +kernel
theorem dX10_init_16 : decode cX10_init 16 = .ok (.newarray .int, 2) := by decide +kernel
theorem dX10_init_18 : decode cX10_init 18 = .ok (.putfield 13, 3) := by decide +kernel
theorem dX10_init_21 : decode cX10_init 21 = .ok (.aload_n 0, 1) := by decide +kernel
theorem dX10_init_22 : decode cX10_init 22 = .ok (.bipush 16, 2) := by decide +kernel
theorem dX10_init_24 : decode cX10_init 24 = .ok (.newarray .int, 2) := by decide +kernel
theorem dX10_init_26 : decode cX10_init 26 = .ok (.putfield 16, 3) := by decide +kernel
theorem dX10_init_29 : decode cX10_init 29 = .ok (.aload_n 0, 1) := by decide +kernel
theorem dX10_init_30 : decode cX10_init 30 = .ok (.bipush 16, 2) := by decide +kernel
theorem dX10_init_32 : decode cX10_init 32 = .ok (.newarray .int, 2) := by decide +kernel
theorem dX10_init_34 : decode cX10_init 34 = .ok (.putfield 19, 3) := by decide +kernel
theorem dX10_init_37 : decode cX10_init 37 = .ok (.aload_n 0, 1) := by decide +kernel
theorem dX10_init_38 : decode cX10_init 38 = .ok (.bipush 16, 2) := by decide +kernel
theorem dX10_init_40 : decode cX10_init 40 = .ok (.newarray .int, 2) := by decide +kernel
theorem dX10_init_42 : decode cX10_init 42 = .ok (.putfield 22, 3) := by decide +kernel
theorem dX10_init_45 : decode cX10_init 45 = .ok (.aload_n 0, 1) := by decide +kernel
theorem dX10_init_46 : decode cX10_init 46 = .ok (.bipush 16, 2) := by decide +kernel
theorem dX10_init_48 : decode cX10_init 48 = .ok (.newarray .int, 2) := by decide +kernel
theorem dX10_init_50 : decode cX10_init 50 = .ok (.putfield 25, 3) := by decide +kernel
theorem dX10_init_53 : decode cX10_init 53 = .ok (.aload_n 0, 1) := by decide +kernel
theorem dX10_init_54 : decode cX10_init 54 = .ok (.bipush 16, 2) := by decide +kernel
theorem dX10_init_56 : decode cX10_init 56 = .ok (.newarray .int, 2) := by decide +kernel
theorem dX10_init_58 : decode cX10_init 58 = .ok (.putfield 28, 3) := by decide +kernel
theorem dX10_init_61 : decode cX10_init 61 = .ok (.aload_n 0, 1) := by decide +kernel
theorem dX10_init_62 : decode cX10_init 62 = .ok (.bipush 16, 2) := by decide +kernel
theorem dX10_init_64 : decode cX10_init 64 = .ok (.newarray .int, 2) := by decide +kernel
theorem dX10_init_66 : decode cX10_init 66 = .ok (.putfield 31, 3) := by decide +kernel
theorem dX10_init_69 : decode cX10_init 69 = .ok (.aload_n 0, 1) := by decide +kernel
theorem dX10_init_70 : decode cX10_init 70 = .ok (.bipush 16, 2) := by decide +kernel
theorem dX10_init_72 : decode cX10_init 72 = .ok (.newarray .int, 2) := by decide +kernel
theorem dX10_init_74 : decode cX10_init 74 = .ok (.putfield 34, 3) := by decide +kernel
theorem dX10_init_77 : decode cX10_init 77 = .ok (.aload_n 0, 1) := by decide +kernel
theorem dX10_init_78 : decode cX10_init 78 = .ok (.bipush 16, 2) := by decide +kernel
theorem dX10_init_80 : decode cX10_init 80 = .ok (.newarray .int, 2) := by decide +kernel
theorem dX10_init_82 : decode cX10_init 82 = .ok (.putfield 37, 3) := by decide +kernel
theorem dX10_init_85 : decode cX10_init 85 = .ok (.aload_n 0, 1) := by decide +kernel
theorem dX10_init_86 : decode cX10_init 86 = .ok (.bipush 16, 2) := by decide +kernel
theorem dX10_init_88 : decode cX10_init 88 = .ok (.newarray .int, 2) := by decide +kernel
theorem dX10_init_90 : decode cX10_init 90 = .ok (.putfield 40, 3) := by decide +kernel
theorem dX10_init_93 : decode cX10_init 93 = .ok (.aload_n 0, 1) := by decide +kernel
theorem dX10_init_94 : decode cX10_init 94 = .ok (.bipush 16, 2) := by decide +kernel
theorem dX10_init_96 : decode cX10_init 96 = .ok (.newarray .int, 2) := by decide +kernel
theorem dX10_init_98 : decode cX10_init 98 = .ok (.putfield 43, 3) := by decide +kernel
theorem dX10_init_101 : decode cX10_init 101 = .ok (.aload_n 0, 1) := by decide +kernel
theorem dX10_init_102 : decode cX10_init 102 = .ok (.sipush 1344, 3) := by decide +kernel
theorem dX10_init_105 : decode cX10_init 105 = .ok (.newarray .int, 2) := by decide +kernel
theorem dX10_init_107 : decode cX10_init 107 = .ok (.putfield 46, 3) := by decide +kernel
theorem dX10_init_110 : decode cX10_init 110 = .ok (.aload_n 0, 1) := by decide +kernel
theorem dX10_init_111 : decode cX10_init 111 = .ok (.getfield 7, 3) := by decide +kernel
theorem dX10_init_114 : decode cX10_init 114 = .ok (.sipush 1435, 3) := by decide +kernel
theorem dX10_init_117 : decode cX10_init 117 = .ok (.iconst 2, 1) := by decide +kernel
theorem dX10_init_118 : decode cX10_init 118 = .ok (.iastore, 1) := by decide +kernel
theorem dX10_init_119 : decode cX10_init 119 = .ok (.aload_n 0, 1) := by decide +kernel
theorem dX10_init_120 : decode cX10_init 120 = .ok (.getfield 7, 3) := by decide +kernel
theorem dX10_init_123 : decode cX10_init 123 = .ok (.sipush 1436, 3) := by decide +kernel
theorem dX10_init_126 : decode cX10_init 126 = .ok (.bipush 24, 2) := by decide +kernel
theorem dX10_init_128 : decode cX10_init 128 = .ok (.iastore, 1) := by decide +kernel
theorem dX10_init_129 : decode cX10_init 129 = .ok (.aload_n 0, 1) := by decide +kernel
theorem dX10_init_130 : decode cX10_init 130 = .ok (.getfield 7, 3) := by decide +kernel
theorem dX10_init_133 : decode cX10_init 133 = .ok (.sipush 1437, 3) := by decide +kernel
theorem dX10_init_136 : decode cX10_init 136 = .ok (.iconst 2, 1) := by decide +kernel
theorem dX10_init_137 : decode cX10_init 137 = .ok (.iastore, 1) := by decide +kernel
theorem dX10_init_138 : decode cX10_init 138 = .ok (.aload_n 0, 1) := by decide +kernel
theorem dX10_init_139 : decode cX10_init 139 = .ok (.getfield 7, 3) := by decide +kernel
theorem dX10_init_142 : decode cX10_init 142 = .ok (.sipush 1438, 3) := by decide +kernel
theorem dX10_init_145 : decode cX10_init 145 = .ok (.bipush 6, 2) := by decide +kernel
theorem dX10_init_147 : decode cX10_init 147 = .ok (.iastore, 1) := by decide +kernel
theorem dX10_init_148 : decode cX10_init 148 = .ok (.aload_n 0, 1) := by decide +kernel
theorem dX10_init_149 : decode cX10_init 149 = .ok (.getfield 7, 3) := by decide +kernel
theorem dX10_init_152 : decode cX10_init 152 = .ok (.sipush 1439, 3) := by decide +kernel
theorem dX10_init_155 : decode cX10_init 155 = .ok (.bipush 16, 2) := by decide +kernel
theorem dX10_init_157 : decode cX10_init 157 = .ok (.iastore, 1) := by decide +kernel
theorem dX10_init_158 : decode cX10_init 158 = .ok (.return_, 1) := by decide +kernel
theorem dX10_in_0 : decode cX10_in 0 = .ok (.iload_n 0, 1) := by decide +kernel
theorem dX10_in_1 : decode cX10_in 1 = .ok (.iload_n 1, 1) := by decide +kernel
theorem dX10_in_2 : decode cX10_in 2 = .ok (.if_icmp .lt 12, 3) := by decide +kernel
theorem dX10_in_5 : decode cX10_in 5 = .ok (.iload_n 0, 1) := by decide +kernel
theorem dX10_in_6 : decode cX10_in 6 = .ok (.iload_n 2, 1) := by decide +kernel
theorem dX10_in_7 : decode cX10_in 7 = .ok (.if_icmp .gt 7, 3) := by decide +kernel
theorem dX10_in_10 : decode cX10_in 10 = .ok (.iconst 1, 1) := by decide +kernel
theorem dX10_in_11 : decode cX10_in 11 = .ok (.goto 4, 3) := by decide +kernel
theorem dX10_in_14 : decode cX10_in 14 = .ok (.iconst 0, 1) := by decide +kernel
theorem dX10_in_15 : decode cX10_in 15 = .ok (.ireturn, 1) := by decide +kernel
theorem dX10_records_0 : decode cX10_records 0 = .ok (.aload_n 0, 1) := by decide +kernel
theorem dX10_records_1 : decode cX10_records 1 = .ok (.getfield 49, 3) := by decide +kernel
theorem dX10_records_4 : decode cX10_records 4 = .ok (.bipush 8, 2) := by decide +kernel
theorem dX10_records_6 : decode cX10_records 6 = .ok (.if_icmp .ne 46, 3) := by decide +kernel
theorem dX10_records_9 : decode cX10_records 9 = .ok (.sipush 1440, 3) := by decide +kernel
theorem dX10_records_12 : decode cX10_records 12 = .ok (.istore_n 1, 1) := by decide +kernel
theorem dX10_records_13 : decode cX10_records 13 = .ok (.iload_n 1, 1) := by decide +kernel
theorem dX10_records_14 : decode cX10_records 14 = .ok (.sipush 11520, 3) := by decide +kernel
theorem dX10_records_17 : decode cX10_records 17 = .ok (.if_icmp .ge 25, 3) := by decide +kernel
theorem dX10_records_20 : decode cX10_records 20 = .ok (.aload_n 0, 1) := by decide +kernel
theorem dX10_records_21 : decode cX10_records 21 = .ok (.getfield 7, 3) := by decide +kernel
theorem dX10_records_24 : decode cX10_records 24 = .ok (.iload_n 1, 1) := by decide +kernel
theorem dX10_records_25 : decode cX10_records 25 = .ok (.aload_n 0, 1) := by decide +kernel
theorem dX10_records_26 : decode cX10_records 26 = .ok (.getfield 7, 3) := by decide +kernel
theorem dX10_records_29 : decode cX10_records 29 = .ok (.iload_n 1, 1) := by decide +kernel
theorem dX10_records_30 : decode cX10_records 30 = .ok (.sipush 1440, 3) := by decide +kernel
theorem dX10_records_33 : decode cX10_records 33 = .ok (.iadd, 1) := by decide +kernel
theorem dX10_records_34 : decode cX10_records 34 = .ok (.iaload, 1) := by decide +kernel
theorem dX10_records_35 : decode cX10_records 35 = .ok (.iastore, 1) := by decide +kernel
theorem dX10_records_36 : decode cX10_records 36 = .ok (.iinc 1 1, 3) := by decide +kernel
theorem dX10_records_39 : decode cX10_records 39 = .ok (.goto (-26), 3) := by decide +kernel
theorem dX10_records_42 : decode cX10_records 42 = .ok (.aload_n 0, 1) := by decide +kernel
theorem dX10_records_43 : decode cX10_records 43 = .ok (.dup, 1) := by decide +kernel
theorem dX10_records_44 : decode cX10_records 44 = .ok (.getfield 49, 3) := by decide +kernel
theorem dX10_records_47 : decode cX10_records 47 = .ok (.iconst 1, 1) := by decide +kernel
theorem dX10_records_48 : decode cX10_records 48 = .ok (.isub, 1) := by decide +kernel
theorem dX10_records_49 : decode cX10_records 49 = .ok (.putfield 49, 3) := by decide +kernel
theorem dX10_records_52 : decode cX10_records 52 = .ok (.aload_n 0, 1) := by decide +kernel
theorem dX10_records_53 : decode cX10_records 53 = .ok (.dup, 1) := by decide +kernel
theorem dX10_records_54 : decode cX10_records 54 = .ok (.getfield 49, 3) := by decide +kernel
theorem dX10_records_57 : decode cX10_records 57 = .ok (.iconst 1, 1) := by decide +kernel
theorem dX10_records_58 : decode cX10_records 58 = .ok (.iadd, 1) := by decide +kernel
theorem dX10_records_59 : decode cX10_records 59 = .ok (.putfield 49, 3) := by decide +kernel
theorem dX10_records_62 : decode cX10_records 62 = .ok (.iconst 0, 1) := by decide +kernel
theorem dX10_records_63 : decode cX10_records 63 = .ok (.istore_n 1, 1) := by decide +kernel
theorem dX10_records_64 : decode cX10_records 64 = .ok (.iload_n 1, 1) := by decide +kernel
theorem dX10_records_65 : decode cX10_records 65 = .ok (.sipush 1440, 3) := by decide +kernel
theorem dX10_records_68 : decode cX10_records 68 = .ok (.if_icmp .ge 30, 3) := by decide +kernel
theorem dX10_records_71 : decode cX10_records 71 = .ok (.aload_n 0, 1) := by decide +kernel
theorem dX10_records_72 : decode cX10_records 72 = .ok (.getfield 7, 3) := by decide +kernel
theorem dX10_records_75 : decode cX10_records 75 = .ok (.sipush 1440, 3) := by decide +kernel
theorem dX10_records_78 : decode cX10_records 78 = .ok (.aload_n 0, 1) := by decide +kernel
theorem dX10_records_79 : decode cX10_records 79 = .ok (.getfield 49, 3) := by decide +kernel
theorem dX10_records_82 : decode cX10_records 82 = .ok (.imul, 1) := by decide +kernel
theorem dX10_records_83 : decode cX10_records 83 = .ok (.iload_n 1, 1) := by decide +kernel
theorem dX10_records_84 : decode cX10_records 84 = .ok (.iadd, 1) := by decide +kernel
theorem dX10_records_85 : decode cX10_records 85 = .ok (.aload_n 0, 1) := by decide +kernel
theorem dX10_records_86 : decode cX10_records 86 = .ok (.getfield 7, 3) := by decide +kernel
theorem dX10_records_89 : decode cX10_records 89 = .ok (.iload_n 1, 1) := by decide +kernel
theorem dX10_records_90 : decode cX10_records 90 = .ok (.iaload, 1) := by decide +kernel
theorem dX10_records_91 : decode cX10_records 91 = .ok (.iastore, 1) := by decide +kernel
theorem dX10_records_92 : decode cX10_records 92 = .ok (.iinc 1 1, 3) := by decide +kernel
theorem dX10_records_95 : decode cX10_records 95 = .ok (.goto (-31), 3) := by decide +kernel
theorem dX10_records_98 : decode cX10_records 98 = .ok (.return_, 1) := by decide +kernel
theorem dX10_setting_0 : decode cX10_setting 0 = .ok (.aload_n 0, 1) := by decide +kernel
theorem dX10_setting_1 : decode cX10_setting 1 = .ok (.getfield 7, 3) := by decide +kernel
theorem dX10_setting_4 : decode cX10_setting 4 = .ok (.sipush 1435, 3) := by decide +kernel
theorem dX10_setting_7 : decode cX10_setting 7 = .ok (.iload_n 1, 1) := by decide +kernel
theorem dX10_setting_8 : decode cX10_setting 8 = .ok (.iadd, 1) := by decide +kernel
theorem dX10_setting_9 : decode cX10_setting 9 = .ok (.iaload, 1) := by decide +kernel
theorem dX10_setting_10 : decode cX10_setting 10 = .ok (.ireturn, 1) := by decide +kernel
theorem dX10_pieceFirst_0 : decode cX10_pieceFirst 0 = .ok (.aload_n 0, 1) := by decide +kernel
theorem dX10_pieceFirst_1 : decode cX10_pieceFirst 1 = .ok (.getfield 7, 3) := by decide +kernel
theorem dX10_pieceFirst_4 : decode cX10_pieceFirst 4 = .ok (.iconst 1, 1) := by decide +kernel
theorem dX10_pieceFirst_5 : decode cX10_pieceFirst 5 = .ok (.iconst 2, 1) := by decide +kernel
theorem dX10_pieceFirst_6 : decode cX10_pieceFirst 6 = .ok (.iload_n 1, 1) := by decide +kernel
theorem dX10_pieceFirst_7 : decode cX10_pieceFirst 7 = .ok (.imul, 1) := by decide +kernel
theorem dX10_pieceFirst_8 : decode cX10_pieceFirst 8 = .ok (.iadd, 1) := by decide +kernel
theorem dX10_pieceFirst_9 : decode cX10_pieceFirst 9 = .ok (.iaload, 1) := by decide +kernel
theorem dX10_pieceFirst_10 : decode cX10_pieceFirst 10 = .ok (.ireturn, 1) := by decide +kernel
theorem dX10_pieceLong_0 : decode cX10_pieceLong 0 = .ok (.aload_n 0, 1) := by decide +kernel
theorem dX10_pieceLong_1 : decode cX10_pieceLong 1 = .ok (.getfield 7, 3) := by decide +kernel
theorem dX10_pieceLong_4 : decode cX10_pieceLong 4 = .ok (.iconst 1, 1) := by decide +kernel
theorem dX10_pieceLong_5 : decode cX10_pieceLong 5 = .ok (.iconst 2, 1) := by decide +kernel
theorem dX10_pieceLong_6 : decode cX10_pieceLong 6 = .ok (.iload_n 1, 1) := by decide +kernel
theorem dX10_pieceLong_7 : decode cX10_pieceLong 7 = .ok (.imul, 1) := by decide +kernel
theorem dX10_pieceLong_8 : decode cX10_pieceLong 8 = .ok (.iadd, 1) := by decide +kernel
theorem dX10_pieceLong_9 : decode cX10_pieceLong 9 = .ok (.iconst 1, 1) := by decide +kernel
theorem dX10_pieceLong_10 : decode cX10_pieceLong 10 = .ok (.iadd, 1) := by decide +kernel
theorem dX10_pieceLong_11 : decode cX10_pieceLong 11 = .ok (.iaload, 1) := by decide +kernel
theorem dX10_pieceLong_12 : decode cX10_pieceLong 12 = .ok (.ireturn, 1) := by decide +kernel
theorem dX10_pieceNew_0 : decode cX10_pieceNew 0 = .ok (.iconst 0, 1) := by decide +kernel
theorem dX10_pieceNew_1 : decode cX10_pieceNew 1 = .ok (.istore_n 2, 1) := by decide +kernel
theorem dX10_pieceNew_2 : decode cX10_pieceNew 2 = .ok (.iconst 0, 1) := by decide +kernel
theorem dX10_pieceNew_3 : decode cX10_pieceNew 3 = .ok (.istore_n 3, 1) := by decide +kernel
theorem dX10_pieceNew_4 : decode cX10_pieceNew 4 = .ok (.iload_n 3, 1) := by decide +kernel
theorem dX10_pieceNew_5 : decode cX10_pieceNew 5 = .ok (.iload_n 1, 1) := by decide +kernel
theorem dX10_pieceNew_6 : decode cX10_pieceNew 6 = .ok (.if_icmp .ge 17, 3) := by decide +kernel
theorem dX10_pieceNew_9 : decode cX10_pieceNew 9 = .ok (.iload_n 2, 1) := by decide +kernel
theorem dX10_pieceNew_10 : decode cX10_pieceNew 10 = .ok (.aload_n 0, 1) := by decide +kernel
theorem dX10_pieceNew_11 : decode cX10_pieceNew 11 = .ok (.iload_n 3, 1) := by decide +kernel
theorem dX10_pieceNew_12 : decode cX10_pieceNew 12 = .ok (.invokevirtual 53, 3) := by decide +kernel
theorem dX10_pieceNew_15 : decode cX10_pieceNew 15 = .ok (.iadd, 1) := by decide +kernel
theorem dX10_pieceNew_16 : decode cX10_pieceNew 16 = .ok (.istore_n 2, 1) := by decide +kernel
theorem dX10_pieceNew_17 : decode cX10_pieceNew 17 = .ok (.iinc 3 1, 3) := by decide +kernel
theorem dX10_pieceNew_20 : decode cX10_pieceNew 20 = .ok (.goto (-16), 3) := by decide +kernel
theorem dX10_pieceNew_23 : decode cX10_pieceNew 23 = .ok (.iload_n 2, 1) := by decide +kernel
theorem dX10_pieceNew_24 : decode cX10_pieceNew 24 = .ok (.ireturn, 1) := by decide +kernel
theorem dX10_newLong_0 : decode cX10_newLong 0 = .ok (.aload_n 0, 1) := by decide +kernel
theorem dX10_newLong_1 : decode cX10_newLong 1 = .ok (.aload_n 0, 1) := by decide +kernel
theorem dX10_newLong_2 : decode cX10_newLong 2 = .ok (.getfield 7, 3) := by decide +kernel
theorem dX10_newLong_5 : decode cX10_newLong 5 = .ok (.iconst 0, 1) := by decide +kernel
theorem dX10_newLong_6 : decode cX10_newLong 6 = .ok (.iaload, 1) := by decide +kernel
theorem dX10_newLong_7 : decode cX10_newLong 7 = .ok (.invokevirtual 57, 3) := by decide +kernel
theorem dX10_newLong_10 : decode cX10_newLong 10 = .ok (.ireturn, 1) := by decide +kernel
theorem dX10_isPiece_0 : decode cX10_isPiece 0 = .ok (.iload_n 1, 1) := by decide +kernel
theorem dX10_isPiece_1 : decode cX10_isPiece 1 = .ok (.iconst 0, 1) := by decide +kernel
theorem dX10_isPiece_2 : decode cX10_isPiece 2 = .ok (.aload_n 0, 1) := by decide +kernel
theorem dX10_isPiece_3 : decode cX10_isPiece 3 = .ok (.getfield 7, 3) := by decide +kernel
theorem dX10_isPiece_6 : decode cX10_isPiece 6 = .ok (.iconst 0, 1) := by decide +kernel
theorem dX10_isPiece_7 : decode cX10_isPiece 7 = .ok (.iaload, 1) := by decide +kernel
theorem dX10_isPiece_8 : decode cX10_isPiece 8 = .ok (.iconst 1, 1) := by decide +kernel
theorem dX10_isPiece_9 : decode cX10_isPiece 9 = .ok (.isub, 1) := by decide +kernel
theorem dX10_isPiece_10 : decode cX10_isPiece 10 = .ok (.invokestatic 60, 3) := by decide +kernel
theorem dX10_isPiece_13 : decode cX10_isPiece 13 = .ok (.ireturn, 1) := by decide +kernel
theorem dX10_piece_0 : decode cX10_piece 0 = .ok (.iload_n 1, 1) := by decide +kernel
theorem dX10_piece_1 : decode cX10_piece 1 = .ok (.iconst 0, 1) := by decide +kernel
theorem dX10_piece_2 : decode cX10_piece 2 = .ok (.sipush 9999, 3) := by decide +kernel
theorem dX10_piece_5 : decode cX10_piece 5 = .ok (.invokestatic 60, 3) := by decide +kernel
theorem dX10_piece_8 : decode cX10_piece 8 = .ok (.ifCond .eq 23, 3) := by decide +kernel
theorem dX10_piece_11 : decode cX10_piece 11 = .ok (.iload_n 2, 1) := by decide +kernel
theorem dX10_piece_12 : decode cX10_piece 12 = .ok (.iconst 1, 1) := by decide +kernel
theorem dX10_piece_13 : decode cX10_piece 13 = .ok (.sipush 5000, 3) := by decide +kernel
theorem dX10_piece_16 : decode cX10_piece 16 = .ok (.invokestatic 60, 3) := by decide +kernel
theorem dX10_piece_19 : decode cX10_piece 19 = .ok (.ifCond .eq 12, 3) := by decide +kernel
theorem dX10_piece_22 : decode cX10_piece 22 = .ok (.iload_n 1, 1) := by decide +kernel
theorem dX10_piece_23 : decode cX10_piece 23 = .ok (.iload_n 2, 1) := by decide +kernel
theorem dX10_piece_24 : decode cX10_piece 24 = .ok (.iadd, 1) := by decide +kernel
theorem dX10_piece_25 : decode cX10_piece 25 = .ok (.sipush 10000, 3) := by decide +kernel
theorem dX10_piece_28 : decode cX10_piece 28 = .ok (.if_icmp .le 5, 3) := by decide +kernel
theorem dX10_piece_31 : decode cX10_piece 31 = .ok (.iconst (-1), 1) := by decide +kernel
theorem dX10_piece_32 : decode cX10_piece 32 = .ok (.ireturn, 1) := by decide +kernel
theorem dX10_piece_33 : decode cX10_piece 33 = .ok (.aload_n 0, 1) := by decide +kernel
theorem dX10_piece_34 : decode cX10_piece 34 = .ok (.getfield 7, 3) := by decide +kernel
theorem dX10_piece_37 : decode cX10_piece 37 = .ok (.iconst 0, 1) := by decide +kernel
theorem dX10_piece_38 : decode cX10_piece 38 = .ok (.iaload, 1) := by decide +kernel
theorem dX10_piece_39 : decode cX10_piece 39 = .ok (.bipush 10, 2) := by decide +kernel
theorem dX10_piece_41 : decode cX10_piece 41 = .ok (.if_icmp .eq 15, 3) := by decide +kernel
theorem dX10_piece_44 : decode cX10_piece 44 = .ok (.aload_n 0, 1) := by decide +kernel
theorem dX10_piece_45 : decode cX10_piece 45 = .ok (.invokevirtual 64, 3) := by decide +kernel
theorem dX10_piece_48 : decode cX10_piece 48 = .ok (.iload_n 2, 1) := by decide +kernel
theorem dX10_piece_49 : decode cX10_piece 49 = .ok (.iadd, 1) := by decide +kernel
theorem dX10_piece_50 : decode cX10_piece 50 = .ok (.sipush 9999, 3) := by decide +kernel
theorem dX10_piece_53 : decode cX10_piece 53 = .ok (.if_icmp .le 6, 3) := by decide +kernel
theorem dX10_piece_56 : decode cX10_piece 56 = .ok (.bipush (-3), 2) := by decide +kernel
theorem dX10_piece_58 : decode cX10_piece 58 = .ok (.ireturn, 1) := by decide +kernel
theorem dX10_piece_59 : decode cX10_piece 59 = .ok (.aload_n 0, 1) := by decide +kernel
theorem dX10_piece_60 : decode cX10_piece 60 = .ok (.invokevirtual 68, 3) := by decide +kernel
theorem dX10_piece_63 : decode cX10_piece 63 = .ok (.aload_n 0, 1) := by decide +kernel
theorem dX10_piece_64 : decode cX10_piece 64 = .ok (.getfield 7, 3) := by decide +kernel
theorem dX10_piece_67 : decode cX10_piece 67 = .ok (.iconst 0, 1) := by decide +kernel
theorem dX10_piece_68 : decode cX10_piece 68 = .ok (.iaload, 1) := by decide +kernel
theorem dX10_piece_69 : decode cX10_piece 69 = .ok (.istore_n 3, 1) := by decide +kernel
theorem dX10_piece_70 : decode cX10_piece 70 = .ok (.aload_n 0, 1) := by decide +kernel
theorem dX10_piece_71 : decode cX10_piece 71 = .ok (.getfield 7, 3) := by decide +kernel
theorem dX10_piece_74 : decode cX10_piece 74 = .ok (.iconst 1, 1) := by decide +kernel
theorem dX10_piece_75 : decode cX10_piece 75 = .ok (.iconst 2, 1) := by decide +kernel
theorem dX10_piece_76 : decode cX10_piece 76 = .ok (.iload_n 3, 1) := by decide +kernel
theorem dX10_piece_77 : decode cX10_piece 77 = .ok (.imul, 1) := by decide +kernel
theorem dX10_piece_78 : decode cX10_piece 78 = .ok (.iadd, 1) := by decide +kernel
theorem dX10_piece_79 : decode cX10_piece 79 = .ok (.iload_n 1, 1) := by decide +kernel
theorem dX10_piece_80 : decode cX10_piece 80 = .ok (.iastore, 1) := by decide +kernel
theorem dX10_piece_81 : decode cX10_piece 81 = .ok (.aload_n 0, 1) := by decide +kernel
theorem dX10_piece_82 : decode cX10_piece 82 = .ok (.getfield 7, 3) := by decide +kernel
theorem dX10_piece_85 : decode cX10_piece 85 = .ok (.iconst 1, 1) := by decide +kernel
theorem dX10_piece_86 : decode cX10_piece 86 = .ok (.iconst 2, 1) := by decide +kernel
theorem dX10_piece_87 : decode cX10_piece 87 = .ok (.iload_n 3, 1) := by decide +kernel
theorem dX10_piece_88 : decode cX10_piece 88 = .ok (.imul, 1) := by decide +kernel
theorem dX10_piece_89 : decode cX10_piece 89 = .ok (.iadd, 1) := by decide +kernel
theorem dX10_piece_90 : decode cX10_piece 90 = .ok (.iconst 1, 1) := by decide +kernel
theorem dX10_piece_91 : decode cX10_piece 91 = .ok (.iadd, 1) := by decide +kernel
theorem dX10_piece_92 : decode cX10_piece 92 = .ok (.iload_n 2, 1) := by decide +kernel
theorem dX10_piece_93 : decode cX10_piece 93 = .ok (.iastore, 1) := by decide +kernel
theorem dX10_piece_94 : decode cX10_piece 94 = .ok (.aload_n 0, 1) := by decide +kernel
theorem dX10_piece_95 : decode cX10_piece 95 = .ok (.getfield 7, 3) := by decide +kernel
theorem dX10_piece_98 : decode cX10_piece 98 = .ok (.iconst 0, 1) := by decide +kernel
theorem dX10_piece_99 : decode cX10_piece 99 = .ok (.dup2, 1) := by decide +kernel
theorem dX10_piece_100 : decode cX10_piece 100 = .ok (.iaload, 1) := by decide +kernel
theorem dX10_piece_101 : decode cX10_piece 101 = .ok (.iconst 1, 1) := by decide +kernel
theorem dX10_piece_102 : decode cX10_piece 102 = .ok (.iadd, 1) := by decide +kernel
theorem dX10_piece_103 : decode cX10_piece 103 = .ok (.iastore, 1) := by decide +kernel
theorem dX10_piece_104 : decode cX10_piece 104 = .ok (.iload_n 3, 1) := by decide +kernel
theorem dX10_piece_105 : decode cX10_piece 105 = .ok (.ireturn, 1) := by decide +kernel
theorem dX10_dropPiece_0 : decode cX10_dropPiece 0 = .ok (.aload_n 0, 1) := by decide +kernel
theorem dX10_dropPiece_1 : decode cX10_dropPiece 1 = .ok (.iload_n 1, 1) := by decide +kernel
theorem dX10_dropPiece_2 : decode cX10_dropPiece 2 = .ok (.invokevirtual 71, 3) := by decide +kernel
theorem dX10_dropPiece_5 : decode cX10_dropPiece 5 = .ok (.ifCond .ne 5, 3) := by decide +kernel
theorem dX10_dropPiece_8 : decode cX10_dropPiece 8 = .ok (.iconst (-1), 1) := by decide +kernel
theorem dX10_dropPiece_9 : decode cX10_dropPiece 9 = .ok (.ireturn, 1) := by decide +kernel
theorem dX10_dropPiece_10 : decode cX10_dropPiece 10 = .ok (.aload_n 0, 1) := by decide +kernel
theorem dX10_dropPiece_11 : decode cX10_dropPiece 11 = .ok (.invokevirtual 68, 3) := by decide +kernel
theorem dX10_dropPiece_14 : decode cX10_dropPiece 14 = .ok (.aload_n 0, 1) := by decide +kernel
theorem dX10_dropPiece_15 : decode cX10_dropPiece 15 = .ok (.getfield 7, 3) := by decide +kernel
theorem dX10_dropPiece_18 : decode cX10_dropPiece 18 = .ok (.iconst 0, 1) := by decide +kernel
theorem dX10_dropPiece_19 : decode cX10_dropPiece 19 = .ok (.dup2, 1) := by decide +kernel
theorem dX10_dropPiece_20 : decode cX10_dropPiece 20 = .ok (.iaload, 1) := by decide +kernel
theorem dX10_dropPiece_21 : decode cX10_dropPiece 21 = .ok (.iconst 1, 1) := by decide +kernel
theorem dX10_dropPiece_22 : decode cX10_dropPiece 22 = .ok (.isub, 1) := by decide +kernel
theorem dX10_dropPiece_23 : decode cX10_dropPiece 23 = .ok (.iastore, 1) := by decide +kernel
theorem dX10_dropPiece_24 : decode cX10_dropPiece 24 = .ok (.iconst 1, 1) := by decide +kernel
theorem dX10_dropPiece_25 : decode cX10_dropPiece 25 = .ok (.iconst 2, 1) := by decide +kernel
theorem dX10_dropPiece_26 : decode cX10_dropPiece 26 = .ok (.iload_n 1, 1) := by decide +kernel
theorem dX10_dropPiece_27 : decode cX10_dropPiece 27 = .ok (.imul, 1) := by decide +kernel
theorem dX10_dropPiece_28 : decode cX10_dropPiece 28 = .ok (.iadd, 1) := by decide +kernel
theorem dX10_dropPiece_29 : decode cX10_dropPiece 29 = .ok (.istore_n 2, 1) := by decide +kernel
theorem dX10_dropPiece_30 : decode cX10_dropPiece 30 = .ok (.iload_n 2, 1) := by decide +kernel
theorem dX10_dropPiece_31 : decode cX10_dropPiece 31 = .ok (.iconst 1, 1) := by decide +kernel
theorem dX10_dropPiece_32 : decode cX10_dropPiece 32 = .ok (.iconst 2, 1) := by decide +kernel
theorem dX10_dropPiece_33 : decode cX10_dropPiece 33 = .ok (.aload_n 0, 1) := by decide +kernel
theorem dX10_dropPiece_34 : decode cX10_dropPiece 34 = .ok (.getfield 7, 3) := by decide +kernel
theorem dX10_dropPiece_37 : decode cX10_dropPiece 37 = .ok (.iconst 0, 1) := by decide +kernel
theorem dX10_dropPiece_38 : decode cX10_dropPiece 38 = .ok (.iaload, 1) := by decide +kernel
theorem dX10_dropPiece_39 : decode cX10_dropPiece 39 = .ok (.imul, 1) := by decide +kernel
theorem dX10_dropPiece_40 : decode cX10_dropPiece 40 = .ok (.iadd, 1) := by decide +kernel
theorem dX10_dropPiece_41 : decode cX10_dropPiece 41 = .ok (.if_icmp .ge 23, 3) := by decide +kernel
theorem dX10_dropPiece_44 : decode cX10_dropPiece 44 = .ok (.aload_n 0, 1) := by decide +kernel
theorem dX10_dropPiece_45 : decode cX10_dropPiece 45 = .ok (.getfield 7, 3) := by decide +kernel
theorem dX10_dropPiece_48 : decode cX10_dropPiece 48 = .ok (.iload_n 2, 1) := by decide +kernel
theorem dX10_dropPiece_49 : decode cX10_dropPiece 49 = .ok (.aload_n 0, 1) := by decide +kernel
theorem dX10_dropPiece_50 : decode cX10_dropPiece 50 = .ok (.getfield 7, 3) := by decide +kernel
theorem dX10_dropPiece_53 : decode cX10_dropPiece 53 = .ok (.iload_n 2, 1) := by decide +kernel
theorem dX10_dropPiece_54 : decode cX10_dropPiece 54 = .ok (.iconst 2, 1) := by decide +kernel
theorem dX10_dropPiece_55 : decode cX10_dropPiece 55 = .ok (.iadd, 1) := by decide +kernel
theorem dX10_dropPiece_56 : decode cX10_dropPiece 56 = .ok (.iaload, 1) := by decide +kernel
theorem dX10_dropPiece_57 : decode cX10_dropPiece 57 = .ok (.iastore, 1) := by decide +kernel
theorem dX10_dropPiece_58 : decode cX10_dropPiece 58 = .ok (.iinc 2 1, 3) := by decide +kernel
theorem dX10_dropPiece_61 : decode cX10_dropPiece 61 = .ok (.goto (-31), 3) := by decide +kernel
theorem dX10_dropPiece_64 : decode cX10_dropPiece 64 = .ok (.aload_n 0, 1) := by decide +kernel
theorem dX10_dropPiece_65 : decode cX10_dropPiece 65 = .ok (.invokevirtual 64, 3) := by decide +kernel
theorem dX10_dropPiece_68 : decode cX10_dropPiece 68 = .ok (.ireturn, 1) := by decide +kernel
theorem dX10_pieceAt_0 : decode cX10_pieceAt 0 = .ok (.aload_n 0, 1) := by decide +kernel
theorem dX10_pieceAt_1 : decode cX10_pieceAt 1 = .ok (.iload_n 1, 1) := by decide +kernel
theorem dX10_pieceAt_2 : decode cX10_pieceAt 2 = .ok (.invokevirtual 71, 3) := by decide +kernel
theorem dX10_pieceAt_5 : decode cX10_pieceAt 5 = .ok (.ifCond .eq 12, 3) := by decide +kernel
theorem dX10_pieceAt_8 : decode cX10_pieceAt 8 = .ok (.iload_n 2, 1) := by decide +kernel
theorem dX10_pieceAt_9 : decode cX10_pieceAt 9 = .ok (.iconst 0, 1) := by decide +kernel
theorem dX10_pieceAt_10 : decode cX10_pieceAt 10 = .ok (.iconst 2, 1) := by decide +kernel
theorem dX10_pieceAt_11 : decode cX10_pieceAt 11 = .ok (.invokestatic 60, 3) := by decide +kernel
theorem dX10_pieceAt_14 : decode cX10_pieceAt 14 = .ok (.ifCond .ne 5, 3) := by decide +kernel
theorem dX10_pieceAt_17 : decode cX10_pieceAt 17 = .ok (.iconst (-1), 1) := by decide +kernel
theorem dX10_pieceAt_18 : decode cX10_pieceAt 18 = .ok (.ireturn, 1) := by decide +kernel
theorem dX10_pieceAt_19 : decode cX10_pieceAt 19 = .ok (.iload_n 2, 1) := by decide +kernel
theorem dX10_pieceAt_20 : decode cX10_pieceAt 20 = .ok (.ifCond .ne 11, 3) := by decide +kernel
theorem dX10_pieceAt_23 : decode cX10_pieceAt 23 = .ok (.aload_n 0, 1) := by decide +kernel
theorem dX10_pieceAt_24 : decode cX10_pieceAt 24 = .ok (.iload_n 1, 1) := by decide +kernel
theorem dX10_pieceAt_25 : decode cX10_pieceAt 25 = .ok (.invokevirtual 75, 3) := by decide +kernel
theorem dX10_pieceAt_28 : decode cX10_pieceAt 28 = .ok (.goto 21, 3) := by decide +kernel
theorem dX10_pieceAt_31 : decode cX10_pieceAt 31 = .ok (.iload_n 2, 1) := by decide +kernel
theorem dX10_pieceAt_32 : decode cX10_pieceAt 32 = .ok (.iconst 1, 1) := by decide +kernel
theorem dX10_pieceAt_33 : decode cX10_pieceAt 33 = .ok (.if_icmp .ne 11, 3) := by decide +kernel
theorem dX10_pieceAt_36 : decode cX10_pieceAt 36 = .ok (.aload_n 0, 1) := by decide +kernel
theorem dX10_pieceAt_37 : decode cX10_pieceAt 37 = .ok (.iload_n 1, 1) := by decide +kernel
theorem dX10_pieceAt_38 : decode cX10_pieceAt 38 = .ok (.invokevirtual 53, 3) := by decide +kernel
theorem dX10_pieceAt_41 : decode cX10_pieceAt 41 = .ok (.goto 8, 3) := by decide +kernel
theorem dX10_pieceAt_44 : decode cX10_pieceAt 44 = .ok (.aload_n 0, 1) := by decide +kernel
theorem dX10_pieceAt_45 : decode cX10_pieceAt 45 = .ok (.iload_n 1, 1) := by decide +kernel
theorem dX10_pieceAt_46 : decode cX10_pieceAt 46 = .ok (.invokevirtual 57, 3) := by decide +kernel
theorem dX10_pieceAt_49 : decode cX10_pieceAt 49 = .ok (.ireturn, 1) := by decide +kernel
theorem dX10_isShot_0 : decode cX10_isShot 0 = .ok (.iconst 0, 1) := by decide +kernel
theorem dX10_isShot_1 : decode cX10_isShot 1 = .ok (.istore_n 2, 1) := by decide +kernel
theorem dX10_isShot_2 : decode cX10_isShot 2 = .ok (.iconst 0, 1) := by decide +kernel
theorem dX10_isShot_3 : decode cX10_isShot 3 = .ok (.istore_n 3, 1) := by decide +kernel
theorem dX10_isShot_4 : decode cX10_isShot 4 = .ok (.iload_n 3, 1) := by decide +kernel
theorem dX10_isShot_5 : decode cX10_isShot 5 = .ok (.aload_n 0, 1) := by decide +kernel
theorem dX10_isShot_6 : decode cX10_isShot 6 = .ok (.getfield 7, 3) := by decide +kernel
theorem dX10_isShot_9 : decode cX10_isShot 9 = .ok (.bipush 21, 2) := by decide +kernel
theorem dX10_isShot_11 : decode cX10_isShot 11 = .ok (.iaload, 1) := by decide +kernel
theorem dX10_isShot_12 : decode cX10_isShot 12 = .ok (.if_icmp .ge 32, 3) := by decide +kernel
theorem dX10_isShot_15 : decode cX10_isShot 15 = .ok (.iload_n 2, 1) := by decide +kernel
theorem dX10_isShot_16 : decode cX10_isShot 16 = .ok (.ifCond .ne 16, 3) := by decide +kernel
theorem dX10_isShot_19 : decode cX10_isShot 19 = .ok (.aload_n 0, 1) := by decide +kernel
theorem dX10_isShot_20 : decode cX10_isShot 20 = .ok (.getfield 7, 3) := by decide +kernel
theorem dX10_isShot_23 : decode cX10_isShot 23 = .ok (.bipush 22, 2) := by decide +kernel
theorem dX10_isShot_25 : decode cX10_isShot 25 = .ok (.iload_n 3, 1) := by decide +kernel
theorem dX10_isShot_26 : decode cX10_isShot 26 = .ok (.iadd, 1) := by decide +kernel
theorem dX10_isShot_27 : decode cX10_isShot 27 = .ok (.iaload, 1) := by decide +kernel
theorem dX10_isShot_28 : decode cX10_isShot 28 = .ok (.iload_n 1, 1) := by decide +kernel
theorem dX10_isShot_29 : decode cX10_isShot 29 = .ok (.if_icmp .ne 7, 3) := by decide +kernel
theorem dX10_isShot_32 : decode cX10_isShot 32 = .ok (.iconst 1, 1) := by decide +kernel
theorem dX10_isShot_33 : decode cX10_isShot 33 = .ok (.goto 4, 3) := by decide +kernel
theorem dX10_isShot_36 : decode cX10_isShot 36 = .ok (.iconst 0, 1) := by decide +kernel
theorem dX10_isShot_37 : decode cX10_isShot 37 = .ok (.istore_n 2, 1) := by decide +kernel
theorem dX10_isShot_38 : decode cX10_isShot 38 = .ok (.iinc 3 1, 3) := by decide +kernel
theorem dX10_isShot_41 : decode cX10_isShot 41 = .ok (.goto (-37), 3) := by decide +kernel
theorem dX10_isShot_44 : decode cX10_isShot 44 = .ok (.iload_n 2, 1) := by decide +kernel
theorem dX10_isShot_45 : decode cX10_isShot 45 = .ok (.ireturn, 1) := by decide +kernel
theorem dX10_shot_0 : decode cX10_shot 0 = .ok (.iload_n 1, 1) := by decide +kernel
theorem dX10_shot_1 : decode cX10_shot 1 = .ok (.iconst 1, 1) := by decide +kernel
theorem dX10_shot_2 : decode cX10_shot 2 = .ok (.sipush 9998, 3) := by decide +kernel
theorem dX10_shot_5 : decode cX10_shot 5 = .ok (.invokestatic 60, 3) := by decide +kernel
theorem dX10_shot_8 : decode cX10_shot 8 = .ok (.ifCond .ne 5, 3) := by decide +kernel
theorem dX10_shot_11 : decode cX10_shot 11 = .ok (.iconst (-1), 1) := by decide +kernel
theorem dX10_shot_12 : decode cX10_shot 12 = .ok (.ireturn, 1) := by decide +kernel
theorem dX10_shot_13 : decode cX10_shot 13 = .ok (.aload_n 0, 1) := by decide +kernel
theorem dX10_shot_14 : decode cX10_shot 14 = .ok (.iload_n 1, 1) := by decide +kernel
theorem dX10_shot_15 : decode cX10_shot 15 = .ok (.invokevirtual 78, 3) := by decide +kernel
theorem dX10_shot_18 : decode cX10_shot 18 = .ok (.istore_n 3, 1) := by decide +kernel
theorem dX10_shot_19 : decode cX10_shot 19 = .ok (.iload_n 2, 1) := by decide +kernel
theorem dX10_shot_20 : decode cX10_shot 20 = .ok (.ifCond .eq 22, 3) := by decide +kernel
theorem dX10_shot_23 : decode cX10_shot 23 = .ok (.iload_n 3, 1) := by decide +kernel
theorem dX10_shot_24 : decode cX10_shot 24 = .ok (.ifCond .ne 18, 3) := by decide +kernel
theorem dX10_shot_27 : decode cX10_shot 27 = .ok (.aload_n 0, 1) := by decide +kernel
theorem dX10_shot_28 : decode cX10_shot 28 = .ok (.getfield 7, 3) := by decide +kernel
theorem dX10_shot_31 : decode cX10_shot 31 = .ok (.bipush 21, 2) := by decide +kernel
theorem dX10_shot_33 : decode cX10_shot 33 = .ok (.iaload, 1) := by decide +kernel
theorem dX10_shot_34 : decode cX10_shot 34 = .ok (.bipush 20, 2) := by decide +kernel
theorem dX10_shot_36 : decode cX10_shot 36 = .ok (.if_icmp .ne 6, 3) := by decide +kernel
theorem dX10_shot_39 : decode cX10_shot 39 = .ok (.bipush (-3), 2) := by decide +kernel
theorem dX10_shot_41 : decode cX10_shot 41 = .ok (.ireturn, 1) := by decide +kernel
theorem dX10_shot_42 : decode cX10_shot 42 = .ok (.aload_n 0, 1) := by decide +kernel
theorem dX10_shot_43 : decode cX10_shot 43 = .ok (.invokevirtual 68, 3) := by decide +kernel
theorem dX10_shot_46 : decode cX10_shot 46 = .ok (.iconst 0, 1) := by decide +kernel
theorem dX10_shot_47 : decode cX10_shot 47 = .ok (.istore 4, 2) := by decide +kernel
theorem dX10_shot_49 : decode cX10_shot 49 = .ok (.iload 4, 2) := by decide +kernel
theorem dX10_shot_51 : decode cX10_shot 51 = .ok (.aload_n 0, 1) := by decide +kernel
theorem dX10_shot_52 : decode cX10_shot 52 = .ok (.getfield 7, 3) := by decide +kernel
theorem dX10_shot_55 : decode cX10_shot 55 = .ok (.bipush 21, 2) := by decide +kernel
theorem dX10_shot_57 : decode cX10_shot 57 = .ok (.iaload, 1) := by decide +kernel
theorem dX10_shot_58 : decode cX10_shot 58 = .ok (.if_icmp .ge 23, 3) := by decide +kernel
theorem dX10_shot_61 : decode cX10_shot 61 = .ok (.aload_n 0, 1) := by decide +kernel
theorem dX10_shot_62 : decode cX10_shot 62 = .ok (.getfield 7, 3) := by decide +kernel
theorem dX10_shot_65 : decode cX10_shot 65 = .ok (.bipush 22, 2) := by decide +kernel
theorem dX10_shot_67 : decode cX10_shot 67 = .ok (.iload 4, 2) := by decide +kernel
theorem dX10_shot_69 : decode cX10_shot 69 = .ok (.iadd, 1) := by decide +kernel
theorem dX10_shot_70 : decode cX10_shot 70 = .ok (.iaload, 1) := by decide +kernel
theorem dX10_shot_71 : decode cX10_shot 71 = .ok (.iload_n 1, 1) := by decide +kernel
theorem dX10_shot_72 : decode cX10_shot 72 = .ok (.if_icmp .ge 9, 3) := by decide +kernel
theorem dX10_shot_75 : decode cX10_shot 75 = .ok (.iinc 4 1, 3) := by decide +kernel
theorem dX10_shot_78 : decode cX10_shot 78 = .ok (.goto (-29), 3) := by decide +kernel
theorem dX10_shot_81 : decode cX10_shot 81 = .ok (.iload_n 2, 1) := by decide +kernel
theorem dX10_shot_82 : decode cX10_shot 82 = .ok (.ifCond .eq 76, 3) := by decide +kernel
theorem dX10_shot_85 : decode cX10_shot 85 = .ok (.iload_n 3, 1) := by decide +kernel
theorem dX10_shot_86 : decode cX10_shot 86 = .ok (.ifCond .ne 72, 3) := by decide +kernel
theorem dX10_shot_89 : decode cX10_shot 89 = .ok (.aload_n 0, 1) := by decide +kernel
theorem dX10_shot_90 : decode cX10_shot 90 = .ok (.getfield 7, 3) := by decide +kernel
theorem dX10_shot_93 : decode cX10_shot 93 = .ok (.bipush 21, 2) := by decide +kernel
theorem dX10_shot_95 : decode cX10_shot 95 = .ok (.iaload, 1) := by decide +kernel
theorem dX10_shot_96 : decode cX10_shot 96 = .ok (.istore 5, 2) := by decide +kernel
theorem dX10_shot_98 : decode cX10_shot 98 = .ok (.iload 5, 2) := by decide +kernel
theorem dX10_shot_100 : decode cX10_shot 100 = .ok (.iload 4, 2) := by decide +kernel
theorem dX10_shot_102 : decode cX10_shot 102 = .ok (.if_icmp .le 31, 3) := by decide +kernel
theorem dX10_shot_105 : decode cX10_shot 105 = .ok (.aload_n 0, 1) := by decide +kernel
theorem dX10_shot_106 : decode cX10_shot 106 = .ok (.getfield 7, 3) := by decide +kernel
theorem dX10_shot_109 : decode cX10_shot 109 = .ok (.bipush 22, 2) := by decide +kernel
theorem dX10_shot_111 : decode cX10_shot 111 = .ok (.iload 5, 2) := by decide +kernel
theorem dX10_shot_113 : decode cX10_shot 113 = .ok (.iadd, 1) := by decide +kernel
theorem dX10_shot_114 : decode cX10_shot 114 = .ok (.aload_n 0, 1) := by decide +kernel
theorem dX10_shot_115 : decode cX10_shot 115 = .ok (.getfield 7, 3) := by decide +kernel
theorem dX10_shot_118 : decode cX10_shot 118 = .ok (.bipush 22, 2) := by decide +kernel
theorem dX10_shot_120 : decode cX10_shot 120 = .ok (.iload 5, 2) := by decide +kernel
theorem dX10_shot_122 : decode cX10_shot 122 = .ok (.iadd, 1) := by decide +kernel
theorem dX10_shot_123 : decode cX10_shot 123 = .ok (.iconst 1, 1) := by decide +kernel
theorem dX10_shot_124 : decode cX10_shot 124 = .ok (.isub, 1) := by decide +kernel
theorem dX10_shot_125 : decode cX10_shot 125 = .ok (.iaload, 1) := by decide +kernel
theorem dX10_shot_126 : decode cX10_shot 126 = .ok (.iastore, 1) := by decide +kernel
theorem dX10_shot_127 : decode cX10_shot 127 = .ok (.iinc 5 (-1), 3) := by decide +kernel
theorem dX10_shot_130 : decode cX10_shot 130 = .ok (.goto (-32), 3) := by decide +kernel
theorem dX10_shot_133 : decode cX10_shot 133 = .ok (.aload_n 0, 1) := by decide +kernel
theorem dX10_shot_134 : decode cX10_shot 134 = .ok (.getfield 7, 3) := by decide +kernel
theorem dX10_shot_137 : decode cX10_shot 137 = .ok (.bipush 22, 2) := by decide +kernel
theorem dX10_shot_139 : decode cX10_shot 139 = .ok (.iload 4, 2) := by decide +kernel
theorem dX10_shot_141 : decode cX10_shot 141 = .ok (.iadd, 1) := by decide +kernel
theorem dX10_shot_142 : decode cX10_shot 142 = .ok (.iload_n 1, 1) := by decide +kernel
theorem dX10_shot_143 : decode cX10_shot 143 = .ok (.iastore, 1) := by decide +kernel
theorem dX10_shot_144 : decode cX10_shot 144 = .ok (.aload_n 0, 1) := by decide +kernel
theorem dX10_shot_145 : decode cX10_shot 145 = .ok (.getfield 7, 3) := by decide +kernel
theorem dX10_shot_148 : decode cX10_shot 148 = .ok (.bipush 21, 2) := by decide +kernel
theorem dX10_shot_150 : decode cX10_shot 150 = .ok (.dup2, 1) := by decide +kernel
theorem dX10_shot_151 : decode cX10_shot 151 = .ok (.iaload, 1) := by decide +kernel
theorem dX10_shot_152 : decode cX10_shot 152 = .ok (.iconst 1, 1) := by decide +kernel
theorem dX10_shot_153 : decode cX10_shot 153 = .ok (.iadd, 1) := by decide +kernel
theorem dX10_shot_154 : decode cX10_shot 154 = .ok (.iastore, 1) := by decide +kernel
theorem dX10_shot_155 : decode cX10_shot 155 = .ok (.goto 66, 3) := by decide +kernel
theorem dX10_shot_158 : decode cX10_shot 158 = .ok (.iload_n 2, 1) := by decide +kernel
theorem dX10_shot_159 : decode cX10_shot 159 = .ok (.ifCond .ne 62, 3) := by decide +kernel
theorem dX10_shot_162 : decode cX10_shot 162 = .ok (.iload_n 3, 1) := by decide +kernel
theorem dX10_shot_163 : decode cX10_shot 163 = .ok (.ifCond .eq 58, 3) := by decide +kernel
theorem dX10_shot_166 : decode cX10_shot 166 = .ok (.aload_n 0, 1) := by decide +kernel
theorem dX10_shot_167 : decode cX10_shot 167 = .ok (.getfield 7, 3) := by decide +kernel
theorem dX10_shot_170 : decode cX10_shot 170 = .ok (.bipush 21, 2) := by decide +kernel
theorem dX10_shot_172 : decode cX10_shot 172 = .ok (.dup2, 1) := by decide +kernel
theorem dX10_shot_173 : decode cX10_shot 173 = .ok (.iaload, 1) := by decide +kernel
theorem dX10_shot_174 : decode cX10_shot 174 = .ok (.iconst 1, 1) := by decide +kernel
theorem dX10_shot_175 : decode cX10_shot 175 = .ok (.isub, 1) := by decide +kernel
theorem dX10_shot_176 : decode cX10_shot 176 = .ok (.iastore, 1) := by decide +kernel
theorem dX10_shot_177 : decode cX10_shot 177 = .ok (.iload 4, 2) := by decide +kernel
theorem dX10_shot_179 : decode cX10_shot 179 = .ok (.istore 5, 2) := by decide +kernel
theorem dX10_shot_181 : decode cX10_shot 181 = .ok (.iload 5, 2) := by decide +kernel
theorem dX10_shot_183 : decode cX10_shot 183 = .ok (.aload_n 0, 1) := by decide +kernel
theorem dX10_shot_184 : decode cX10_shot 184 = .ok (.getfield 7, 3) := by decide +kernel
theorem dX10_shot_187 : decode cX10_shot 187 = .ok (.bipush 21, 2) := by decide +kernel
theorem dX10_shot_189 : decode cX10_shot 189 = .ok (.iaload, 1) := by decide +kernel
theorem dX10_shot_190 : decode cX10_shot 190 = .ok (.if_icmp .ge 31, 3) := by decide +kernel
theorem dX10_shot_193 : decode cX10_shot 193 = .ok (.aload_n 0, 1) := by decide +kernel
theorem dX10_shot_194 : decode cX10_shot 194 = .ok (.getfield 7, 3) := by decide +kernel
theorem dX10_shot_197 : decode cX10_shot 197 = .ok (.bipush 22, 2) := by decide +kernel
theorem dX10_shot_199 : decode cX10_shot 199 = .ok (.iload 5, 2) := by decide +kernel
theorem dX10_shot_201 : decode cX10_shot 201 = .ok (.iadd, 1) := by decide +kernel
theorem dX10_shot_202 : decode cX10_shot 202 = .ok (.aload_n 0, 1) := by decide +kernel
theorem dX10_shot_203 : decode cX10_shot 203 = .ok (.getfield 7, 3) := by decide +kernel
theorem dX10_shot_206 : decode cX10_shot 206 = .ok (.bipush 22, 2) := by decide +kernel
theorem dX10_shot_208 : decode cX10_shot 208 = .ok (.iload 5, 2) := by decide +kernel
theorem dX10_shot_210 : decode cX10_shot 210 = .ok (.iadd, 1) := by decide +kernel
theorem dX10_shot_211 : decode cX10_shot 211 = .ok (.iconst 1, 1) := by decide +kernel
theorem dX10_shot_212 : decode cX10_shot 212 = .ok (.iadd, 1) := by decide +kernel
theorem dX10_shot_213 : decode cX10_shot 213 = .ok (.iaload, 1) := by decide +kernel
theorem dX10_shot_214 : decode cX10_shot 214 = .ok (.iastore, 1) := by decide +kernel
theorem dX10_shot_215 : decode cX10_shot 215 = .ok (.iinc 5 1, 3) := by decide +kernel
theorem dX10_shot_218 : decode cX10_shot 218 = .ok (.goto (-37), 3) := by decide +kernel
theorem dX10_shot_221 : decode cX10_shot 221 = .ok (.aload_n 0, 1) := by decide +kernel
theorem dX10_shot_222 : decode cX10_shot 222 = .ok (.getfield 7, 3) := by decide +kernel
theorem dX10_shot_225 : decode cX10_shot 225 = .ok (.bipush 21, 2) := by decide +kernel
theorem dX10_shot_227 : decode cX10_shot 227 = .ok (.iaload, 1) := by decide +kernel
theorem dX10_shot_228 : decode cX10_shot 228 = .ok (.ireturn, 1) := by decide +kernel
theorem dX10_shotAt_0 : decode cX10_shotAt 0 = .ok (.iload_n 1, 1) := by decide +kernel
theorem dX10_shotAt_1 : decode cX10_shotAt 1 = .ok (.ifCond .ge 7, 3) := by decide +kernel
theorem dX10_shotAt_4 : decode cX10_shotAt 4 = .ok (.iconst (-1), 1) := by decide +kernel
theorem dX10_shotAt_5 : decode cX10_shotAt 5 = .ok (.goto 28, 3) := by decide +kernel
theorem dX10_shotAt_8 : decode cX10_shotAt 8 = .ok (.iload_n 1, 1) := by decide +kernel
theorem dX10_shotAt_9 : decode cX10_shotAt 9 = .ok (.aload_n 0, 1) := by decide +kernel
theorem dX10_shotAt_10 : decode cX10_shotAt 10 = .ok (.getfield 7, 3) := by decide +kernel
theorem dX10_shotAt_13 : decode cX10_shotAt 13 = .ok (.bipush 21, 2) := by decide +kernel
theorem dX10_shotAt_15 : decode cX10_shotAt 15 = .ok (.iaload, 1) := by decide +kernel
theorem dX10_shotAt_16 : decode cX10_shotAt 16 = .ok (.if_icmp .ge 15, 3) := by decide +kernel
theorem dX10_shotAt_19 : decode cX10_shotAt 19 = .ok (.aload_n 0, 1) := by decide +kernel
theorem dX10_shotAt_20 : decode cX10_shotAt 20 = .ok (.getfield 7, 3) := by decide +kernel
theorem dX10_shotAt_23 : decode cX10_shotAt 23 = .ok (.bipush 22, 2) := by decide +kernel
theorem dX10_shotAt_25 : decode cX10_shotAt 25 = .ok (.iload_n 1, 1) := by decide +kernel
theorem dX10_shotAt_26 : decode cX10_shotAt 26 = .ok (.iadd, 1) := by decide +kernel
theorem dX10_shotAt_27 : decode cX10_shotAt 27 = .ok (.iaload, 1) := by decide +kernel
theorem dX10_shotAt_28 : decode cX10_shotAt 28 = .ok (.goto 5, 3) := by decide +kernel
theorem dX10_shotAt_31 : decode cX10_shotAt 31 = .ok (.bipush (-9), 2) := by decide +kernel
theorem dX10_shotAt_33 : decode cX10_shotAt 33 = .ok (.ireturn, 1) := by decide +kernel
theorem dX10_toNew_0 : decode cX10_toNew 0 = .ok (.iload_n 1, 1) := by decide +kernel
theorem dX10_toNew_1 : decode cX10_toNew 1 = .ok (.iconst 0, 1) := by decide +kernel
theorem dX10_toNew_2 : decode cX10_toNew 2 = .ok (.sipush 9999, 3) := by decide +kernel
theorem dX10_toNew_5 : decode cX10_toNew 5 = .ok (.invokestatic 60, 3) := by decide +kernel
theorem dX10_toNew_8 : decode cX10_toNew 8 = .ok (.ifCond .eq 7, 3) := by decide +kernel
theorem dX10_toNew_11 : decode cX10_toNew 11 = .ok (.iload_n 2, 1) := by decide +kernel
theorem dX10_toNew_12 : decode cX10_toNew 12 = .ok (.ifCond .ge 5, 3) := by decide +kernel
theorem dX10_toNew_15 : decode cX10_toNew 15 = .ok (.iconst (-1), 1) := by decide +kernel
theorem dX10_toNew_16 : decode cX10_toNew 16 = .ok (.ireturn, 1) := by decide +kernel
theorem dX10_toNew_17 : decode cX10_toNew 17 = .ok (.iload_n 2, 1) := by decide +kernel
theorem dX10_toNew_18 : decode cX10_toNew 18 = .ok (.istore_n 3, 1) := by decide +kernel
theorem dX10_toNew_19 : decode cX10_toNew 19 = .ok (.iconst 0, 1) := by decide +kernel
theorem dX10_toNew_20 : decode cX10_toNew 20 = .ok (.istore 4, 2) := by decide +kernel
theorem dX10_toNew_22 : decode cX10_toNew 22 = .ok (.iload 4, 2) := by decide +kernel
theorem dX10_toNew_24 : decode cX10_toNew 24 = .ok (.aload_n 0, 1) := by decide +kernel
theorem dX10_toNew_25 : decode cX10_toNew 25 = .ok (.getfield 7, 3) := by decide +kernel
theorem dX10_toNew_28 : decode cX10_toNew 28 = .ok (.iconst 0, 1) := by decide +kernel
theorem dX10_toNew_29 : decode cX10_toNew 29 = .ok (.iaload, 1) := by decide +kernel
theorem dX10_toNew_30 : decode cX10_toNew 30 = .ok (.if_icmp .ge 52, 3) := by decide +kernel
theorem dX10_toNew_33 : decode cX10_toNew 33 = .ok (.iload_n 1, 1) := by decide +kernel
theorem dX10_toNew_34 : decode cX10_toNew 34 = .ok (.aload_n 0, 1) := by decide +kernel
theorem dX10_toNew_35 : decode cX10_toNew 35 = .ok (.iload 4, 2) := by decide +kernel
theorem dX10_toNew_37 : decode cX10_toNew 37 = .ok (.invokevirtual 75, 3) := by decide +kernel
theorem dX10_toNew_40 : decode cX10_toNew 40 = .ok (.isub, 1) := by decide +kernel
theorem dX10_toNew_41 : decode cX10_toNew 41 = .ok (.istore 5, 2) := by decide +kernel
theorem dX10_toNew_43 : decode cX10_toNew 43 = .ok (.iload 5, 2) := by decide +kernel
theorem dX10_toNew_45 : decode cX10_toNew 45 = .ok (.ifCond .lt 31, 3) := by decide +kernel
theorem dX10_toNew_48 : decode cX10_toNew 48 = .ok (.iload 5, 2) := by decide +kernel
theorem dX10_toNew_50 : decode cX10_toNew 50 = .ok (.aload_n 0, 1) := by decide +kernel
theorem dX10_toNew_51 : decode cX10_toNew 51 = .ok (.iload 4, 2) := by decide +kernel
theorem dX10_toNew_53 : decode cX10_toNew 53 = .ok (.invokevirtual 53, 3) := by decide +kernel
theorem dX10_toNew_56 : decode cX10_toNew 56 = .ok (.if_icmp .ge 20, 3) := by decide +kernel
theorem dX10_toNew_59 : decode cX10_toNew 59 = .ok (.iload_n 3, 1) := by decide +kernel
theorem dX10_toNew_60 : decode cX10_toNew 60 = .ok (.ifCond .ne 13, 3) := by decide +kernel
theorem dX10_toNew_63 : decode cX10_toNew 63 = .ok (.aload_n 0, 1) := by decide +kernel
theorem dX10_toNew_64 : decode cX10_toNew 64 = .ok (.iload 4, 2) := by decide +kernel
theorem dX10_toNew_66 : decode cX10_toNew 66 = .ok (.invokevirtual 57, 3) := by decide +kernel
theorem dX10_toNew_69 : decode cX10_toNew 69 = .ok (.iload 5, 2) := by decide +kernel
theorem dX10_toNew_71 : decode cX10_toNew 71 = .ok (.iadd, 1) := by decide +kernel
theorem dX10_toNew_72 : decode cX10_toNew 72 = .ok (.ireturn, 1) := by decide +kernel
theorem dX10_toNew_73 : decode cX10_toNew 73 = .ok (.iinc 3 (-1), 3) := by decide +kernel
theorem dX10_toNew_76 : decode cX10_toNew 76 = .ok (.iinc 4 1, 3) := by decide +kernel
theorem dX10_toNew_79 : decode cX10_toNew 79 = .ok (.goto (-57), 3) := by decide +kernel
theorem dX10_toNew_82 : decode cX10_toNew 82 = .ok (.bipush (-9), 2) := by decide +kernel
theorem dX10_toNew_84 : decode cX10_toNew 84 = .ok (.ireturn, 1) := by decide +kernel
theorem dX10_toOld_0 : decode cX10_toOld 0 = .ok (.iload_n 1, 1) := by decide +kernel
theorem dX10_toOld_1 : decode cX10_toOld 1 = .ok (.iconst 0, 1) := by decide +kernel
theorem dX10_toOld_2 : decode cX10_toOld 2 = .ok (.sipush 9999, 3) := by decide +kernel
theorem dX10_toOld_5 : decode cX10_toOld 5 = .ok (.invokestatic 60, 3) := by decide +kernel
theorem dX10_toOld_8 : decode cX10_toOld 8 = .ok (.ifCond .ne 5, 3) := by decide +kernel
theorem dX10_toOld_11 : decode cX10_toOld 11 = .ok (.iconst (-1), 1) := by decide +kernel
theorem dX10_toOld_12 : decode cX10_toOld 12 = .ok (.ireturn, 1) := by decide +kernel
theorem dX10_toOld_13 : decode cX10_toOld 13 = .ok (.iload_n 1, 1) := by decide +kernel
theorem dX10_toOld_14 : decode cX10_toOld 14 = .ok (.istore_n 2, 1) := by decide +kernel
theorem dX10_toOld_15 : decode cX10_toOld 15 = .ok (.iconst 0, 1) := by decide +kernel
theorem dX10_toOld_16 : decode cX10_toOld 16 = .ok (.istore_n 3, 1) := by decide +kernel
theorem dX10_toOld_17 : decode cX10_toOld 17 = .ok (.iload_n 3, 1) := by decide +kernel
theorem dX10_toOld_18 : decode cX10_toOld 18 = .ok (.aload_n 0, 1) := by decide +kernel
theorem dX10_toOld_19 : decode cX10_toOld 19 = .ok (.getfield 7, 3) := by decide +kernel
theorem dX10_toOld_22 : decode cX10_toOld 22 = .ok (.iconst 0, 1) := by decide +kernel
theorem dX10_toOld_23 : decode cX10_toOld 23 = .ok (.iaload, 1) := by decide +kernel
theorem dX10_toOld_24 : decode cX10_toOld 24 = .ok (.if_icmp .ge 34, 3) := by decide +kernel
theorem dX10_toOld_27 : decode cX10_toOld 27 = .ok (.iload_n 2, 1) := by decide +kernel
theorem dX10_toOld_28 : decode cX10_toOld 28 = .ok (.aload_n 0, 1) := by decide +kernel
theorem dX10_toOld_29 : decode cX10_toOld 29 = .ok (.iload_n 3, 1) := by decide +kernel
theorem dX10_toOld_30 : decode cX10_toOld 30 = .ok (.invokevirtual 53, 3) := by decide +kernel
theorem dX10_toOld_33 : decode cX10_toOld 33 = .ok (.if_icmp .ge 11, 3) := by decide +kernel
theorem dX10_toOld_36 : decode cX10_toOld 36 = .ok (.aload_n 0, 1) := by decide +kernel
theorem dX10_toOld_37 : decode cX10_toOld 37 = .ok (.iload_n 3, 1) := by decide +kernel
theorem dX10_toOld_38 : decode cX10_toOld 38 = .ok (.invokevirtual 75, 3) := by decide +kernel
theorem dX10_toOld_41 : decode cX10_toOld 41 = .ok (.iload_n 2, 1) := by decide +kernel
theorem dX10_toOld_42 : decode cX10_toOld 42 = .ok (.iadd, 1) := by decide +kernel
theorem dX10_toOld_43 : decode cX10_toOld 43 = .ok (.ireturn, 1) := by decide +kernel
theorem dX10_toOld_44 : decode cX10_toOld 44 = .ok (.iload_n 2, 1) := by decide +kernel
theorem dX10_toOld_45 : decode cX10_toOld 45 = .ok (.aload_n 0, 1) := by decide +kernel
theorem dX10_toOld_46 : decode cX10_toOld 46 = .ok (.iload_n 3, 1) := by decide +kernel
theorem dX10_toOld_47 : decode cX10_toOld 47 = .ok (.invokevirtual 53, 3) := by decide +kernel
theorem dX10_toOld_50 : decode cX10_toOld 50 = .ok (.isub, 1) := by decide +kernel
theorem dX10_toOld_51 : decode cX10_toOld 51 = .ok (.istore_n 2, 1) := by decide +kernel
theorem dX10_toOld_52 : decode cX10_toOld 52 = .ok (.iinc 3 1, 3) := by decide +kernel
theorem dX10_toOld_55 : decode cX10_toOld 55 = .ok (.goto (-38), 3) := by decide +kernel
theorem dX10_toOld_58 : decode cX10_toOld 58 = .ok (.bipush (-9), 2) := by decide +kernel
theorem dX10_toOld_60 : decode cX10_toOld 60 = .ok (.ireturn, 1) := by decide +kernel
theorem dX10_at_0 : decode cX10_at 0 = .ok (.bipush 43, 2) := by decide +kernel
theorem dX10_at_2 : decode cX10_at 2 = .ok (.bipush 87, 2) := by decide +kernel
theorem dX10_at_4 : decode cX10_at 4 = .ok (.iload_n 1, 1) := by decide +kernel
theorem dX10_at_5 : decode cX10_at 5 = .ok (.imul, 1) := by decide +kernel
theorem dX10_at_6 : decode cX10_at 6 = .ok (.iadd, 1) := by decide +kernel
theorem dX10_at_7 : decode cX10_at 7 = .ok (.ireturn, 1) := by decide +kernel
theorem dX10_partAt_0 : decode cX10_partAt 0 = .ok (.aload_n 0, 1) := by decide +kernel
theorem dX10_partAt_1 : decode cX10_partAt 1 = .ok (.iload_n 1, 1) := by decide +kernel
theorem dX10_partAt_2 : decode cX10_partAt 2 = .ok (.iconst 2, 1) := by decide +kernel
theorem dX10_partAt_3 : decode cX10_partAt 3 = .ok (.idiv, 1) := by decide +kernel
theorem dX10_partAt_4 : decode cX10_partAt 4 = .ok (.invokevirtual 81, 3) := by decide +kernel
theorem dX10_partAt_7 : decode cX10_partAt 7 = .ok (.iconst 3, 1) := by decide +kernel
theorem dX10_partAt_8 : decode cX10_partAt 8 = .ok (.iadd, 1) := by decide +kernel
theorem dX10_partAt_9 : decode cX10_partAt 9 = .ok (.bipush 42, 2) := by decide +kernel
theorem dX10_partAt_11 : decode cX10_partAt 11 = .ok (.iload_n 1, 1) := by decide +kernel
theorem dX10_partAt_12 : decode cX10_partAt 12 = .ok (.iconst 2, 1) := by decide +kernel
theorem dX10_partAt_13 : decode cX10_partAt 13 = .ok (.irem, 1) := by decide +kernel
theorem dX10_partAt_14 : decode cX10_partAt 14 = .ok (.imul, 1) := by decide +kernel
theorem dX10_partAt_15 : decode cX10_partAt 15 = .ok (.iadd, 1) := by decide +kernel
theorem dX10_partAt_16 : decode cX10_partAt 16 = .ok (.ireturn, 1) := by decide +kernel
theorem dX10_takes_0 : decode cX10_takes 0 = .ok (.aload_n 0, 1) := by decide +kernel
theorem dX10_takes_1 : decode cX10_takes 1 = .ok (.aload_n 0, 1) := by decide +kernel
theorem dX10_takes_2 : decode cX10_takes 2 = .ok (.getfield 7, 3) := by decide +kernel
theorem dX10_takes_5 : decode cX10_takes 5 = .ok (.bipush 42, 2) := by decide +kernel
theorem dX10_takes_7 : decode cX10_takes 7 = .ok (.iaload, 1) := by decide +kernel
theorem dX10_takes_8 : decode cX10_takes 8 = .ok (.putfield 84, 3) := by decide +kernel
theorem dX10_takes_11 : decode cX10_takes 11 = .ok (.iconst 0, 1) := by decide +kernel
theorem dX10_takes_12 : decode cX10_takes 12 = .ok (.istore_n 1, 1) := by decide +kernel
theorem dX10_takes_13 : decode cX10_takes 13 = .ok (.iload_n 1, 1) := by decide +kernel
theorem dX10_takes_14 : decode cX10_takes 14 = .ok (.aload_n 0, 1) := by decide +kernel
theorem dX10_takes_15 : decode cX10_takes 15 = .ok (.getfield 84, 3) := by decide +kernel
theorem dX10_takes_18 : decode cX10_takes 18 = .ok (.if_icmp .ge 81, 3) := by decide +kernel
theorem dX10_takes_21 : decode cX10_takes 21 = .ok (.aload_n 0, 1) := by decide +kernel
theorem dX10_takes_22 : decode cX10_takes 22 = .ok (.getfield 16, 3) := by decide +kernel
theorem dX10_takes_25 : decode cX10_takes 25 = .ok (.iload_n 1, 1) := by decide +kernel
theorem dX10_takes_26 : decode cX10_takes 26 = .ok (.aload_n 0, 1) := by decide +kernel
theorem dX10_takes_27 : decode cX10_takes 27 = .ok (.getfield 7, 3) := by decide +kernel
theorem dX10_takes_30 : decode cX10_takes 30 = .ok (.aload_n 0, 1) := by decide +kernel
theorem dX10_takes_31 : decode cX10_takes 31 = .ok (.iload_n 1, 1) := by decide +kernel
theorem dX10_takes_32 : decode cX10_takes 32 = .ok (.invokevirtual 81, 3) := by decide +kernel
theorem dX10_takes_35 : decode cX10_takes 35 = .ok (.iaload, 1) := by decide +kernel
theorem dX10_takes_36 : decode cX10_takes 36 = .ok (.iastore, 1) := by decide +kernel
theorem dX10_takes_37 : decode cX10_takes 37 = .ok (.aload_n 0, 1) := by decide +kernel
theorem dX10_takes_38 : decode cX10_takes 38 = .ok (.getfield 19, 3) := by decide +kernel
theorem dX10_takes_41 : decode cX10_takes 41 = .ok (.iload_n 1, 1) := by decide +kernel
theorem dX10_takes_42 : decode cX10_takes 42 = .ok (.aload_n 0, 1) := by decide +kernel
theorem dX10_takes_43 : decode cX10_takes 43 = .ok (.getfield 7, 3) := by decide +kernel
theorem dX10_takes_46 : decode cX10_takes 46 = .ok (.aload_n 0, 1) := by decide +kernel
theorem dX10_takes_47 : decode cX10_takes 47 = .ok (.iload_n 1, 1) := by decide +kernel
theorem dX10_takes_48 : decode cX10_takes 48 = .ok (.invokevirtual 81, 3) := by decide +kernel
theorem dX10_takes_51 : decode cX10_takes 51 = .ok (.iconst 1, 1) := by decide +kernel
theorem dX10_takes_52 : decode cX10_takes 52 = .ok (.iadd, 1) := by decide +kernel
theorem dX10_takes_53 : decode cX10_takes 53 = .ok (.iaload, 1) := by decide +kernel
theorem dX10_takes_54 : decode cX10_takes 54 = .ok (.iastore, 1) := by decide +kernel
theorem dX10_takes_55 : decode cX10_takes 55 = .ok (.aload_n 0, 1) := by decide +kernel
theorem dX10_takes_56 : decode cX10_takes 56 = .ok (.getfield 22, 3) := by decide +kernel
theorem dX10_takes_59 : decode cX10_takes 59 = .ok (.iload_n 1, 1) := by decide +kernel
theorem dX10_takes_60 : decode cX10_takes 60 = .ok (.aload_n 0, 1) := by decide +kernel
theorem dX10_takes_61 : decode cX10_takes 61 = .ok (.getfield 7, 3) := by decide +kernel
theorem dX10_takes_64 : decode cX10_takes 64 = .ok (.aload_n 0, 1) := by decide +kernel
theorem dX10_takes_65 : decode cX10_takes 65 = .ok (.iload_n 1, 1) := by decide +kernel
theorem dX10_takes_66 : decode cX10_takes 66 = .ok (.invokevirtual 81, 3) := by decide +kernel
theorem dX10_takes_69 : decode cX10_takes 69 = .ok (.iconst 2, 1) := by decide +kernel
theorem dX10_takes_70 : decode cX10_takes 70 = .ok (.iadd, 1) := by decide +kernel
theorem dX10_takes_71 : decode cX10_takes 71 = .ok (.iaload, 1) := by decide +kernel
theorem dX10_takes_72 : decode cX10_takes 72 = .ok (.iastore, 1) := by decide +kernel
theorem dX10_takes_73 : decode cX10_takes 73 = .ok (.aload_n 0, 1) := by decide +kernel
theorem dX10_takes_74 : decode cX10_takes 74 = .ok (.getfield 25, 3) := by decide +kernel
theorem dX10_takes_77 : decode cX10_takes 77 = .ok (.iload_n 1, 1) := by decide +kernel
theorem dX10_takes_78 : decode cX10_takes 78 = .ok (.iconst 2, 1) := by decide +kernel
theorem dX10_takes_79 : decode cX10_takes 79 = .ok (.iload_n 1, 1) := by decide +kernel
theorem dX10_takes_80 : decode cX10_takes 80 = .ok (.imul, 1) := by decide +kernel
theorem dX10_takes_81 : decode cX10_takes 81 = .ok (.iastore, 1) := by decide +kernel
theorem dX10_takes_82 : decode cX10_takes 82 = .ok (.aload_n 0, 1) := by decide +kernel
theorem dX10_takes_83 : decode cX10_takes 83 = .ok (.getfield 28, 3) := by decide +kernel
theorem dX10_takes_86 : decode cX10_takes 86 = .ok (.iload_n 1, 1) := by decide +kernel
theorem dX10_takes_87 : decode cX10_takes 87 = .ok (.iconst 2, 1) := by decide +kernel
theorem dX10_takes_88 : decode cX10_takes 88 = .ok (.iload_n 1, 1) := by decide +kernel
theorem dX10_takes_89 : decode cX10_takes 89 = .ok (.imul, 1) := by decide +kernel
theorem dX10_takes_90 : decode cX10_takes 90 = .ok (.iconst 1, 1) := by decide +kernel
theorem dX10_takes_91 : decode cX10_takes 91 = .ok (.iadd, 1) := by decide +kernel
theorem dX10_takes_92 : decode cX10_takes 92 = .ok (.iastore, 1) := by decide +kernel
theorem dX10_takes_93 : decode cX10_takes 93 = .ok (.iinc 1 1, 3) := by decide +kernel
theorem dX10_takes_96 : decode cX10_takes 96 = .ok (.goto (-83), 3) := by decide +kernel
theorem dX10_takes_99 : decode cX10_takes 99 = .ok (.return_, 1) := by decide +kernel
theorem dX10_empties_0 : decode cX10_empties 0 = .ok (.iconst 0, 1) := by decide +kernel
theorem dX10_empties_1 : decode cX10_empties 1 = .ok (.istore_n 1, 1) := by decide +kernel
theorem dX10_empties_2 : decode cX10_empties 2 = .ok (.iload_n 1, 1) := by decide +kernel
theorem dX10_empties_3 : decode cX10_empties 3 = .ok (.aload_n 0, 1) := by decide +kernel
theorem dX10_empties_4 : decode cX10_empties 4 = .ok (.getfield 84, 3) := by decide +kernel
theorem dX10_empties_7 : decode cX10_empties 7 = .ok (.if_icmp .ge 69, 3) := by decide +kernel
theorem dX10_empties_10 : decode cX10_empties 10 = .ok (.aload_n 0, 1) := by decide +kernel
theorem dX10_empties_11 : decode cX10_empties 11 = .ok (.getfield 31, 3) := by decide +kernel
theorem dX10_empties_14 : decode cX10_empties 14 = .ok (.iload_n 1, 1) := by decide +kernel
theorem dX10_empties_15 : decode cX10_empties 15 = .ok (.aload_n 0, 1) := by decide +kernel
theorem dX10_empties_16 : decode cX10_empties 16 = .ok (.getfield 16, 3) := by decide +kernel
theorem dX10_empties_19 : decode cX10_empties 19 = .ok (.iload_n 1, 1) := by decide +kernel
theorem dX10_empties_20 : decode cX10_empties 20 = .ok (.iaload, 1) := by decide +kernel
theorem dX10_empties_21 : decode cX10_empties 21 = .ok (.iastore, 1) := by decide +kernel
theorem dX10_empties_22 : decode cX10_empties 22 = .ok (.aload_n 0, 1) := by decide +kernel
theorem dX10_empties_23 : decode cX10_empties 23 = .ok (.getfield 34, 3) := by decide +kernel
theorem dX10_empties_26 : decode cX10_empties 26 = .ok (.iload_n 1, 1) := by decide +kernel
theorem dX10_empties_27 : decode cX10_empties 27 = .ok (.aload_n 0, 1) := by decide +kernel
theorem dX10_empties_28 : decode cX10_empties 28 = .ok (.getfield 19, 3) := by decide +kernel
theorem dX10_empties_31 : decode cX10_empties 31 = .ok (.iload_n 1, 1) := by decide +kernel
theorem dX10_empties_32 : decode cX10_empties 32 = .ok (.iaload, 1) := by decide +kernel
theorem dX10_empties_33 : decode cX10_empties 33 = .ok (.iastore, 1) := by decide +kernel
theorem dX10_empties_34 : decode cX10_empties 34 = .ok (.aload_n 0, 1) := by decide +kernel
theorem dX10_empties_35 : decode cX10_empties 35 = .ok (.getfield 37, 3) := by decide +kernel
theorem dX10_empties_38 : decode cX10_empties 38 = .ok (.iload_n 1, 1) := by decide +kernel
theorem dX10_empties_39 : decode cX10_empties 39 = .ok (.aload_n 0, 1) := by decide +kernel
theorem dX10_empties_40 : decode cX10_empties 40 = .ok (.getfield 22, 3) := by decide +kernel
theorem dX10_empties_43 : decode cX10_empties 43 = .ok (.iload_n 1, 1) := by decide +kernel
theorem dX10_empties_44 : decode cX10_empties 44 = .ok (.iaload, 1) := by decide +kernel
theorem dX10_empties_45 : decode cX10_empties 45 = .ok (.iastore, 1) := by decide +kernel
theorem dX10_empties_46 : decode cX10_empties 46 = .ok (.aload_n 0, 1) := by decide +kernel
theorem dX10_empties_47 : decode cX10_empties 47 = .ok (.getfield 40, 3) := by decide +kernel
theorem dX10_empties_50 : decode cX10_empties 50 = .ok (.iload_n 1, 1) := by decide +kernel
theorem dX10_empties_51 : decode cX10_empties 51 = .ok (.aload_n 0, 1) := by decide +kernel
theorem dX10_empties_52 : decode cX10_empties 52 = .ok (.getfield 25, 3) := by decide +kernel
theorem dX10_empties_55 : decode cX10_empties 55 = .ok (.iload_n 1, 1) := by decide +kernel
theorem dX10_empties_56 : decode cX10_empties 56 = .ok (.iaload, 1) := by decide +kernel
theorem dX10_empties_57 : decode cX10_empties 57 = .ok (.iastore, 1) := by decide +kernel
theorem dX10_empties_58 : decode cX10_empties 58 = .ok (.aload_n 0, 1) := by decide +kernel
theorem dX10_empties_59 : decode cX10_empties 59 = .ok (.getfield 43, 3) := by decide +kernel
theorem dX10_empties_62 : decode cX10_empties 62 = .ok (.iload_n 1, 1) := by decide +kernel
theorem dX10_empties_63 : decode cX10_empties 63 = .ok (.aload_n 0, 1) := by decide +kernel
theorem dX10_empties_64 : decode cX10_empties 64 = .ok (.getfield 28, 3) := by decide +kernel
theorem dX10_empties_67 : decode cX10_empties 67 = .ok (.iload_n 1, 1) := by decide +kernel
theorem dX10_empties_68 : decode cX10_empties 68 = .ok (.iaload, 1) := by decide +kernel
theorem dX10_empties_69 : decode cX10_empties 69 = .ok (.iastore, 1) := by decide +kernel
theorem dX10_empties_70 : decode cX10_empties 70 = .ok (.iinc 1 1, 3) := by decide +kernel
theorem dX10_empties_73 : decode cX10_empties 73 = .ok (.goto (-71), 3) := by decide +kernel
theorem dX10_empties_76 : decode cX10_empties 76 = .ok (.aload_n 0, 1) := by decide +kernel
theorem dX10_empties_77 : decode cX10_empties 77 = .ok (.iconst 0, 1) := by decide +kernel
theorem dX10_empties_78 : decode cX10_empties 78 = .ok (.putfield 84, 3) := by decide +kernel
theorem dX10_empties_81 : decode cX10_empties 81 = .ok (.return_, 1) := by decide +kernel
theorem dX10_sets_0 : decode cX10_sets 0 = .ok (.aload_n 0, 1) := by decide +kernel
theorem dX10_sets_1 : decode cX10_sets 1 = .ok (.getfield 16, 3) := by decide +kernel
theorem dX10_sets_4 : decode cX10_sets 4 = .ok (.iload_n 1, 1) := by decide +kernel
theorem dX10_sets_5 : decode cX10_sets 5 = .ok (.iload_n 2, 1) := by decide +kernel
theorem dX10_sets_6 : decode cX10_sets 6 = .ok (.iastore, 1) := by decide +kernel
theorem dX10_sets_7 : decode cX10_sets 7 = .ok (.aload_n 0, 1) := by decide +kernel
theorem dX10_sets_8 : decode cX10_sets 8 = .ok (.getfield 19, 3) := by decide +kernel
theorem dX10_sets_11 : decode cX10_sets 11 = .ok (.iload_n 1, 1) := by decide +kernel
theorem dX10_sets_12 : decode cX10_sets 12 = .ok (.iload_n 3, 1) := by decide +kernel
theorem dX10_sets_13 : decode cX10_sets 13 = .ok (.iastore, 1) := by decide +kernel
theorem dX10_sets_14 : decode cX10_sets 14 = .ok (.aload_n 0, 1) := by decide +kernel
theorem dX10_sets_15 : decode cX10_sets 15 = .ok (.getfield 22, 3) := by decide +kernel
theorem dX10_sets_18 : decode cX10_sets 18 = .ok (.iload_n 1, 1) := by decide +kernel
theorem dX10_sets_19 : decode cX10_sets 19 = .ok (.aload_n 0, 1) := by decide +kernel
theorem dX10_sets_20 : decode cX10_sets 20 = .ok (.getfield 37, 3) := by decide +kernel
theorem dX10_sets_23 : decode cX10_sets 23 = .ok (.iload 4, 2) := by decide +kernel
theorem dX10_sets_25 : decode cX10_sets 25 = .ok (.iaload, 1) := by decide +kernel
theorem dX10_sets_26 : decode cX10_sets 26 = .ok (.iastore, 1) := by decide +kernel
theorem dX10_sets_27 : decode cX10_sets 27 = .ok (.aload_n 0, 1) := by decide +kernel
theorem dX10_sets_28 : decode cX10_sets 28 = .ok (.getfield 25, 3) := by decide +kernel
theorem dX10_sets_31 : decode cX10_sets 31 = .ok (.iload_n 1, 1) := by decide +kernel
theorem dX10_sets_32 : decode cX10_sets 32 = .ok (.aload_n 0, 1) := by decide +kernel
theorem dX10_sets_33 : decode cX10_sets 33 = .ok (.getfield 40, 3) := by decide +kernel
theorem dX10_sets_36 : decode cX10_sets 36 = .ok (.iload 4, 2) := by decide +kernel
theorem dX10_sets_38 : decode cX10_sets 38 = .ok (.iaload, 1) := by decide +kernel
theorem dX10_sets_39 : decode cX10_sets 39 = .ok (.iastore, 1) := by decide +kernel
theorem dX10_sets_40 : decode cX10_sets 40 = .ok (.aload_n 0, 1) := by decide +kernel
theorem dX10_sets_41 : decode cX10_sets 41 = .ok (.getfield 28, 3) := by decide +kernel
theorem dX10_sets_44 : decode cX10_sets 44 = .ok (.iload_n 1, 1) := by decide +kernel
theorem dX10_sets_45 : decode cX10_sets 45 = .ok (.aload_n 0, 1) := by decide +kernel
theorem dX10_sets_46 : decode cX10_sets 46 = .ok (.getfield 43, 3) := by decide +kernel
theorem dX10_sets_49 : decode cX10_sets 49 = .ok (.iload 4, 2) := by decide +kernel
theorem dX10_sets_51 : decode cX10_sets 51 = .ok (.iaload, 1) := by decide +kernel
theorem dX10_sets_52 : decode cX10_sets 52 = .ok (.iastore, 1) := by decide +kernel
theorem dX10_sets_53 : decode cX10_sets 53 = .ok (.return_, 1) := by decide +kernel
theorem dX10_inserts_0 : decode cX10_inserts 0 = .ok (.aload_n 0, 1) := by decide +kernel
theorem dX10_inserts_1 : decode cX10_inserts 1 = .ok (.getfield 84, 3) := by decide +kernel
theorem dX10_inserts_4 : decode cX10_inserts 4 = .ok (.istore 4, 2) := by decide +kernel
theorem dX10_inserts_6 : decode cX10_inserts 6 = .ok (.iload 4, 2) := by decide +kernel
theorem dX10_inserts_8 : decode cX10_inserts 8 = .ok (.ifCond .le 102, 3) := by decide +kernel
theorem dX10_inserts_11 : decode cX10_inserts 11 = .ok (.aload_n 0, 1) := by decide +kernel
theorem dX10_inserts_12 : decode cX10_inserts 12 = .ok (.getfield 16, 3) := by decide +kernel
theorem dX10_inserts_15 : decode cX10_inserts 15 = .ok (.iload 4, 2) := by decide +kernel
theorem dX10_inserts_17 : decode cX10_inserts 17 = .ok (.iconst 1, 1) := by decide +kernel
theorem dX10_inserts_18 : decode cX10_inserts 18 = .ok (.isub, 1) := by decide +kernel
theorem dX10_inserts_19 : decode cX10_inserts 19 = .ok (.iaload, 1) := by decide +kernel
theorem dX10_inserts_20 : decode cX10_inserts 20 = .ok (.iload_n 1, 1) := by decide +kernel
theorem dX10_inserts_21 : decode cX10_inserts 21 = .ok (.if_icmp .le 89, 3) := by decide +kernel
theorem dX10_inserts_24 : decode cX10_inserts 24 = .ok (.aload_n 0, 1) := by decide +kernel
theorem dX10_inserts_25 : decode cX10_inserts 25 = .ok (.getfield 16, 3) := by decide +kernel
theorem dX10_inserts_28 : decode cX10_inserts 28 = .ok (.iload 4, 2) := by decide +kernel
theorem dX10_inserts_30 : decode cX10_inserts 30 = .ok (.aload_n 0, 1) := by decide +kernel
theorem dX10_inserts_31 : decode cX10_inserts 31 = .ok (.getfield 16, 3) := by decide +kernel
theorem dX10_inserts_34 : decode cX10_inserts 34 = .ok (.iload 4, 2) := by decide +kernel
theorem dX10_inserts_36 : decode cX10_inserts 36 = .ok (.iconst 1, 1) := by decide +kernel
theorem dX10_inserts_37 : decode cX10_inserts 37 = .ok (.isub, 1) := by decide +kernel
theorem dX10_inserts_38 : decode cX10_inserts 38 = .ok (.iaload, 1) := by decide +kernel
theorem dX10_inserts_39 : decode cX10_inserts 39 = .ok (.iastore, 1) := by decide +kernel
theorem dX10_inserts_40 : decode cX10_inserts 40 = .ok (.aload_n 0, 1) := by decide +kernel
theorem dX10_inserts_41 : decode cX10_inserts 41 = .ok (.getfield 19, 3) := by decide +kernel
theorem dX10_inserts_44 : decode cX10_inserts 44 = .ok (.iload 4, 2) := by decide +kernel
theorem dX10_inserts_46 : decode cX10_inserts 46 = .ok (.aload_n 0, 1) := by decide +kernel
theorem dX10_inserts_47 : decode cX10_inserts 47 = .ok (.getfield 19, 3) := by decide +kernel
theorem dX10_inserts_50 : decode cX10_inserts 50 = .ok (.iload 4, 2) := by decide +kernel
theorem dX10_inserts_52 : decode cX10_inserts 52 = .ok (.iconst 1, 1) := by decide +kernel
theorem dX10_inserts_53 : decode cX10_inserts 53 = .ok (.isub, 1) := by decide +kernel
theorem dX10_inserts_54 : decode cX10_inserts 54 = .ok (.iaload, 1) := by decide +kernel
theorem dX10_inserts_55 : decode cX10_inserts 55 = .ok (.iastore, 1) := by decide +kernel
theorem dX10_inserts_56 : decode cX10_inserts 56 = .ok (.aload_n 0, 1) := by decide +kernel
theorem dX10_inserts_57 : decode cX10_inserts 57 = .ok (.getfield 22, 3) := by decide +kernel
theorem dX10_inserts_60 : decode cX10_inserts 60 = .ok (.iload 4, 2) := by decide +kernel
theorem dX10_inserts_62 : decode cX10_inserts 62 = .ok (.aload_n 0, 1) := by decide +kernel
theorem dX10_inserts_63 : decode cX10_inserts 63 = .ok (.getfield 22, 3) := by decide +kernel
theorem dX10_inserts_66 : decode cX10_inserts 66 = .ok (.iload 4, 2) := by decide +kernel
theorem dX10_inserts_68 : decode cX10_inserts 68 = .ok (.iconst 1, 1) := by decide +kernel
theorem dX10_inserts_69 : decode cX10_inserts 69 = .ok (.isub, 1) := by decide +kernel
theorem dX10_inserts_70 : decode cX10_inserts 70 = .ok (.iaload, 1) := by decide +kernel
theorem dX10_inserts_71 : decode cX10_inserts 71 = .ok (.iastore, 1) := by decide +kernel
theorem dX10_inserts_72 : decode cX10_inserts 72 = .ok (.aload_n 0, 1) := by decide +kernel
theorem dX10_inserts_73 : decode cX10_inserts 73 = .ok (.getfield 25, 3) := by decide +kernel
theorem dX10_inserts_76 : decode cX10_inserts 76 = .ok (.iload 4, 2) := by decide +kernel
theorem dX10_inserts_78 : decode cX10_inserts 78 = .ok (.aload_n 0, 1) := by decide +kernel
theorem dX10_inserts_79 : decode cX10_inserts 79 = .ok (.getfield 25, 3) := by decide +kernel
theorem dX10_inserts_82 : decode cX10_inserts 82 = .ok (.iload 4, 2) := by decide +kernel
theorem dX10_inserts_84 : decode cX10_inserts 84 = .ok (.iconst 1, 1) := by decide +kernel
theorem dX10_inserts_85 : decode cX10_inserts 85 = .ok (.isub, 1) := by decide +kernel
theorem dX10_inserts_86 : decode cX10_inserts 86 = .ok (.iaload, 1) := by decide +kernel
theorem dX10_inserts_87 : decode cX10_inserts 87 = .ok (.iastore, 1) := by decide +kernel
theorem dX10_inserts_88 : decode cX10_inserts 88 = .ok (.aload_n 0, 1) := by decide +kernel
theorem dX10_inserts_89 : decode cX10_inserts 89 = .ok (.getfield 28, 3) := by decide +kernel
theorem dX10_inserts_92 : decode cX10_inserts 92 = .ok (.iload 4, 2) := by decide +kernel
theorem dX10_inserts_94 : decode cX10_inserts 94 = .ok (.aload_n 0, 1) := by decide +kernel
theorem dX10_inserts_95 : decode cX10_inserts 95 = .ok (.getfield 28, 3) := by decide +kernel
theorem dX10_inserts_98 : decode cX10_inserts 98 = .ok (.iload 4, 2) := by decide +kernel
theorem dX10_inserts_100 : decode cX10_inserts 100 = .ok (.iconst 1, 1) := by decide +kernel
theorem dX10_inserts_101 : decode cX10_inserts 101 = .ok (.isub, 1) := by decide +kernel
theorem dX10_inserts_102 : decode cX10_inserts 102 = .ok (.iaload, 1) := by decide +kernel
theorem dX10_inserts_103 : decode cX10_inserts 103 = .ok (.iastore, 1) := by decide +kernel
theorem dX10_inserts_104 : decode cX10_inserts 104 = .ok (.iinc 4 (-1), 3) := by decide +kernel
theorem dX10_inserts_107 : decode cX10_inserts 107 = .ok (.goto (-101), 3) := by decide +kernel
theorem dX10_inserts_110 : decode cX10_inserts 110 = .ok (.aload_n 0, 1) := by decide +kernel
theorem dX10_inserts_111 : decode cX10_inserts 111 = .ok (.iload 4, 2) := by decide +kernel
theorem dX10_inserts_113 : decode cX10_inserts 113 = .ok (.iload_n 1, 1) := by decide +kernel
theorem dX10_inserts_114 : decode cX10_inserts 114 = .ok (.iload_n 2, 1) := by decide +kernel
theorem dX10_inserts_115 : decode cX10_inserts 115 = .ok (.iload_n 3, 1) := by decide +kernel
theorem dX10_inserts_116 : decode cX10_inserts 116 = .ok (.invokevirtual 87, 3) := by decide +kernel
theorem dX10_inserts_119 : decode cX10_inserts 119 = .ok (.aload_n 0, 1) := by decide +kernel
theorem dX10_inserts_120 : decode cX10_inserts 120 = .ok (.dup, 1) := by decide +kernel
theorem dX10_inserts_121 : decode cX10_inserts 121 = .ok (.getfield 84, 3) := by decide +kernel
theorem dX10_inserts_124 : decode cX10_inserts 124 = .ok (.iconst 1, 1) := by decide +kernel
theorem dX10_inserts_125 : decode cX10_inserts 125 = .ok (.iadd, 1) := by decide +kernel
theorem dX10_inserts_126 : decode cX10_inserts 126 = .ok (.putfield 84, 3) := by decide +kernel
theorem dX10_inserts_129 : decode cX10_inserts 129 = .ok (.return_, 1) := by decide +kernel
theorem dX10_lays_0 : decode cX10_lays 0 = .ok (.iconst 0, 1) := by decide +kernel
theorem dX10_lays_1 : decode cX10_lays 1 = .ok (.istore_n 1, 1) := by decide +kernel
theorem dX10_lays_2 : decode cX10_lays 2 = .ok (.iload_n 1, 1) := by decide +kernel
theorem dX10_lays_3 : decode cX10_lays 3 = .ok (.bipush 32, 2) := by decide +kernel
theorem dX10_lays_5 : decode cX10_lays 5 = .ok (.if_icmp .ge 46, 3) := by decide +kernel
theorem dX10_lays_8 : decode cX10_lays 8 = .ok (.iconst 0, 1) := by decide +kernel
theorem dX10_lays_9 : decode cX10_lays 9 = .ok (.istore_n 2, 1) := by decide +kernel
theorem dX10_lays_10 : decode cX10_lays 10 = .ok (.iload_n 2, 1) := by decide +kernel
theorem dX10_lays_11 : decode cX10_lays 11 = .ok (.bipush 42, 2) := by decide +kernel
theorem dX10_lays_13 : decode cX10_lays 13 = .ok (.if_icmp .ge 32, 3) := by decide +kernel
theorem dX10_lays_16 : decode cX10_lays 16 = .ok (.aload_n 0, 1) := by decide +kernel
theorem dX10_lays_17 : decode cX10_lays 17 = .ok (.getfield 46, 3) := by decide +kernel
theorem dX10_lays_20 : decode cX10_lays 20 = .ok (.bipush 42, 2) := by decide +kernel
theorem dX10_lays_22 : decode cX10_lays 22 = .ok (.iload_n 1, 1) := by decide +kernel
theorem dX10_lays_23 : decode cX10_lays 23 = .ok (.imul, 1) := by decide +kernel
theorem dX10_lays_24 : decode cX10_lays 24 = .ok (.iload_n 2, 1) := by decide +kernel
theorem dX10_lays_25 : decode cX10_lays 25 = .ok (.iadd, 1) := by decide +kernel
theorem dX10_lays_26 : decode cX10_lays 26 = .ok (.aload_n 0, 1) := by decide +kernel
theorem dX10_lays_27 : decode cX10_lays 27 = .ok (.getfield 7, 3) := by decide +kernel
theorem dX10_lays_30 : decode cX10_lays 30 = .ok (.aload_n 0, 1) := by decide +kernel
theorem dX10_lays_31 : decode cX10_lays 31 = .ok (.iload_n 1, 1) := by decide +kernel
theorem dX10_lays_32 : decode cX10_lays 32 = .ok (.invokevirtual 91, 3) := by decide +kernel
theorem dX10_lays_35 : decode cX10_lays 35 = .ok (.iload_n 2, 1) := by decide +kernel
theorem dX10_lays_36 : decode cX10_lays 36 = .ok (.iadd, 1) := by decide +kernel
theorem dX10_lays_37 : decode cX10_lays 37 = .ok (.iaload, 1) := by decide +kernel
theorem dX10_lays_38 : decode cX10_lays 38 = .ok (.iastore, 1) := by decide +kernel
theorem dX10_lays_39 : decode cX10_lays 39 = .ok (.iinc 2 1, 3) := by decide +kernel
theorem dX10_lays_42 : decode cX10_lays 42 = .ok (.goto (-32), 3) := by decide +kernel
theorem dX10_lays_45 : decode cX10_lays 45 = .ok (.iinc 1 1, 3) := by decide +kernel
theorem dX10_lays_48 : decode cX10_lays 48 = .ok (.goto (-46), 3) := by decide +kernel
theorem dX10_lays_51 : decode cX10_lays 51 = .ok (.aload_n 0, 1) := by decide +kernel
theorem dX10_lays_52 : decode cX10_lays 52 = .ok (.getfield 7, 3) := by decide +kernel
theorem dX10_lays_55 : decode cX10_lays 55 = .ok (.bipush 42, 2) := by decide +kernel
theorem dX10_lays_57 : decode cX10_lays 57 = .ok (.aload_n 0, 1) := by decide +kernel
theorem dX10_lays_58 : decode cX10_lays 58 = .ok (.getfield 84, 3) := by decide +kernel
theorem dX10_lays_61 : decode cX10_lays 61 = .ok (.iastore, 1) := by decide +kernel
theorem dX10_lays_62 : decode cX10_lays 62 = .ok (.iconst 0, 1) := by decide +kernel
theorem dX10_lays_63 : decode cX10_lays 63 = .ok (.istore_n 1, 1) := by decide +kernel
theorem dX10_lays_64 : decode cX10_lays 64 = .ok (.iload_n 1, 1) := by decide +kernel
theorem dX10_lays_65 : decode cX10_lays 65 = .ok (.aload_n 0, 1) := by decide +kernel
theorem dX10_lays_66 : decode cX10_lays 66 = .ok (.getfield 84, 3) := by decide +kernel
theorem dX10_lays_69 : decode cX10_lays 69 = .ok (.if_icmp .ge 137, 3) := by decide +kernel
theorem dX10_lays_72 : decode cX10_lays 72 = .ok (.aload_n 0, 1) := by decide +kernel
theorem dX10_lays_73 : decode cX10_lays 73 = .ok (.getfield 7, 3) := by decide +kernel
theorem dX10_lays_76 : decode cX10_lays 76 = .ok (.aload_n 0, 1) := by decide +kernel
theorem dX10_lays_77 : decode cX10_lays 77 = .ok (.iload_n 1, 1) := by decide +kernel
theorem dX10_lays_78 : decode cX10_lays 78 = .ok (.invokevirtual 81, 3) := by decide +kernel
theorem dX10_lays_81 : decode cX10_lays 81 = .ok (.aload_n 0, 1) := by decide +kernel
theorem dX10_lays_82 : decode cX10_lays 82 = .ok (.getfield 16, 3) := by decide +kernel
theorem dX10_lays_85 : decode cX10_lays 85 = .ok (.iload_n 1, 1) := by decide +kernel
theorem dX10_lays_86 : decode cX10_lays 86 = .ok (.iaload, 1) := by decide +kernel
theorem dX10_lays_87 : decode cX10_lays 87 = .ok (.iastore, 1) := by decide +kernel
theorem dX10_lays_88 : decode cX10_lays 88 = .ok (.aload_n 0, 1) := by decide +kernel
theorem dX10_lays_89 : decode cX10_lays 89 = .ok (.getfield 7, 3) := by decide +kernel
theorem dX10_lays_92 : decode cX10_lays 92 = .ok (.aload_n 0, 1) := by decide +kernel
theorem dX10_lays_93 : decode cX10_lays 93 = .ok (.iload_n 1, 1) := by decide +kernel
theorem dX10_lays_94 : decode cX10_lays 94 = .ok (.invokevirtual 81, 3) := by decide +kernel
theorem dX10_lays_97 : decode cX10_lays 97 = .ok (.iconst 1, 1) := by decide +kernel
theorem dX10_lays_98 : decode cX10_lays 98 = .ok (.iadd, 1) := by decide +kernel
theorem dX10_lays_99 : decode cX10_lays 99 = .ok (.aload_n 0, 1) := by decide +kernel
theorem dX10_lays_100 : decode cX10_lays 100 = .ok (.getfield 19, 3) := by decide +kernel
theorem dX10_lays_103 : decode cX10_lays 103 = .ok (.iload_n 1, 1) := by decide +kernel
theorem dX10_lays_104 : decode cX10_lays 104 = .ok (.iaload, 1) := by decide +kernel
theorem dX10_lays_105 : decode cX10_lays 105 = .ok (.iastore, 1) := by decide +kernel
theorem dX10_lays_106 : decode cX10_lays 106 = .ok (.aload_n 0, 1) := by decide +kernel
theorem dX10_lays_107 : decode cX10_lays 107 = .ok (.getfield 7, 3) := by decide +kernel
theorem dX10_lays_110 : decode cX10_lays 110 = .ok (.aload_n 0, 1) := by decide +kernel
theorem dX10_lays_111 : decode cX10_lays 111 = .ok (.iload_n 1, 1) := by decide +kernel
theorem dX10_lays_112 : decode cX10_lays 112 = .ok (.invokevirtual 81, 3) := by decide +kernel
theorem dX10_lays_115 : decode cX10_lays 115 = .ok (.iconst 2, 1) := by decide +kernel
theorem dX10_lays_116 : decode cX10_lays 116 = .ok (.iadd, 1) := by decide +kernel
theorem dX10_lays_117 : decode cX10_lays 117 = .ok (.aload_n 0, 1) := by decide +kernel
theorem dX10_lays_118 : decode cX10_lays 118 = .ok (.getfield 22, 3) := by decide +kernel
theorem dX10_lays_121 : decode cX10_lays 121 = .ok (.iload_n 1, 1) := by decide +kernel
theorem dX10_lays_122 : decode cX10_lays 122 = .ok (.iaload, 1) := by decide +kernel
theorem dX10_lays_123 : decode cX10_lays 123 = .ok (.iastore, 1) := by decide +kernel
theorem dX10_lays_124 : decode cX10_lays 124 = .ok (.iconst 0, 1) := by decide +kernel
theorem dX10_lays_125 : decode cX10_lays 125 = .ok (.istore_n 2, 1) := by decide +kernel
theorem dX10_lays_126 : decode cX10_lays 126 = .ok (.iload_n 2, 1) := by decide +kernel
theorem dX10_lays_127 : decode cX10_lays 127 = .ok (.bipush 42, 2) := by decide +kernel
theorem dX10_lays_129 : decode cX10_lays 129 = .ok (.if_icmp .ge 71, 3) := by decide +kernel
theorem dX10_lays_132 : decode cX10_lays 132 = .ok (.aload_n 0, 1) := by decide +kernel
theorem dX10_lays_133 : decode cX10_lays 133 = .ok (.getfield 7, 3) := by decide +kernel
theorem dX10_lays_136 : decode cX10_lays 136 = .ok (.aload_n 0, 1) := by decide +kernel
theorem dX10_lays_137 : decode cX10_lays 137 = .ok (.iconst 2, 1) := by decide +kernel
theorem dX10_lays_138 : decode cX10_lays 138 = .ok (.iload_n 1, 1) := by decide +kernel
theorem dX10_lays_139 : decode cX10_lays 139 = .ok (.imul, 1) := by decide +kernel
theorem dX10_lays_140 : decode cX10_lays 140 = .ok (.invokevirtual 91, 3) := by decide +kernel
theorem dX10_lays_143 : decode cX10_lays 143 = .ok (.iload_n 2, 1) := by decide +kernel
theorem dX10_lays_144 : decode cX10_lays 144 = .ok (.iadd, 1) := by decide +kernel
theorem dX10_lays_145 : decode cX10_lays 145 = .ok (.aload_n 0, 1) := by decide +kernel
theorem dX10_lays_146 : decode cX10_lays 146 = .ok (.getfield 46, 3) := by decide +kernel
theorem dX10_lays_149 : decode cX10_lays 149 = .ok (.bipush 42, 2) := by decide +kernel
theorem dX10_lays_151 : decode cX10_lays 151 = .ok (.aload_n 0, 1) := by decide +kernel
theorem dX10_lays_152 : decode cX10_lays 152 = .ok (.getfield 25, 3) := by decide +kernel
theorem dX10_lays_155 : decode cX10_lays 155 = .ok (.iload_n 1, 1) := by decide +kernel
theorem dX10_lays_156 : decode cX10_lays 156 = .ok (.iaload, 1) := by decide +kernel
theorem dX10_lays_157 : decode cX10_lays 157 = .ok (.imul, 1) := by decide +kernel
theorem dX10_lays_158 : decode cX10_lays 158 = .ok (.iload_n 2, 1) := by decide +kernel
theorem dX10_lays_159 : decode cX10_lays 159 = .ok (.iadd, 1) := by decide +kernel
theorem dX10_lays_160 : decode cX10_lays 160 = .ok (.iaload, 1) := by decide +kernel
theorem dX10_lays_161 : decode cX10_lays 161 = .ok (.iastore, 1) := by decide +kernel
theorem dX10_lays_162 : decode cX10_lays 162 = .ok (.aload_n 0, 1) := by decide +kernel
theorem dX10_lays_163 : decode cX10_lays 163 = .ok (.getfield 7, 3) := by decide +kernel
theorem dX10_lays_166 : decode cX10_lays 166 = .ok (.aload_n 0, 1) := by decide +kernel
theorem dX10_lays_167 : decode cX10_lays 167 = .ok (.iconst 2, 1) := by decide +kernel
theorem dX10_lays_168 : decode cX10_lays 168 = .ok (.iload_n 1, 1) := by decide +kernel
theorem dX10_lays_169 : decode cX10_lays 169 = .ok (.imul, 1) := by decide +kernel
theorem dX10_lays_170 : decode cX10_lays 170 = .ok (.iconst 1, 1) := by decide +kernel
theorem dX10_lays_171 : decode cX10_lays 171 = .ok (.iadd, 1) := by decide +kernel
theorem dX10_lays_172 : decode cX10_lays 172 = .ok (.invokevirtual 91, 3) := by decide +kernel
theorem dX10_lays_175 : decode cX10_lays 175 = .ok (.iload_n 2, 1) := by decide +kernel
theorem dX10_lays_176 : decode cX10_lays 176 = .ok (.iadd, 1) := by decide +kernel
theorem dX10_lays_177 : decode cX10_lays 177 = .ok (.aload_n 0, 1) := by decide +kernel
theorem dX10_lays_178 : decode cX10_lays 178 = .ok (.getfield 46, 3) := by decide +kernel
theorem dX10_lays_181 : decode cX10_lays 181 = .ok (.bipush 42, 2) := by decide +kernel
theorem dX10_lays_183 : decode cX10_lays 183 = .ok (.aload_n 0, 1) := by decide +kernel
theorem dX10_lays_184 : decode cX10_lays 184 = .ok (.getfield 28, 3) := by decide +kernel
theorem dX10_lays_187 : decode cX10_lays 187 = .ok (.iload_n 1, 1) := by decide +kernel
theorem dX10_lays_188 : decode cX10_lays 188 = .ok (.iaload, 1) := by decide +kernel
theorem dX10_lays_189 : decode cX10_lays 189 = .ok (.imul, 1) := by decide +kernel
theorem dX10_lays_190 : decode cX10_lays 190 = .ok (.iload_n 2, 1) := by decide +kernel
theorem dX10_lays_191 : decode cX10_lays 191 = .ok (.iadd, 1) := by decide +kernel
theorem dX10_lays_192 : decode cX10_lays 192 = .ok (.iaload, 1) := by decide +kernel
theorem dX10_lays_193 : decode cX10_lays 193 = .ok (.iastore, 1) := by decide +kernel
theorem dX10_lays_194 : decode cX10_lays 194 = .ok (.iinc 2 1, 3) := by decide +kernel
theorem dX10_lays_197 : decode cX10_lays 197 = .ok (.goto (-71), 3) := by decide +kernel
theorem dX10_lays_200 : decode cX10_lays 200 = .ok (.iinc 1 1, 3) := by decide +kernel
theorem dX10_lays_203 : decode cX10_lays 203 = .ok (.goto (-139), 3) := by decide +kernel
theorem dX10_lays_206 : decode cX10_lays 206 = .ok (.return_, 1) := by decide +kernel
theorem dX10_byteOf_0 : decode cX10_byteOf 0 = .ok (.aload_n 0, 1) := by decide +kernel
theorem dX10_byteOf_1 : decode cX10_byteOf 1 = .ok (.getfield 7, 3) := by decide +kernel
theorem dX10_byteOf_4 : decode cX10_byteOf 4 = .ok (.aload_n 0, 1) := by decide +kernel
theorem dX10_byteOf_5 : decode cX10_byteOf 5 = .ok (.iload_n 1, 1) := by decide +kernel
theorem dX10_byteOf_6 : decode cX10_byteOf 6 = .ok (.invokevirtual 91, 3) := by decide +kernel
theorem dX10_byteOf_9 : decode cX10_byteOf 9 = .ok (.iconst 2, 1) := by decide +kernel
theorem dX10_byteOf_10 : decode cX10_byteOf 10 = .ok (.iadd, 1) := by decide +kernel
theorem dX10_byteOf_11 : decode cX10_byteOf 11 = .ok (.iload_n 2, 1) := by decide +kernel
theorem dX10_byteOf_12 : decode cX10_byteOf 12 = .ok (.iadd, 1) := by decide +kernel
theorem dX10_byteOf_13 : decode cX10_byteOf 13 = .ok (.iaload, 1) := by decide +kernel
theorem dX10_byteOf_14 : decode cX10_byteOf 14 = .ok (.ireturn, 1) := by decide +kernel
theorem dX10_longOf_0 : decode cX10_longOf 0 = .ok (.aload_n 0, 1) := by decide +kernel
theorem dX10_longOf_1 : decode cX10_longOf 1 = .ok (.getfield 7, 3) := by decide +kernel
theorem dX10_longOf_4 : decode cX10_longOf 4 = .ok (.aload_n 0, 1) := by decide +kernel
theorem dX10_longOf_5 : decode cX10_longOf 5 = .ok (.iload_n 1, 1) := by decide +kernel
theorem dX10_longOf_6 : decode cX10_longOf 6 = .ok (.invokevirtual 91, 3) := by decide +kernel
theorem dX10_longOf_9 : decode cX10_longOf 9 = .ok (.iconst 1, 1) := by decide +kernel
theorem dX10_longOf_10 : decode cX10_longOf 10 = .ok (.iadd, 1) := by decide +kernel
theorem dX10_longOf_11 : decode cX10_longOf 11 = .ok (.iaload, 1) := by decide +kernel
theorem dX10_longOf_12 : decode cX10_longOf 12 = .ok (.ireturn, 1) := by decide +kernel
theorem dX10_isWord_0 : decode cX10_isWord 0 = .ok (.iload 5, 2) := by decide +kernel
theorem dX10_isWord_2 : decode cX10_isWord 2 = .ok (.ifCond .ne 7, 3) := by decide +kernel
theorem dX10_isWord_5 : decode cX10_isWord 5 = .ok (.iconst 2, 1) := by decide +kernel
theorem dX10_isWord_6 : decode cX10_isWord 6 = .ok (.goto 4, 3) := by decide +kernel
theorem dX10_isWord_9 : decode cX10_isWord 9 = .ok (.iconst 3, 1) := by decide +kernel
theorem dX10_isWord_10 : decode cX10_isWord 10 = .ok (.istore 6, 2) := by decide +kernel
theorem dX10_isWord_12 : decode cX10_isWord 12 = .ok (.iload_n 2, 1) := by decide +kernel
theorem dX10_isWord_13 : decode cX10_isWord 13 = .ok (.iload 6, 2) := by decide +kernel
theorem dX10_isWord_15 : decode cX10_isWord 15 = .ok (.iadd, 1) := by decide +kernel
theorem dX10_isWord_16 : decode cX10_isWord 16 = .ok (.aload_n 0, 1) := by decide +kernel
theorem dX10_isWord_17 : decode cX10_isWord 17 = .ok (.iload_n 1, 1) := by decide +kernel
theorem dX10_isWord_18 : decode cX10_isWord 18 = .ok (.invokevirtual 94, 3) := by decide +kernel
theorem dX10_isWord_21 : decode cX10_isWord 21 = .ok (.if_icmp .gt 48, 3) := by decide +kernel
theorem dX10_isWord_24 : decode cX10_isWord 24 = .ok (.aload_n 0, 1) := by decide +kernel
theorem dX10_isWord_25 : decode cX10_isWord 25 = .ok (.iload_n 1, 1) := by decide +kernel
theorem dX10_isWord_26 : decode cX10_isWord 26 = .ok (.iload_n 2, 1) := by decide +kernel
theorem dX10_isWord_27 : decode cX10_isWord 27 = .ok (.invokevirtual 97, 3) := by decide +kernel
theorem dX10_isWord_30 : decode cX10_isWord 30 = .ok (.iload_n 3, 1) := by decide +kernel
theorem dX10_isWord_31 : decode cX10_isWord 31 = .ok (.if_icmp .ne 38, 3) := by decide +kernel
theorem dX10_isWord_34 : decode cX10_isWord 34 = .ok (.aload_n 0, 1) := by decide +kernel
theorem dX10_isWord_35 : decode cX10_isWord 35 = .ok (.iload_n 1, 1) := by decide +kernel
theorem dX10_isWord_36 : decode cX10_isWord 36 = .ok (.iload_n 2, 1) := by decide +kernel
theorem dX10_isWord_37 : decode cX10_isWord 37 = .ok (.iconst 1, 1) := by decide +kernel
theorem dX10_isWord_38 : decode cX10_isWord 38 = .ok (.iadd, 1) := by decide +kernel
theorem dX10_isWord_39 : decode cX10_isWord 39 = .ok (.invokevirtual 97, 3) := by decide +kernel
theorem dX10_isWord_42 : decode cX10_isWord 42 = .ok (.iload 4, 2) := by decide +kernel
theorem dX10_isWord_44 : decode cX10_isWord 44 = .ok (.if_icmp .ne 25, 3) := by decide +kernel
theorem dX10_isWord_47 : decode cX10_isWord 47 = .ok (.iload 5, 2) := by decide +kernel
theorem dX10_isWord_49 : decode cX10_isWord 49 = .ok (.ifCond .eq 16, 3) := by decide +kernel
theorem dX10_isWord_52 : decode cX10_isWord 52 = .ok (.aload_n 0, 1) := by decide +kernel
theorem dX10_isWord_53 : decode cX10_isWord 53 = .ok (.iload_n 1, 1) := by decide +kernel
theorem dX10_isWord_54 : decode cX10_isWord 54 = .ok (.iload_n 2, 1) := by decide +kernel
theorem dX10_isWord_55 : decode cX10_isWord 55 = .ok (.iconst 2, 1) := by decide +kernel
theorem dX10_isWord_56 : decode cX10_isWord 56 = .ok (.iadd, 1) := by decide +kernel
theorem dX10_isWord_57 : decode cX10_isWord 57 = .ok (.invokevirtual 97, 3) := by decide +kernel
theorem dX10_isWord_60 : decode cX10_isWord 60 = .ok (.iload 5, 2) := by decide +kernel
theorem dX10_isWord_62 : decode cX10_isWord 62 = .ok (.if_icmp .ne 7, 3) := by decide +kernel
theorem dX10_isWord_65 : decode cX10_isWord 65 = .ok (.iconst 1, 1) := by decide +kernel
theorem dX10_isWord_66 : decode cX10_isWord 66 = .ok (.goto 4, 3) := by decide +kernel
theorem dX10_isWord_69 : decode cX10_isWord 69 = .ok (.iconst 0, 1) := by decide +kernel
theorem dX10_isWord_70 : decode cX10_isWord 70 = .ok (.istore 7, 2) := by decide +kernel
theorem dX10_isWord_72 : decode cX10_isWord 72 = .ok (.iload 7, 2) := by decide +kernel
theorem dX10_isWord_74 : decode cX10_isWord 74 = .ok (.ifCond .eq 33, 3) := by decide +kernel
theorem dX10_isWord_77 : decode cX10_isWord 77 = .ok (.iload_n 2, 1) := by decide +kernel
theorem dX10_isWord_78 : decode cX10_isWord 78 = .ok (.iload 6, 2) := by decide +kernel
theorem dX10_isWord_80 : decode cX10_isWord 80 = .ok (.iadd, 1) := by decide +kernel
theorem dX10_isWord_81 : decode cX10_isWord 81 = .ok (.aload_n 0, 1) := by decide +kernel
theorem dX10_isWord_82 : decode cX10_isWord 82 = .ok (.iload_n 1, 1) := by decide +kernel
theorem dX10_isWord_83 : decode cX10_isWord 83 = .ok (.invokevirtual 94, 3) := by decide +kernel
theorem dX10_isWord_86 : decode cX10_isWord 86 = .ok (.if_icmp .eq 17, 3) := by decide +kernel
theorem dX10_isWord_89 : decode cX10_isWord 89 = .ok (.aload_n 0, 1) := by decide +kernel
theorem dX10_isWord_90 : decode cX10_isWord 90 = .ok (.iload_n 1, 1) := by decide +kernel
theorem dX10_isWord_91 : decode cX10_isWord 91 = .ok (.iload_n 2, 1) := by decide +kernel
theorem dX10_isWord_92 : decode cX10_isWord 92 = .ok (.iload 6, 2) := by decide +kernel
theorem dX10_isWord_94 : decode cX10_isWord 94 = .ok (.iadd, 1) := by decide +kernel
theorem dX10_isWord_95 : decode cX10_isWord 95 = .ok (.invokevirtual 97, 3) := by decide +kernel
theorem dX10_isWord_98 : decode cX10_isWord 98 = .ok (.bipush 32, 2) := by decide +kernel
theorem dX10_isWord_100 : decode cX10_isWord 100 = .ok (.if_icmp .ne 7, 3) := by decide +kernel
theorem dX10_isWord_103 : decode cX10_isWord 103 = .ok (.iconst 1, 1) := by decide +kernel
theorem dX10_isWord_104 : decode cX10_isWord 104 = .ok (.goto 4, 3) := by decide +kernel
theorem dX10_isWord_107 : decode cX10_isWord 107 = .ok (.iconst 0, 1) := by decide +kernel
theorem dX10_isWord_108 : decode cX10_isWord 108 = .ok (.ireturn, 1) := by decide +kernel
theorem dX10_rankOf_0 : decode cX10_rankOf 0 = .ok (.aload_n 0, 1) := by decide +kernel
theorem dX10_rankOf_1 : decode cX10_rankOf 1 = .ok (.iload_n 1, 1) := by decide +kernel
theorem dX10_rankOf_2 : decode cX10_rankOf 2 = .ok (.iload_n 2, 1) := by decide +kernel
theorem dX10_rankOf_3 : decode cX10_rankOf 3 = .ok (.iconst 1, 1) := by decide +kernel
theorem dX10_rankOf_4 : decode cX10_rankOf 4 = .ok (.isub, 1) := by decide +kernel
theorem dX10_rankOf_5 : decode cX10_rankOf 5 = .ok (.invokevirtual 97, 3) := by decide +kernel
theorem dX10_rankOf_8 : decode cX10_rankOf 8 = .ok (.istore_n 3, 1) := by decide +kernel
theorem dX10_rankOf_9 : decode cX10_rankOf 9 = .ok (.iload_n 3, 1) := by decide +kernel
theorem dX10_rankOf_10 : decode cX10_rankOf 10 = .ok (.bipush 46, 2) := by decide +kernel
theorem dX10_rankOf_12 : decode cX10_rankOf 12 = .ok (.if_icmp .eq 15, 3) := by decide +kernel
theorem dX10_rankOf_15 : decode cX10_rankOf 15 = .ok (.iload_n 3, 1) := by decide +kernel
theorem dX10_rankOf_16 : decode cX10_rankOf 16 = .ok (.bipush 33, 2) := by decide +kernel
theorem dX10_rankOf_18 : decode cX10_rankOf 18 = .ok (.if_icmp .eq 9, 3) := by decide +kernel
theorem dX10_rankOf_21 : decode cX10_rankOf 21 = .ok (.iload_n 3, 1) := by decide +kernel
theorem dX10_rankOf_22 : decode cX10_rankOf 22 = .ok (.bipush 63, 2) := by decide +kernel
theorem dX10_rankOf_24 : decode cX10_rankOf 24 = .ok (.if_icmp .ne 5, 3) := by decide +kernel
theorem dX10_rankOf_27 : decode cX10_rankOf 27 = .ok (.iconst 0, 1) := by decide +kernel
theorem dX10_rankOf_28 : decode cX10_rankOf 28 = .ok (.ireturn, 1) := by decide +kernel
theorem dX10_rankOf_29 : decode cX10_rankOf 29 = .ok (.iload_n 3, 1) := by decide +kernel
theorem dX10_rankOf_30 : decode cX10_rankOf 30 = .ok (.bipush 44, 2) := by decide +kernel
theorem dX10_rankOf_32 : decode cX10_rankOf 32 = .ok (.if_icmp .eq 9, 3) := by decide +kernel
theorem dX10_rankOf_35 : decode cX10_rankOf 35 = .ok (.iload_n 3, 1) := by decide +kernel
theorem dX10_rankOf_36 : decode cX10_rankOf 36 = .ok (.bipush 58, 2) := by decide +kernel
theorem dX10_rankOf_38 : decode cX10_rankOf 38 = .ok (.if_icmp .ne 5, 3) := by decide +kernel
theorem dX10_rankOf_41 : decode cX10_rankOf 41 = .ok (.iconst 1, 1) := by decide +kernel
theorem dX10_rankOf_42 : decode cX10_rankOf 42 = .ok (.ireturn, 1) := by decide +kernel
theorem dX10_rankOf_43 : decode cX10_rankOf 43 = .ok (.aload_n 0, 1) := by decide +kernel
theorem dX10_rankOf_44 : decode cX10_rankOf 44 = .ok (.iload_n 1, 1) := by decide +kernel
theorem dX10_rankOf_45 : decode cX10_rankOf 45 = .ok (.iload_n 2, 1) := by decide +kernel
theorem dX10_rankOf_46 : decode cX10_rankOf 46 = .ok (.iconst 1, 1) := by decide +kernel
theorem dX10_rankOf_47 : decode cX10_rankOf 47 = .ok (.iadd, 1) := by decide +kernel
theorem dX10_rankOf_48 : decode cX10_rankOf 48 = .ok (.bipush 97, 2) := by decide +kernel
theorem dX10_rankOf_50 : decode cX10_rankOf 50 = .ok (.bipush 110, 2) := by decide +kernel
theorem dX10_rankOf_52 : decode cX10_rankOf 52 = .ok (.bipush 100, 2) := by decide +kernel
theorem dX10_rankOf_54 : decode cX10_rankOf 54 = .ok (.invokevirtual 101, 3) := by decide +kernel
theorem dX10_rankOf_57 : decode cX10_rankOf 57 = .ok (.ifCond .ne 36, 3) := by decide +kernel
theorem dX10_rankOf_60 : decode cX10_rankOf 60 = .ok (.aload_n 0, 1) := by decide +kernel
theorem dX10_rankOf_61 : decode cX10_rankOf 61 = .ok (.iload_n 1, 1) := by decide +kernel
theorem dX10_rankOf_62 : decode cX10_rankOf 62 = .ok (.iload_n 2, 1) := by decide +kernel
theorem dX10_rankOf_63 : decode cX10_rankOf 63 = .ok (.iconst 1, 1) := by decide +kernel
theorem dX10_rankOf_64 : decode cX10_rankOf 64 = .ok (.iadd, 1) := by decide +kernel
theorem dX10_rankOf_65 : decode cX10_rankOf 65 = .ok (.bipush 111, 2) := by decide +kernel
theorem dX10_rankOf_67 : decode cX10_rankOf 67 = .ok (.bipush 114, 2) := by decide +kernel
theorem dX10_rankOf_69 : decode cX10_rankOf 69 = .ok (.iconst 0, 1) := by decide +kernel
theorem dX10_rankOf_70 : decode cX10_rankOf 70 = .ok (.invokevirtual 101, 3) := by decide +kernel
theorem dX10_rankOf_73 : decode cX10_rankOf 73 = .ok (.ifCond .ne 20, 3) := by decide +kernel
theorem dX10_rankOf_76 : decode cX10_rankOf 76 = .ok (.aload_n 0, 1) := by decide +kernel
theorem dX10_rankOf_77 : decode cX10_rankOf 77 = .ok (.iload_n 1, 1) := by decide +kernel
theorem dX10_rankOf_78 : decode cX10_rankOf 78 = .ok (.iload_n 2, 1) := by decide +kernel
theorem dX10_rankOf_79 : decode cX10_rankOf 79 = .ok (.iconst 1, 1) := by decide +kernel
theorem dX10_rankOf_80 : decode cX10_rankOf 80 = .ok (.iadd, 1) := by decide +kernel
theorem dX10_rankOf_81 : decode cX10_rankOf 81 = .ok (.bipush 98, 2) := by decide +kernel
theorem dX10_rankOf_83 : decode cX10_rankOf 83 = .ok (.bipush 117, 2) := by decide +kernel
theorem dX10_rankOf_85 : decode cX10_rankOf 85 = .ok (.bipush 116, 2) := by decide +kernel
theorem dX10_rankOf_87 : decode cX10_rankOf 87 = .ok (.invokevirtual 101, 3) := by decide +kernel
theorem dX10_rankOf_90 : decode cX10_rankOf 90 = .ok (.ifCond .eq 7, 3) := by decide +kernel
theorem dX10_rankOf_93 : decode cX10_rankOf 93 = .ok (.iconst 1, 1) := by decide +kernel
theorem dX10_rankOf_94 : decode cX10_rankOf 94 = .ok (.goto 4, 3) := by decide +kernel
theorem dX10_rankOf_97 : decode cX10_rankOf 97 = .ok (.iconst 0, 1) := by decide +kernel
theorem dX10_rankOf_98 : decode cX10_rankOf 98 = .ok (.istore 4, 2) := by decide +kernel
theorem dX10_rankOf_100 : decode cX10_rankOf 100 = .ok (.iload 4, 2) := by decide +kernel
theorem dX10_rankOf_102 : decode cX10_rankOf 102 = .ok (.ifCond .eq 7, 3) := by decide +kernel
theorem dX10_rankOf_105 : decode cX10_rankOf 105 = .ok (.iconst 2, 1) := by decide +kernel
theorem dX10_rankOf_106 : decode cX10_rankOf 106 = .ok (.goto 4, 3) := by decide +kernel
theorem dX10_rankOf_109 : decode cX10_rankOf 109 = .ok (.iconst 3, 1) := by decide +kernel
theorem dX10_rankOf_110 : decode cX10_rankOf 110 = .ok (.ireturn, 1) := by decide +kernel
theorem dX10_brokenAt_0 : decode cX10_brokenAt 0 = .ok (.aload_n 0, 1) := by decide +kernel
theorem dX10_brokenAt_1 : decode cX10_brokenAt 1 = .ok (.iload_n 1, 1) := by decide +kernel
theorem dX10_brokenAt_2 : decode cX10_brokenAt 2 = .ok (.invokevirtual 94, 3) := by decide +kernel
theorem dX10_brokenAt_5 : decode cX10_brokenAt 5 = .ok (.istore_n 2, 1) := by decide +kernel
theorem dX10_brokenAt_6 : decode cX10_brokenAt 6 = .ok (.aload_n 0, 1) := by decide +kernel
theorem dX10_brokenAt_7 : decode cX10_brokenAt 7 = .ok (.iconst 4, 1) := by decide +kernel
theorem dX10_brokenAt_8 : decode cX10_brokenAt 8 = .ok (.invokevirtual 105, 3) := by decide +kernel
theorem dX10_brokenAt_11 : decode cX10_brokenAt 11 = .ok (.istore_n 3, 1) := by decide +kernel
theorem dX10_brokenAt_12 : decode cX10_brokenAt 12 = .ok (.bipush (-9), 2) := by decide +kernel
theorem dX10_brokenAt_14 : decode cX10_brokenAt 14 = .ok (.istore 4, 2) := by decide +kernel
theorem dX10_brokenAt_16 : decode cX10_brokenAt 16 = .ok (.iconst 0, 1) := by decide +kernel
theorem dX10_brokenAt_17 : decode cX10_brokenAt 17 = .ok (.istore 5, 2) := by decide +kernel
theorem dX10_brokenAt_19 : decode cX10_brokenAt 19 = .ok (.iconst 0, 1) := by decide +kernel
theorem dX10_brokenAt_20 : decode cX10_brokenAt 20 = .ok (.istore 6, 2) := by decide +kernel
theorem dX10_brokenAt_22 : decode cX10_brokenAt 22 = .ok (.iconst 0, 1) := by decide +kernel
theorem dX10_brokenAt_23 : decode cX10_brokenAt 23 = .ok (.istore 7, 2) := by decide +kernel
theorem dX10_brokenAt_25 : decode cX10_brokenAt 25 = .ok (.iload 7, 2) := by decide +kernel
theorem dX10_brokenAt_27 : decode cX10_brokenAt 27 = .ok (.iload_n 2, 1) := by decide +kernel
theorem dX10_brokenAt_28 : decode cX10_brokenAt 28 = .ok (.if_icmp .ge 139, 3) := by decide +kernel
theorem dX10_brokenAt_31 : decode cX10_brokenAt 31 = .ok (.iload_n 2, 1) := by decide +kernel
theorem dX10_brokenAt_32 : decode cX10_brokenAt 32 = .ok (.iload_n 3, 1) := by decide +kernel
theorem dX10_brokenAt_33 : decode cX10_brokenAt 33 = .ok (.if_icmp .le 134, 3) := by decide +kernel
theorem dX10_brokenAt_36 : decode cX10_brokenAt 36 = .ok (.aload_n 0, 1) := by decide +kernel
theorem dX10_brokenAt_37 : decode cX10_brokenAt 37 = .ok (.iload_n 1, 1) := by decide +kernel
theorem dX10_brokenAt_38 : decode cX10_brokenAt 38 = .ok (.iload 7, 2) := by decide +kernel
theorem dX10_brokenAt_40 : decode cX10_brokenAt 40 = .ok (.invokevirtual 97, 3) := by decide +kernel
theorem dX10_brokenAt_43 : decode cX10_brokenAt 43 = .ok (.bipush 32, 2) := by decide +kernel
theorem dX10_brokenAt_45 : decode cX10_brokenAt 45 = .ok (.if_icmp .ne 116, 3) := by decide +kernel
theorem dX10_brokenAt_48 : decode cX10_brokenAt 48 = .ok (.iload_n 2, 1) := by decide +kernel
theorem dX10_brokenAt_49 : decode cX10_brokenAt 49 = .ok (.iload 7, 2) := by decide +kernel
theorem dX10_brokenAt_51 : decode cX10_brokenAt 51 = .ok (.isub, 1) := by decide +kernel
theorem dX10_brokenAt_52 : decode cX10_brokenAt 52 = .ok (.iconst 1, 1) := by decide +kernel
theorem dX10_brokenAt_53 : decode cX10_brokenAt 53 = .ok (.isub, 1) := by decide +kernel
theorem dX10_brokenAt_54 : decode cX10_brokenAt 54 = .ok (.istore 8, 2) := by decide +kernel
theorem dX10_brokenAt_56 : decode cX10_brokenAt 56 = .ok (.iload 7, 2) := by decide +kernel
theorem dX10_brokenAt_58 : decode cX10_brokenAt 58 = .ok (.iload 8, 2) := by decide +kernel
theorem dX10_brokenAt_60 : decode cX10_brokenAt 60 = .ok (.if_icmp .le 8, 3) := by decide +kernel
theorem dX10_brokenAt_63 : decode cX10_brokenAt 63 = .ok (.iload 7, 2) := by decide +kernel
theorem dX10_brokenAt_65 : decode cX10_brokenAt 65 = .ok (.goto 5, 3) := by decide +kernel
theorem dX10_brokenAt_68 : decode cX10_brokenAt 68 = .ok (.iload 8, 2) := by decide +kernel
theorem dX10_brokenAt_70 : decode cX10_brokenAt 70 = .ok (.istore 9, 2) := by decide +kernel
theorem dX10_brokenAt_72 : decode cX10_brokenAt 72 = .ok (.iload 9, 2) := by decide +kernel
theorem dX10_brokenAt_74 : decode cX10_brokenAt 74 = .ok (.iload_n 3, 1) := by decide +kernel
theorem dX10_brokenAt_75 : decode cX10_brokenAt 75 = .ok (.if_icmp .gt 7, 3) := by decide +kernel
theorem dX10_brokenAt_78 : decode cX10_brokenAt 78 = .ok (.iconst 1, 1) := by decide +kernel
theorem dX10_brokenAt_79 : decode cX10_brokenAt 79 = .ok (.goto 4, 3) := by decide +kernel
theorem dX10_brokenAt_82 : decode cX10_brokenAt 82 = .ok (.iconst 0, 1) := by decide +kernel
theorem dX10_brokenAt_83 : decode cX10_brokenAt 83 = .ok (.istore 10, 2) := by decide +kernel
theorem dX10_brokenAt_85 : decode cX10_brokenAt 85 = .ok (.iload 10, 2) := by decide +kernel
theorem dX10_brokenAt_87 : decode cX10_brokenAt 87 = .ok (.ifCond .eq 27, 3) := by decide +kernel
theorem dX10_brokenAt_90 : decode cX10_brokenAt 90 = .ok (.iconst 2, 1) := by decide +kernel
theorem dX10_brokenAt_91 : decode cX10_brokenAt 91 = .ok (.iload 9, 2) := by decide +kernel
theorem dX10_brokenAt_93 : decode cX10_brokenAt 93 = .ok (.imul, 1) := by decide +kernel
theorem dX10_brokenAt_94 : decode cX10_brokenAt 94 = .ok (.iload 7, 2) := by decide +kernel
theorem dX10_brokenAt_96 : decode cX10_brokenAt 96 = .ok (.isub, 1) := by decide +kernel
theorem dX10_brokenAt_97 : decode cX10_brokenAt 97 = .ok (.iload 8, 2) := by decide +kernel
theorem dX10_brokenAt_99 : decode cX10_brokenAt 99 = .ok (.isub, 1) := by decide +kernel
theorem dX10_brokenAt_100 : decode cX10_brokenAt 100 = .ok (.bipush 6, 2) := by decide +kernel
theorem dX10_brokenAt_102 : decode cX10_brokenAt 102 = .ok (.aload_n 0, 1) := by decide +kernel
theorem dX10_brokenAt_103 : decode cX10_brokenAt 103 = .ok (.iload_n 1, 1) := by decide +kernel
theorem dX10_brokenAt_104 : decode cX10_brokenAt 104 = .ok (.iload 7, 2) := by decide +kernel
theorem dX10_brokenAt_106 : decode cX10_brokenAt 106 = .ok (.invokevirtual 108, 3) := by decide +kernel
theorem dX10_brokenAt_109 : decode cX10_brokenAt 109 = .ok (.imul, 1) := by decide +kernel
theorem dX10_brokenAt_110 : decode cX10_brokenAt 110 = .ok (.iadd, 1) := by decide +kernel
theorem dX10_brokenAt_111 : decode cX10_brokenAt 111 = .ok (.goto 5, 3) := by decide +kernel
theorem dX10_brokenAt_114 : decode cX10_brokenAt 114 = .ok (.iload 9, 2) := by decide +kernel
theorem dX10_brokenAt_116 : decode cX10_brokenAt 116 = .ok (.istore 11, 2) := by decide +kernel
theorem dX10_brokenAt_118 : decode cX10_brokenAt 118 = .ok (.iload 4, 2) := by decide +kernel
theorem dX10_brokenAt_120 : decode cX10_brokenAt 120 = .ok (.bipush (-9), 2) := by decide +kernel
theorem dX10_brokenAt_122 : decode cX10_brokenAt 122 = .ok (.if_icmp .eq 27, 3) := by decide +kernel
theorem dX10_brokenAt_125 : decode cX10_brokenAt 125 = .ok (.iload 10, 2) := by decide +kernel
theorem dX10_brokenAt_127 : decode cX10_brokenAt 127 = .ok (.ifCond .eq 8, 3) := by decide +kernel
theorem dX10_brokenAt_130 : decode cX10_brokenAt 130 = .ok (.iload 6, 2) := by decide +kernel
theorem dX10_brokenAt_132 : decode cX10_brokenAt 132 = .ok (.ifCond .eq 17, 3) := by decide +kernel
theorem dX10_brokenAt_135 : decode cX10_brokenAt 135 = .ok (.iload 10, 2) := by decide +kernel
theorem dX10_brokenAt_137 : decode cX10_brokenAt 137 = .ok (.iload 6, 2) := by decide +kernel
theorem dX10_brokenAt_139 : decode cX10_brokenAt 139 = .ok (.if_icmp .ne 22, 3) := by decide +kernel
theorem dX10_brokenAt_142 : decode cX10_brokenAt 142 = .ok (.iload 11, 2) := by decide +kernel
theorem dX10_brokenAt_144 : decode cX10_brokenAt 144 = .ok (.iload 5, 2) := by decide +kernel
theorem dX10_brokenAt_146 : decode cX10_brokenAt 146 = .ok (.if_icmp .ge 15, 3) := by decide +kernel
theorem dX10_brokenAt_149 : decode cX10_brokenAt 149 = .ok (.iload 7, 2) := by decide +kernel
theorem dX10_brokenAt_151 : decode cX10_brokenAt 151 = .ok (.istore 4, 2) := by decide +kernel
theorem dX10_brokenAt_153 : decode cX10_brokenAt 153 = .ok (.iload 11, 2) := by decide +kernel
theorem dX10_brokenAt_155 : decode cX10_brokenAt 155 = .ok (.istore 5, 2) := by decide +kernel
theorem dX10_brokenAt_157 : decode cX10_brokenAt 157 = .ok (.iload 10, 2) := by decide +kernel
theorem dX10_brokenAt_159 : decode cX10_brokenAt 159 = .ok (.istore 6, 2) := by decide +kernel
theorem dX10_brokenAt_161 : decode cX10_brokenAt 161 = .ok (.iinc 7 1, 3) := by decide +kernel
theorem dX10_brokenAt_164 : decode cX10_brokenAt 164 = .ok (.goto (-139), 3) := by decide +kernel
theorem dX10_brokenAt_167 : decode cX10_brokenAt 167 = .ok (.iload 4, 2) := by decide +kernel
theorem dX10_brokenAt_169 : decode cX10_brokenAt 169 = .ok (.ireturn, 1) := by decide +kernel
theorem dX10_isTooWide_0 : decode cX10_isTooWide 0 = .ok (.aload_n 0, 1) := by decide +kernel
theorem dX10_isTooWide_1 : decode cX10_isTooWide 1 = .ok (.iload_n 1, 1) := by decide +kernel
theorem dX10_isTooWide_2 : decode cX10_isTooWide 2 = .ok (.invokevirtual 111, 3) := by decide +kernel
theorem dX10_isTooWide_5 : decode cX10_isTooWide 5 = .ok (.istore_n 2, 1) := by decide +kernel
theorem dX10_isTooWide_6 : decode cX10_isTooWide 6 = .ok (.aload_n 0, 1) := by decide +kernel
theorem dX10_isTooWide_7 : decode cX10_isTooWide 7 = .ok (.iload_n 1, 1) := by decide +kernel
theorem dX10_isTooWide_8 : decode cX10_isTooWide 8 = .ok (.invokevirtual 94, 3) := by decide +kernel
theorem dX10_isTooWide_11 : decode cX10_isTooWide 11 = .ok (.iload_n 2, 1) := by decide +kernel
theorem dX10_isTooWide_12 : decode cX10_isTooWide 12 = .ok (.isub, 1) := by decide +kernel
theorem dX10_isTooWide_13 : decode cX10_isTooWide 13 = .ok (.iconst 1, 1) := by decide +kernel
theorem dX10_isTooWide_14 : decode cX10_isTooWide 14 = .ok (.isub, 1) := by decide +kernel
theorem dX10_isTooWide_15 : decode cX10_isTooWide 15 = .ok (.istore_n 3, 1) := by decide +kernel
theorem dX10_isTooWide_16 : decode cX10_isTooWide 16 = .ok (.iload_n 2, 1) := by decide +kernel
theorem dX10_isTooWide_17 : decode cX10_isTooWide 17 = .ok (.bipush (-9), 2) := by decide +kernel
theorem dX10_isTooWide_19 : decode cX10_isTooWide 19 = .ok (.if_icmp .ne 24, 3) := by decide +kernel
theorem dX10_isTooWide_22 : decode cX10_isTooWide 22 = .ok (.aload_n 0, 1) := by decide +kernel
theorem dX10_isTooWide_23 : decode cX10_isTooWide 23 = .ok (.iload_n 1, 1) := by decide +kernel
theorem dX10_isTooWide_24 : decode cX10_isTooWide 24 = .ok (.invokevirtual 94, 3) := by decide +kernel
theorem dX10_isTooWide_27 : decode cX10_isTooWide 27 = .ok (.aload_n 0, 1) := by decide +kernel
theorem dX10_isTooWide_28 : decode cX10_isTooWide 28 = .ok (.iconst 4, 1) := by decide +kernel
theorem dX10_isTooWide_29 : decode cX10_isTooWide 29 = .ok (.invokevirtual 105, 3) := by decide +kernel
theorem dX10_isTooWide_32 : decode cX10_isTooWide 32 = .ok (.if_icmp .le 7, 3) := by decide +kernel
theorem dX10_isTooWide_35 : decode cX10_isTooWide 35 = .ok (.iconst 1, 1) := by decide +kernel
theorem dX10_isTooWide_36 : decode cX10_isTooWide 36 = .ok (.goto 30, 3) := by decide +kernel
theorem dX10_isTooWide_39 : decode cX10_isTooWide 39 = .ok (.iconst 0, 1) := by decide +kernel
theorem dX10_isTooWide_40 : decode cX10_isTooWide 40 = .ok (.goto 26, 3) := by decide +kernel
theorem dX10_isTooWide_43 : decode cX10_isTooWide 43 = .ok (.iload_n 2, 1) := by decide +kernel
theorem dX10_isTooWide_44 : decode cX10_isTooWide 44 = .ok (.aload_n 0, 1) := by decide +kernel
theorem dX10_isTooWide_45 : decode cX10_isTooWide 45 = .ok (.iconst 4, 1) := by decide +kernel
theorem dX10_isTooWide_46 : decode cX10_isTooWide 46 = .ok (.invokevirtual 105, 3) := by decide +kernel
theorem dX10_isTooWide_49 : decode cX10_isTooWide 49 = .ok (.if_icmp .gt 12, 3) := by decide +kernel
theorem dX10_isTooWide_52 : decode cX10_isTooWide 52 = .ok (.iload_n 3, 1) := by decide +kernel
theorem dX10_isTooWide_53 : decode cX10_isTooWide 53 = .ok (.aload_n 0, 1) := by decide +kernel
theorem dX10_isTooWide_54 : decode cX10_isTooWide 54 = .ok (.iconst 4, 1) := by decide +kernel
theorem dX10_isTooWide_55 : decode cX10_isTooWide 55 = .ok (.invokevirtual 105, 3) := by decide +kernel
theorem dX10_isTooWide_58 : decode cX10_isTooWide 58 = .ok (.if_icmp .le 7, 3) := by decide +kernel
theorem dX10_isTooWide_61 : decode cX10_isTooWide 61 = .ok (.iconst 1, 1) := by decide +kernel
theorem dX10_isTooWide_62 : decode cX10_isTooWide 62 = .ok (.goto 4, 3) := by decide +kernel
theorem dX10_isTooWide_65 : decode cX10_isTooWide 65 = .ok (.iconst 0, 1) := by decide +kernel
theorem dX10_isTooWide_66 : decode cX10_isTooWide 66 = .ok (.ireturn, 1) := by decide +kernel
theorem dX10_charactersOf_0 : decode cX10_charactersOf 0 = .ok (.aload_n 0, 1) := by decide +kernel
theorem dX10_charactersOf_1 : decode cX10_charactersOf 1 = .ok (.aload_n 0, 1) := by decide +kernel
theorem dX10_charactersOf_2 : decode cX10_charactersOf 2 = .ok (.getfield 25, 3) := by decide +kernel
theorem dX10_charactersOf_5 : decode cX10_charactersOf 5 = .ok (.iload_n 1, 1) := by decide +kernel
theorem dX10_charactersOf_6 : decode cX10_charactersOf 6 = .ok (.iaload, 1) := by decide +kernel
theorem dX10_charactersOf_7 : decode cX10_charactersOf 7 = .ok (.invokevirtual 94, 3) := by decide +kernel
theorem dX10_charactersOf_10 : decode cX10_charactersOf 10 = .ok (.aload_n 0, 1) := by decide +kernel
theorem dX10_charactersOf_11 : decode cX10_charactersOf 11 = .ok (.getfield 22, 3) := by decide +kernel
theorem dX10_charactersOf_14 : decode cX10_charactersOf 14 = .ok (.iload_n 1, 1) := by decide +kernel
theorem dX10_charactersOf_15 : decode cX10_charactersOf 15 = .ok (.iaload, 1) := by decide +kernel
theorem dX10_charactersOf_16 : decode cX10_charactersOf 16 = .ok (.iconst 2, 1) := by decide +kernel
theorem dX10_charactersOf_17 : decode cX10_charactersOf 17 = .ok (.if_icmp .ne 18, 3) := by decide +kernel
theorem dX10_charactersOf_20 : decode cX10_charactersOf 20 = .ok (.aload_n 0, 1) := by decide +kernel
theorem dX10_charactersOf_21 : decode cX10_charactersOf 21 = .ok (.aload_n 0, 1) := by decide +kernel
theorem dX10_charactersOf_22 : decode cX10_charactersOf 22 = .ok (.getfield 28, 3) := by decide +kernel
theorem dX10_charactersOf_25 : decode cX10_charactersOf 25 = .ok (.iload_n 1, 1) := by decide +kernel
theorem dX10_charactersOf_26 : decode cX10_charactersOf 26 = .ok (.iaload, 1) := by decide +kernel
theorem dX10_charactersOf_27 : decode cX10_charactersOf 27 = .ok (.invokevirtual 94, 3) := by decide +kernel
theorem dX10_charactersOf_30 : decode cX10_charactersOf 30 = .ok (.iconst 4, 1) := by decide +kernel
theorem dX10_charactersOf_31 : decode cX10_charactersOf 31 = .ok (.iadd, 1) := by decide +kernel
theorem dX10_charactersOf_32 : decode cX10_charactersOf 32 = .ok (.goto 4, 3) := by decide +kernel
theorem dX10_charactersOf_35 : decode cX10_charactersOf 35 = .ok (.iconst 0, 1) := by decide +kernel
theorem dX10_charactersOf_36 : decode cX10_charactersOf 36 = .ok (.iadd, 1) := by decide +kernel
theorem dX10_charactersOf_37 : decode cX10_charactersOf 37 = .ok (.ireturn, 1) := by decide +kernel
theorem dX10_readingOf_0 : decode cX10_readingOf 0 = .ok (.aload_n 0, 1) := by decide +kernel
theorem dX10_readingOf_1 : decode cX10_readingOf 1 = .ok (.iconst 0, 1) := by decide +kernel
theorem dX10_readingOf_2 : decode cX10_readingOf 2 = .ok (.invokevirtual 105, 3) := by decide +kernel
theorem dX10_readingOf_5 : decode cX10_readingOf 5 = .ok (.aload_n 0, 1) := by decide +kernel
theorem dX10_readingOf_6 : decode cX10_readingOf 6 = .ok (.iload_n 1, 1) := by decide +kernel
theorem dX10_readingOf_7 : decode cX10_readingOf 7 = .ok (.invokevirtual 114, 3) := by decide +kernel
theorem dX10_readingOf_10 : decode cX10_readingOf 10 = .ok (.imul, 1) := by decide +kernel
theorem dX10_readingOf_11 : decode cX10_readingOf 11 = .ok (.istore_n 2, 1) := by decide +kernel
theorem dX10_readingOf_12 : decode cX10_readingOf 12 = .ok (.iload_n 2, 1) := by decide +kernel
theorem dX10_readingOf_13 : decode cX10_readingOf 13 = .ok (.aload_n 0, 1) := by decide +kernel
theorem dX10_readingOf_14 : decode cX10_readingOf 14 = .ok (.iconst 1, 1) := by decide +kernel
theorem dX10_readingOf_15 : decode cX10_readingOf 15 = .ok (.invokevirtual 105, 3) := by decide +kernel
theorem dX10_readingOf_18 : decode cX10_readingOf 18 = .ok (.if_icmp .le 7, 3) := by decide +kernel
theorem dX10_readingOf_21 : decode cX10_readingOf 21 = .ok (.iload_n 2, 1) := by decide +kernel
theorem dX10_readingOf_22 : decode cX10_readingOf 22 = .ok (.goto 8, 3) := by decide +kernel
theorem dX10_readingOf_25 : decode cX10_readingOf 25 = .ok (.aload_n 0, 1) := by decide +kernel
theorem dX10_readingOf_26 : decode cX10_readingOf 26 = .ok (.iconst 1, 1) := by decide +kernel
theorem dX10_readingOf_27 : decode cX10_readingOf 27 = .ok (.invokevirtual 105, 3) := by decide +kernel
theorem dX10_readingOf_30 : decode cX10_readingOf 30 = .ok (.ireturn, 1) := by decide +kernel
theorem dX10_nextOf_0 : decode cX10_nextOf 0 = .ok (.iload_n 1, 1) := by decide +kernel
theorem dX10_nextOf_1 : decode cX10_nextOf 1 = .ok (.iconst 1, 1) := by decide +kernel
theorem dX10_nextOf_2 : decode cX10_nextOf 2 = .ok (.iadd, 1) := by decide +kernel
theorem dX10_nextOf_3 : decode cX10_nextOf 3 = .ok (.istore_n 2, 1) := by decide +kernel
theorem dX10_nextOf_4 : decode cX10_nextOf 4 = .ok (.iload_n 2, 1) := by decide +kernel
theorem dX10_nextOf_5 : decode cX10_nextOf 5 = .ok (.aload_n 0, 1) := by decide +kernel
theorem dX10_nextOf_6 : decode cX10_nextOf 6 = .ok (.getfield 84, 3) := by decide +kernel
theorem dX10_nextOf_9 : decode cX10_nextOf 9 = .ok (.if_icmp .ge 26, 3) := by decide +kernel
theorem dX10_nextOf_12 : decode cX10_nextOf 12 = .ok (.aload_n 0, 1) := by decide +kernel
theorem dX10_nextOf_13 : decode cX10_nextOf 13 = .ok (.getfield 16, 3) := by decide +kernel
theorem dX10_nextOf_16 : decode cX10_nextOf 16 = .ok (.iload_n 2, 1) := by decide +kernel
theorem dX10_nextOf_17 : decode cX10_nextOf 17 = .ok (.iaload, 1) := by decide +kernel
theorem dX10_nextOf_18 : decode cX10_nextOf 18 = .ok (.aload_n 0, 1) := by decide +kernel
theorem dX10_nextOf_19 : decode cX10_nextOf 19 = .ok (.getfield 16, 3) := by decide +kernel
theorem dX10_nextOf_22 : decode cX10_nextOf 22 = .ok (.iload_n 1, 1) := by decide +kernel
theorem dX10_nextOf_23 : decode cX10_nextOf 23 = .ok (.iaload, 1) := by decide +kernel
theorem dX10_nextOf_24 : decode cX10_nextOf 24 = .ok (.if_icmp .le 5, 3) := by decide +kernel
theorem dX10_nextOf_27 : decode cX10_nextOf 27 = .ok (.iload_n 2, 1) := by decide +kernel
theorem dX10_nextOf_28 : decode cX10_nextOf 28 = .ok (.ireturn, 1) := by decide +kernel
theorem dX10_nextOf_29 : decode cX10_nextOf 29 = .ok (.iinc 2 1, 3) := by decide +kernel
theorem dX10_nextOf_32 : decode cX10_nextOf 32 = .ok (.goto (-28), 3) := by decide +kernel
theorem dX10_nextOf_35 : decode cX10_nextOf 35 = .ok (.bipush (-9), 2) := by decide +kernel
theorem dX10_nextOf_37 : decode cX10_nextOf 37 = .ok (.ireturn, 1) := by decide +kernel
theorem dX10_near_0 : decode cX10_near 0 = .ok (.bipush (-9), 2) := by decide +kernel
theorem dX10_near_2 : decode cX10_near 2 = .ok (.istore_n 2, 1) := by decide +kernel
theorem dX10_near_3 : decode cX10_near 3 = .ok (.aload_n 0, 1) := by decide +kernel
theorem dX10_near_4 : decode cX10_near 4 = .ok (.iconst 3, 1) := by decide +kernel
theorem dX10_near_5 : decode cX10_near 5 = .ok (.invokevirtual 105, 3) := by decide +kernel
theorem dX10_near_8 : decode cX10_near 8 = .ok (.iconst 1, 1) := by decide +kernel
theorem dX10_near_9 : decode cX10_near 9 = .ok (.iadd, 1) := by decide +kernel
theorem dX10_near_10 : decode cX10_near 10 = .ok (.istore_n 3, 1) := by decide +kernel
theorem dX10_near_11 : decode cX10_near 11 = .ok (.iconst 0, 1) := by decide +kernel
theorem dX10_near_12 : decode cX10_near 12 = .ok (.istore 4, 2) := by decide +kernel
theorem dX10_near_14 : decode cX10_near 14 = .ok (.iload 4, 2) := by decide +kernel
theorem dX10_near_16 : decode cX10_near 16 = .ok (.aload_n 0, 1) := by decide +kernel
theorem dX10_near_17 : decode cX10_near 17 = .ok (.getfield 7, 3) := by decide +kernel
theorem dX10_near_20 : decode cX10_near 20 = .ok (.bipush 21, 2) := by decide +kernel
theorem dX10_near_22 : decode cX10_near 22 = .ok (.iaload, 1) := by decide +kernel
theorem dX10_near_23 : decode cX10_near 23 = .ok (.if_icmp .ge 86, 3) := by decide +kernel
theorem dX10_near_26 : decode cX10_near 26 = .ok (.aload_n 0, 1) := by decide +kernel
theorem dX10_near_27 : decode cX10_near 27 = .ok (.getfield 7, 3) := by decide +kernel
theorem dX10_near_30 : decode cX10_near 30 = .ok (.bipush 22, 2) := by decide +kernel
theorem dX10_near_32 : decode cX10_near 32 = .ok (.iload 4, 2) := by decide +kernel
theorem dX10_near_34 : decode cX10_near 34 = .ok (.iadd, 1) := by decide +kernel
theorem dX10_near_35 : decode cX10_near 35 = .ok (.iaload, 1) := by decide +kernel
theorem dX10_near_36 : decode cX10_near 36 = .ok (.iload_n 1, 1) := by decide +kernel
theorem dX10_near_37 : decode cX10_near 37 = .ok (.if_icmp .le 18, 3) := by decide +kernel
theorem dX10_near_40 : decode cX10_near 40 = .ok (.aload_n 0, 1) := by decide +kernel
theorem dX10_near_41 : decode cX10_near 41 = .ok (.getfield 7, 3) := by decide +kernel
theorem dX10_near_44 : decode cX10_near 44 = .ok (.bipush 22, 2) := by decide +kernel
theorem dX10_near_46 : decode cX10_near 46 = .ok (.iload 4, 2) := by decide +kernel
theorem dX10_near_48 : decode cX10_near 48 = .ok (.iadd, 1) := by decide +kernel
theorem dX10_near_49 : decode cX10_near 49 = .ok (.iaload, 1) := by decide +kernel
theorem dX10_near_50 : decode cX10_near 50 = .ok (.iload_n 1, 1) := by decide +kernel
theorem dX10_near_51 : decode cX10_near 51 = .ok (.isub, 1) := by decide +kernel
theorem dX10_near_52 : decode cX10_near 52 = .ok (.goto 15, 3) := by decide +kernel
theorem dX10_near_55 : decode cX10_near 55 = .ok (.iload_n 1, 1) := by decide +kernel
theorem dX10_near_56 : decode cX10_near 56 = .ok (.aload_n 0, 1) := by decide +kernel
theorem dX10_near_57 : decode cX10_near 57 = .ok (.getfield 7, 3) := by decide +kernel
theorem dX10_near_60 : decode cX10_near 60 = .ok (.bipush 22, 2) := by decide +kernel
theorem dX10_near_62 : decode cX10_near 62 = .ok (.iload 4, 2) := by decide +kernel
theorem dX10_near_64 : decode cX10_near 64 = .ok (.iadd, 1) := by decide +kernel
theorem dX10_near_65 : decode cX10_near 65 = .ok (.iaload, 1) := by decide +kernel
theorem dX10_near_66 : decode cX10_near 66 = .ok (.isub, 1) := by decide +kernel
theorem dX10_near_67 : decode cX10_near 67 = .ok (.istore 5, 2) := by decide +kernel
theorem dX10_near_69 : decode cX10_near 69 = .ok (.iload 5, 2) := by decide +kernel
theorem dX10_near_71 : decode cX10_near 71 = .ok (.iload_n 3, 1) := by decide +kernel
theorem dX10_near_72 : decode cX10_near 72 = .ok (.if_icmp .ge 16, 3) := by decide +kernel
theorem dX10_near_75 : decode cX10_near 75 = .ok (.aload_n 0, 1) := by decide +kernel
theorem dX10_near_76 : decode cX10_near 76 = .ok (.getfield 7, 3) := by decide +kernel
theorem dX10_near_79 : decode cX10_near 79 = .ok (.bipush 22, 2) := by decide +kernel
theorem dX10_near_81 : decode cX10_near 81 = .ok (.iload 4, 2) := by decide +kernel
theorem dX10_near_83 : decode cX10_near 83 = .ok (.iadd, 1) := by decide +kernel
theorem dX10_near_84 : decode cX10_near 84 = .ok (.iaload, 1) := by decide +kernel
theorem dX10_near_85 : decode cX10_near 85 = .ok (.goto 4, 3) := by decide +kernel
theorem dX10_near_88 : decode cX10_near 88 = .ok (.iload_n 2, 1) := by decide +kernel
theorem dX10_near_89 : decode cX10_near 89 = .ok (.istore_n 2, 1) := by decide +kernel
theorem dX10_near_90 : decode cX10_near 90 = .ok (.iload 5, 2) := by decide +kernel
theorem dX10_near_92 : decode cX10_near 92 = .ok (.iload_n 3, 1) := by decide +kernel
theorem dX10_near_93 : decode cX10_near 93 = .ok (.if_icmp .ge 8, 3) := by decide +kernel
theorem dX10_near_96 : decode cX10_near 96 = .ok (.iload 5, 2) := by decide +kernel
theorem dX10_near_98 : decode cX10_near 98 = .ok (.goto 4, 3) := by decide +kernel
theorem dX10_near_101 : decode cX10_near 101 = .ok (.iload_n 3, 1) := by decide +kernel
theorem dX10_near_102 : decode cX10_near 102 = .ok (.istore_n 3, 1) := by decide +kernel
theorem dX10_near_103 : decode cX10_near 103 = .ok (.iinc 4 1, 3) := by decide +kernel
theorem dX10_near_106 : decode cX10_near 106 = .ok (.goto (-92), 3) := by decide +kernel
theorem dX10_near_109 : decode cX10_near 109 = .ok (.iload_n 2, 1) := by decide +kernel
theorem dX10_near_110 : decode cX10_near 110 = .ok (.ireturn, 1) := by decide +kernel
theorem dX10_isOff_0 : decode cX10_isOff 0 = .ok (.aload_n 0, 1) := by decide +kernel
theorem dX10_isOff_1 : decode cX10_isOff 1 = .ok (.iload_n 1, 1) := by decide +kernel
theorem dX10_isOff_2 : decode cX10_isOff 2 = .ok (.invokevirtual 117, 3) := by decide +kernel
theorem dX10_isOff_5 : decode cX10_isOff 5 = .ok (.bipush (-9), 2) := by decide +kernel
theorem dX10_isOff_7 : decode cX10_isOff 7 = .ok (.if_icmp .eq 16, 3) := by decide +kernel
theorem dX10_isOff_10 : decode cX10_isOff 10 = .ok (.aload_n 0, 1) := by decide +kernel
theorem dX10_isOff_11 : decode cX10_isOff 11 = .ok (.iload_n 1, 1) := by decide +kernel
theorem dX10_isOff_12 : decode cX10_isOff 12 = .ok (.invokevirtual 117, 3) := by decide +kernel
theorem dX10_isOff_15 : decode cX10_isOff 15 = .ok (.iload_n 1, 1) := by decide +kernel
theorem dX10_isOff_16 : decode cX10_isOff 16 = .ok (.if_icmp .eq 7, 3) := by decide +kernel
theorem dX10_isOff_19 : decode cX10_isOff 19 = .ok (.iconst 1, 1) := by decide +kernel
theorem dX10_isOff_20 : decode cX10_isOff 20 = .ok (.goto 4, 3) := by decide +kernel
theorem dX10_isOff_23 : decode cX10_isOff 23 = .ok (.iconst 0, 1) := by decide +kernel
theorem dX10_isOff_24 : decode cX10_isOff 24 = .ok (.ireturn, 1) := by decide +kernel
theorem dX10_faultsOf_0 : decode cX10_faultsOf 0 = .ok (.aload_n 0, 1) := by decide +kernel
theorem dX10_faultsOf_1 : decode cX10_faultsOf 1 = .ok (.iload_n 1, 1) := by decide +kernel
theorem dX10_faultsOf_2 : decode cX10_faultsOf 2 = .ok (.invokevirtual 120, 3) := by decide +kernel
theorem dX10_faultsOf_5 : decode cX10_faultsOf 5 = .ok (.istore_n 2, 1) := by decide +kernel
theorem dX10_faultsOf_6 : decode cX10_faultsOf 6 = .ok (.iconst 0, 1) := by decide +kernel
theorem dX10_faultsOf_7 : decode cX10_faultsOf 7 = .ok (.istore_n 3, 1) := by decide +kernel
theorem dX10_faultsOf_8 : decode cX10_faultsOf 8 = .ok (.iconst 0, 1) := by decide +kernel
theorem dX10_faultsOf_9 : decode cX10_faultsOf 9 = .ok (.istore 4, 2) := by decide +kernel
theorem dX10_faultsOf_11 : decode cX10_faultsOf 11 = .ok (.iload 4, 2) := by decide +kernel
theorem dX10_faultsOf_13 : decode cX10_faultsOf 13 = .ok (.aload_n 0, 1) := by decide +kernel
theorem dX10_faultsOf_14 : decode cX10_faultsOf 14 = .ok (.getfield 84, 3) := by decide +kernel
theorem dX10_faultsOf_17 : decode cX10_faultsOf 17 = .ok (.if_icmp .ge 41, 3) := by decide +kernel
theorem dX10_faultsOf_20 : decode cX10_faultsOf 20 = .ok (.iload_n 3, 1) := by decide +kernel
theorem dX10_faultsOf_21 : decode cX10_faultsOf 21 = .ok (.ifCond .ne 25, 3) := by decide +kernel
theorem dX10_faultsOf_24 : decode cX10_faultsOf 24 = .ok (.iload 4, 2) := by decide +kernel
theorem dX10_faultsOf_26 : decode cX10_faultsOf 26 = .ok (.iload_n 1, 1) := by decide +kernel
theorem dX10_faultsOf_27 : decode cX10_faultsOf 27 = .ok (.if_icmp .eq 23, 3) := by decide +kernel
theorem dX10_faultsOf_30 : decode cX10_faultsOf 30 = .ok (.aload_n 0, 1) := by decide +kernel
theorem dX10_faultsOf_31 : decode cX10_faultsOf 31 = .ok (.getfield 16, 3) := by decide +kernel
theorem dX10_faultsOf_34 : decode cX10_faultsOf 34 = .ok (.iload 4, 2) := by decide +kernel
theorem dX10_faultsOf_36 : decode cX10_faultsOf 36 = .ok (.iaload, 1) := by decide +kernel
theorem dX10_faultsOf_37 : decode cX10_faultsOf 37 = .ok (.aload_n 0, 1) := by decide +kernel
theorem dX10_faultsOf_38 : decode cX10_faultsOf 38 = .ok (.getfield 16, 3) := by decide +kernel
theorem dX10_faultsOf_41 : decode cX10_faultsOf 41 = .ok (.iload_n 1, 1) := by decide +kernel
theorem dX10_faultsOf_42 : decode cX10_faultsOf 42 = .ok (.iaload, 1) := by decide +kernel
theorem dX10_faultsOf_43 : decode cX10_faultsOf 43 = .ok (.if_icmp .ne 7, 3) := by decide +kernel
theorem dX10_faultsOf_46 : decode cX10_faultsOf 46 = .ok (.iconst 1, 1) := by decide +kernel
theorem dX10_faultsOf_47 : decode cX10_faultsOf 47 = .ok (.goto 4, 3) := by decide +kernel
theorem dX10_faultsOf_50 : decode cX10_faultsOf 50 = .ok (.iconst 0, 1) := by decide +kernel
theorem dX10_faultsOf_51 : decode cX10_faultsOf 51 = .ok (.istore_n 3, 1) := by decide +kernel
theorem dX10_faultsOf_52 : decode cX10_faultsOf 52 = .ok (.iinc 4 1, 3) := by decide +kernel
theorem dX10_faultsOf_55 : decode cX10_faultsOf 55 = .ok (.goto (-44), 3) := by decide +kernel
theorem dX10_faultsOf_58 : decode cX10_faultsOf 58 = .ok (.aload_n 0, 1) := by decide +kernel
theorem dX10_faultsOf_59 : decode cX10_faultsOf 59 = .ok (.getfield 19, 3) := by decide +kernel
theorem dX10_faultsOf_62 : decode cX10_faultsOf 62 = .ok (.iload_n 1, 1) := by decide +kernel
theorem dX10_faultsOf_63 : decode cX10_faultsOf 63 = .ok (.iaload, 1) := by decide +kernel
theorem dX10_faultsOf_64 : decode cX10_faultsOf 64 = .ok (.aload_n 0, 1) := by decide +kernel
theorem dX10_faultsOf_65 : decode cX10_faultsOf 65 = .ok (.getfield 16, 3) := by decide +kernel
theorem dX10_faultsOf_68 : decode cX10_faultsOf 68 = .ok (.iload_n 1, 1) := by decide +kernel
theorem dX10_faultsOf_69 : decode cX10_faultsOf 69 = .ok (.iaload, 1) := by decide +kernel
theorem dX10_faultsOf_70 : decode cX10_faultsOf 70 = .ok (.isub, 1) := by decide +kernel
theorem dX10_faultsOf_71 : decode cX10_faultsOf 71 = .ok (.aload_n 0, 1) := by decide +kernel
theorem dX10_faultsOf_72 : decode cX10_faultsOf 72 = .ok (.iload_n 1, 1) := by decide +kernel
theorem dX10_faultsOf_73 : decode cX10_faultsOf 73 = .ok (.invokevirtual 123, 3) := by decide +kernel
theorem dX10_faultsOf_76 : decode cX10_faultsOf 76 = .ok (.if_icmp .ge 7, 3) := by decide +kernel
theorem dX10_faultsOf_79 : decode cX10_faultsOf 79 = .ok (.iconst 1, 1) := by decide +kernel
theorem dX10_faultsOf_80 : decode cX10_faultsOf 80 = .ok (.goto 4, 3) := by decide +kernel
theorem dX10_faultsOf_83 : decode cX10_faultsOf 83 = .ok (.iconst 0, 1) := by decide +kernel
theorem dX10_faultsOf_84 : decode cX10_faultsOf 84 = .ok (.istore 4, 2) := by decide +kernel
theorem dX10_faultsOf_86 : decode cX10_faultsOf 86 = .ok (.iload 4, 2) := by decide +kernel
theorem dX10_faultsOf_88 : decode cX10_faultsOf 88 = .ok (.iload_n 2, 1) := by decide +kernel
theorem dX10_faultsOf_89 : decode cX10_faultsOf 89 = .ok (.bipush (-9), 2) := by decide +kernel
theorem dX10_faultsOf_91 : decode cX10_faultsOf 91 = .ok (.if_icmp .eq 28, 3) := by decide +kernel
theorem dX10_faultsOf_94 : decode cX10_faultsOf 94 = .ok (.aload_n 0, 1) := by decide +kernel
theorem dX10_faultsOf_95 : decode cX10_faultsOf 95 = .ok (.getfield 19, 3) := by decide +kernel
theorem dX10_faultsOf_98 : decode cX10_faultsOf 98 = .ok (.iload_n 1, 1) := by decide +kernel
theorem dX10_faultsOf_99 : decode cX10_faultsOf 99 = .ok (.iaload, 1) := by decide +kernel
theorem dX10_faultsOf_100 : decode cX10_faultsOf 100 = .ok (.aload_n 0, 1) := by decide +kernel
theorem dX10_faultsOf_101 : decode cX10_faultsOf 101 = .ok (.getfield 16, 3) := by decide +kernel
theorem dX10_faultsOf_104 : decode cX10_faultsOf 104 = .ok (.iload_n 2, 1) := by decide +kernel
theorem dX10_faultsOf_105 : decode cX10_faultsOf 105 = .ok (.iaload, 1) := by decide +kernel
theorem dX10_faultsOf_106 : decode cX10_faultsOf 106 = .ok (.aload_n 0, 1) := by decide +kernel
theorem dX10_faultsOf_107 : decode cX10_faultsOf 107 = .ok (.iconst 2, 1) := by decide +kernel
theorem dX10_faultsOf_108 : decode cX10_faultsOf 108 = .ok (.invokevirtual 105, 3) := by decide +kernel
theorem dX10_faultsOf_111 : decode cX10_faultsOf 111 = .ok (.isub, 1) := by decide +kernel
theorem dX10_faultsOf_112 : decode cX10_faultsOf 112 = .ok (.if_icmp .le 7, 3) := by decide +kernel
theorem dX10_faultsOf_115 : decode cX10_faultsOf 115 = .ok (.iconst 2, 1) := by decide +kernel
theorem dX10_faultsOf_116 : decode cX10_faultsOf 116 = .ok (.goto 4, 3) := by decide +kernel
theorem dX10_faultsOf_119 : decode cX10_faultsOf 119 = .ok (.iconst 0, 1) := by decide +kernel
theorem dX10_faultsOf_120 : decode cX10_faultsOf 120 = .ok (.iadd, 1) := by decide +kernel
theorem dX10_faultsOf_121 : decode cX10_faultsOf 121 = .ok (.istore 4, 2) := by decide +kernel
theorem dX10_faultsOf_123 : decode cX10_faultsOf 123 = .ok (.iload 4, 2) := by decide +kernel
theorem dX10_faultsOf_125 : decode cX10_faultsOf 125 = .ok (.iload_n 3, 1) := by decide +kernel
theorem dX10_faultsOf_126 : decode cX10_faultsOf 126 = .ok (.ifCond .eq 7, 3) := by decide +kernel
theorem dX10_faultsOf_129 : decode cX10_faultsOf 129 = .ok (.iconst 4, 1) := by decide +kernel
theorem dX10_faultsOf_130 : decode cX10_faultsOf 130 = .ok (.goto 4, 3) := by decide +kernel
theorem dX10_faultsOf_133 : decode cX10_faultsOf 133 = .ok (.iconst 0, 1) := by decide +kernel
theorem dX10_faultsOf_134 : decode cX10_faultsOf 134 = .ok (.iadd, 1) := by decide +kernel
theorem dX10_faultsOf_135 : decode cX10_faultsOf 135 = .ok (.istore 4, 2) := by decide +kernel
theorem dX10_faultsOf_137 : decode cX10_faultsOf 137 = .ok (.iload 4, 2) := by decide +kernel
theorem dX10_faultsOf_139 : decode cX10_faultsOf 139 = .ok (.aload_n 0, 1) := by decide +kernel
theorem dX10_faultsOf_140 : decode cX10_faultsOf 140 = .ok (.aload_n 0, 1) := by decide +kernel
theorem dX10_faultsOf_141 : decode cX10_faultsOf 141 = .ok (.getfield 16, 3) := by decide +kernel
theorem dX10_faultsOf_144 : decode cX10_faultsOf 144 = .ok (.iload_n 1, 1) := by decide +kernel
theorem dX10_faultsOf_145 : decode cX10_faultsOf 145 = .ok (.iaload, 1) := by decide +kernel
theorem dX10_faultsOf_146 : decode cX10_faultsOf 146 = .ok (.invokevirtual 126, 3) := by decide +kernel
theorem dX10_faultsOf_149 : decode cX10_faultsOf 149 = .ok (.ifCond .ne 16, 3) := by decide +kernel
theorem dX10_faultsOf_152 : decode cX10_faultsOf 152 = .ok (.aload_n 0, 1) := by decide +kernel
theorem dX10_faultsOf_153 : decode cX10_faultsOf 153 = .ok (.aload_n 0, 1) := by decide +kernel
theorem dX10_faultsOf_154 : decode cX10_faultsOf 154 = .ok (.getfield 19, 3) := by decide +kernel
theorem dX10_faultsOf_157 : decode cX10_faultsOf 157 = .ok (.iload_n 1, 1) := by decide +kernel
theorem dX10_faultsOf_158 : decode cX10_faultsOf 158 = .ok (.iaload, 1) := by decide +kernel
theorem dX10_faultsOf_159 : decode cX10_faultsOf 159 = .ok (.invokevirtual 126, 3) := by decide +kernel
theorem dX10_faultsOf_162 : decode cX10_faultsOf 162 = .ok (.ifCond .eq 8, 3) := by decide +kernel
theorem dX10_faultsOf_165 : decode cX10_faultsOf 165 = .ok (.bipush 8, 2) := by decide +kernel
theorem dX10_faultsOf_167 : decode cX10_faultsOf 167 = .ok (.goto 4, 3) := by decide +kernel
theorem dX10_faultsOf_170 : decode cX10_faultsOf 170 = .ok (.iconst 0, 1) := by decide +kernel
theorem dX10_faultsOf_171 : decode cX10_faultsOf 171 = .ok (.iadd, 1) := by decide +kernel
theorem dX10_faultsOf_172 : decode cX10_faultsOf 172 = .ok (.istore 4, 2) := by decide +kernel
theorem dX10_faultsOf_174 : decode cX10_faultsOf 174 = .ok (.iload 4, 2) := by decide +kernel
theorem dX10_faultsOf_176 : decode cX10_faultsOf 176 = .ok (.aload_n 0, 1) := by decide +kernel
theorem dX10_faultsOf_177 : decode cX10_faultsOf 177 = .ok (.aload_n 0, 1) := by decide +kernel
theorem dX10_faultsOf_178 : decode cX10_faultsOf 178 = .ok (.getfield 25, 3) := by decide +kernel
theorem dX10_faultsOf_181 : decode cX10_faultsOf 181 = .ok (.iload_n 1, 1) := by decide +kernel
theorem dX10_faultsOf_182 : decode cX10_faultsOf 182 = .ok (.iaload, 1) := by decide +kernel
theorem dX10_faultsOf_183 : decode cX10_faultsOf 183 = .ok (.invokevirtual 129, 3) := by decide +kernel
theorem dX10_faultsOf_186 : decode cX10_faultsOf 186 = .ok (.ifCond .ne 26, 3) := by decide +kernel
theorem dX10_faultsOf_189 : decode cX10_faultsOf 189 = .ok (.aload_n 0, 1) := by decide +kernel
theorem dX10_faultsOf_190 : decode cX10_faultsOf 190 = .ok (.getfield 22, 3) := by decide +kernel
theorem dX10_faultsOf_193 : decode cX10_faultsOf 193 = .ok (.iload_n 1, 1) := by decide +kernel
theorem dX10_faultsOf_194 : decode cX10_faultsOf 194 = .ok (.iaload, 1) := by decide +kernel
theorem dX10_faultsOf_195 : decode cX10_faultsOf 195 = .ok (.iconst 2, 1) := by decide +kernel
theorem dX10_faultsOf_196 : decode cX10_faultsOf 196 = .ok (.if_icmp .ne 21, 3) := by decide +kernel
theorem dX10_faultsOf_199 : decode cX10_faultsOf 199 = .ok (.aload_n 0, 1) := by decide +kernel
theorem dX10_faultsOf_200 : decode cX10_faultsOf 200 = .ok (.aload_n 0, 1) := by decide +kernel
theorem dX10_faultsOf_201 : decode cX10_faultsOf 201 = .ok (.getfield 28, 3) := by decide +kernel
theorem dX10_faultsOf_204 : decode cX10_faultsOf 204 = .ok (.iload_n 1, 1) := by decide +kernel
theorem dX10_faultsOf_205 : decode cX10_faultsOf 205 = .ok (.iaload, 1) := by decide +kernel
theorem dX10_faultsOf_206 : decode cX10_faultsOf 206 = .ok (.invokevirtual 129, 3) := by decide +kernel
theorem dX10_faultsOf_209 : decode cX10_faultsOf 209 = .ok (.ifCond .eq 8, 3) := by decide +kernel
theorem dX10_faultsOf_212 : decode cX10_faultsOf 212 = .ok (.bipush 16, 2) := by decide +kernel
theorem dX10_faultsOf_214 : decode cX10_faultsOf 214 = .ok (.goto 4, 3) := by decide +kernel
theorem dX10_faultsOf_217 : decode cX10_faultsOf 217 = .ok (.iconst 0, 1) := by decide +kernel
theorem dX10_faultsOf_218 : decode cX10_faultsOf 218 = .ok (.iadd, 1) := by decide +kernel
theorem dX10_faultsOf_219 : decode cX10_faultsOf 219 = .ok (.istore 4, 2) := by decide +kernel
theorem dX10_faultsOf_221 : decode cX10_faultsOf 221 = .ok (.iload 4, 2) := by decide +kernel
theorem dX10_faultsOf_223 : decode cX10_faultsOf 223 = .ok (.aload_n 0, 1) := by decide +kernel
theorem dX10_faultsOf_224 : decode cX10_faultsOf 224 = .ok (.getfield 19, 3) := by decide +kernel
theorem dX10_faultsOf_227 : decode cX10_faultsOf 227 = .ok (.iload_n 1, 1) := by decide +kernel
theorem dX10_faultsOf_228 : decode cX10_faultsOf 228 = .ok (.iaload, 1) := by decide +kernel
theorem dX10_faultsOf_229 : decode cX10_faultsOf 229 = .ok (.aload_n 0, 1) := by decide +kernel
theorem dX10_faultsOf_230 : decode cX10_faultsOf 230 = .ok (.invokevirtual 64, 3) := by decide +kernel
theorem dX10_faultsOf_233 : decode cX10_faultsOf 233 = .ok (.if_icmp .le 8, 3) := by decide +kernel
theorem dX10_faultsOf_236 : decode cX10_faultsOf 236 = .ok (.bipush 32, 2) := by decide +kernel
theorem dX10_faultsOf_238 : decode cX10_faultsOf 238 = .ok (.goto 4, 3) := by decide +kernel
theorem dX10_faultsOf_241 : decode cX10_faultsOf 241 = .ok (.iconst 0, 1) := by decide +kernel
theorem dX10_faultsOf_242 : decode cX10_faultsOf 242 = .ok (.iadd, 1) := by decide +kernel
theorem dX10_faultsOf_243 : decode cX10_faultsOf 243 = .ok (.ireturn, 1) := by decide +kernel
theorem dX10_stretchesOf_0 : decode cX10_stretchesOf 0 = .ok (.aload_n 0, 1) := by decide +kernel
theorem dX10_stretchesOf_1 : decode cX10_stretchesOf 1 = .ok (.iconst 0, 1) := by decide +kernel
theorem dX10_stretchesOf_2 : decode cX10_stretchesOf 2 = .ok (.putfield 132, 3) := by decide +kernel
theorem dX10_stretchesOf_5 : decode cX10_stretchesOf 5 = .ok (.bipush (-9), 2) := by decide +kernel
theorem dX10_stretchesOf_7 : decode cX10_stretchesOf 7 = .ok (.istore 5, 2) := by decide +kernel
theorem dX10_stretchesOf_9 : decode cX10_stretchesOf 9 = .ok (.bipush (-9), 2) := by decide +kernel
theorem dX10_stretchesOf_11 : decode cX10_stretchesOf 11 = .ok (.istore 6, 2) := by decide +kernel
theorem dX10_stretchesOf_13 : decode cX10_stretchesOf 13 = .ok (.iconst 0, 1) := by decide +kernel
theorem dX10_stretchesOf_14 : decode cX10_stretchesOf 14 = .ok (.istore 7, 2) := by decide +kernel
theorem dX10_stretchesOf_16 : decode cX10_stretchesOf 16 = .ok (.iload 7, 2) := by decide +kernel
theorem dX10_stretchesOf_18 : decode cX10_stretchesOf 18 = .ok (.aload_n 0, 1) := by decide +kernel
theorem dX10_stretchesOf_19 : decode cX10_stretchesOf 19 = .ok (.getfield 7, 3) := by decide +kernel
theorem dX10_stretchesOf_22 : decode cX10_stretchesOf 22 = .ok (.iconst 0, 1) := by decide +kernel
theorem dX10_stretchesOf_23 : decode cX10_stretchesOf 23 = .ok (.iaload, 1) := by decide +kernel
theorem dX10_stretchesOf_24 : decode cX10_stretchesOf 24 = .ok (.if_icmp .gt 274, 3) := by decide +kernel
theorem dX10_stretchesOf_27 : decode cX10_stretchesOf 27 = .ok (.iload 7, 2) := by decide +kernel
theorem dX10_stretchesOf_29 : decode cX10_stretchesOf 29 = .ok (.aload_n 0, 1) := by decide +kernel
theorem dX10_stretchesOf_30 : decode cX10_stretchesOf 30 = .ok (.getfield 7, 3) := by decide +kernel
theorem dX10_stretchesOf_33 : decode cX10_stretchesOf 33 = .ok (.iconst 0, 1) := by decide +kernel
theorem dX10_stretchesOf_34 : decode cX10_stretchesOf 34 = .ok (.iaload, 1) := by decide +kernel
theorem dX10_stretchesOf_35 : decode cX10_stretchesOf 35 = .ok (.if_icmp .ge 22, 3) := by decide +kernel
theorem dX10_stretchesOf_38 : decode cX10_stretchesOf 38 = .ok (.aload_n 0, 1) := by decide +kernel
theorem dX10_stretchesOf_39 : decode cX10_stretchesOf 39 = .ok (.iload 7, 2) := by decide +kernel
theorem dX10_stretchesOf_41 : decode cX10_stretchesOf 41 = .ok (.invokevirtual 75, 3) := by decide +kernel
theorem dX10_stretchesOf_44 : decode cX10_stretchesOf 44 = .ok (.iload_n 1, 1) := by decide +kernel
theorem dX10_stretchesOf_45 : decode cX10_stretchesOf 45 = .ok (.if_icmp .le 12, 3) := by decide +kernel
theorem dX10_stretchesOf_48 : decode cX10_stretchesOf 48 = .ok (.aload_n 0, 1) := by decide +kernel
theorem dX10_stretchesOf_49 : decode cX10_stretchesOf 49 = .ok (.iload 7, 2) := by decide +kernel
theorem dX10_stretchesOf_51 : decode cX10_stretchesOf 51 = .ok (.invokevirtual 75, 3) := by decide +kernel
theorem dX10_stretchesOf_54 : decode cX10_stretchesOf 54 = .ok (.goto 4, 3) := by decide +kernel
theorem dX10_stretchesOf_57 : decode cX10_stretchesOf 57 = .ok (.iload_n 1, 1) := by decide +kernel
theorem dX10_stretchesOf_58 : decode cX10_stretchesOf 58 = .ok (.istore 8, 2) := by decide +kernel
theorem dX10_stretchesOf_60 : decode cX10_stretchesOf 60 = .ok (.iload 7, 2) := by decide +kernel
theorem dX10_stretchesOf_62 : decode cX10_stretchesOf 62 = .ok (.aload_n 0, 1) := by decide +kernel
theorem dX10_stretchesOf_63 : decode cX10_stretchesOf 63 = .ok (.getfield 7, 3) := by decide +kernel
theorem dX10_stretchesOf_66 : decode cX10_stretchesOf 66 = .ok (.iconst 0, 1) := by decide +kernel
theorem dX10_stretchesOf_67 : decode cX10_stretchesOf 67 = .ok (.iaload, 1) := by decide +kernel
theorem dX10_stretchesOf_68 : decode cX10_stretchesOf 68 = .ok (.if_icmp .ge 36, 3) := by decide +kernel
theorem dX10_stretchesOf_71 : decode cX10_stretchesOf 71 = .ok (.aload_n 0, 1) := by decide +kernel
theorem dX10_stretchesOf_72 : decode cX10_stretchesOf 72 = .ok (.iload 7, 2) := by decide +kernel
theorem dX10_stretchesOf_74 : decode cX10_stretchesOf 74 = .ok (.invokevirtual 75, 3) := by decide +kernel
theorem dX10_stretchesOf_77 : decode cX10_stretchesOf 77 = .ok (.aload_n 0, 1) := by decide +kernel
theorem dX10_stretchesOf_78 : decode cX10_stretchesOf 78 = .ok (.iload 7, 2) := by decide +kernel
theorem dX10_stretchesOf_80 : decode cX10_stretchesOf 80 = .ok (.invokevirtual 53, 3) := by decide +kernel
theorem dX10_stretchesOf_83 : decode cX10_stretchesOf 83 = .ok (.iadd, 1) := by decide +kernel
theorem dX10_stretchesOf_84 : decode cX10_stretchesOf 84 = .ok (.iload_n 2, 1) := by decide +kernel
theorem dX10_stretchesOf_85 : decode cX10_stretchesOf 85 = .ok (.if_icmp .ge 19, 3) := by decide +kernel
theorem dX10_stretchesOf_88 : decode cX10_stretchesOf 88 = .ok (.aload_n 0, 1) := by decide +kernel
theorem dX10_stretchesOf_89 : decode cX10_stretchesOf 89 = .ok (.iload 7, 2) := by decide +kernel
theorem dX10_stretchesOf_91 : decode cX10_stretchesOf 91 = .ok (.invokevirtual 75, 3) := by decide +kernel
theorem dX10_stretchesOf_94 : decode cX10_stretchesOf 94 = .ok (.aload_n 0, 1) := by decide +kernel
theorem dX10_stretchesOf_95 : decode cX10_stretchesOf 95 = .ok (.iload 7, 2) := by decide +kernel
theorem dX10_stretchesOf_97 : decode cX10_stretchesOf 97 = .ok (.invokevirtual 53, 3) := by decide +kernel
theorem dX10_stretchesOf_100 : decode cX10_stretchesOf 100 = .ok (.iadd, 1) := by decide +kernel
theorem dX10_stretchesOf_101 : decode cX10_stretchesOf 101 = .ok (.goto 4, 3) := by decide +kernel
theorem dX10_stretchesOf_104 : decode cX10_stretchesOf 104 = .ok (.iload_n 2, 1) := by decide +kernel
theorem dX10_stretchesOf_105 : decode cX10_stretchesOf 105 = .ok (.istore 9, 2) := by decide +kernel
theorem dX10_stretchesOf_107 : decode cX10_stretchesOf 107 = .ok (.iload 7, 2) := by decide +kernel
theorem dX10_stretchesOf_109 : decode cX10_stretchesOf 109 = .ok (.aload_n 0, 1) := by decide +kernel
theorem dX10_stretchesOf_110 : decode cX10_stretchesOf 110 = .ok (.getfield 7, 3) := by decide +kernel
theorem dX10_stretchesOf_113 : decode cX10_stretchesOf 113 = .ok (.iconst 0, 1) := by decide +kernel
theorem dX10_stretchesOf_114 : decode cX10_stretchesOf 114 = .ok (.iaload, 1) := by decide +kernel
theorem dX10_stretchesOf_115 : decode cX10_stretchesOf 115 = .ok (.if_icmp .ge 16, 3) := by decide +kernel
theorem dX10_stretchesOf_118 : decode cX10_stretchesOf 118 = .ok (.iload 9, 2) := by decide +kernel
theorem dX10_stretchesOf_120 : decode cX10_stretchesOf 120 = .ok (.iload 8, 2) := by decide +kernel
theorem dX10_stretchesOf_122 : decode cX10_stretchesOf 122 = .ok (.isub, 1) := by decide +kernel
theorem dX10_stretchesOf_123 : decode cX10_stretchesOf 123 = .ok (.iconst 4, 1) := by decide +kernel
theorem dX10_stretchesOf_124 : decode cX10_stretchesOf 124 = .ok (.if_icmp .lt 7, 3) := by decide +kernel
theorem dX10_stretchesOf_127 : decode cX10_stretchesOf 127 = .ok (.iconst 1, 1) := by decide +kernel
theorem dX10_stretchesOf_128 : decode cX10_stretchesOf 128 = .ok (.goto 4, 3) := by decide +kernel
theorem dX10_stretchesOf_131 : decode cX10_stretchesOf 131 = .ok (.iconst 0, 1) := by decide +kernel
theorem dX10_stretchesOf_132 : decode cX10_stretchesOf 132 = .ok (.istore 10, 2) := by decide +kernel
theorem dX10_stretchesOf_134 : decode cX10_stretchesOf 134 = .ok (.iload 10, 2) := by decide +kernel
theorem dX10_stretchesOf_136 : decode cX10_stretchesOf 136 = .ok (.ifCond .eq 22, 3) := by decide +kernel
theorem dX10_stretchesOf_139 : decode cX10_stretchesOf 139 = .ok (.aload_n 0, 1) := by decide +kernel
theorem dX10_stretchesOf_140 : decode cX10_stretchesOf 140 = .ok (.iload 7, 2) := by decide +kernel
theorem dX10_stretchesOf_142 : decode cX10_stretchesOf 142 = .ok (.invokevirtual 57, 3) := by decide +kernel
theorem dX10_stretchesOf_145 : decode cX10_stretchesOf 145 = .ok (.iload 8, 2) := by decide +kernel
theorem dX10_stretchesOf_147 : decode cX10_stretchesOf 147 = .ok (.iadd, 1) := by decide +kernel
theorem dX10_stretchesOf_148 : decode cX10_stretchesOf 148 = .ok (.aload_n 0, 1) := by decide +kernel
theorem dX10_stretchesOf_149 : decode cX10_stretchesOf 149 = .ok (.iload 7, 2) := by decide +kernel
theorem dX10_stretchesOf_151 : decode cX10_stretchesOf 151 = .ok (.invokevirtual 75, 3) := by decide +kernel
theorem dX10_stretchesOf_154 : decode cX10_stretchesOf 154 = .ok (.isub, 1) := by decide +kernel
theorem dX10_stretchesOf_155 : decode cX10_stretchesOf 155 = .ok (.goto 5, 3) := by decide +kernel
theorem dX10_stretchesOf_158 : decode cX10_stretchesOf 158 = .ok (.bipush (-9), 2) := by decide +kernel
theorem dX10_stretchesOf_160 : decode cX10_stretchesOf 160 = .ok (.istore 11, 2) := by decide +kernel
theorem dX10_stretchesOf_162 : decode cX10_stretchesOf 162 = .ok (.iload 10, 2) := by decide +kernel
theorem dX10_stretchesOf_164 : decode cX10_stretchesOf 164 = .ok (.ifCond .eq 23, 3) := by decide +kernel
theorem dX10_stretchesOf_167 : decode cX10_stretchesOf 167 = .ok (.iload 11, 2) := by decide +kernel
theorem dX10_stretchesOf_169 : decode cX10_stretchesOf 169 = .ok (.iload 6, 2) := by decide +kernel
theorem dX10_stretchesOf_171 : decode cX10_stretchesOf 171 = .ok (.if_icmp .ne 16, 3) := by decide +kernel
theorem dX10_stretchesOf_174 : decode cX10_stretchesOf 174 = .ok (.iload 11, 2) := by decide +kernel
theorem dX10_stretchesOf_176 : decode cX10_stretchesOf 176 = .ok (.iload 9, 2) := by decide +kernel
theorem dX10_stretchesOf_178 : decode cX10_stretchesOf 178 = .ok (.iadd, 1) := by decide +kernel
theorem dX10_stretchesOf_179 : decode cX10_stretchesOf 179 = .ok (.iload 8, 2) := by decide +kernel
theorem dX10_stretchesOf_181 : decode cX10_stretchesOf 181 = .ok (.isub, 1) := by decide +kernel
theorem dX10_stretchesOf_182 : decode cX10_stretchesOf 182 = .ok (.istore 6, 2) := by decide +kernel
theorem dX10_stretchesOf_184 : decode cX10_stretchesOf 184 = .ok (.goto 108, 3) := by decide +kernel
theorem dX10_stretchesOf_187 : decode cX10_stretchesOf 187 = .ok (.iload 10, 2) := by decide +kernel
theorem dX10_stretchesOf_189 : decode cX10_stretchesOf 189 = .ok (.ifCond .ne 14, 3) := by decide +kernel
theorem dX10_stretchesOf_192 : decode cX10_stretchesOf 192 = .ok (.iload 7, 2) := by decide +kernel
theorem dX10_stretchesOf_194 : decode cX10_stretchesOf 194 = .ok (.aload_n 0, 1) := by decide +kernel
theorem dX10_stretchesOf_195 : decode cX10_stretchesOf 195 = .ok (.getfield 7, 3) := by decide +kernel
theorem dX10_stretchesOf_198 : decode cX10_stretchesOf 198 = .ok (.iconst 0, 1) := by decide +kernel
theorem dX10_stretchesOf_199 : decode cX10_stretchesOf 199 = .ok (.iaload, 1) := by decide +kernel
theorem dX10_stretchesOf_200 : decode cX10_stretchesOf 200 = .ok (.if_icmp .ne 92, 3) := by decide +kernel
theorem dX10_stretchesOf_203 : decode cX10_stretchesOf 203 = .ok (.iload 5, 2) := by decide +kernel
theorem dX10_stretchesOf_205 : decode cX10_stretchesOf 205 = .ok (.bipush (-9), 2) := by decide +kernel
theorem dX10_stretchesOf_207 : decode cX10_stretchesOf 207 = .ok (.if_icmp .eq 19, 3) := by decide +kernel
theorem dX10_stretchesOf_210 : decode cX10_stretchesOf 210 = .ok (.iload 4, 2) := by decide +kernel
theorem dX10_stretchesOf_212 : decode cX10_stretchesOf 212 = .ok (.ifCond .eq 14, 3) := by decide +kernel
theorem dX10_stretchesOf_215 : decode cX10_stretchesOf 215 = .ok (.aload_n 0, 1) := by decide +kernel
theorem dX10_stretchesOf_216 : decode cX10_stretchesOf 216 = .ok (.getfield 84, 3) := by decide +kernel
theorem dX10_stretchesOf_219 : decode cX10_stretchesOf 219 = .ok (.bipush 16, 2) := by decide +kernel
theorem dX10_stretchesOf_221 : decode cX10_stretchesOf 221 = .ok (.if_icmp .ne 5, 3) := by decide +kernel
theorem dX10_stretchesOf_224 : decode cX10_stretchesOf 224 = .ok (.iconst 0, 1) := by decide +kernel
theorem dX10_stretchesOf_225 : decode cX10_stretchesOf 225 = .ok (.ireturn, 1) := by decide +kernel
theorem dX10_stretchesOf_226 : decode cX10_stretchesOf 226 = .ok (.iload 5, 2) := by decide +kernel
theorem dX10_stretchesOf_228 : decode cX10_stretchesOf 228 = .ok (.bipush (-9), 2) := by decide +kernel
theorem dX10_stretchesOf_230 : decode cX10_stretchesOf 230 = .ok (.if_icmp .eq 17, 3) := by decide +kernel
theorem dX10_stretchesOf_233 : decode cX10_stretchesOf 233 = .ok (.iload 4, 2) := by decide +kernel
theorem dX10_stretchesOf_235 : decode cX10_stretchesOf 235 = .ok (.ifCond .eq 12, 3) := by decide +kernel
theorem dX10_stretchesOf_238 : decode cX10_stretchesOf 238 = .ok (.aload_n 0, 1) := by decide +kernel
theorem dX10_stretchesOf_239 : decode cX10_stretchesOf 239 = .ok (.iload 5, 2) := by decide +kernel
theorem dX10_stretchesOf_241 : decode cX10_stretchesOf 241 = .ok (.iload 6, 2) := by decide +kernel
theorem dX10_stretchesOf_243 : decode cX10_stretchesOf 243 = .ok (.iload_n 3, 1) := by decide +kernel
theorem dX10_stretchesOf_244 : decode cX10_stretchesOf 244 = .ok (.invokevirtual 135, 3) := by decide +kernel
theorem dX10_stretchesOf_247 : decode cX10_stretchesOf 247 = .ok (.aload_n 0, 1) := by decide +kernel
theorem dX10_stretchesOf_248 : decode cX10_stretchesOf 248 = .ok (.dup, 1) := by decide +kernel
theorem dX10_stretchesOf_249 : decode cX10_stretchesOf 249 = .ok (.getfield 132, 3) := by decide +kernel
theorem dX10_stretchesOf_252 : decode cX10_stretchesOf 252 = .ok (.iload 5, 2) := by decide +kernel
theorem dX10_stretchesOf_254 : decode cX10_stretchesOf 254 = .ok (.bipush (-9), 2) := by decide +kernel
theorem dX10_stretchesOf_256 : decode cX10_stretchesOf 256 = .ok (.if_icmp .eq 7, 3) := by decide +kernel
theorem dX10_stretchesOf_259 : decode cX10_stretchesOf 259 = .ok (.iconst 1, 1) := by decide +kernel
theorem dX10_stretchesOf_260 : decode cX10_stretchesOf 260 = .ok (.goto 4, 3) := by decide +kernel
theorem dX10_stretchesOf_263 : decode cX10_stretchesOf 263 = .ok (.iconst 0, 1) := by decide +kernel
theorem dX10_stretchesOf_264 : decode cX10_stretchesOf 264 = .ok (.iadd, 1) := by decide +kernel
theorem dX10_stretchesOf_265 : decode cX10_stretchesOf 265 = .ok (.putfield 132, 3) := by decide +kernel
theorem dX10_stretchesOf_268 : decode cX10_stretchesOf 268 = .ok (.iload 11, 2) := by decide +kernel
theorem dX10_stretchesOf_270 : decode cX10_stretchesOf 270 = .ok (.istore 5, 2) := by decide +kernel
theorem dX10_stretchesOf_272 : decode cX10_stretchesOf 272 = .ok (.iload 10, 2) := by decide +kernel
theorem dX10_stretchesOf_274 : decode cX10_stretchesOf 274 = .ok (.ifCond .eq 14, 3) := by decide +kernel
theorem dX10_stretchesOf_277 : decode cX10_stretchesOf 277 = .ok (.iload 11, 2) := by decide +kernel
theorem dX10_stretchesOf_279 : decode cX10_stretchesOf 279 = .ok (.iload 9, 2) := by decide +kernel
theorem dX10_stretchesOf_281 : decode cX10_stretchesOf 281 = .ok (.iadd, 1) := by decide +kernel
theorem dX10_stretchesOf_282 : decode cX10_stretchesOf 282 = .ok (.iload 8, 2) := by decide +kernel
theorem dX10_stretchesOf_284 : decode cX10_stretchesOf 284 = .ok (.isub, 1) := by decide +kernel
theorem dX10_stretchesOf_285 : decode cX10_stretchesOf 285 = .ok (.goto 5, 3) := by decide +kernel
theorem dX10_stretchesOf_288 : decode cX10_stretchesOf 288 = .ok (.bipush (-9), 2) := by decide +kernel
theorem dX10_stretchesOf_290 : decode cX10_stretchesOf 290 = .ok (.istore 6, 2) := by decide +kernel
theorem dX10_stretchesOf_292 : decode cX10_stretchesOf 292 = .ok (.iinc 7 1, 3) := by decide +kernel
theorem dX10_stretchesOf_295 : decode cX10_stretchesOf 295 = .ok (.goto (-279), 3) := by decide +kernel
theorem dX10_stretchesOf_298 : decode cX10_stretchesOf 298 = .ok (.iconst 1, 1) := by decide +kernel
theorem dX10_stretchesOf_299 : decode cX10_stretchesOf 299 = .ok (.ireturn, 1) := by decide +kernel
theorem dX10_maps_0 : decode cX10_maps 0 = .ok (.aload_n 0, 1) := by decide +kernel
theorem dX10_maps_1 : decode cX10_maps 1 = .ok (.getfield 84, 3) := by decide +kernel
theorem dX10_maps_4 : decode cX10_maps 4 = .ok (.istore_n 1, 1) := by decide +kernel
theorem dX10_maps_5 : decode cX10_maps 5 = .ok (.aload_n 0, 1) := by decide +kernel
theorem dX10_maps_6 : decode cX10_maps 6 = .ok (.invokevirtual 139, 3) := by decide +kernel
theorem dX10_maps_9 : decode cX10_maps 9 = .ok (.aload_n 0, 1) := by decide +kernel
theorem dX10_maps_10 : decode cX10_maps 10 = .ok (.iconst 0, 1) := by decide +kernel
theorem dX10_maps_11 : decode cX10_maps 11 = .ok (.putfield 142, 3) := by decide +kernel
theorem dX10_maps_14 : decode cX10_maps 14 = .ok (.iconst 0, 1) := by decide +kernel
theorem dX10_maps_15 : decode cX10_maps 15 = .ok (.istore_n 2, 1) := by decide +kernel
theorem dX10_maps_16 : decode cX10_maps 16 = .ok (.iload_n 2, 1) := by decide +kernel
theorem dX10_maps_17 : decode cX10_maps 17 = .ok (.iload_n 1, 1) := by decide +kernel
theorem dX10_maps_18 : decode cX10_maps 18 = .ok (.if_icmp .ge 53, 3) := by decide +kernel
theorem dX10_maps_21 : decode cX10_maps 21 = .ok (.aload_n 0, 1) := by decide +kernel
theorem dX10_maps_22 : decode cX10_maps 22 = .ok (.aload_n 0, 1) := by decide +kernel
theorem dX10_maps_23 : decode cX10_maps 23 = .ok (.getfield 31, 3) := by decide +kernel
theorem dX10_maps_26 : decode cX10_maps 26 = .ok (.iload_n 2, 1) := by decide +kernel
theorem dX10_maps_27 : decode cX10_maps 27 = .ok (.iaload, 1) := by decide +kernel
theorem dX10_maps_28 : decode cX10_maps 28 = .ok (.aload_n 0, 1) := by decide +kernel
theorem dX10_maps_29 : decode cX10_maps 29 = .ok (.getfield 34, 3) := by decide +kernel
theorem dX10_maps_32 : decode cX10_maps 32 = .ok (.iload_n 2, 1) := by decide +kernel
theorem dX10_maps_33 : decode cX10_maps 33 = .ok (.iaload, 1) := by decide +kernel
theorem dX10_maps_34 : decode cX10_maps 34 = .ok (.iload_n 2, 1) := by decide +kernel
theorem dX10_maps_35 : decode cX10_maps 35 = .ok (.iconst 1, 1) := by decide +kernel
theorem dX10_maps_36 : decode cX10_maps 36 = .ok (.invokevirtual 145, 3) := by decide +kernel
theorem dX10_maps_39 : decode cX10_maps 39 = .ok (.ifCond .ne 5, 3) := by decide +kernel
theorem dX10_maps_42 : decode cX10_maps 42 = .ok (.iconst 0, 1) := by decide +kernel
theorem dX10_maps_43 : decode cX10_maps 43 = .ok (.ireturn, 1) := by decide +kernel
theorem dX10_maps_44 : decode cX10_maps 44 = .ok (.aload_n 0, 1) := by decide +kernel
theorem dX10_maps_45 : decode cX10_maps 45 = .ok (.dup, 1) := by decide +kernel
theorem dX10_maps_46 : decode cX10_maps 46 = .ok (.getfield 142, 3) := by decide +kernel
theorem dX10_maps_49 : decode cX10_maps 49 = .ok (.aload_n 0, 1) := by decide +kernel
theorem dX10_maps_50 : decode cX10_maps 50 = .ok (.getfield 132, 3) := by decide +kernel
theorem dX10_maps_53 : decode cX10_maps 53 = .ok (.ifCond .ne 7, 3) := by decide +kernel
theorem dX10_maps_56 : decode cX10_maps 56 = .ok (.iconst 1, 1) := by decide +kernel
theorem dX10_maps_57 : decode cX10_maps 57 = .ok (.goto 4, 3) := by decide +kernel
theorem dX10_maps_60 : decode cX10_maps 60 = .ok (.iconst 0, 1) := by decide +kernel
theorem dX10_maps_61 : decode cX10_maps 61 = .ok (.iadd, 1) := by decide +kernel
theorem dX10_maps_62 : decode cX10_maps 62 = .ok (.putfield 142, 3) := by decide +kernel
theorem dX10_maps_65 : decode cX10_maps 65 = .ok (.iinc 2 1, 3) := by decide +kernel
theorem dX10_maps_68 : decode cX10_maps 68 = .ok (.goto (-52), 3) := by decide +kernel
theorem dX10_maps_71 : decode cX10_maps 71 = .ok (.iconst 1, 1) := by decide +kernel
theorem dX10_maps_72 : decode cX10_maps 72 = .ok (.ireturn, 1) := by decide +kernel
theorem dX10_speakerOf_0 : decode cX10_speakerOf 0 = .ok (.aload_n 0, 1) := by decide +kernel
theorem dX10_speakerOf_1 : decode cX10_speakerOf 1 = .ok (.getfield 7, 3) := by decide +kernel
theorem dX10_speakerOf_4 : decode cX10_speakerOf 4 = .ok (.aload_n 0, 1) := by decide +kernel
theorem dX10_speakerOf_5 : decode cX10_speakerOf 5 = .ok (.iload_n 1, 1) := by decide +kernel
theorem dX10_speakerOf_6 : decode cX10_speakerOf 6 = .ok (.invokevirtual 91, 3) := by decide +kernel
theorem dX10_speakerOf_9 : decode cX10_speakerOf 9 = .ok (.iaload, 1) := by decide +kernel
theorem dX10_speakerOf_10 : decode cX10_speakerOf 10 = .ok (.ireturn, 1) := by decide +kernel
theorem dX10_areOne_0 : decode cX10_areOne 0 = .ok (.iload_n 1, 1) := by decide +kernel
theorem dX10_areOne_1 : decode cX10_areOne 1 = .ok (.iconst 1, 1) := by decide +kernel
theorem dX10_areOne_2 : decode cX10_areOne 2 = .ok (.iadd, 1) := by decide +kernel
theorem dX10_areOne_3 : decode cX10_areOne 3 = .ok (.istore_n 2, 1) := by decide +kernel
theorem dX10_areOne_4 : decode cX10_areOne 4 = .ok (.aload_n 0, 1) := by decide +kernel
theorem dX10_areOne_5 : decode cX10_areOne 5 = .ok (.getfield 22, 3) := by decide +kernel
theorem dX10_areOne_8 : decode cX10_areOne 8 = .ok (.iload_n 1, 1) := by decide +kernel
theorem dX10_areOne_9 : decode cX10_areOne 9 = .ok (.iaload, 1) := by decide +kernel
theorem dX10_areOne_10 : decode cX10_areOne 10 = .ok (.iconst 1, 1) := by decide +kernel
theorem dX10_areOne_11 : decode cX10_areOne 11 = .ok (.if_icmp .ne 36, 3) := by decide +kernel
theorem dX10_areOne_14 : decode cX10_areOne 14 = .ok (.aload_n 0, 1) := by decide +kernel
theorem dX10_areOne_15 : decode cX10_areOne 15 = .ok (.getfield 22, 3) := by decide +kernel
theorem dX10_areOne_18 : decode cX10_areOne 18 = .ok (.iload_n 2, 1) := by decide +kernel
theorem dX10_areOne_19 : decode cX10_areOne 19 = .ok (.iaload, 1) := by decide +kernel
theorem dX10_areOne_20 : decode cX10_areOne 20 = .ok (.iconst 1, 1) := by decide +kernel
theorem dX10_areOne_21 : decode cX10_areOne 21 = .ok (.if_icmp .ne 26, 3) := by decide +kernel
theorem dX10_areOne_24 : decode cX10_areOne 24 = .ok (.aload_n 0, 1) := by decide +kernel
theorem dX10_areOne_25 : decode cX10_areOne 25 = .ok (.aload_n 0, 1) := by decide +kernel
theorem dX10_areOne_26 : decode cX10_areOne 26 = .ok (.getfield 25, 3) := by decide +kernel
theorem dX10_areOne_29 : decode cX10_areOne 29 = .ok (.iload_n 1, 1) := by decide +kernel
theorem dX10_areOne_30 : decode cX10_areOne 30 = .ok (.iaload, 1) := by decide +kernel
theorem dX10_areOne_31 : decode cX10_areOne 31 = .ok (.invokevirtual 149, 3) := by decide +kernel
theorem dX10_areOne_34 : decode cX10_areOne 34 = .ok (.aload_n 0, 1) := by decide +kernel
theorem dX10_areOne_35 : decode cX10_areOne 35 = .ok (.aload_n 0, 1) := by decide +kernel
theorem dX10_areOne_36 : decode cX10_areOne 36 = .ok (.getfield 25, 3) := by decide +kernel
theorem dX10_areOne_39 : decode cX10_areOne 39 = .ok (.iload_n 2, 1) := by decide +kernel
theorem dX10_areOne_40 : decode cX10_areOne 40 = .ok (.iaload, 1) := by decide +kernel
theorem dX10_areOne_41 : decode cX10_areOne 41 = .ok (.invokevirtual 149, 3) := by decide +kernel
theorem dX10_areOne_44 : decode cX10_areOne 44 = .ok (.if_icmp .ne 5, 3) := by decide +kernel
theorem dX10_areOne_47 : decode cX10_areOne 47 = .ok (.iconst 0, 1) := by decide +kernel
theorem dX10_areOne_48 : decode cX10_areOne 48 = .ok (.ireturn, 1) := by decide +kernel
theorem dX10_areOne_49 : decode cX10_areOne 49 = .ok (.aload_n 0, 1) := by decide +kernel
theorem dX10_areOne_50 : decode cX10_areOne 50 = .ok (.getfield 19, 3) := by decide +kernel
theorem dX10_areOne_53 : decode cX10_areOne 53 = .ok (.iload_n 1, 1) := by decide +kernel
theorem dX10_areOne_54 : decode cX10_areOne 54 = .ok (.iaload, 1) := by decide +kernel
theorem dX10_areOne_55 : decode cX10_areOne 55 = .ok (.aload_n 0, 1) := by decide +kernel
theorem dX10_areOne_56 : decode cX10_areOne 56 = .ok (.getfield 19, 3) := by decide +kernel
theorem dX10_areOne_59 : decode cX10_areOne 59 = .ok (.iload_n 2, 1) := by decide +kernel
theorem dX10_areOne_60 : decode cX10_areOne 60 = .ok (.iaload, 1) := by decide +kernel
theorem dX10_areOne_61 : decode cX10_areOne 61 = .ok (.if_icmp .ge 12, 3) := by decide +kernel
theorem dX10_areOne_64 : decode cX10_areOne 64 = .ok (.aload_n 0, 1) := by decide +kernel
theorem dX10_areOne_65 : decode cX10_areOne 65 = .ok (.getfield 19, 3) := by decide +kernel
theorem dX10_areOne_68 : decode cX10_areOne 68 = .ok (.iload_n 1, 1) := by decide +kernel
theorem dX10_areOne_69 : decode cX10_areOne 69 = .ok (.iaload, 1) := by decide +kernel
theorem dX10_areOne_70 : decode cX10_areOne 70 = .ok (.goto 9, 3) := by decide +kernel
theorem dX10_areOne_73 : decode cX10_areOne 73 = .ok (.aload_n 0, 1) := by decide +kernel
theorem dX10_areOne_74 : decode cX10_areOne 74 = .ok (.getfield 19, 3) := by decide +kernel
theorem dX10_areOne_77 : decode cX10_areOne 77 = .ok (.iload_n 2, 1) := by decide +kernel
theorem dX10_areOne_78 : decode cX10_areOne 78 = .ok (.iaload, 1) := by decide +kernel
theorem dX10_areOne_79 : decode cX10_areOne 79 = .ok (.aload_n 0, 1) := by decide +kernel
theorem dX10_areOne_80 : decode cX10_areOne 80 = .ok (.getfield 16, 3) := by decide +kernel
theorem dX10_areOne_83 : decode cX10_areOne 83 = .ok (.iload_n 2, 1) := by decide +kernel
theorem dX10_areOne_84 : decode cX10_areOne 84 = .ok (.iaload, 1) := by decide +kernel
theorem dX10_areOne_85 : decode cX10_areOne 85 = .ok (.isub, 1) := by decide +kernel
theorem dX10_areOne_86 : decode cX10_areOne 86 = .ok (.istore_n 3, 1) := by decide +kernel
theorem dX10_areOne_87 : decode cX10_areOne 87 = .ok (.aload_n 0, 1) := by decide +kernel
theorem dX10_areOne_88 : decode cX10_areOne 88 = .ok (.getfield 19, 3) := by decide +kernel
theorem dX10_areOne_91 : decode cX10_areOne 91 = .ok (.iload_n 1, 1) := by decide +kernel
theorem dX10_areOne_92 : decode cX10_areOne 92 = .ok (.iaload, 1) := by decide +kernel
theorem dX10_areOne_93 : decode cX10_areOne 93 = .ok (.aload_n 0, 1) := by decide +kernel
theorem dX10_areOne_94 : decode cX10_areOne 94 = .ok (.getfield 16, 3) := by decide +kernel
theorem dX10_areOne_97 : decode cX10_areOne 97 = .ok (.iload_n 1, 1) := by decide +kernel
theorem dX10_areOne_98 : decode cX10_areOne 98 = .ok (.iaload, 1) := by decide +kernel
theorem dX10_areOne_99 : decode cX10_areOne 99 = .ok (.isub, 1) := by decide +kernel
theorem dX10_areOne_100 : decode cX10_areOne 100 = .ok (.istore 4, 2) := by decide +kernel
theorem dX10_areOne_102 : decode cX10_areOne 102 = .ok (.aload_n 0, 1) := by decide +kernel
theorem dX10_areOne_103 : decode cX10_areOne 103 = .ok (.getfield 19, 3) := by decide +kernel
theorem dX10_areOne_106 : decode cX10_areOne 106 = .ok (.iload_n 2, 1) := by decide +kernel
theorem dX10_areOne_107 : decode cX10_areOne 107 = .ok (.iaload, 1) := by decide +kernel
theorem dX10_areOne_108 : decode cX10_areOne 108 = .ok (.aload_n 0, 1) := by decide +kernel
theorem dX10_areOne_109 : decode cX10_areOne 109 = .ok (.getfield 16, 3) := by decide +kernel
theorem dX10_areOne_112 : decode cX10_areOne 112 = .ok (.iload_n 2, 1) := by decide +kernel
theorem dX10_areOne_113 : decode cX10_areOne 113 = .ok (.iaload, 1) := by decide +kernel
theorem dX10_areOne_114 : decode cX10_areOne 114 = .ok (.isub, 1) := by decide +kernel
theorem dX10_areOne_115 : decode cX10_areOne 115 = .ok (.istore 5, 2) := by decide +kernel
theorem dX10_areOne_117 : decode cX10_areOne 117 = .ok (.iload_n 3, 1) := by decide +kernel
theorem dX10_areOne_118 : decode cX10_areOne 118 = .ok (.ifCond .le 27, 3) := by decide +kernel
theorem dX10_areOne_121 : decode cX10_areOne 121 = .ok (.iconst 2, 1) := by decide +kernel
theorem dX10_areOne_122 : decode cX10_areOne 122 = .ok (.iload_n 3, 1) := by decide +kernel
theorem dX10_areOne_123 : decode cX10_areOne 123 = .ok (.imul, 1) := by decide +kernel
theorem dX10_areOne_124 : decode cX10_areOne 124 = .ok (.iload 4, 2) := by decide +kernel
theorem dX10_areOne_126 : decode cX10_areOne 126 = .ok (.iload 5, 2) := by decide +kernel
theorem dX10_areOne_128 : decode cX10_areOne 128 = .ok (.if_icmp .ge 8, 3) := by decide +kernel
theorem dX10_areOne_131 : decode cX10_areOne 131 = .ok (.iload 4, 2) := by decide +kernel
theorem dX10_areOne_133 : decode cX10_areOne 133 = .ok (.goto 5, 3) := by decide +kernel
theorem dX10_areOne_136 : decode cX10_areOne 136 = .ok (.iload 5, 2) := by decide +kernel
theorem dX10_areOne_138 : decode cX10_areOne 138 = .ok (.if_icmp .lt 7, 3) := by decide +kernel
theorem dX10_areOne_141 : decode cX10_areOne 141 = .ok (.iconst 1, 1) := by decide +kernel
theorem dX10_areOne_142 : decode cX10_areOne 142 = .ok (.goto 4, 3) := by decide +kernel
theorem dX10_areOne_145 : decode cX10_areOne 145 = .ok (.iconst 0, 1) := by decide +kernel
theorem dX10_areOne_146 : decode cX10_areOne 146 = .ok (.ireturn, 1) := by decide +kernel
theorem dX10_merges_0 : decode cX10_merges 0 = .ok (.iconst 0, 1) := by decide +kernel
theorem dX10_merges_1 : decode cX10_merges 1 = .ok (.istore_n 1, 1) := by decide +kernel
theorem dX10_merges_2 : decode cX10_merges 2 = .ok (.iload_n 1, 1) := by decide +kernel
theorem dX10_merges_3 : decode cX10_merges 3 = .ok (.iconst 1, 1) := by decide +kernel
theorem dX10_merges_4 : decode cX10_merges 4 = .ok (.iadd, 1) := by decide +kernel
theorem dX10_merges_5 : decode cX10_merges 5 = .ok (.aload_n 0, 1) := by decide +kernel
theorem dX10_merges_6 : decode cX10_merges 6 = .ok (.getfield 84, 3) := by decide +kernel
theorem dX10_merges_9 : decode cX10_merges 9 = .ok (.if_icmp .ge 176, 3) := by decide +kernel
theorem dX10_merges_12 : decode cX10_merges 12 = .ok (.aload_n 0, 1) := by decide +kernel
theorem dX10_merges_13 : decode cX10_merges 13 = .ok (.iload_n 1, 1) := by decide +kernel
theorem dX10_merges_14 : decode cX10_merges 14 = .ok (.invokevirtual 152, 3) := by decide +kernel
theorem dX10_merges_17 : decode cX10_merges 17 = .ok (.ifCond .eq 162, 3) := by decide +kernel
theorem dX10_merges_20 : decode cX10_merges 20 = .ok (.aload_n 0, 1) := by decide +kernel
theorem dX10_merges_21 : decode cX10_merges 21 = .ok (.getfield 22, 3) := by decide +kernel
theorem dX10_merges_24 : decode cX10_merges 24 = .ok (.iload_n 1, 1) := by decide +kernel
theorem dX10_merges_25 : decode cX10_merges 25 = .ok (.iconst 2, 1) := by decide +kernel
theorem dX10_merges_26 : decode cX10_merges 26 = .ok (.iastore, 1) := by decide +kernel
theorem dX10_merges_27 : decode cX10_merges 27 = .ok (.aload_n 0, 1) := by decide +kernel
theorem dX10_merges_28 : decode cX10_merges 28 = .ok (.getfield 28, 3) := by decide +kernel
theorem dX10_merges_31 : decode cX10_merges 31 = .ok (.iload_n 1, 1) := by decide +kernel
theorem dX10_merges_32 : decode cX10_merges 32 = .ok (.aload_n 0, 1) := by decide +kernel
theorem dX10_merges_33 : decode cX10_merges 33 = .ok (.getfield 25, 3) := by decide +kernel
theorem dX10_merges_36 : decode cX10_merges 36 = .ok (.iload_n 1, 1) := by decide +kernel
theorem dX10_merges_37 : decode cX10_merges 37 = .ok (.iconst 1, 1) := by decide +kernel
theorem dX10_merges_38 : decode cX10_merges 38 = .ok (.iadd, 1) := by decide +kernel
theorem dX10_merges_39 : decode cX10_merges 39 = .ok (.iaload, 1) := by decide +kernel
theorem dX10_merges_40 : decode cX10_merges 40 = .ok (.iastore, 1) := by decide +kernel
theorem dX10_merges_41 : decode cX10_merges 41 = .ok (.aload_n 0, 1) := by decide +kernel
theorem dX10_merges_42 : decode cX10_merges 42 = .ok (.getfield 19, 3) := by decide +kernel
theorem dX10_merges_45 : decode cX10_merges 45 = .ok (.iload_n 1, 1) := by decide +kernel
theorem dX10_merges_46 : decode cX10_merges 46 = .ok (.aload_n 0, 1) := by decide +kernel
theorem dX10_merges_47 : decode cX10_merges 47 = .ok (.getfield 19, 3) := by decide +kernel
theorem dX10_merges_50 : decode cX10_merges 50 = .ok (.iload_n 1, 1) := by decide +kernel
theorem dX10_merges_51 : decode cX10_merges 51 = .ok (.iaload, 1) := by decide +kernel
theorem dX10_merges_52 : decode cX10_merges 52 = .ok (.aload_n 0, 1) := by decide +kernel
theorem dX10_merges_53 : decode cX10_merges 53 = .ok (.getfield 19, 3) := by decide +kernel
theorem dX10_merges_56 : decode cX10_merges 56 = .ok (.iload_n 1, 1) := by decide +kernel
theorem dX10_merges_57 : decode cX10_merges 57 = .ok (.iconst 1, 1) := by decide +kernel
theorem dX10_merges_58 : decode cX10_merges 58 = .ok (.iadd, 1) := by decide +kernel
theorem dX10_merges_59 : decode cX10_merges 59 = .ok (.iaload, 1) := by decide +kernel
theorem dX10_merges_60 : decode cX10_merges 60 = .ok (.if_icmp .le 12, 3) := by decide +kernel
theorem dX10_merges_63 : decode cX10_merges 63 = .ok (.aload_n 0, 1) := by decide +kernel
theorem dX10_merges_64 : decode cX10_merges 64 = .ok (.getfield 19, 3) := by decide +kernel
theorem dX10_merges_67 : decode cX10_merges 67 = .ok (.iload_n 1, 1) := by decide +kernel
theorem dX10_merges_68 : decode cX10_merges 68 = .ok (.iaload, 1) := by decide +kernel
theorem dX10_merges_69 : decode cX10_merges 69 = .ok (.goto 11, 3) := by decide +kernel
theorem dX10_merges_72 : decode cX10_merges 72 = .ok (.aload_n 0, 1) := by decide +kernel
theorem dX10_merges_73 : decode cX10_merges 73 = .ok (.getfield 19, 3) := by decide +kernel
theorem dX10_merges_76 : decode cX10_merges 76 = .ok (.iload_n 1, 1) := by decide +kernel
theorem dX10_merges_77 : decode cX10_merges 77 = .ok (.iconst 1, 1) := by decide +kernel
theorem dX10_merges_78 : decode cX10_merges 78 = .ok (.iadd, 1) := by decide +kernel
theorem dX10_merges_79 : decode cX10_merges 79 = .ok (.iaload, 1) := by decide +kernel
theorem dX10_merges_80 : decode cX10_merges 80 = .ok (.iastore, 1) := by decide +kernel
theorem dX10_merges_81 : decode cX10_merges 81 = .ok (.aload_n 0, 1) := by decide +kernel
theorem dX10_merges_82 : decode cX10_merges 82 = .ok (.dup, 1) := by decide +kernel
theorem dX10_merges_83 : decode cX10_merges 83 = .ok (.getfield 84, 3) := by decide +kernel
theorem dX10_merges_86 : decode cX10_merges 86 = .ok (.iconst 1, 1) := by decide +kernel
theorem dX10_merges_87 : decode cX10_merges 87 = .ok (.isub, 1) := by decide +kernel
theorem dX10_merges_88 : decode cX10_merges 88 = .ok (.putfield 84, 3) := by decide +kernel
theorem dX10_merges_91 : decode cX10_merges 91 = .ok (.iload_n 1, 1) := by decide +kernel
theorem dX10_merges_92 : decode cX10_merges 92 = .ok (.iconst 1, 1) := by decide +kernel
theorem dX10_merges_93 : decode cX10_merges 93 = .ok (.iadd, 1) := by decide +kernel
theorem dX10_merges_94 : decode cX10_merges 94 = .ok (.istore_n 2, 1) := by decide +kernel
theorem dX10_merges_95 : decode cX10_merges 95 = .ok (.iload_n 2, 1) := by decide +kernel
theorem dX10_merges_96 : decode cX10_merges 96 = .ok (.aload_n 0, 1) := by decide +kernel
theorem dX10_merges_97 : decode cX10_merges 97 = .ok (.getfield 84, 3) := by decide +kernel
theorem dX10_merges_100 : decode cX10_merges 100 = .ok (.if_icmp .ge 79, 3) := by decide +kernel
theorem dX10_merges_103 : decode cX10_merges 103 = .ok (.aload_n 0, 1) := by decide +kernel
theorem dX10_merges_104 : decode cX10_merges 104 = .ok (.getfield 16, 3) := by decide +kernel
theorem dX10_merges_107 : decode cX10_merges 107 = .ok (.iload_n 2, 1) := by decide +kernel
theorem dX10_merges_108 : decode cX10_merges 108 = .ok (.aload_n 0, 1) := by decide +kernel
theorem dX10_merges_109 : decode cX10_merges 109 = .ok (.getfield 16, 3) := by decide +kernel
theorem dX10_merges_112 : decode cX10_merges 112 = .ok (.iload_n 2, 1) := by decide +kernel
theorem dX10_merges_113 : decode cX10_merges 113 = .ok (.iconst 1, 1) := by decide +kernel
theorem dX10_merges_114 : decode cX10_merges 114 = .ok (.iadd, 1) := by decide +kernel
theorem dX10_merges_115 : decode cX10_merges 115 = .ok (.iaload, 1) := by decide +kernel
theorem dX10_merges_116 : decode cX10_merges 116 = .ok (.iastore, 1) := by decide +kernel
theorem dX10_merges_117 : decode cX10_merges 117 = .ok (.aload_n 0, 1) := by decide +kernel
theorem dX10_merges_118 : decode cX10_merges 118 = .ok (.getfield 19, 3) := by decide +kernel
theorem dX10_merges_121 : decode cX10_merges 121 = .ok (.iload_n 2, 1) := by decide +kernel
theorem dX10_merges_122 : decode cX10_merges 122 = .ok (.aload_n 0, 1) := by decide +kernel
theorem dX10_merges_123 : decode cX10_merges 123 = .ok (.getfield 19, 3) := by decide +kernel
theorem dX10_merges_126 : decode cX10_merges 126 = .ok (.iload_n 2, 1) := by decide +kernel
theorem dX10_merges_127 : decode cX10_merges 127 = .ok (.iconst 1, 1) := by decide +kernel
theorem dX10_merges_128 : decode cX10_merges 128 = .ok (.iadd, 1) := by decide +kernel
theorem dX10_merges_129 : decode cX10_merges 129 = .ok (.iaload, 1) := by decide +kernel
theorem dX10_merges_130 : decode cX10_merges 130 = .ok (.iastore, 1) := by decide +kernel
theorem dX10_merges_131 : decode cX10_merges 131 = .ok (.aload_n 0, 1) := by decide +kernel
theorem dX10_merges_132 : decode cX10_merges 132 = .ok (.getfield 22, 3) := by decide +kernel
theorem dX10_merges_135 : decode cX10_merges 135 = .ok (.iload_n 2, 1) := by decide +kernel
theorem dX10_merges_136 : decode cX10_merges 136 = .ok (.aload_n 0, 1) := by decide +kernel
theorem dX10_merges_137 : decode cX10_merges 137 = .ok (.getfield 22, 3) := by decide +kernel
theorem dX10_merges_140 : decode cX10_merges 140 = .ok (.iload_n 2, 1) := by decide +kernel
theorem dX10_merges_141 : decode cX10_merges 141 = .ok (.iconst 1, 1) := by decide +kernel
theorem dX10_merges_142 : decode cX10_merges 142 = .ok (.iadd, 1) := by decide +kernel
theorem dX10_merges_143 : decode cX10_merges 143 = .ok (.iaload, 1) := by decide +kernel
theorem dX10_merges_144 : decode cX10_merges 144 = .ok (.iastore, 1) := by decide +kernel
theorem dX10_merges_145 : decode cX10_merges 145 = .ok (.aload_n 0, 1) := by decide +kernel
theorem dX10_merges_146 : decode cX10_merges 146 = .ok (.getfield 25, 3) := by decide +kernel
theorem dX10_merges_149 : decode cX10_merges 149 = .ok (.iload_n 2, 1) := by decide +kernel
theorem dX10_merges_150 : decode cX10_merges 150 = .ok (.aload_n 0, 1) := by decide +kernel
theorem dX10_merges_151 : decode cX10_merges 151 = .ok (.getfield 25, 3) := by decide +kernel
theorem dX10_merges_154 : decode cX10_merges 154 = .ok (.iload_n 2, 1) := by decide +kernel
theorem dX10_merges_155 : decode cX10_merges 155 = .ok (.iconst 1, 1) := by decide +kernel
theorem dX10_merges_156 : decode cX10_merges 156 = .ok (.iadd, 1) := by decide +kernel
theorem dX10_merges_157 : decode cX10_merges 157 = .ok (.iaload, 1) := by decide +kernel
theorem dX10_merges_158 : decode cX10_merges 158 = .ok (.iastore, 1) := by decide +kernel
theorem dX10_merges_159 : decode cX10_merges 159 = .ok (.aload_n 0, 1) := by decide +kernel
theorem dX10_merges_160 : decode cX10_merges 160 = .ok (.getfield 28, 3) := by decide +kernel
theorem dX10_merges_163 : decode cX10_merges 163 = .ok (.iload_n 2, 1) := by decide +kernel
theorem dX10_merges_164 : decode cX10_merges 164 = .ok (.aload_n 0, 1) := by decide +kernel
theorem dX10_merges_165 : decode cX10_merges 165 = .ok (.getfield 28, 3) := by decide +kernel
theorem dX10_merges_168 : decode cX10_merges 168 = .ok (.iload_n 2, 1) := by decide +kernel
theorem dX10_merges_169 : decode cX10_merges 169 = .ok (.iconst 1, 1) := by decide +kernel
theorem dX10_merges_170 : decode cX10_merges 170 = .ok (.iadd, 1) := by decide +kernel
theorem dX10_merges_171 : decode cX10_merges 171 = .ok (.iaload, 1) := by decide +kernel
theorem dX10_merges_172 : decode cX10_merges 172 = .ok (.iastore, 1) := by decide +kernel
theorem dX10_merges_173 : decode cX10_merges 173 = .ok (.iinc 2 1, 3) := by decide +kernel
theorem dX10_merges_176 : decode cX10_merges 176 = .ok (.goto (-81), 3) := by decide +kernel
theorem dX10_merges_179 : decode cX10_merges 179 = .ok (.iinc 1 1, 3) := by decide +kernel
theorem dX10_merges_182 : decode cX10_merges 182 = .ok (.goto (-180), 3) := by decide +kernel
theorem dX10_merges_185 : decode cX10_merges 185 = .ok (.return_, 1) := by decide +kernel
theorem dX10_reads_0 : decode cX10_reads 0 = .ok (.iconst 0, 1) := by decide +kernel
theorem dX10_reads_1 : decode cX10_reads 1 = .ok (.istore_n 1, 1) := by decide +kernel
theorem dX10_reads_2 : decode cX10_reads 2 = .ok (.iload_n 1, 1) := by decide +kernel
theorem dX10_reads_3 : decode cX10_reads 3 = .ok (.aload_n 0, 1) := by decide +kernel
theorem dX10_reads_4 : decode cX10_reads 4 = .ok (.getfield 84, 3) := by decide +kernel
theorem dX10_reads_7 : decode cX10_reads 7 = .ok (.if_icmp .ge 110, 3) := by decide +kernel
theorem dX10_reads_10 : decode cX10_reads 10 = .ok (.aload_n 0, 1) := by decide +kernel
theorem dX10_reads_11 : decode cX10_reads 11 = .ok (.getfield 16, 3) := by decide +kernel
theorem dX10_reads_14 : decode cX10_reads 14 = .ok (.iload_n 1, 1) := by decide +kernel
theorem dX10_reads_15 : decode cX10_reads 15 = .ok (.iaload, 1) := by decide +kernel
theorem dX10_reads_16 : decode cX10_reads 16 = .ok (.aload_n 0, 1) := by decide +kernel
theorem dX10_reads_17 : decode cX10_reads 17 = .ok (.iload_n 1, 1) := by decide +kernel
theorem dX10_reads_18 : decode cX10_reads 18 = .ok (.invokevirtual 123, 3) := by decide +kernel
theorem dX10_reads_21 : decode cX10_reads 21 = .ok (.iadd, 1) := by decide +kernel
theorem dX10_reads_22 : decode cX10_reads 22 = .ok (.istore_n 2, 1) := by decide +kernel
theorem dX10_reads_23 : decode cX10_reads 23 = .ok (.aload_n 0, 1) := by decide +kernel
theorem dX10_reads_24 : decode cX10_reads 24 = .ok (.iload_n 1, 1) := by decide +kernel
theorem dX10_reads_25 : decode cX10_reads 25 = .ok (.invokevirtual 120, 3) := by decide +kernel
theorem dX10_reads_28 : decode cX10_reads 28 = .ok (.istore_n 3, 1) := by decide +kernel
theorem dX10_reads_29 : decode cX10_reads 29 = .ok (.iload_n 2, 1) := by decide +kernel
theorem dX10_reads_30 : decode cX10_reads 30 = .ok (.aload_n 0, 1) := by decide +kernel
theorem dX10_reads_31 : decode cX10_reads 31 = .ok (.invokevirtual 64, 3) := by decide +kernel
theorem dX10_reads_34 : decode cX10_reads 34 = .ok (.if_icmp .le 10, 3) := by decide +kernel
theorem dX10_reads_37 : decode cX10_reads 37 = .ok (.aload_n 0, 1) := by decide +kernel
theorem dX10_reads_38 : decode cX10_reads 38 = .ok (.invokevirtual 64, 3) := by decide +kernel
theorem dX10_reads_41 : decode cX10_reads 41 = .ok (.goto 4, 3) := by decide +kernel
theorem dX10_reads_44 : decode cX10_reads 44 = .ok (.iload_n 2, 1) := by decide +kernel
theorem dX10_reads_45 : decode cX10_reads 45 = .ok (.istore_n 2, 1) := by decide +kernel
theorem dX10_reads_46 : decode cX10_reads 46 = .ok (.iload_n 3, 1) := by decide +kernel
theorem dX10_reads_47 : decode cX10_reads 47 = .ok (.bipush (-9), 2) := by decide +kernel
theorem dX10_reads_49 : decode cX10_reads 49 = .ok (.if_icmp .eq 34, 3) := by decide +kernel
theorem dX10_reads_52 : decode cX10_reads 52 = .ok (.iload_n 2, 1) := by decide +kernel
theorem dX10_reads_53 : decode cX10_reads 53 = .ok (.aload_n 0, 1) := by decide +kernel
theorem dX10_reads_54 : decode cX10_reads 54 = .ok (.getfield 16, 3) := by decide +kernel
theorem dX10_reads_57 : decode cX10_reads 57 = .ok (.iload_n 3, 1) := by decide +kernel
theorem dX10_reads_58 : decode cX10_reads 58 = .ok (.iaload, 1) := by decide +kernel
theorem dX10_reads_59 : decode cX10_reads 59 = .ok (.aload_n 0, 1) := by decide +kernel
theorem dX10_reads_60 : decode cX10_reads 60 = .ok (.iconst 2, 1) := by decide +kernel
theorem dX10_reads_61 : decode cX10_reads 61 = .ok (.invokevirtual 105, 3) := by decide +kernel
theorem dX10_reads_64 : decode cX10_reads 64 = .ok (.isub, 1) := by decide +kernel
theorem dX10_reads_65 : decode cX10_reads 65 = .ok (.if_icmp .le 18, 3) := by decide +kernel
theorem dX10_reads_68 : decode cX10_reads 68 = .ok (.aload_n 0, 1) := by decide +kernel
theorem dX10_reads_69 : decode cX10_reads 69 = .ok (.getfield 16, 3) := by decide +kernel
theorem dX10_reads_72 : decode cX10_reads 72 = .ok (.iload_n 3, 1) := by decide +kernel
theorem dX10_reads_73 : decode cX10_reads 73 = .ok (.iaload, 1) := by decide +kernel
theorem dX10_reads_74 : decode cX10_reads 74 = .ok (.aload_n 0, 1) := by decide +kernel
theorem dX10_reads_75 : decode cX10_reads 75 = .ok (.iconst 2, 1) := by decide +kernel
theorem dX10_reads_76 : decode cX10_reads 76 = .ok (.invokevirtual 105, 3) := by decide +kernel
theorem dX10_reads_79 : decode cX10_reads 79 = .ok (.isub, 1) := by decide +kernel
theorem dX10_reads_80 : decode cX10_reads 80 = .ok (.goto 4, 3) := by decide +kernel
theorem dX10_reads_83 : decode cX10_reads 83 = .ok (.iload_n 2, 1) := by decide +kernel
theorem dX10_reads_84 : decode cX10_reads 84 = .ok (.istore_n 2, 1) := by decide +kernel
theorem dX10_reads_85 : decode cX10_reads 85 = .ok (.aload_n 0, 1) := by decide +kernel
theorem dX10_reads_86 : decode cX10_reads 86 = .ok (.getfield 19, 3) := by decide +kernel
theorem dX10_reads_89 : decode cX10_reads 89 = .ok (.iload_n 1, 1) := by decide +kernel
theorem dX10_reads_90 : decode cX10_reads 90 = .ok (.iload_n 2, 1) := by decide +kernel
theorem dX10_reads_91 : decode cX10_reads 91 = .ok (.aload_n 0, 1) := by decide +kernel
theorem dX10_reads_92 : decode cX10_reads 92 = .ok (.getfield 19, 3) := by decide +kernel
theorem dX10_reads_95 : decode cX10_reads 95 = .ok (.iload_n 1, 1) := by decide +kernel
theorem dX10_reads_96 : decode cX10_reads 96 = .ok (.iaload, 1) := by decide +kernel
theorem dX10_reads_97 : decode cX10_reads 97 = .ok (.if_icmp .le 7, 3) := by decide +kernel
theorem dX10_reads_100 : decode cX10_reads 100 = .ok (.iload_n 2, 1) := by decide +kernel
theorem dX10_reads_101 : decode cX10_reads 101 = .ok (.goto 9, 3) := by decide +kernel
theorem dX10_reads_104 : decode cX10_reads 104 = .ok (.aload_n 0, 1) := by decide +kernel
theorem dX10_reads_105 : decode cX10_reads 105 = .ok (.getfield 19, 3) := by decide +kernel
theorem dX10_reads_108 : decode cX10_reads 108 = .ok (.iload_n 1, 1) := by decide +kernel
theorem dX10_reads_109 : decode cX10_reads 109 = .ok (.iaload, 1) := by decide +kernel
theorem dX10_reads_110 : decode cX10_reads 110 = .ok (.iastore, 1) := by decide +kernel
theorem dX10_reads_111 : decode cX10_reads 111 = .ok (.iinc 1 1, 3) := by decide +kernel
theorem dX10_reads_114 : decode cX10_reads 114 = .ok (.goto (-112), 3) := by decide +kernel
theorem dX10_reads_117 : decode cX10_reads 117 = .ok (.return_, 1) := by decide +kernel
theorem dX10_snaps_0 : decode cX10_snaps 0 = .ok (.aload_n 0, 1) := by decide +kernel
theorem dX10_snaps_1 : decode cX10_snaps 1 = .ok (.getfield 84, 3) := by decide +kernel
theorem dX10_snaps_4 : decode cX10_snaps 4 = .ok (.istore_n 1, 1) := by decide +kernel
theorem dX10_snaps_5 : decode cX10_snaps 5 = .ok (.iconst 0, 1) := by decide +kernel
theorem dX10_snaps_6 : decode cX10_snaps 6 = .ok (.istore_n 2, 1) := by decide +kernel
theorem dX10_snaps_7 : decode cX10_snaps 7 = .ok (.iload_n 2, 1) := by decide +kernel
theorem dX10_snaps_8 : decode cX10_snaps 8 = .ok (.iload_n 1, 1) := by decide +kernel
theorem dX10_snaps_9 : decode cX10_snaps 9 = .ok (.if_icmp .ge 95, 3) := by decide +kernel
theorem dX10_snaps_12 : decode cX10_snaps 12 = .ok (.aload_n 0, 1) := by decide +kernel
theorem dX10_snaps_13 : decode cX10_snaps 13 = .ok (.aload_n 0, 1) := by decide +kernel
theorem dX10_snaps_14 : decode cX10_snaps 14 = .ok (.getfield 16, 3) := by decide +kernel
theorem dX10_snaps_17 : decode cX10_snaps 17 = .ok (.iload_n 2, 1) := by decide +kernel
theorem dX10_snaps_18 : decode cX10_snaps 18 = .ok (.iaload, 1) := by decide +kernel
theorem dX10_snaps_19 : decode cX10_snaps 19 = .ok (.invokevirtual 117, 3) := by decide +kernel
theorem dX10_snaps_22 : decode cX10_snaps 22 = .ok (.istore_n 3, 1) := by decide +kernel
theorem dX10_snaps_23 : decode cX10_snaps 23 = .ok (.aload_n 0, 1) := by decide +kernel
theorem dX10_snaps_24 : decode cX10_snaps 24 = .ok (.getfield 16, 3) := by decide +kernel
theorem dX10_snaps_27 : decode cX10_snaps 27 = .ok (.iload_n 2, 1) := by decide +kernel
theorem dX10_snaps_28 : decode cX10_snaps 28 = .ok (.iload_n 3, 1) := by decide +kernel
theorem dX10_snaps_29 : decode cX10_snaps 29 = .ok (.bipush (-9), 2) := by decide +kernel
theorem dX10_snaps_31 : decode cX10_snaps 31 = .ok (.if_icmp .eq 17, 3) := by decide +kernel
theorem dX10_snaps_34 : decode cX10_snaps 34 = .ok (.iload_n 3, 1) := by decide +kernel
theorem dX10_snaps_35 : decode cX10_snaps 35 = .ok (.aload_n 0, 1) := by decide +kernel
theorem dX10_snaps_36 : decode cX10_snaps 36 = .ok (.getfield 19, 3) := by decide +kernel
theorem dX10_snaps_39 : decode cX10_snaps 39 = .ok (.iload_n 2, 1) := by decide +kernel
theorem dX10_snaps_40 : decode cX10_snaps 40 = .ok (.iaload, 1) := by decide +kernel
theorem dX10_snaps_41 : decode cX10_snaps 41 = .ok (.if_icmp .ge 7, 3) := by decide +kernel
theorem dX10_snaps_44 : decode cX10_snaps 44 = .ok (.iload_n 3, 1) := by decide +kernel
theorem dX10_snaps_45 : decode cX10_snaps 45 = .ok (.goto 9, 3) := by decide +kernel
theorem dX10_snaps_48 : decode cX10_snaps 48 = .ok (.aload_n 0, 1) := by decide +kernel
theorem dX10_snaps_49 : decode cX10_snaps 49 = .ok (.getfield 16, 3) := by decide +kernel
theorem dX10_snaps_52 : decode cX10_snaps 52 = .ok (.iload_n 2, 1) := by decide +kernel
theorem dX10_snaps_53 : decode cX10_snaps 53 = .ok (.iaload, 1) := by decide +kernel
theorem dX10_snaps_54 : decode cX10_snaps 54 = .ok (.iastore, 1) := by decide +kernel
theorem dX10_snaps_55 : decode cX10_snaps 55 = .ok (.aload_n 0, 1) := by decide +kernel
theorem dX10_snaps_56 : decode cX10_snaps 56 = .ok (.aload_n 0, 1) := by decide +kernel
theorem dX10_snaps_57 : decode cX10_snaps 57 = .ok (.getfield 19, 3) := by decide +kernel
theorem dX10_snaps_60 : decode cX10_snaps 60 = .ok (.iload_n 2, 1) := by decide +kernel
theorem dX10_snaps_61 : decode cX10_snaps 61 = .ok (.iaload, 1) := by decide +kernel
theorem dX10_snaps_62 : decode cX10_snaps 62 = .ok (.invokevirtual 117, 3) := by decide +kernel
theorem dX10_snaps_65 : decode cX10_snaps 65 = .ok (.istore_n 3, 1) := by decide +kernel
theorem dX10_snaps_66 : decode cX10_snaps 66 = .ok (.aload_n 0, 1) := by decide +kernel
theorem dX10_snaps_67 : decode cX10_snaps 67 = .ok (.getfield 19, 3) := by decide +kernel
theorem dX10_snaps_70 : decode cX10_snaps 70 = .ok (.iload_n 2, 1) := by decide +kernel
theorem dX10_snaps_71 : decode cX10_snaps 71 = .ok (.iload_n 3, 1) := by decide +kernel
theorem dX10_snaps_72 : decode cX10_snaps 72 = .ok (.bipush (-9), 2) := by decide +kernel
theorem dX10_snaps_74 : decode cX10_snaps 74 = .ok (.if_icmp .eq 17, 3) := by decide +kernel
theorem dX10_snaps_77 : decode cX10_snaps 77 = .ok (.iload_n 3, 1) := by decide +kernel
theorem dX10_snaps_78 : decode cX10_snaps 78 = .ok (.aload_n 0, 1) := by decide +kernel
theorem dX10_snaps_79 : decode cX10_snaps 79 = .ok (.getfield 16, 3) := by decide +kernel
theorem dX10_snaps_82 : decode cX10_snaps 82 = .ok (.iload_n 2, 1) := by decide +kernel
theorem dX10_snaps_83 : decode cX10_snaps 83 = .ok (.iaload, 1) := by decide +kernel
theorem dX10_snaps_84 : decode cX10_snaps 84 = .ok (.if_icmp .le 7, 3) := by decide +kernel
theorem dX10_snaps_87 : decode cX10_snaps 87 = .ok (.iload_n 3, 1) := by decide +kernel
theorem dX10_snaps_88 : decode cX10_snaps 88 = .ok (.goto 9, 3) := by decide +kernel
theorem dX10_snaps_91 : decode cX10_snaps 91 = .ok (.aload_n 0, 1) := by decide +kernel
theorem dX10_snaps_92 : decode cX10_snaps 92 = .ok (.getfield 19, 3) := by decide +kernel
theorem dX10_snaps_95 : decode cX10_snaps 95 = .ok (.iload_n 2, 1) := by decide +kernel
theorem dX10_snaps_96 : decode cX10_snaps 96 = .ok (.iaload, 1) := by decide +kernel
theorem dX10_snaps_97 : decode cX10_snaps 97 = .ok (.iastore, 1) := by decide +kernel
theorem dX10_snaps_98 : decode cX10_snaps 98 = .ok (.iinc 2 1, 3) := by decide +kernel
theorem dX10_snaps_101 : decode cX10_snaps 101 = .ok (.goto (-94), 3) := by decide +kernel
theorem dX10_snaps_104 : decode cX10_snaps 104 = .ok (.aload_n 0, 1) := by decide +kernel
theorem dX10_snaps_105 : decode cX10_snaps 105 = .ok (.invokevirtual 139, 3) := by decide +kernel
theorem dX10_snaps_108 : decode cX10_snaps 108 = .ok (.iconst 0, 1) := by decide +kernel
theorem dX10_snaps_109 : decode cX10_snaps 109 = .ok (.istore_n 2, 1) := by decide +kernel
theorem dX10_snaps_110 : decode cX10_snaps 110 = .ok (.iload_n 2, 1) := by decide +kernel
theorem dX10_snaps_111 : decode cX10_snaps 111 = .ok (.iload_n 1, 1) := by decide +kernel
theorem dX10_snaps_112 : decode cX10_snaps 112 = .ok (.if_icmp .ge 26, 3) := by decide +kernel
theorem dX10_snaps_115 : decode cX10_snaps 115 = .ok (.aload_n 0, 1) := by decide +kernel
theorem dX10_snaps_116 : decode cX10_snaps 116 = .ok (.aload_n 0, 1) := by decide +kernel
theorem dX10_snaps_117 : decode cX10_snaps 117 = .ok (.getfield 31, 3) := by decide +kernel
theorem dX10_snaps_120 : decode cX10_snaps 120 = .ok (.iload_n 2, 1) := by decide +kernel
theorem dX10_snaps_121 : decode cX10_snaps 121 = .ok (.iaload, 1) := by decide +kernel
theorem dX10_snaps_122 : decode cX10_snaps 122 = .ok (.aload_n 0, 1) := by decide +kernel
theorem dX10_snaps_123 : decode cX10_snaps 123 = .ok (.getfield 34, 3) := by decide +kernel
theorem dX10_snaps_126 : decode cX10_snaps 126 = .ok (.iload_n 2, 1) := by decide +kernel
theorem dX10_snaps_127 : decode cX10_snaps 127 = .ok (.iaload, 1) := by decide +kernel
theorem dX10_snaps_128 : decode cX10_snaps 128 = .ok (.iload_n 2, 1) := by decide +kernel
theorem dX10_snaps_129 : decode cX10_snaps 129 = .ok (.invokevirtual 135, 3) := by decide +kernel
theorem dX10_snaps_132 : decode cX10_snaps 132 = .ok (.iinc 2 1, 3) := by decide +kernel
theorem dX10_snaps_135 : decode cX10_snaps 135 = .ok (.goto (-25), 3) := by decide +kernel
theorem dX10_snaps_138 : decode cX10_snaps 138 = .ok (.return_, 1) := by decide +kernel
theorem dX10_separates_0 : decode cX10_separates 0 = .ok (.iconst 0, 1) := by decide +kernel
theorem dX10_separates_1 : decode cX10_separates 1 = .ok (.istore_n 1, 1) := by decide +kernel
theorem dX10_separates_2 : decode cX10_separates 2 = .ok (.iload_n 1, 1) := by decide +kernel
theorem dX10_separates_3 : decode cX10_separates 3 = .ok (.aload_n 0, 1) := by decide +kernel
theorem dX10_separates_4 : decode cX10_separates 4 = .ok (.getfield 84, 3) := by decide +kernel
theorem dX10_separates_7 : decode cX10_separates 7 = .ok (.if_icmp .ge 81, 3) := by decide +kernel
theorem dX10_separates_10 : decode cX10_separates 10 = .ok (.aload_n 0, 1) := by decide +kernel
theorem dX10_separates_11 : decode cX10_separates 11 = .ok (.iload_n 1, 1) := by decide +kernel
theorem dX10_separates_12 : decode cX10_separates 12 = .ok (.invokevirtual 120, 3) := by decide +kernel
theorem dX10_separates_15 : decode cX10_separates 15 = .ok (.istore_n 2, 1) := by decide +kernel
theorem dX10_separates_16 : decode cX10_separates 16 = .ok (.iload_n 2, 1) := by decide +kernel
theorem dX10_separates_17 : decode cX10_separates 17 = .ok (.bipush (-9), 2) := by decide +kernel
theorem dX10_separates_19 : decode cX10_separates 19 = .ok (.if_icmp .ne 12, 3) := by decide +kernel
theorem dX10_separates_22 : decode cX10_separates 22 = .ok (.aload_n 0, 1) := by decide +kernel
theorem dX10_separates_23 : decode cX10_separates 23 = .ok (.getfield 19, 3) := by decide +kernel
theorem dX10_separates_26 : decode cX10_separates 26 = .ok (.iload_n 1, 1) := by decide +kernel
theorem dX10_separates_27 : decode cX10_separates 27 = .ok (.iaload, 1) := by decide +kernel
theorem dX10_separates_28 : decode cX10_separates 28 = .ok (.goto 15, 3) := by decide +kernel
theorem dX10_separates_31 : decode cX10_separates 31 = .ok (.aload_n 0, 1) := by decide +kernel
theorem dX10_separates_32 : decode cX10_separates 32 = .ok (.getfield 16, 3) := by decide +kernel
theorem dX10_separates_35 : decode cX10_separates 35 = .ok (.iload_n 2, 1) := by decide +kernel
theorem dX10_separates_36 : decode cX10_separates 36 = .ok (.iaload, 1) := by decide +kernel
theorem dX10_separates_37 : decode cX10_separates 37 = .ok (.aload_n 0, 1) := by decide +kernel
theorem dX10_separates_38 : decode cX10_separates 38 = .ok (.iconst 2, 1) := by decide +kernel
theorem dX10_separates_39 : decode cX10_separates 39 = .ok (.invokevirtual 105, 3) := by decide +kernel
theorem dX10_separates_42 : decode cX10_separates 42 = .ok (.isub, 1) := by decide +kernel
theorem dX10_separates_43 : decode cX10_separates 43 = .ok (.istore_n 3, 1) := by decide +kernel
theorem dX10_separates_44 : decode cX10_separates 44 = .ok (.iload_n 3, 1) := by decide +kernel
theorem dX10_separates_45 : decode cX10_separates 45 = .ok (.aload_n 0, 1) := by decide +kernel
theorem dX10_separates_46 : decode cX10_separates 46 = .ok (.getfield 19, 3) := by decide +kernel
theorem dX10_separates_49 : decode cX10_separates 49 = .ok (.iload_n 1, 1) := by decide +kernel
theorem dX10_separates_50 : decode cX10_separates 50 = .ok (.iaload, 1) := by decide +kernel
theorem dX10_separates_51 : decode cX10_separates 51 = .ok (.if_icmp .ge 31, 3) := by decide +kernel
theorem dX10_separates_54 : decode cX10_separates 54 = .ok (.aload_n 0, 1) := by decide +kernel
theorem dX10_separates_55 : decode cX10_separates 55 = .ok (.getfield 19, 3) := by decide +kernel
theorem dX10_separates_58 : decode cX10_separates 58 = .ok (.iload_n 1, 1) := by decide +kernel
theorem dX10_separates_59 : decode cX10_separates 59 = .ok (.iload_n 3, 1) := by decide +kernel
theorem dX10_separates_60 : decode cX10_separates 60 = .ok (.aload_n 0, 1) := by decide +kernel
theorem dX10_separates_61 : decode cX10_separates 61 = .ok (.getfield 16, 3) := by decide +kernel
theorem dX10_separates_64 : decode cX10_separates 64 = .ok (.iload_n 1, 1) := by decide +kernel
theorem dX10_separates_65 : decode cX10_separates 65 = .ok (.iaload, 1) := by decide +kernel
theorem dX10_separates_66 : decode cX10_separates 66 = .ok (.if_icmp .le 7, 3) := by decide +kernel
theorem dX10_separates_69 : decode cX10_separates 69 = .ok (.iload_n 3, 1) := by decide +kernel
theorem dX10_separates_70 : decode cX10_separates 70 = .ok (.goto 11, 3) := by decide +kernel
theorem dX10_separates_73 : decode cX10_separates 73 = .ok (.aload_n 0, 1) := by decide +kernel
theorem dX10_separates_74 : decode cX10_separates 74 = .ok (.getfield 16, 3) := by decide +kernel
theorem dX10_separates_77 : decode cX10_separates 77 = .ok (.iload_n 1, 1) := by decide +kernel
theorem dX10_separates_78 : decode cX10_separates 78 = .ok (.iaload, 1) := by decide +kernel
theorem dX10_separates_79 : decode cX10_separates 79 = .ok (.iconst 1, 1) := by decide +kernel
theorem dX10_separates_80 : decode cX10_separates 80 = .ok (.iadd, 1) := by decide +kernel
theorem dX10_separates_81 : decode cX10_separates 81 = .ok (.iastore, 1) := by decide +kernel
theorem dX10_separates_82 : decode cX10_separates 82 = .ok (.iinc 1 1, 3) := by decide +kernel
theorem dX10_separates_85 : decode cX10_separates 85 = .ok (.goto (-83), 3) := by decide +kernel
theorem dX10_separates_88 : decode cX10_separates 88 = .ok (.return_, 1) := by decide +kernel
theorem dX10_conforms_0 : decode cX10_conforms 0 = .ok (.aload_n 0, 1) := by decide +kernel
theorem dX10_conforms_1 : decode cX10_conforms 1 = .ok (.iconst 0, 1) := by decide +kernel
theorem dX10_conforms_2 : decode cX10_conforms 2 = .ok (.putfield 142, 3) := by decide +kernel
theorem dX10_conforms_5 : decode cX10_conforms 5 = .ok (.aload_n 0, 1) := by decide +kernel
theorem dX10_conforms_6 : decode cX10_conforms 6 = .ok (.invokevirtual 155, 3) := by decide +kernel
theorem dX10_conforms_9 : decode cX10_conforms 9 = .ok (.iload_n 1, 1) := by decide +kernel
theorem dX10_conforms_10 : decode cX10_conforms 10 = .ok (.iconst 1, 1) := by decide +kernel
theorem dX10_conforms_11 : decode cX10_conforms 11 = .ok (.iand, 1) := by decide +kernel
theorem dX10_conforms_12 : decode cX10_conforms 12 = .ok (.ifCond .le 12, 3) := by decide +kernel
theorem dX10_conforms_15 : decode cX10_conforms 15 = .ok (.aload_n 0, 1) := by decide +kernel
theorem dX10_conforms_16 : decode cX10_conforms 16 = .ok (.invokevirtual 158, 3) := by decide +kernel
theorem dX10_conforms_19 : decode cX10_conforms 19 = .ok (.ifCond .ne 5, 3) := by decide +kernel
theorem dX10_conforms_22 : decode cX10_conforms 22 = .ok (.iconst 0, 1) := by decide +kernel
theorem dX10_conforms_23 : decode cX10_conforms 23 = .ok (.ireturn, 1) := by decide +kernel
theorem dX10_conforms_24 : decode cX10_conforms 24 = .ok (.iload_n 1, 1) := by decide +kernel
theorem dX10_conforms_25 : decode cX10_conforms 25 = .ok (.iconst 2, 1) := by decide +kernel
theorem dX10_conforms_26 : decode cX10_conforms 26 = .ok (.iand, 1) := by decide +kernel
theorem dX10_conforms_27 : decode cX10_conforms 27 = .ok (.ifCond .le 7, 3) := by decide +kernel
theorem dX10_conforms_30 : decode cX10_conforms 30 = .ok (.aload_n 0, 1) := by decide +kernel
theorem dX10_conforms_31 : decode cX10_conforms 31 = .ok (.invokevirtual 162, 3) := by decide +kernel
theorem dX10_conforms_34 : decode cX10_conforms 34 = .ok (.iload_n 1, 1) := by decide +kernel
theorem dX10_conforms_35 : decode cX10_conforms 35 = .ok (.iconst 4, 1) := by decide +kernel
theorem dX10_conforms_36 : decode cX10_conforms 36 = .ok (.iand, 1) := by decide +kernel
theorem dX10_conforms_37 : decode cX10_conforms 37 = .ok (.ifCond .le 7, 3) := by decide +kernel
theorem dX10_conforms_40 : decode cX10_conforms 40 = .ok (.aload_n 0, 1) := by decide +kernel
theorem dX10_conforms_41 : decode cX10_conforms 41 = .ok (.invokevirtual 165, 3) := by decide +kernel
theorem dX10_conforms_44 : decode cX10_conforms 44 = .ok (.iload_n 1, 1) := by decide +kernel
theorem dX10_conforms_45 : decode cX10_conforms 45 = .ok (.bipush 8, 2) := by decide +kernel
theorem dX10_conforms_47 : decode cX10_conforms 47 = .ok (.iand, 1) := by decide +kernel
theorem dX10_conforms_48 : decode cX10_conforms 48 = .ok (.ifCond .le 7, 3) := by decide +kernel
theorem dX10_conforms_51 : decode cX10_conforms 51 = .ok (.aload_n 0, 1) := by decide +kernel
theorem dX10_conforms_52 : decode cX10_conforms 52 = .ok (.invokevirtual 168, 3) := by decide +kernel
theorem dX10_conforms_55 : decode cX10_conforms 55 = .ok (.iload_n 1, 1) := by decide +kernel
theorem dX10_conforms_56 : decode cX10_conforms 56 = .ok (.bipush 16, 2) := by decide +kernel
theorem dX10_conforms_58 : decode cX10_conforms 58 = .ok (.iand, 1) := by decide +kernel
theorem dX10_conforms_59 : decode cX10_conforms 59 = .ok (.ifCond .le 7, 3) := by decide +kernel
theorem dX10_conforms_62 : decode cX10_conforms 62 = .ok (.aload_n 0, 1) := by decide +kernel
theorem dX10_conforms_63 : decode cX10_conforms 63 = .ok (.invokevirtual 171, 3) := by decide +kernel
theorem dX10_conforms_66 : decode cX10_conforms 66 = .ok (.iconst 1, 1) := by decide +kernel
theorem dX10_conforms_67 : decode cX10_conforms 67 = .ok (.ireturn, 1) := by decide +kernel
theorem dX10_type_0 : decode cX10_type 0 = .ok (.iload_n 1, 1) := by decide +kernel
theorem dX10_type_1 : decode cX10_type 1 = .ok (.bipush 32, 2) := by decide +kernel
theorem dX10_type_3 : decode cX10_type 3 = .ok (.bipush 126, 2) := by decide +kernel
theorem dX10_type_5 : decode cX10_type 5 = .ok (.invokestatic 60, 3) := by decide +kernel
theorem dX10_type_8 : decode cX10_type 8 = .ok (.ifCond .ne 5, 3) := by decide +kernel
theorem dX10_type_11 : decode cX10_type 11 = .ok (.iconst (-1), 1) := by decide +kernel
theorem dX10_type_12 : decode cX10_type 12 = .ok (.ireturn, 1) := by decide +kernel
theorem dX10_type_13 : decode cX10_type 13 = .ok (.aload_n 0, 1) := by decide +kernel
theorem dX10_type_14 : decode cX10_type 14 = .ok (.getfield 174, 3) := by decide +kernel
theorem dX10_type_17 : decode cX10_type 17 = .ok (.bipush 40, 2) := by decide +kernel
theorem dX10_type_19 : decode cX10_type 19 = .ok (.if_icmp .ne 6, 3) := by decide +kernel
theorem dX10_type_22 : decode cX10_type 22 = .ok (.bipush (-3), 2) := by decide +kernel
theorem dX10_type_24 : decode cX10_type 24 = .ok (.ireturn, 1) := by decide +kernel
theorem dX10_type_25 : decode cX10_type 25 = .ok (.aload_n 0, 1) := by decide +kernel
theorem dX10_type_26 : decode cX10_type 26 = .ok (.getfield 13, 3) := by decide +kernel
theorem dX10_type_29 : decode cX10_type 29 = .ok (.aload_n 0, 1) := by decide +kernel
theorem dX10_type_30 : decode cX10_type 30 = .ok (.getfield 174, 3) := by decide +kernel
theorem dX10_type_33 : decode cX10_type 33 = .ok (.iload_n 1, 1) := by decide +kernel
theorem dX10_type_34 : decode cX10_type 34 = .ok (.iastore, 1) := by decide +kernel
theorem dX10_type_35 : decode cX10_type 35 = .ok (.aload_n 0, 1) := by decide +kernel
theorem dX10_type_36 : decode cX10_type 36 = .ok (.dup, 1) := by decide +kernel
theorem dX10_type_37 : decode cX10_type 37 = .ok (.getfield 174, 3) := by decide +kernel
theorem dX10_type_40 : decode cX10_type 40 = .ok (.iconst 1, 1) := by decide +kernel
theorem dX10_type_41 : decode cX10_type 41 = .ok (.iadd, 1) := by decide +kernel
theorem dX10_type_42 : decode cX10_type 42 = .ok (.putfield 174, 3) := by decide +kernel
theorem dX10_type_45 : decode cX10_type 45 = .ok (.aload_n 0, 1) := by decide +kernel
theorem dX10_type_46 : decode cX10_type 46 = .ok (.getfield 174, 3) := by decide +kernel
theorem dX10_type_49 : decode cX10_type 49 = .ok (.ireturn, 1) := by decide +kernel
theorem dX10_clear_0 : decode cX10_clear 0 = .ok (.aload_n 0, 1) := by decide +kernel
theorem dX10_clear_1 : decode cX10_clear 1 = .ok (.getfield 174, 3) := by decide +kernel
theorem dX10_clear_4 : decode cX10_clear 4 = .ok (.istore_n 1, 1) := by decide +kernel
theorem dX10_clear_5 : decode cX10_clear 5 = .ok (.aload_n 0, 1) := by decide +kernel
theorem dX10_clear_6 : decode cX10_clear 6 = .ok (.iconst 0, 1) := by decide +kernel
theorem dX10_clear_7 : decode cX10_clear 7 = .ok (.putfield 174, 3) := by decide +kernel
theorem dX10_clear_10 : decode cX10_clear 10 = .ok (.iload_n 1, 1) := by decide +kernel
theorem dX10_clear_11 : decode cX10_clear 11 = .ok (.ireturn, 1) := by decide +kernel
theorem dX10_wrongBlank_0 : decode cX10_wrongBlank 0 = .ok (.iconst 0, 1) := by decide +kernel
theorem dX10_wrongBlank_1 : decode cX10_wrongBlank 1 = .ok (.istore_n 1, 1) := by decide +kernel
theorem dX10_wrongBlank_2 : decode cX10_wrongBlank 2 = .ok (.iload_n 1, 1) := by decide +kernel
theorem dX10_wrongBlank_3 : decode cX10_wrongBlank 3 = .ok (.aload_n 0, 1) := by decide +kernel
theorem dX10_wrongBlank_4 : decode cX10_wrongBlank 4 = .ok (.getfield 174, 3) := by decide +kernel
theorem dX10_wrongBlank_7 : decode cX10_wrongBlank 7 = .ok (.if_icmp .ge 49, 3) := by decide +kernel
theorem dX10_wrongBlank_10 : decode cX10_wrongBlank 10 = .ok (.aload_n 0, 1) := by decide +kernel
theorem dX10_wrongBlank_11 : decode cX10_wrongBlank 11 = .ok (.getfield 13, 3) := by decide +kernel
theorem dX10_wrongBlank_14 : decode cX10_wrongBlank 14 = .ok (.iload_n 1, 1) := by decide +kernel
theorem dX10_wrongBlank_15 : decode cX10_wrongBlank 15 = .ok (.iaload, 1) := by decide +kernel
theorem dX10_wrongBlank_16 : decode cX10_wrongBlank 16 = .ok (.bipush 32, 2) := by decide +kernel
theorem dX10_wrongBlank_18 : decode cX10_wrongBlank 18 = .ok (.if_icmp .ne 32, 3) := by decide +kernel
theorem dX10_wrongBlank_21 : decode cX10_wrongBlank 21 = .ok (.iload_n 1, 1) := by decide +kernel
theorem dX10_wrongBlank_22 : decode cX10_wrongBlank 22 = .ok (.ifCond .eq 26, 3) := by decide +kernel
theorem dX10_wrongBlank_25 : decode cX10_wrongBlank 25 = .ok (.iload_n 1, 1) := by decide +kernel
theorem dX10_wrongBlank_26 : decode cX10_wrongBlank 26 = .ok (.aload_n 0, 1) := by decide +kernel
theorem dX10_wrongBlank_27 : decode cX10_wrongBlank 27 = .ok (.getfield 174, 3) := by decide +kernel
theorem dX10_wrongBlank_30 : decode cX10_wrongBlank 30 = .ok (.iconst 1, 1) := by decide +kernel
theorem dX10_wrongBlank_31 : decode cX10_wrongBlank 31 = .ok (.isub, 1) := by decide +kernel
theorem dX10_wrongBlank_32 : decode cX10_wrongBlank 32 = .ok (.if_icmp .eq 16, 3) := by decide +kernel
theorem dX10_wrongBlank_35 : decode cX10_wrongBlank 35 = .ok (.aload_n 0, 1) := by decide +kernel
theorem dX10_wrongBlank_36 : decode cX10_wrongBlank 36 = .ok (.getfield 13, 3) := by decide +kernel
theorem dX10_wrongBlank_39 : decode cX10_wrongBlank 39 = .ok (.iload_n 1, 1) := by decide +kernel
theorem dX10_wrongBlank_40 : decode cX10_wrongBlank 40 = .ok (.iconst 1, 1) := by decide +kernel
theorem dX10_wrongBlank_41 : decode cX10_wrongBlank 41 = .ok (.isub, 1) := by decide +kernel
theorem dX10_wrongBlank_42 : decode cX10_wrongBlank 42 = .ok (.iaload, 1) := by decide +kernel
theorem dX10_wrongBlank_43 : decode cX10_wrongBlank 43 = .ok (.bipush 32, 2) := by decide +kernel
theorem dX10_wrongBlank_45 : decode cX10_wrongBlank 45 = .ok (.if_icmp .ne 5, 3) := by decide +kernel
theorem dX10_wrongBlank_48 : decode cX10_wrongBlank 48 = .ok (.iload_n 1, 1) := by decide +kernel
theorem dX10_wrongBlank_49 : decode cX10_wrongBlank 49 = .ok (.ireturn, 1) := by decide +kernel
theorem dX10_wrongBlank_50 : decode cX10_wrongBlank 50 = .ok (.iinc 1 1, 3) := by decide +kernel
theorem dX10_wrongBlank_53 : decode cX10_wrongBlank 53 = .ok (.goto (-51), 3) := by decide +kernel
theorem dX10_wrongBlank_56 : decode cX10_wrongBlank 56 = .ok (.bipush (-9), 2) := by decide +kernel
theorem dX10_wrongBlank_58 : decode cX10_wrongBlank 58 = .ok (.ireturn, 1) := by decide +kernel
theorem dX10_areTimes_0 : decode cX10_areTimes 0 = .ok (.iload_n 0, 1) := by decide +kernel
theorem dX10_areTimes_1 : decode cX10_areTimes 1 = .ok (.ifCond .lt 19, 3) := by decide +kernel
theorem dX10_areTimes_4 : decode cX10_areTimes 4 = .ok (.iload_n 0, 1) := by decide +kernel
theorem dX10_areTimes_5 : decode cX10_areTimes 5 = .ok (.iload_n 1, 1) := by decide +kernel
theorem dX10_areTimes_6 : decode cX10_areTimes 6 = .ok (.if_icmp .ge 14, 3) := by decide +kernel
theorem dX10_areTimes_9 : decode cX10_areTimes 9 = .ok (.iload_n 1, 1) := by decide +kernel
theorem dX10_areTimes_10 : decode cX10_areTimes 10 = .ok (.sipush 9999, 3) := by decide +kernel
theorem dX10_areTimes_13 : decode cX10_areTimes 13 = .ok (.if_icmp .gt 7, 3) := by decide +kernel
theorem dX10_areTimes_16 : decode cX10_areTimes 16 = .ok (.iconst 1, 1) := by decide +kernel
theorem dX10_areTimes_17 : decode cX10_areTimes 17 = .ok (.goto 4, 3) := by decide +kernel
theorem dX10_areTimes_20 : decode cX10_areTimes 20 = .ok (.iconst 0, 1) := by decide +kernel
theorem dX10_areTimes_21 : decode cX10_areTimes 21 = .ok (.ireturn, 1) := by decide +kernel
theorem dX10_add_0 : decode cX10_add 0 = .ok (.iload_n 1, 1) := by decide +kernel
theorem dX10_add_1 : decode cX10_add 1 = .ok (.iload_n 2, 1) := by decide +kernel
theorem dX10_add_2 : decode cX10_add 2 = .ok (.invokestatic 177, 3) := by decide +kernel
theorem dX10_add_5 : decode cX10_add 5 = .ok (.ifCond .eq 12, 3) := by decide +kernel
theorem dX10_add_8 : decode cX10_add 8 = .ok (.iload_n 3, 1) := by decide +kernel
theorem dX10_add_9 : decode cX10_add 9 = .ok (.iconst 0, 1) := by decide +kernel
theorem dX10_add_10 : decode cX10_add 10 = .ok (.iconst 3, 1) := by decide +kernel
theorem dX10_add_11 : decode cX10_add 11 = .ok (.invokestatic 60, 3) := by decide +kernel
theorem dX10_add_14 : decode cX10_add 14 = .ok (.ifCond .ne 5, 3) := by decide +kernel
theorem dX10_add_17 : decode cX10_add 17 = .ok (.iconst (-1), 1) := by decide +kernel
theorem dX10_add_18 : decode cX10_add 18 = .ok (.ireturn, 1) := by decide +kernel
theorem dX10_add_19 : decode cX10_add 19 = .ok (.aload_n 0, 1) := by decide +kernel
theorem dX10_add_20 : decode cX10_add 20 = .ok (.getfield 7, 3) := by decide +kernel
theorem dX10_add_23 : decode cX10_add 23 = .ok (.bipush 42, 2) := by decide +kernel
theorem dX10_add_25 : decode cX10_add 25 = .ok (.iaload, 1) := by decide +kernel
theorem dX10_add_26 : decode cX10_add 26 = .ok (.bipush 16, 2) := by decide +kernel
theorem dX10_add_28 : decode cX10_add 28 = .ok (.if_icmp .ne 6, 3) := by decide +kernel
theorem dX10_add_31 : decode cX10_add 31 = .ok (.bipush (-3), 2) := by decide +kernel
theorem dX10_add_33 : decode cX10_add 33 = .ok (.ireturn, 1) := by decide +kernel
theorem dX10_add_34 : decode cX10_add 34 = .ok (.aload_n 0, 1) := by decide +kernel
theorem dX10_add_35 : decode cX10_add 35 = .ok (.getfield 174, 3) := by decide +kernel
theorem dX10_add_38 : decode cX10_add 38 = .ok (.ifCond .eq 12, 3) := by decide +kernel
theorem dX10_add_41 : decode cX10_add 41 = .ok (.aload_n 0, 1) := by decide +kernel
theorem dX10_add_42 : decode cX10_add 42 = .ok (.invokevirtual 181, 3) := by decide +kernel
theorem dX10_add_45 : decode cX10_add 45 = .ok (.bipush (-9), 2) := by decide +kernel
theorem dX10_add_47 : decode cX10_add 47 = .ok (.if_icmp .eq 23, 3) := by decide +kernel
theorem dX10_add_50 : decode cX10_add 50 = .ok (.aload_n 0, 1) := by decide +kernel
theorem dX10_add_51 : decode cX10_add 51 = .ok (.getfield 174, 3) := by decide +kernel
theorem dX10_add_54 : decode cX10_add 54 = .ok (.ifCond .ne 8, 3) := by decide +kernel
theorem dX10_add_57 : decode cX10_add 57 = .ok (.bipush (-10), 2) := by decide +kernel
theorem dX10_add_59 : decode cX10_add 59 = .ok (.goto 10, 3) := by decide +kernel
theorem dX10_add_62 : decode cX10_add 62 = .ok (.bipush (-10), 2) := by decide +kernel
theorem dX10_add_64 : decode cX10_add 64 = .ok (.aload_n 0, 1) := by decide +kernel
theorem dX10_add_65 : decode cX10_add 65 = .ok (.invokevirtual 181, 3) := by decide +kernel
theorem dX10_add_68 : decode cX10_add 68 = .ok (.isub, 1) := by decide +kernel
theorem dX10_add_69 : decode cX10_add 69 = .ok (.ireturn, 1) := by decide +kernel
theorem dX10_add_70 : decode cX10_add 70 = .ok (.aload_n 0, 1) := by decide +kernel
theorem dX10_add_71 : decode cX10_add 71 = .ok (.invokevirtual 68, 3) := by decide +kernel
theorem dX10_add_74 : decode cX10_add 74 = .ok (.aload_n 0, 1) := by decide +kernel
theorem dX10_add_75 : decode cX10_add 75 = .ok (.invokevirtual 155, 3) := by decide +kernel
theorem dX10_add_78 : decode cX10_add 78 = .ok (.aload_n 0, 1) := by decide +kernel
theorem dX10_add_79 : decode cX10_add 79 = .ok (.getfield 84, 3) := by decide +kernel
theorem dX10_add_82 : decode cX10_add 82 = .ok (.istore 4, 2) := by decide +kernel
theorem dX10_add_84 : decode cX10_add 84 = .ok (.aload_n 0, 1) := by decide +kernel
theorem dX10_add_85 : decode cX10_add 85 = .ok (.getfield 7, 3) := by decide +kernel
theorem dX10_add_88 : decode cX10_add 88 = .ok (.aload_n 0, 1) := by decide +kernel
theorem dX10_add_89 : decode cX10_add 89 = .ok (.iconst 2, 1) := by decide +kernel
theorem dX10_add_90 : decode cX10_add 90 = .ok (.iload 4, 2) := by decide +kernel
theorem dX10_add_92 : decode cX10_add 92 = .ok (.imul, 1) := by decide +kernel
theorem dX10_add_93 : decode cX10_add 93 = .ok (.invokevirtual 91, 3) := by decide +kernel
theorem dX10_add_96 : decode cX10_add 96 = .ok (.iload_n 3, 1) := by decide +kernel
theorem dX10_add_97 : decode cX10_add 97 = .ok (.iastore, 1) := by decide +kernel
theorem dX10_add_98 : decode cX10_add 98 = .ok (.aload_n 0, 1) := by decide +kernel
theorem dX10_add_99 : decode cX10_add 99 = .ok (.getfield 7, 3) := by decide +kernel
theorem dX10_add_102 : decode cX10_add 102 = .ok (.aload_n 0, 1) := by decide +kernel
theorem dX10_add_103 : decode cX10_add 103 = .ok (.iconst 2, 1) := by decide +kernel
theorem dX10_add_104 : decode cX10_add 104 = .ok (.iload 4, 2) := by decide +kernel
theorem dX10_add_106 : decode cX10_add 106 = .ok (.imul, 1) := by decide +kernel
theorem dX10_add_107 : decode cX10_add 107 = .ok (.invokevirtual 91, 3) := by decide +kernel
theorem dX10_add_110 : decode cX10_add 110 = .ok (.iconst 1, 1) := by decide +kernel
theorem dX10_add_111 : decode cX10_add 111 = .ok (.iadd, 1) := by decide +kernel
theorem dX10_add_112 : decode cX10_add 112 = .ok (.aload_n 0, 1) := by decide +kernel
theorem dX10_add_113 : decode cX10_add 113 = .ok (.getfield 174, 3) := by decide +kernel
theorem dX10_add_116 : decode cX10_add 116 = .ok (.iastore, 1) := by decide +kernel
theorem dX10_add_117 : decode cX10_add 117 = .ok (.iconst 0, 1) := by decide +kernel
theorem dX10_add_118 : decode cX10_add 118 = .ok (.istore 5, 2) := by decide +kernel
theorem dX10_add_120 : decode cX10_add 120 = .ok (.iload 5, 2) := by decide +kernel
theorem dX10_add_122 : decode cX10_add 122 = .ok (.aload_n 0, 1) := by decide +kernel
theorem dX10_add_123 : decode cX10_add 123 = .ok (.getfield 174, 3) := by decide +kernel
theorem dX10_add_126 : decode cX10_add 126 = .ok (.if_icmp .ge 34, 3) := by decide +kernel
theorem dX10_add_129 : decode cX10_add 129 = .ok (.aload_n 0, 1) := by decide +kernel
theorem dX10_add_130 : decode cX10_add 130 = .ok (.getfield 7, 3) := by decide +kernel
theorem dX10_add_133 : decode cX10_add 133 = .ok (.aload_n 0, 1) := by decide +kernel
theorem dX10_add_134 : decode cX10_add 134 = .ok (.iconst 2, 1) := by decide +kernel
theorem dX10_add_135 : decode cX10_add 135 = .ok (.iload 4, 2) := by decide +kernel
theorem dX10_add_137 : decode cX10_add 137 = .ok (.imul, 1) := by decide +kernel
theorem dX10_add_138 : decode cX10_add 138 = .ok (.invokevirtual 91, 3) := by decide +kernel
theorem dX10_add_141 : decode cX10_add 141 = .ok (.iconst 2, 1) := by decide +kernel
theorem dX10_add_142 : decode cX10_add 142 = .ok (.iadd, 1) := by decide +kernel
theorem dX10_add_143 : decode cX10_add 143 = .ok (.iload 5, 2) := by decide +kernel
theorem dX10_add_145 : decode cX10_add 145 = .ok (.iadd, 1) := by decide +kernel
theorem dX10_add_146 : decode cX10_add 146 = .ok (.aload_n 0, 1) := by decide +kernel
theorem dX10_add_147 : decode cX10_add 147 = .ok (.getfield 13, 3) := by decide +kernel
theorem dX10_add_150 : decode cX10_add 150 = .ok (.iload 5, 2) := by decide +kernel
theorem dX10_add_152 : decode cX10_add 152 = .ok (.iaload, 1) := by decide +kernel
theorem dX10_add_153 : decode cX10_add 153 = .ok (.iastore, 1) := by decide +kernel
theorem dX10_add_154 : decode cX10_add 154 = .ok (.iinc 5 1, 3) := by decide +kernel
theorem dX10_add_157 : decode cX10_add 157 = .ok (.goto (-37), 3) := by decide +kernel
theorem dX10_add_160 : decode cX10_add 160 = .ok (.aload_n 0, 1) := by decide +kernel
theorem dX10_add_161 : decode cX10_add 161 = .ok (.getfield 37, 3) := by decide +kernel
theorem dX10_add_164 : decode cX10_add 164 = .ok (.iload 4, 2) := by decide +kernel
theorem dX10_add_166 : decode cX10_add 166 = .ok (.iconst 1, 1) := by decide +kernel
theorem dX10_add_167 : decode cX10_add 167 = .ok (.iastore, 1) := by decide +kernel
theorem dX10_add_168 : decode cX10_add 168 = .ok (.aload_n 0, 1) := by decide +kernel
theorem dX10_add_169 : decode cX10_add 169 = .ok (.getfield 40, 3) := by decide +kernel
theorem dX10_add_172 : decode cX10_add 172 = .ok (.iload 4, 2) := by decide +kernel
theorem dX10_add_174 : decode cX10_add 174 = .ok (.iconst 2, 1) := by decide +kernel
theorem dX10_add_175 : decode cX10_add 175 = .ok (.iload 4, 2) := by decide +kernel
theorem dX10_add_177 : decode cX10_add 177 = .ok (.imul, 1) := by decide +kernel
theorem dX10_add_178 : decode cX10_add 178 = .ok (.iastore, 1) := by decide +kernel
theorem dX10_add_179 : decode cX10_add 179 = .ok (.aload_n 0, 1) := by decide +kernel
theorem dX10_add_180 : decode cX10_add 180 = .ok (.getfield 43, 3) := by decide +kernel
theorem dX10_add_183 : decode cX10_add 183 = .ok (.iload 4, 2) := by decide +kernel
theorem dX10_add_185 : decode cX10_add 185 = .ok (.iconst 2, 1) := by decide +kernel
theorem dX10_add_186 : decode cX10_add 186 = .ok (.iload 4, 2) := by decide +kernel
theorem dX10_add_188 : decode cX10_add 188 = .ok (.imul, 1) := by decide +kernel
theorem dX10_add_189 : decode cX10_add 189 = .ok (.iconst 1, 1) := by decide +kernel
theorem dX10_add_190 : decode cX10_add 190 = .ok (.iadd, 1) := by decide +kernel
theorem dX10_add_191 : decode cX10_add 191 = .ok (.iastore, 1) := by decide +kernel
theorem dX10_add_192 : decode cX10_add 192 = .ok (.aload_n 0, 1) := by decide +kernel
theorem dX10_add_193 : decode cX10_add 193 = .ok (.iload_n 1, 1) := by decide +kernel
theorem dX10_add_194 : decode cX10_add 194 = .ok (.iload_n 2, 1) := by decide +kernel
theorem dX10_add_195 : decode cX10_add 195 = .ok (.iload 4, 2) := by decide +kernel
theorem dX10_add_197 : decode cX10_add 197 = .ok (.invokevirtual 135, 3) := by decide +kernel
theorem dX10_add_200 : decode cX10_add 200 = .ok (.aload_n 0, 1) := by decide +kernel
theorem dX10_add_201 : decode cX10_add 201 = .ok (.invokevirtual 184, 3) := by decide +kernel
theorem dX10_add_204 : decode cX10_add 204 = .ok (.aload_n 0, 1) := by decide +kernel
theorem dX10_add_205 : decode cX10_add 205 = .ok (.iconst 2, 1) := by decide +kernel
theorem dX10_add_206 : decode cX10_add 206 = .ok (.iload 4, 2) := by decide +kernel
theorem dX10_add_208 : decode cX10_add 208 = .ok (.imul, 1) := by decide +kernel
theorem dX10_add_209 : decode cX10_add 209 = .ok (.invokevirtual 187, 3) := by decide +kernel
theorem dX10_add_212 : decode cX10_add 212 = .ok (.ireturn, 1) := by decide +kernel
theorem dX10_placeOf_0 : decode cX10_placeOf 0 = .ok (.iconst 0, 1) := by decide +kernel
theorem dX10_placeOf_1 : decode cX10_placeOf 1 = .ok (.istore_n 2, 1) := by decide +kernel
theorem dX10_placeOf_2 : decode cX10_placeOf 2 = .ok (.aload_n 0, 1) := by decide +kernel
theorem dX10_placeOf_3 : decode cX10_placeOf 3 = .ok (.getfield 25, 3) := by decide +kernel
theorem dX10_placeOf_6 : decode cX10_placeOf 6 = .ok (.iload_n 2, 1) := by decide +kernel
theorem dX10_placeOf_7 : decode cX10_placeOf 7 = .ok (.iaload, 1) := by decide +kernel
theorem dX10_placeOf_8 : decode cX10_placeOf 8 = .ok (.iload_n 1, 1) := by decide +kernel
theorem dX10_placeOf_9 : decode cX10_placeOf 9 = .ok (.if_icmp .eq 9, 3) := by decide +kernel
theorem dX10_placeOf_12 : decode cX10_placeOf 12 = .ok (.iinc 2 1, 3) := by decide +kernel
theorem dX10_placeOf_15 : decode cX10_placeOf 15 = .ok (.goto (-13), 3) := by decide +kernel
theorem dX10_placeOf_18 : decode cX10_placeOf 18 = .ok (.iload_n 2, 1) := by decide +kernel
theorem dX10_placeOf_19 : decode cX10_placeOf 19 = .ok (.ireturn, 1) := by decide +kernel
theorem dX10_isSubtitle_0 : decode cX10_isSubtitle 0 = .ok (.iload_n 1, 1) := by decide +kernel
theorem dX10_isSubtitle_1 : decode cX10_isSubtitle 1 = .ok (.iconst 0, 1) := by decide +kernel
theorem dX10_isSubtitle_2 : decode cX10_isSubtitle 2 = .ok (.aload_n 0, 1) := by decide +kernel
theorem dX10_isSubtitle_3 : decode cX10_isSubtitle 3 = .ok (.getfield 7, 3) := by decide +kernel
theorem dX10_isSubtitle_6 : decode cX10_isSubtitle 6 = .ok (.bipush 42, 2) := by decide +kernel
theorem dX10_isSubtitle_8 : decode cX10_isSubtitle 8 = .ok (.iaload, 1) := by decide +kernel
theorem dX10_isSubtitle_9 : decode cX10_isSubtitle 9 = .ok (.iconst 1, 1) := by decide +kernel
theorem dX10_isSubtitle_10 : decode cX10_isSubtitle 10 = .ok (.isub, 1) := by decide +kernel
theorem dX10_isSubtitle_11 : decode cX10_isSubtitle 11 = .ok (.invokestatic 60, 3) := by decide +kernel
theorem dX10_isSubtitle_14 : decode cX10_isSubtitle 14 = .ok (.ireturn, 1) := by decide +kernel
theorem dX10_drop_0 : decode cX10_drop 0 = .ok (.aload_n 0, 1) := by decide +kernel
theorem dX10_drop_1 : decode cX10_drop 1 = .ok (.iload_n 1, 1) := by decide +kernel
theorem dX10_drop_2 : decode cX10_drop 2 = .ok (.invokevirtual 190, 3) := by decide +kernel
theorem dX10_drop_5 : decode cX10_drop 5 = .ok (.ifCond .ne 5, 3) := by decide +kernel
theorem dX10_drop_8 : decode cX10_drop 8 = .ok (.iconst (-1), 1) := by decide +kernel
theorem dX10_drop_9 : decode cX10_drop 9 = .ok (.ireturn, 1) := by decide +kernel
theorem dX10_drop_10 : decode cX10_drop 10 = .ok (.aload_n 0, 1) := by decide +kernel
theorem dX10_drop_11 : decode cX10_drop 11 = .ok (.invokevirtual 68, 3) := by decide +kernel
theorem dX10_drop_14 : decode cX10_drop 14 = .ok (.aload_n 0, 1) := by decide +kernel
theorem dX10_drop_15 : decode cX10_drop 15 = .ok (.invokevirtual 155, 3) := by decide +kernel
theorem dX10_drop_18 : decode cX10_drop 18 = .ok (.aload_n 0, 1) := by decide +kernel
theorem dX10_drop_19 : decode cX10_drop 19 = .ok (.getfield 84, 3) := by decide +kernel
theorem dX10_drop_22 : decode cX10_drop 22 = .ok (.istore_n 2, 1) := by decide +kernel
theorem dX10_drop_23 : decode cX10_drop 23 = .ok (.aload_n 0, 1) := by decide +kernel
theorem dX10_drop_24 : decode cX10_drop 24 = .ok (.invokevirtual 139, 3) := by decide +kernel
theorem dX10_drop_27 : decode cX10_drop 27 = .ok (.iconst 0, 1) := by decide +kernel
theorem dX10_drop_28 : decode cX10_drop 28 = .ok (.istore_n 3, 1) := by decide +kernel
theorem dX10_drop_29 : decode cX10_drop 29 = .ok (.iload_n 3, 1) := by decide +kernel
theorem dX10_drop_30 : decode cX10_drop 30 = .ok (.iload_n 2, 1) := by decide +kernel
theorem dX10_drop_31 : decode cX10_drop 31 = .ok (.if_icmp .ge 31, 3) := by decide +kernel
theorem dX10_drop_34 : decode cX10_drop 34 = .ok (.iload_n 3, 1) := by decide +kernel
theorem dX10_drop_35 : decode cX10_drop 35 = .ok (.iload_n 1, 1) := by decide +kernel
theorem dX10_drop_36 : decode cX10_drop 36 = .ok (.if_icmp .eq 20, 3) := by decide +kernel
theorem dX10_drop_39 : decode cX10_drop 39 = .ok (.aload_n 0, 1) := by decide +kernel
theorem dX10_drop_40 : decode cX10_drop 40 = .ok (.aload_n 0, 1) := by decide +kernel
theorem dX10_drop_41 : decode cX10_drop 41 = .ok (.getfield 31, 3) := by decide +kernel
theorem dX10_drop_44 : decode cX10_drop 44 = .ok (.iload_n 3, 1) := by decide +kernel
theorem dX10_drop_45 : decode cX10_drop 45 = .ok (.iaload, 1) := by decide +kernel
theorem dX10_drop_46 : decode cX10_drop 46 = .ok (.aload_n 0, 1) := by decide +kernel
theorem dX10_drop_47 : decode cX10_drop 47 = .ok (.getfield 34, 3) := by decide +kernel
theorem dX10_drop_50 : decode cX10_drop 50 = .ok (.iload_n 3, 1) := by decide +kernel
theorem dX10_drop_51 : decode cX10_drop 51 = .ok (.iaload, 1) := by decide +kernel
theorem dX10_drop_52 : decode cX10_drop 52 = .ok (.iload_n 3, 1) := by decide +kernel
theorem dX10_drop_53 : decode cX10_drop 53 = .ok (.invokevirtual 135, 3) := by decide +kernel
theorem dX10_drop_56 : decode cX10_drop 56 = .ok (.iinc 3 1, 3) := by decide +kernel
theorem dX10_drop_59 : decode cX10_drop 59 = .ok (.goto (-30), 3) := by decide +kernel
theorem dX10_drop_62 : decode cX10_drop 62 = .ok (.aload_n 0, 1) := by decide +kernel
theorem dX10_drop_63 : decode cX10_drop 63 = .ok (.invokevirtual 184, 3) := by decide +kernel
theorem dX10_drop_66 : decode cX10_drop 66 = .ok (.aload_n 0, 1) := by decide +kernel
theorem dX10_drop_67 : decode cX10_drop 67 = .ok (.getfield 7, 3) := by decide +kernel
theorem dX10_drop_70 : decode cX10_drop 70 = .ok (.bipush 42, 2) := by decide +kernel
theorem dX10_drop_72 : decode cX10_drop 72 = .ok (.iaload, 1) := by decide +kernel
theorem dX10_drop_73 : decode cX10_drop 73 = .ok (.ireturn, 1) := by decide +kernel
theorem dX10_move_0 : decode cX10_move 0 = .ok (.aload_n 0, 1) := by decide +kernel
theorem dX10_move_1 : decode cX10_move 1 = .ok (.iload_n 1, 1) := by decide +kernel
theorem dX10_move_2 : decode cX10_move 2 = .ok (.invokevirtual 190, 3) := by decide +kernel
theorem dX10_move_5 : decode cX10_move 5 = .ok (.ifCond .eq 11, 3) := by decide +kernel
theorem dX10_move_8 : decode cX10_move 8 = .ok (.iload_n 2, 1) := by decide +kernel
theorem dX10_move_9 : decode cX10_move 9 = .ok (.iload_n 3, 1) := by decide +kernel
theorem dX10_move_10 : decode cX10_move 10 = .ok (.invokestatic 177, 3) := by decide +kernel
theorem dX10_move_13 : decode cX10_move 13 = .ok (.ifCond .ne 5, 3) := by decide +kernel
theorem dX10_move_16 : decode cX10_move 16 = .ok (.iconst (-1), 1) := by decide +kernel
theorem dX10_move_17 : decode cX10_move 17 = .ok (.ireturn, 1) := by decide +kernel
theorem dX10_move_18 : decode cX10_move 18 = .ok (.aload_n 0, 1) := by decide +kernel
theorem dX10_move_19 : decode cX10_move 19 = .ok (.invokevirtual 68, 3) := by decide +kernel
theorem dX10_move_22 : decode cX10_move 22 = .ok (.aload_n 0, 1) := by decide +kernel
theorem dX10_move_23 : decode cX10_move 23 = .ok (.invokevirtual 155, 3) := by decide +kernel
theorem dX10_move_26 : decode cX10_move 26 = .ok (.aload_n 0, 1) := by decide +kernel
theorem dX10_move_27 : decode cX10_move 27 = .ok (.getfield 84, 3) := by decide +kernel
theorem dX10_move_30 : decode cX10_move 30 = .ok (.istore 4, 2) := by decide +kernel
theorem dX10_move_32 : decode cX10_move 32 = .ok (.aload_n 0, 1) := by decide +kernel
theorem dX10_move_33 : decode cX10_move 33 = .ok (.invokevirtual 139, 3) := by decide +kernel
theorem dX10_move_36 : decode cX10_move 36 = .ok (.iconst 0, 1) := by decide +kernel
theorem dX10_move_37 : decode cX10_move 37 = .ok (.istore 5, 2) := by decide +kernel
theorem dX10_move_39 : decode cX10_move 39 = .ok (.iload 5, 2) := by decide +kernel
theorem dX10_move_41 : decode cX10_move 41 = .ok (.iload 4, 2) := by decide +kernel
theorem dX10_move_43 : decode cX10_move 43 = .ok (.if_icmp .ge 35, 3) := by decide +kernel
theorem dX10_move_46 : decode cX10_move 46 = .ok (.iload 5, 2) := by decide +kernel
theorem dX10_move_48 : decode cX10_move 48 = .ok (.iload_n 1, 1) := by decide +kernel
theorem dX10_move_49 : decode cX10_move 49 = .ok (.if_icmp .eq 23, 3) := by decide +kernel
theorem dX10_move_52 : decode cX10_move 52 = .ok (.aload_n 0, 1) := by decide +kernel
theorem dX10_move_53 : decode cX10_move 53 = .ok (.aload_n 0, 1) := by decide +kernel
theorem dX10_move_54 : decode cX10_move 54 = .ok (.getfield 31, 3) := by decide +kernel
theorem dX10_move_57 : decode cX10_move 57 = .ok (.iload 5, 2) := by decide +kernel
theorem dX10_move_59 : decode cX10_move 59 = .ok (.iaload, 1) := by decide +kernel
theorem dX10_move_60 : decode cX10_move 60 = .ok (.aload_n 0, 1) := by decide +kernel
theorem dX10_move_61 : decode cX10_move 61 = .ok (.getfield 34, 3) := by decide +kernel
theorem dX10_move_64 : decode cX10_move 64 = .ok (.iload 5, 2) := by decide +kernel
theorem dX10_move_66 : decode cX10_move 66 = .ok (.iaload, 1) := by decide +kernel
theorem dX10_move_67 : decode cX10_move 67 = .ok (.iload 5, 2) := by decide +kernel
theorem dX10_move_69 : decode cX10_move 69 = .ok (.invokevirtual 135, 3) := by decide +kernel
theorem dX10_move_72 : decode cX10_move 72 = .ok (.iinc 5 1, 3) := by decide +kernel
theorem dX10_move_75 : decode cX10_move 75 = .ok (.goto (-36), 3) := by decide +kernel
theorem dX10_move_78 : decode cX10_move 78 = .ok (.aload_n 0, 1) := by decide +kernel
theorem dX10_move_79 : decode cX10_move 79 = .ok (.iload_n 2, 1) := by decide +kernel
theorem dX10_move_80 : decode cX10_move 80 = .ok (.iload_n 3, 1) := by decide +kernel
theorem dX10_move_81 : decode cX10_move 81 = .ok (.iload_n 1, 1) := by decide +kernel
theorem dX10_move_82 : decode cX10_move 82 = .ok (.invokevirtual 135, 3) := by decide +kernel
theorem dX10_move_85 : decode cX10_move 85 = .ok (.aload_n 0, 1) := by decide +kernel
theorem dX10_move_86 : decode cX10_move 86 = .ok (.invokevirtual 184, 3) := by decide +kernel
theorem dX10_move_89 : decode cX10_move 89 = .ok (.aload_n 0, 1) := by decide +kernel
theorem dX10_move_90 : decode cX10_move 90 = .ok (.iconst 2, 1) := by decide +kernel
theorem dX10_move_91 : decode cX10_move 91 = .ok (.iload_n 1, 1) := by decide +kernel
theorem dX10_move_92 : decode cX10_move 92 = .ok (.imul, 1) := by decide +kernel
theorem dX10_move_93 : decode cX10_move 93 = .ok (.invokevirtual 187, 3) := by decide +kernel
theorem dX10_move_96 : decode cX10_move 96 = .ok (.ireturn, 1) := by decide +kernel
theorem dX10_subtitleOf_0 : decode cX10_subtitleOf 0 = .ok (.iload_n 2, 1) := by decide +kernel
theorem dX10_subtitleOf_1 : decode cX10_subtitleOf 1 = .ok (.tableswitch 78 0 5 #[39, 46, 53, 60, 66, 72], 39) := by decide +kernel
theorem dX10_subtitleOf_40 : decode cX10_subtitleOf 40 = .ok (.aload_n 0, 1) := by decide +kernel
theorem dX10_subtitleOf_41 : decode cX10_subtitleOf 41 = .ok (.getfield 16, 3) := by decide +kernel
theorem dX10_subtitleOf_44 : decode cX10_subtitleOf 44 = .ok (.iload_n 1, 1) := by decide +kernel
theorem dX10_subtitleOf_45 : decode cX10_subtitleOf 45 = .ok (.iaload, 1) := by decide +kernel
theorem dX10_subtitleOf_46 : decode cX10_subtitleOf 46 = .ok (.ireturn, 1) := by decide +kernel
theorem dX10_subtitleOf_47 : decode cX10_subtitleOf 47 = .ok (.aload_n 0, 1) := by decide +kernel
theorem dX10_subtitleOf_48 : decode cX10_subtitleOf 48 = .ok (.getfield 19, 3) := by decide +kernel
theorem dX10_subtitleOf_51 : decode cX10_subtitleOf 51 = .ok (.iload_n 1, 1) := by decide +kernel
theorem dX10_subtitleOf_52 : decode cX10_subtitleOf 52 = .ok (.iaload, 1) := by decide +kernel
theorem dX10_subtitleOf_53 : decode cX10_subtitleOf 53 = .ok (.ireturn, 1) := by decide +kernel
theorem dX10_subtitleOf_54 : decode cX10_subtitleOf 54 = .ok (.aload_n 0, 1) := by decide +kernel
theorem dX10_subtitleOf_55 : decode cX10_subtitleOf 55 = .ok (.getfield 22, 3) := by decide +kernel
theorem dX10_subtitleOf_58 : decode cX10_subtitleOf 58 = .ok (.iload_n 1, 1) := by decide +kernel
theorem dX10_subtitleOf_59 : decode cX10_subtitleOf 59 = .ok (.iaload, 1) := by decide +kernel
theorem dX10_subtitleOf_60 : decode cX10_subtitleOf 60 = .ok (.ireturn, 1) := by decide +kernel
theorem dX10_subtitleOf_61 : decode cX10_subtitleOf 61 = .ok (.aload_n 0, 1) := by decide +kernel
theorem dX10_subtitleOf_62 : decode cX10_subtitleOf 62 = .ok (.iload_n 1, 1) := by decide +kernel
theorem dX10_subtitleOf_63 : decode cX10_subtitleOf 63 = .ok (.invokevirtual 114, 3) := by decide +kernel
theorem dX10_subtitleOf_66 : decode cX10_subtitleOf 66 = .ok (.ireturn, 1) := by decide +kernel
theorem dX10_subtitleOf_67 : decode cX10_subtitleOf 67 = .ok (.aload_n 0, 1) := by decide +kernel
theorem dX10_subtitleOf_68 : decode cX10_subtitleOf 68 = .ok (.iload_n 1, 1) := by decide +kernel
theorem dX10_subtitleOf_69 : decode cX10_subtitleOf 69 = .ok (.invokevirtual 123, 3) := by decide +kernel
theorem dX10_subtitleOf_72 : decode cX10_subtitleOf 72 = .ok (.ireturn, 1) := by decide +kernel
theorem dX10_subtitleOf_73 : decode cX10_subtitleOf 73 = .ok (.aload_n 0, 1) := by decide +kernel
theorem dX10_subtitleOf_74 : decode cX10_subtitleOf 74 = .ok (.iload_n 1, 1) := by decide +kernel
theorem dX10_subtitleOf_75 : decode cX10_subtitleOf 75 = .ok (.invokevirtual 193, 3) := by decide +kernel
theorem dX10_subtitleOf_78 : decode cX10_subtitleOf 78 = .ok (.ireturn, 1) := by decide +kernel
theorem dX10_subtitleOf_79 : decode cX10_subtitleOf 79 = .ok (.aload_n 0, 1) := by decide +kernel
theorem dX10_subtitleOf_80 : decode cX10_subtitleOf 80 = .ok (.iload_n 1, 1) := by decide +kernel
theorem dX10_subtitleOf_81 : decode cX10_subtitleOf 81 = .ok (.invokevirtual 120, 3) := by decide +kernel
theorem dX10_subtitleOf_84 : decode cX10_subtitleOf 84 = .ok (.ireturn, 1) := by decide +kernel
theorem dX10_subtitle_0 : decode cX10_subtitle 0 = .ok (.aload_n 0, 1) := by decide +kernel
theorem dX10_subtitle_1 : decode cX10_subtitle 1 = .ok (.iload_n 1, 1) := by decide +kernel
theorem dX10_subtitle_2 : decode cX10_subtitle 2 = .ok (.invokevirtual 190, 3) := by decide +kernel
theorem dX10_subtitle_5 : decode cX10_subtitle 5 = .ok (.ifCond .eq 13, 3) := by decide +kernel
theorem dX10_subtitle_8 : decode cX10_subtitle 8 = .ok (.iload_n 2, 1) := by decide +kernel
theorem dX10_subtitle_9 : decode cX10_subtitle 9 = .ok (.iconst 0, 1) := by decide +kernel
theorem dX10_subtitle_10 : decode cX10_subtitle 10 = .ok (.bipush 6, 2) := by decide +kernel
theorem dX10_subtitle_12 : decode cX10_subtitle 12 = .ok (.invokestatic 60, 3) := by decide +kernel
theorem dX10_subtitle_15 : decode cX10_subtitle 15 = .ok (.ifCond .ne 5, 3) := by decide +kernel
theorem dX10_subtitle_18 : decode cX10_subtitle 18 = .ok (.iconst (-1), 1) := by decide +kernel
theorem dX10_subtitle_19 : decode cX10_subtitle 19 = .ok (.ireturn, 1) := by decide +kernel
theorem dX10_subtitle_20 : decode cX10_subtitle 20 = .ok (.aload_n 0, 1) := by decide +kernel
theorem dX10_subtitle_21 : decode cX10_subtitle 21 = .ok (.invokevirtual 155, 3) := by decide +kernel
theorem dX10_subtitle_24 : decode cX10_subtitle 24 = .ok (.aload_n 0, 1) := by decide +kernel
theorem dX10_subtitle_25 : decode cX10_subtitle 25 = .ok (.iload_n 1, 1) := by decide +kernel
theorem dX10_subtitle_26 : decode cX10_subtitle 26 = .ok (.iload_n 2, 1) := by decide +kernel
theorem dX10_subtitle_27 : decode cX10_subtitle 27 = .ok (.invokevirtual 196, 3) := by decide +kernel
theorem dX10_subtitle_30 : decode cX10_subtitle 30 = .ok (.ireturn, 1) := by decide +kernel
theorem dX10_partOf_0 : decode cX10_partOf 0 = .ok (.aload_n 0, 1) := by decide +kernel
theorem dX10_partOf_1 : decode cX10_partOf 1 = .ok (.iload_n 1, 1) := by decide +kernel
theorem dX10_partOf_2 : decode cX10_partOf 2 = .ok (.invokevirtual 111, 3) := by decide +kernel
theorem dX10_partOf_5 : decode cX10_partOf 5 = .ok (.istore_n 3, 1) := by decide +kernel
theorem dX10_partOf_6 : decode cX10_partOf 6 = .ok (.iload_n 2, 1) := by decide +kernel
theorem dX10_partOf_7 : decode cX10_partOf 7 = .ok (.tableswitch 75 0 3 #[29, 35, 41, 57], 29) := by decide +kernel
theorem dX10_partOf_36 : decode cX10_partOf 36 = .ok (.aload_n 0, 1) := by decide +kernel
theorem dX10_partOf_37 : decode cX10_partOf 37 = .ok (.iload_n 1, 1) := by decide +kernel
theorem dX10_partOf_38 : decode cX10_partOf 38 = .ok (.invokevirtual 149, 3) := by decide +kernel
theorem dX10_partOf_41 : decode cX10_partOf 41 = .ok (.ireturn, 1) := by decide +kernel
theorem dX10_partOf_42 : decode cX10_partOf 42 = .ok (.aload_n 0, 1) := by decide +kernel
theorem dX10_partOf_43 : decode cX10_partOf 43 = .ok (.iload_n 1, 1) := by decide +kernel
theorem dX10_partOf_44 : decode cX10_partOf 44 = .ok (.invokevirtual 94, 3) := by decide +kernel
theorem dX10_partOf_47 : decode cX10_partOf 47 = .ok (.ireturn, 1) := by decide +kernel
theorem dX10_partOf_48 : decode cX10_partOf 48 = .ok (.iload_n 3, 1) := by decide +kernel
theorem dX10_partOf_49 : decode cX10_partOf 49 = .ok (.bipush (-9), 2) := by decide +kernel
theorem dX10_partOf_51 : decode cX10_partOf 51 = .ok (.if_icmp .ne 11, 3) := by decide +kernel
theorem dX10_partOf_54 : decode cX10_partOf 54 = .ok (.aload_n 0, 1) := by decide +kernel
theorem dX10_partOf_55 : decode cX10_partOf 55 = .ok (.iload_n 1, 1) := by decide +kernel
theorem dX10_partOf_56 : decode cX10_partOf 56 = .ok (.invokevirtual 94, 3) := by decide +kernel
theorem dX10_partOf_59 : decode cX10_partOf 59 = .ok (.goto 4, 3) := by decide +kernel
theorem dX10_partOf_62 : decode cX10_partOf 62 = .ok (.iload_n 3, 1) := by decide +kernel
theorem dX10_partOf_63 : decode cX10_partOf 63 = .ok (.ireturn, 1) := by decide +kernel
theorem dX10_partOf_64 : decode cX10_partOf 64 = .ok (.iload_n 3, 1) := by decide +kernel
theorem dX10_partOf_65 : decode cX10_partOf 65 = .ok (.bipush (-9), 2) := by decide +kernel
theorem dX10_partOf_67 : decode cX10_partOf 67 = .ok (.if_icmp .ne 8, 3) := by decide +kernel
theorem dX10_partOf_70 : decode cX10_partOf 70 = .ok (.bipush (-9), 2) := by decide +kernel
theorem dX10_partOf_72 : decode cX10_partOf 72 = .ok (.goto 9, 3) := by decide +kernel
theorem dX10_partOf_75 : decode cX10_partOf 75 = .ok (.aload_n 0, 1) := by decide +kernel
theorem dX10_partOf_76 : decode cX10_partOf 76 = .ok (.iload_n 1, 1) := by decide +kernel
theorem dX10_partOf_77 : decode cX10_partOf 77 = .ok (.iload_n 3, 1) := by decide +kernel
theorem dX10_partOf_78 : decode cX10_partOf 78 = .ok (.invokevirtual 108, 3) := by decide +kernel
theorem dX10_partOf_81 : decode cX10_partOf 81 = .ok (.ireturn, 1) := by decide +kernel
theorem dX10_partOf_82 : decode cX10_partOf 82 = .ok (.iload_n 2, 1) := by decide +kernel
theorem dX10_partOf_83 : decode cX10_partOf 83 = .ok (.bipush 10, 2) := by decide +kernel
theorem dX10_partOf_85 : decode cX10_partOf 85 = .ok (.isub, 1) := by decide +kernel
theorem dX10_partOf_86 : decode cX10_partOf 86 = .ok (.aload_n 0, 1) := by decide +kernel
theorem dX10_partOf_87 : decode cX10_partOf 87 = .ok (.iload_n 1, 1) := by decide +kernel
theorem dX10_partOf_88 : decode cX10_partOf 88 = .ok (.invokevirtual 94, 3) := by decide +kernel
theorem dX10_partOf_91 : decode cX10_partOf 91 = .ok (.if_icmp .ge 15, 3) := by decide +kernel
theorem dX10_partOf_94 : decode cX10_partOf 94 = .ok (.aload_n 0, 1) := by decide +kernel
theorem dX10_partOf_95 : decode cX10_partOf 95 = .ok (.iload_n 1, 1) := by decide +kernel
theorem dX10_partOf_96 : decode cX10_partOf 96 = .ok (.iload_n 2, 1) := by decide +kernel
theorem dX10_partOf_97 : decode cX10_partOf 97 = .ok (.bipush 10, 2) := by decide +kernel
theorem dX10_partOf_99 : decode cX10_partOf 99 = .ok (.isub, 1) := by decide +kernel
theorem dX10_partOf_100 : decode cX10_partOf 100 = .ok (.invokevirtual 97, 3) := by decide +kernel
theorem dX10_partOf_103 : decode cX10_partOf 103 = .ok (.goto 5, 3) := by decide +kernel
theorem dX10_partOf_106 : decode cX10_partOf 106 = .ok (.bipush (-9), 2) := by decide +kernel
theorem dX10_partOf_108 : decode cX10_partOf 108 = .ok (.ireturn, 1) := by decide +kernel
theorem dX10_part_0 : decode cX10_part 0 = .ok (.aload_n 0, 1) := by decide +kernel
theorem dX10_part_1 : decode cX10_part 1 = .ok (.iload_n 1, 1) := by decide +kernel
theorem dX10_part_2 : decode cX10_part 2 = .ok (.invokevirtual 190, 3) := by decide +kernel
theorem dX10_part_5 : decode cX10_part 5 = .ok (.ifCond .eq 26, 3) := by decide +kernel
theorem dX10_part_8 : decode cX10_part 8 = .ok (.iload_n 2, 1) := by decide +kernel
theorem dX10_part_9 : decode cX10_part 9 = .ok (.iconst 0, 1) := by decide +kernel
theorem dX10_part_10 : decode cX10_part 10 = .ok (.iconst 1, 1) := by decide +kernel
theorem dX10_part_11 : decode cX10_part 11 = .ok (.invokestatic 60, 3) := by decide +kernel
theorem dX10_part_14 : decode cX10_part 14 = .ok (.ifCond .eq 17, 3) := by decide +kernel
theorem dX10_part_17 : decode cX10_part 17 = .ok (.iload_n 3, 1) := by decide +kernel
theorem dX10_part_18 : decode cX10_part 18 = .ok (.ifCond .lt 13, 3) := by decide +kernel
theorem dX10_part_21 : decode cX10_part 21 = .ok (.iload_n 3, 1) := by decide +kernel
theorem dX10_part_22 : decode cX10_part 22 = .ok (.iconst 4, 1) := by decide +kernel
theorem dX10_part_23 : decode cX10_part 23 = .ok (.bipush 9, 2) := by decide +kernel
theorem dX10_part_25 : decode cX10_part 25 = .ok (.invokestatic 60, 3) := by decide +kernel
theorem dX10_part_28 : decode cX10_part 28 = .ok (.ifCond .eq 5, 3) := by decide +kernel
theorem dX10_part_31 : decode cX10_part 31 = .ok (.iconst (-1), 1) := by decide +kernel
theorem dX10_part_32 : decode cX10_part 32 = .ok (.ireturn, 1) := by decide +kernel
theorem dX10_part_33 : decode cX10_part 33 = .ok (.iload_n 2, 1) := by decide +kernel
theorem dX10_part_34 : decode cX10_part 34 = .ok (.aload_n 0, 1) := by decide +kernel
theorem dX10_part_35 : decode cX10_part 35 = .ok (.getfield 7, 3) := by decide +kernel
theorem dX10_part_38 : decode cX10_part 38 = .ok (.aload_n 0, 1) := by decide +kernel
theorem dX10_part_39 : decode cX10_part 39 = .ok (.iload_n 1, 1) := by decide +kernel
theorem dX10_part_40 : decode cX10_part 40 = .ok (.invokevirtual 81, 3) := by decide +kernel
theorem dX10_part_43 : decode cX10_part 43 = .ok (.iconst 2, 1) := by decide +kernel
theorem dX10_part_44 : decode cX10_part 44 = .ok (.iadd, 1) := by decide +kernel
theorem dX10_part_45 : decode cX10_part 45 = .ok (.iaload, 1) := by decide +kernel
theorem dX10_part_46 : decode cX10_part 46 = .ok (.if_icmp .lt 8, 3) := by decide +kernel
theorem dX10_part_49 : decode cX10_part 49 = .ok (.bipush (-9), 2) := by decide +kernel
theorem dX10_part_51 : decode cX10_part 51 = .ok (.goto 13, 3) := by decide +kernel
theorem dX10_part_54 : decode cX10_part 54 = .ok (.aload_n 0, 1) := by decide +kernel
theorem dX10_part_55 : decode cX10_part 55 = .ok (.iconst 2, 1) := by decide +kernel
theorem dX10_part_56 : decode cX10_part 56 = .ok (.iload_n 1, 1) := by decide +kernel
theorem dX10_part_57 : decode cX10_part 57 = .ok (.imul, 1) := by decide +kernel
theorem dX10_part_58 : decode cX10_part 58 = .ok (.iload_n 2, 1) := by decide +kernel
theorem dX10_part_59 : decode cX10_part 59 = .ok (.iadd, 1) := by decide +kernel
theorem dX10_part_60 : decode cX10_part 60 = .ok (.iload_n 3, 1) := by decide +kernel
theorem dX10_part_61 : decode cX10_part 61 = .ok (.invokevirtual 199, 3) := by decide +kernel
theorem dX10_part_64 : decode cX10_part 64 = .ok (.ireturn, 1) := by decide +kernel
theorem dX10_set_0 : decode cX10_set 0 = .ok (.iload_n 1, 1) := by decide +kernel
theorem dX10_set_1 : decode cX10_set 1 = .ok (.iconst 0, 1) := by decide +kernel
theorem dX10_set_2 : decode cX10_set 2 = .ok (.iconst 4, 1) := by decide +kernel
theorem dX10_set_3 : decode cX10_set 3 = .ok (.invokestatic 60, 3) := by decide +kernel
theorem dX10_set_6 : decode cX10_set 6 = .ok (.ifCond .eq 62, 3) := by decide +kernel
theorem dX10_set_9 : decode cX10_set 9 = .ok (.iload_n 2, 1) := by decide +kernel
theorem dX10_set_10 : decode cX10_set 10 = .ok (.iload_n 1, 1) := by decide +kernel
theorem dX10_set_11 : decode cX10_set 11 = .ok (.iconst 4, 1) := by decide +kernel
theorem dX10_set_12 : decode cX10_set 12 = .ok (.if_icmp .ne 8, 3) := by decide +kernel
theorem dX10_set_15 : decode cX10_set 15 = .ok (.bipush 8, 2) := by decide +kernel
theorem dX10_set_17 : decode cX10_set 17 = .ok (.goto 13, 3) := by decide +kernel
theorem dX10_set_20 : decode cX10_set 20 = .ok (.iload_n 1, 1) := by decide +kernel
theorem dX10_set_21 : decode cX10_set 21 = .ok (.iconst 2, 1) := by decide +kernel
theorem dX10_set_22 : decode cX10_set 22 = .ok (.if_icmp .ge 7, 3) := by decide +kernel
theorem dX10_set_25 : decode cX10_set 25 = .ok (.iconst 1, 1) := by decide +kernel
theorem dX10_set_26 : decode cX10_set 26 = .ok (.goto 4, 3) := by decide +kernel
theorem dX10_set_29 : decode cX10_set 29 = .ok (.iconst 0, 1) := by decide +kernel
theorem dX10_set_30 : decode cX10_set 30 = .ok (.iload_n 1, 1) := by decide +kernel
theorem dX10_set_31 : decode cX10_set 31 = .ok (.ifCond .ne 8, 3) := by decide +kernel
theorem dX10_set_34 : decode cX10_set 34 = .ok (.bipush 20, 2) := by decide +kernel
theorem dX10_set_36 : decode cX10_set 36 = .ok (.goto 26, 3) := by decide +kernel
theorem dX10_set_39 : decode cX10_set 39 = .ok (.iload_n 1, 1) := by decide +kernel
theorem dX10_set_40 : decode cX10_set 40 = .ok (.iconst 1, 1) := by decide +kernel
theorem dX10_set_41 : decode cX10_set 41 = .ok (.if_icmp .ne 9, 3) := by decide +kernel
theorem dX10_set_44 : decode cX10_set 44 = .ok (.sipush 200, 3) := by decide +kernel
theorem dX10_set_47 : decode cX10_set 47 = .ok (.goto 15, 3) := by decide +kernel
theorem dX10_set_50 : decode cX10_set 50 = .ok (.iload_n 1, 1) := by decide +kernel
theorem dX10_set_51 : decode cX10_set 51 = .ok (.iconst 4, 1) := by decide +kernel
theorem dX10_set_52 : decode cX10_set 52 = .ok (.if_icmp .ne 8, 3) := by decide +kernel
theorem dX10_set_55 : decode cX10_set 55 = .ok (.bipush 40, 2) := by decide +kernel
theorem dX10_set_57 : decode cX10_set 57 = .ok (.goto 5, 3) := by decide +kernel
theorem dX10_set_60 : decode cX10_set 60 = .ok (.bipush 50, 2) := by decide +kernel
theorem dX10_set_62 : decode cX10_set 62 = .ok (.invokestatic 60, 3) := by decide +kernel
theorem dX10_set_65 : decode cX10_set 65 = .ok (.ifCond .ne 5, 3) := by decide +kernel
theorem dX10_set_68 : decode cX10_set 68 = .ok (.iconst (-1), 1) := by decide +kernel
theorem dX10_set_69 : decode cX10_set 69 = .ok (.ireturn, 1) := by decide +kernel
theorem dX10_set_70 : decode cX10_set 70 = .ok (.aload_n 0, 1) := by decide +kernel
theorem dX10_set_71 : decode cX10_set 71 = .ok (.invokevirtual 68, 3) := by decide +kernel
theorem dX10_set_74 : decode cX10_set 74 = .ok (.aload_n 0, 1) := by decide +kernel
theorem dX10_set_75 : decode cX10_set 75 = .ok (.iload_n 1, 1) := by decide +kernel
theorem dX10_set_76 : decode cX10_set 76 = .ok (.invokevirtual 105, 3) := by decide +kernel
theorem dX10_set_79 : decode cX10_set 79 = .ok (.istore_n 3, 1) := by decide +kernel
theorem dX10_set_80 : decode cX10_set 80 = .ok (.aload_n 0, 1) := by decide +kernel
theorem dX10_set_81 : decode cX10_set 81 = .ok (.getfield 7, 3) := by decide +kernel
theorem dX10_set_84 : decode cX10_set 84 = .ok (.sipush 1435, 3) := by decide +kernel
theorem dX10_set_87 : decode cX10_set 87 = .ok (.iload_n 1, 1) := by decide +kernel
theorem dX10_set_88 : decode cX10_set 88 = .ok (.iadd, 1) := by decide +kernel
theorem dX10_set_89 : decode cX10_set 89 = .ok (.iload_n 2, 1) := by decide +kernel
theorem dX10_set_90 : decode cX10_set 90 = .ok (.iastore, 1) := by decide +kernel
theorem dX10_set_91 : decode cX10_set 91 = .ok (.iload_n 3, 1) := by decide +kernel
theorem dX10_set_92 : decode cX10_set 92 = .ok (.ireturn, 1) := by decide +kernel
theorem dX10_conform_0 : decode cX10_conform 0 = .ok (.iload_n 1, 1) := by decide +kernel
theorem dX10_conform_1 : decode cX10_conform 1 = .ok (.iconst 1, 1) := by decide +kernel
theorem dX10_conform_2 : decode cX10_conform 2 = .ok (.bipush 31, 2) := by decide +kernel
theorem dX10_conform_4 : decode cX10_conform 4 = .ok (.invokestatic 60, 3) := by decide +kernel
theorem dX10_conform_7 : decode cX10_conform 7 = .ok (.ifCond .ne 5, 3) := by decide +kernel
theorem dX10_conform_10 : decode cX10_conform 10 = .ok (.iconst (-1), 1) := by decide +kernel
theorem dX10_conform_11 : decode cX10_conform 11 = .ok (.ireturn, 1) := by decide +kernel
theorem dX10_conform_12 : decode cX10_conform 12 = .ok (.aload_n 0, 1) := by decide +kernel
theorem dX10_conform_13 : decode cX10_conform 13 = .ok (.iload_n 1, 1) := by decide +kernel
theorem dX10_conform_14 : decode cX10_conform 14 = .ok (.invokevirtual 202, 3) := by decide +kernel
theorem dX10_conform_17 : decode cX10_conform 17 = .ok (.ifCond .ne 6, 3) := by decide +kernel
theorem dX10_conform_20 : decode cX10_conform 20 = .ok (.bipush (-3), 2) := by decide +kernel
theorem dX10_conform_22 : decode cX10_conform 22 = .ok (.ireturn, 1) := by decide +kernel
theorem dX10_conform_23 : decode cX10_conform 23 = .ok (.aload_n 0, 1) := by decide +kernel
theorem dX10_conform_24 : decode cX10_conform 24 = .ok (.invokevirtual 68, 3) := by decide +kernel
theorem dX10_conform_27 : decode cX10_conform 27 = .ok (.aload_n 0, 1) := by decide +kernel
theorem dX10_conform_28 : decode cX10_conform 28 = .ok (.invokevirtual 184, 3) := by decide +kernel
theorem dX10_conform_31 : decode cX10_conform 31 = .ok (.aload_n 0, 1) := by decide +kernel
theorem dX10_conform_32 : decode cX10_conform 32 = .ok (.getfield 84, 3) := by decide +kernel
theorem dX10_conform_35 : decode cX10_conform 35 = .ok (.ireturn, 1) := by decide +kernel
theorem dX10_wouldBe_0 : decode cX10_wouldBe 0 = .ok (.aload_n 0, 1) := by decide +kernel
theorem dX10_wouldBe_1 : decode cX10_wouldBe 1 = .ok (.iload_n 1, 1) := by decide +kernel
theorem dX10_wouldBe_2 : decode cX10_wouldBe 2 = .ok (.invokevirtual 202, 3) := by decide +kernel
theorem dX10_wouldBe_5 : decode cX10_wouldBe 5 = .ok (.ifCond .ne 6, 3) := by decide +kernel
theorem dX10_wouldBe_8 : decode cX10_wouldBe 8 = .ok (.bipush (-3), 2) := by decide +kernel
theorem dX10_wouldBe_10 : decode cX10_wouldBe 10 = .ok (.ireturn, 1) := by decide +kernel
theorem dX10_wouldBe_11 : decode cX10_wouldBe 11 = .ok (.iconst 0, 1) := by decide +kernel
theorem dX10_wouldBe_12 : decode cX10_wouldBe 12 = .ok (.istore_n 3, 1) := by decide +kernel
theorem dX10_wouldBe_13 : decode cX10_wouldBe 13 = .ok (.iconst 0, 1) := by decide +kernel
theorem dX10_wouldBe_14 : decode cX10_wouldBe 14 = .ok (.istore 4, 2) := by decide +kernel
theorem dX10_wouldBe_16 : decode cX10_wouldBe 16 = .ok (.iconst 0, 1) := by decide +kernel
theorem dX10_wouldBe_17 : decode cX10_wouldBe 17 = .ok (.istore 5, 2) := by decide +kernel
theorem dX10_wouldBe_19 : decode cX10_wouldBe 19 = .ok (.iconst 0, 1) := by decide +kernel
theorem dX10_wouldBe_20 : decode cX10_wouldBe 20 = .ok (.istore 6, 2) := by decide +kernel
theorem dX10_wouldBe_22 : decode cX10_wouldBe 22 = .ok (.iload 6, 2) := by decide +kernel
theorem dX10_wouldBe_24 : decode cX10_wouldBe 24 = .ok (.aload_n 0, 1) := by decide +kernel
theorem dX10_wouldBe_25 : decode cX10_wouldBe 25 = .ok (.getfield 84, 3) := by decide +kernel
theorem dX10_wouldBe_28 : decode cX10_wouldBe 28 = .ok (.if_icmp .ge 72, 3) := by decide +kernel
theorem dX10_wouldBe_31 : decode cX10_wouldBe 31 = .ok (.iload_n 3, 1) := by decide +kernel
theorem dX10_wouldBe_32 : decode cX10_wouldBe 32 = .ok (.aload_n 0, 1) := by decide +kernel
theorem dX10_wouldBe_33 : decode cX10_wouldBe 33 = .ok (.getfield 19, 3) := by decide +kernel
theorem dX10_wouldBe_36 : decode cX10_wouldBe 36 = .ok (.iload 6, 2) := by decide +kernel
theorem dX10_wouldBe_38 : decode cX10_wouldBe 38 = .ok (.iaload, 1) := by decide +kernel
theorem dX10_wouldBe_39 : decode cX10_wouldBe 39 = .ok (.aload_n 0, 1) := by decide +kernel
theorem dX10_wouldBe_40 : decode cX10_wouldBe 40 = .ok (.getfield 16, 3) := by decide +kernel
theorem dX10_wouldBe_43 : decode cX10_wouldBe 43 = .ok (.iload 6, 2) := by decide +kernel
theorem dX10_wouldBe_45 : decode cX10_wouldBe 45 = .ok (.iaload, 1) := by decide +kernel
theorem dX10_wouldBe_46 : decode cX10_wouldBe 46 = .ok (.isub, 1) := by decide +kernel
theorem dX10_wouldBe_47 : decode cX10_wouldBe 47 = .ok (.iadd, 1) := by decide +kernel
theorem dX10_wouldBe_48 : decode cX10_wouldBe 48 = .ok (.istore_n 3, 1) := by decide +kernel
theorem dX10_wouldBe_49 : decode cX10_wouldBe 49 = .ok (.iload 4, 2) := by decide +kernel
theorem dX10_wouldBe_51 : decode cX10_wouldBe 51 = .ok (.aload_n 0, 1) := by decide +kernel
theorem dX10_wouldBe_52 : decode cX10_wouldBe 52 = .ok (.iload 6, 2) := by decide +kernel
theorem dX10_wouldBe_54 : decode cX10_wouldBe 54 = .ok (.invokevirtual 193, 3) := by decide +kernel
theorem dX10_wouldBe_57 : decode cX10_wouldBe 57 = .ok (.ifCond .le 7, 3) := by decide +kernel
theorem dX10_wouldBe_60 : decode cX10_wouldBe 60 = .ok (.iconst 1, 1) := by decide +kernel
theorem dX10_wouldBe_61 : decode cX10_wouldBe 61 = .ok (.goto 4, 3) := by decide +kernel
theorem dX10_wouldBe_64 : decode cX10_wouldBe 64 = .ok (.iconst 0, 1) := by decide +kernel
theorem dX10_wouldBe_65 : decode cX10_wouldBe 65 = .ok (.iadd, 1) := by decide +kernel
theorem dX10_wouldBe_66 : decode cX10_wouldBe 66 = .ok (.istore 4, 2) := by decide +kernel
theorem dX10_wouldBe_68 : decode cX10_wouldBe 68 = .ok (.aload_n 0, 1) := by decide +kernel
theorem dX10_wouldBe_69 : decode cX10_wouldBe 69 = .ok (.getfield 19, 3) := by decide +kernel
theorem dX10_wouldBe_72 : decode cX10_wouldBe 72 = .ok (.iload 6, 2) := by decide +kernel
theorem dX10_wouldBe_74 : decode cX10_wouldBe 74 = .ok (.iaload, 1) := by decide +kernel
theorem dX10_wouldBe_75 : decode cX10_wouldBe 75 = .ok (.iload 5, 2) := by decide +kernel
theorem dX10_wouldBe_77 : decode cX10_wouldBe 77 = .ok (.if_icmp .le 13, 3) := by decide +kernel
theorem dX10_wouldBe_80 : decode cX10_wouldBe 80 = .ok (.aload_n 0, 1) := by decide +kernel
theorem dX10_wouldBe_81 : decode cX10_wouldBe 81 = .ok (.getfield 19, 3) := by decide +kernel
theorem dX10_wouldBe_84 : decode cX10_wouldBe 84 = .ok (.iload 6, 2) := by decide +kernel
theorem dX10_wouldBe_86 : decode cX10_wouldBe 86 = .ok (.iaload, 1) := by decide +kernel
theorem dX10_wouldBe_87 : decode cX10_wouldBe 87 = .ok (.goto 5, 3) := by decide +kernel
theorem dX10_wouldBe_90 : decode cX10_wouldBe 90 = .ok (.iload 5, 2) := by decide +kernel
theorem dX10_wouldBe_92 : decode cX10_wouldBe 92 = .ok (.istore 5, 2) := by decide +kernel
theorem dX10_wouldBe_94 : decode cX10_wouldBe 94 = .ok (.iinc 6 1, 3) := by decide +kernel
theorem dX10_wouldBe_97 : decode cX10_wouldBe 97 = .ok (.goto (-75), 3) := by decide +kernel
theorem dX10_wouldBe_100 : decode cX10_wouldBe 100 = .ok (.iload_n 2, 1) := by decide +kernel
theorem dX10_wouldBe_101 : decode cX10_wouldBe 101 = .ok (.ifCond .ne 10, 3) := by decide +kernel
theorem dX10_wouldBe_104 : decode cX10_wouldBe 104 = .ok (.aload_n 0, 1) := by decide +kernel
theorem dX10_wouldBe_105 : decode cX10_wouldBe 105 = .ok (.getfield 84, 3) := by decide +kernel
theorem dX10_wouldBe_108 : decode cX10_wouldBe 108 = .ok (.goto 36, 3) := by decide +kernel
theorem dX10_wouldBe_111 : decode cX10_wouldBe 111 = .ok (.iload_n 2, 1) := by decide +kernel
theorem dX10_wouldBe_112 : decode cX10_wouldBe 112 = .ok (.iconst 1, 1) := by decide +kernel
theorem dX10_wouldBe_113 : decode cX10_wouldBe 113 = .ok (.if_icmp .ne 7, 3) := by decide +kernel
theorem dX10_wouldBe_116 : decode cX10_wouldBe 116 = .ok (.iload_n 3, 1) := by decide +kernel
theorem dX10_wouldBe_117 : decode cX10_wouldBe 117 = .ok (.goto 27, 3) := by decide +kernel
theorem dX10_wouldBe_120 : decode cX10_wouldBe 120 = .ok (.iload_n 2, 1) := by decide +kernel
theorem dX10_wouldBe_121 : decode cX10_wouldBe 121 = .ok (.iconst 2, 1) := by decide +kernel
theorem dX10_wouldBe_122 : decode cX10_wouldBe 122 = .ok (.if_icmp .ne 8, 3) := by decide +kernel
theorem dX10_wouldBe_125 : decode cX10_wouldBe 125 = .ok (.iload 4, 2) := by decide +kernel
theorem dX10_wouldBe_127 : decode cX10_wouldBe 127 = .ok (.goto 17, 3) := by decide +kernel
theorem dX10_wouldBe_130 : decode cX10_wouldBe 130 = .ok (.iload_n 2, 1) := by decide +kernel
theorem dX10_wouldBe_131 : decode cX10_wouldBe 131 = .ok (.iconst 3, 1) := by decide +kernel
theorem dX10_wouldBe_132 : decode cX10_wouldBe 132 = .ok (.if_icmp .ne 8, 3) := by decide +kernel
theorem dX10_wouldBe_135 : decode cX10_wouldBe 135 = .ok (.iload 5, 2) := by decide +kernel
theorem dX10_wouldBe_137 : decode cX10_wouldBe 137 = .ok (.goto 7, 3) := by decide +kernel
theorem dX10_wouldBe_140 : decode cX10_wouldBe 140 = .ok (.aload_n 0, 1) := by decide +kernel
theorem dX10_wouldBe_141 : decode cX10_wouldBe 141 = .ok (.getfield 142, 3) := by decide +kernel
theorem dX10_wouldBe_144 : decode cX10_wouldBe 144 = .ok (.ireturn, 1) := by decide +kernel
theorem dX10_ifConform_0 : decode cX10_ifConform 0 = .ok (.iload_n 1, 1) := by decide +kernel
theorem dX10_ifConform_1 : decode cX10_ifConform 1 = .ok (.iconst 1, 1) := by decide +kernel
theorem dX10_ifConform_2 : decode cX10_ifConform 2 = .ok (.bipush 31, 2) := by decide +kernel
theorem dX10_ifConform_4 : decode cX10_ifConform 4 = .ok (.invokestatic 60, 3) := by decide +kernel
theorem dX10_ifConform_7 : decode cX10_ifConform 7 = .ok (.ifCond .eq 21, 3) := by decide +kernel
theorem dX10_ifConform_10 : decode cX10_ifConform 10 = .ok (.iload_n 2, 1) := by decide +kernel
theorem dX10_ifConform_11 : decode cX10_ifConform 11 = .ok (.iconst 0, 1) := by decide +kernel
theorem dX10_ifConform_12 : decode cX10_ifConform 12 = .ok (.iconst 4, 1) := by decide +kernel
theorem dX10_ifConform_13 : decode cX10_ifConform 13 = .ok (.invokestatic 60, 3) := by decide +kernel
theorem dX10_ifConform_16 : decode cX10_ifConform 16 = .ok (.ifCond .eq 12, 3) := by decide +kernel
theorem dX10_ifConform_19 : decode cX10_ifConform 19 = .ok (.aload_n 0, 1) := by decide +kernel
theorem dX10_ifConform_20 : decode cX10_ifConform 20 = .ok (.iload_n 1, 1) := by decide +kernel
theorem dX10_ifConform_21 : decode cX10_ifConform 21 = .ok (.iload_n 2, 1) := by decide +kernel
theorem dX10_ifConform_22 : decode cX10_ifConform 22 = .ok (.invokevirtual 205, 3) := by decide +kernel
theorem dX10_ifConform_25 : decode cX10_ifConform 25 = .ok (.goto 4, 3) := by decide +kernel
theorem dX10_ifConform_28 : decode cX10_ifConform 28 = .ok (.iconst (-1), 1) := by decide +kernel
theorem dX10_ifConform_29 : decode cX10_ifConform 29 = .ok (.ireturn, 1) := by decide +kernel
theorem dX10_stretches_0 : decode cX10_stretches 0 = .ok (.aload_n 0, 1) := by decide +kernel
theorem dX10_stretches_1 : decode cX10_stretches 1 = .ok (.iload_n 1, 1) := by decide +kernel
theorem dX10_stretches_2 : decode cX10_stretches 2 = .ok (.invokevirtual 190, 3) := by decide +kernel
theorem dX10_stretches_5 : decode cX10_stretches 5 = .ok (.ifCond .ne 5, 3) := by decide +kernel
theorem dX10_stretches_8 : decode cX10_stretches 8 = .ok (.iconst (-1), 1) := by decide +kernel
theorem dX10_stretches_9 : decode cX10_stretches 9 = .ok (.ireturn, 1) := by decide +kernel
theorem dX10_stretches_10 : decode cX10_stretches 10 = .ok (.aload_n 0, 1) := by decide +kernel
theorem dX10_stretches_11 : decode cX10_stretches 11 = .ok (.aload_n 0, 1) := by decide +kernel
theorem dX10_stretches_12 : decode cX10_stretches 12 = .ok (.getfield 7, 3) := by decide +kernel
theorem dX10_stretches_15 : decode cX10_stretches 15 = .ok (.aload_n 0, 1) := by decide +kernel
theorem dX10_stretches_16 : decode cX10_stretches 16 = .ok (.iload_n 1, 1) := by decide +kernel
theorem dX10_stretches_17 : decode cX10_stretches 17 = .ok (.invokevirtual 81, 3) := by decide +kernel
theorem dX10_stretches_20 : decode cX10_stretches 20 = .ok (.iaload, 1) := by decide +kernel
theorem dX10_stretches_21 : decode cX10_stretches 21 = .ok (.aload_n 0, 1) := by decide +kernel
theorem dX10_stretches_22 : decode cX10_stretches 22 = .ok (.getfield 7, 3) := by decide +kernel
theorem dX10_stretches_25 : decode cX10_stretches 25 = .ok (.aload_n 0, 1) := by decide +kernel
theorem dX10_stretches_26 : decode cX10_stretches 26 = .ok (.iload_n 1, 1) := by decide +kernel
theorem dX10_stretches_27 : decode cX10_stretches 27 = .ok (.invokevirtual 81, 3) := by decide +kernel
theorem dX10_stretches_30 : decode cX10_stretches 30 = .ok (.iconst 1, 1) := by decide +kernel
theorem dX10_stretches_31 : decode cX10_stretches 31 = .ok (.iadd, 1) := by decide +kernel
theorem dX10_stretches_32 : decode cX10_stretches 32 = .ok (.iaload, 1) := by decide +kernel
theorem dX10_stretches_33 : decode cX10_stretches 33 = .ok (.iload_n 1, 1) := by decide +kernel
theorem dX10_stretches_34 : decode cX10_stretches 34 = .ok (.iconst 0, 1) := by decide +kernel
theorem dX10_stretches_35 : decode cX10_stretches 35 = .ok (.invokevirtual 145, 3) := by decide +kernel
theorem dX10_stretches_38 : decode cX10_stretches 38 = .ok (.pop, 1) := by decide +kernel
theorem dX10_stretches_39 : decode cX10_stretches 39 = .ok (.aload_n 0, 1) := by decide +kernel
theorem dX10_stretches_40 : decode cX10_stretches 40 = .ok (.getfield 132, 3) := by decide +kernel
theorem dX10_stretches_43 : decode cX10_stretches 43 = .ok (.ireturn, 1) := by decide +kernel
theorem dX10_shown_0 : decode cX10_shown 0 = .ok (.iload_n 1, 1) := by decide +kernel
theorem dX10_shown_1 : decode cX10_shown 1 = .ok (.iconst 0, 1) := by decide +kernel
theorem dX10_shown_2 : decode cX10_shown 2 = .ok (.sipush 9999, 3) := by decide +kernel
theorem dX10_shown_5 : decode cX10_shown 5 = .ok (.invokestatic 60, 3) := by decide +kernel
theorem dX10_shown_8 : decode cX10_shown 8 = .ok (.ifCond .ne 5, 3) := by decide +kernel
theorem dX10_shown_11 : decode cX10_shown 11 = .ok (.iconst (-1), 1) := by decide +kernel
theorem dX10_shown_12 : decode cX10_shown 12 = .ok (.ireturn, 1) := by decide +kernel
theorem dX10_shown_13 : decode cX10_shown 13 = .ok (.aload_n 0, 1) := by decide +kernel
theorem dX10_shown_14 : decode cX10_shown 14 = .ok (.invokevirtual 155, 3) := by decide +kernel
theorem dX10_shown_17 : decode cX10_shown 17 = .ok (.iconst 0, 1) := by decide +kernel
theorem dX10_shown_18 : decode cX10_shown 18 = .ok (.istore_n 2, 1) := by decide +kernel
theorem dX10_shown_19 : decode cX10_shown 19 = .ok (.iconst 0, 1) := by decide +kernel
theorem dX10_shown_20 : decode cX10_shown 20 = .ok (.istore_n 3, 1) := by decide +kernel
theorem dX10_shown_21 : decode cX10_shown 21 = .ok (.iload_n 3, 1) := by decide +kernel
theorem dX10_shown_22 : decode cX10_shown 22 = .ok (.aload_n 0, 1) := by decide +kernel
theorem dX10_shown_23 : decode cX10_shown 23 = .ok (.getfield 84, 3) := by decide +kernel
theorem dX10_shown_26 : decode cX10_shown 26 = .ok (.if_icmp .ge 39, 3) := by decide +kernel
theorem dX10_shown_29 : decode cX10_shown 29 = .ok (.iload_n 2, 1) := by decide +kernel
theorem dX10_shown_30 : decode cX10_shown 30 = .ok (.aload_n 0, 1) := by decide +kernel
theorem dX10_shown_31 : decode cX10_shown 31 = .ok (.getfield 16, 3) := by decide +kernel
theorem dX10_shown_34 : decode cX10_shown 34 = .ok (.iload_n 3, 1) := by decide +kernel
theorem dX10_shown_35 : decode cX10_shown 35 = .ok (.iaload, 1) := by decide +kernel
theorem dX10_shown_36 : decode cX10_shown 36 = .ok (.iload_n 1, 1) := by decide +kernel
theorem dX10_shown_37 : decode cX10_shown 37 = .ok (.if_icmp .gt 19, 3) := by decide +kernel
theorem dX10_shown_40 : decode cX10_shown 40 = .ok (.iload_n 1, 1) := by decide +kernel
theorem dX10_shown_41 : decode cX10_shown 41 = .ok (.aload_n 0, 1) := by decide +kernel
theorem dX10_shown_42 : decode cX10_shown 42 = .ok (.getfield 19, 3) := by decide +kernel
theorem dX10_shown_45 : decode cX10_shown 45 = .ok (.iload_n 3, 1) := by decide +kernel
theorem dX10_shown_46 : decode cX10_shown 46 = .ok (.iaload, 1) := by decide +kernel
theorem dX10_shown_47 : decode cX10_shown 47 = .ok (.if_icmp .ge 9, 3) := by decide +kernel
theorem dX10_shown_50 : decode cX10_shown 50 = .ok (.iconst 1, 1) := by decide +kernel
theorem dX10_shown_51 : decode cX10_shown 51 = .ok (.iload_n 3, 1) := by decide +kernel
theorem dX10_shown_52 : decode cX10_shown 52 = .ok (.ishl, 1) := by decide +kernel
theorem dX10_shown_53 : decode cX10_shown 53 = .ok (.goto 4, 3) := by decide +kernel
theorem dX10_shown_56 : decode cX10_shown 56 = .ok (.iconst 0, 1) := by decide +kernel
theorem dX10_shown_57 : decode cX10_shown 57 = .ok (.ior, 1) := by decide +kernel
theorem dX10_shown_58 : decode cX10_shown 58 = .ok (.istore_n 2, 1) := by decide +kernel
theorem dX10_shown_59 : decode cX10_shown 59 = .ok (.iinc 3 1, 3) := by decide +kernel
theorem dX10_shown_62 : decode cX10_shown 62 = .ok (.goto (-41), 3) := by decide +kernel
theorem dX10_shown_65 : decode cX10_shown 65 = .ok (.iload_n 2, 1) := by decide +kernel
theorem dX10_shown_66 : decode cX10_shown 66 = .ok (.ireturn, 1) := by decide +kernel
theorem dX10_faultsMany_0 : decode cX10_faultsMany 0 = .ok (.aload_n 0, 1) := by decide +kernel
theorem dX10_faultsMany_1 : decode cX10_faultsMany 1 = .ok (.invokevirtual 155, 3) := by decide +kernel
theorem dX10_faultsMany_4 : decode cX10_faultsMany 4 = .ok (.iconst 0, 1) := by decide +kernel
theorem dX10_faultsMany_5 : decode cX10_faultsMany 5 = .ok (.istore_n 2, 1) := by decide +kernel
theorem dX10_faultsMany_6 : decode cX10_faultsMany 6 = .ok (.iconst 0, 1) := by decide +kernel
theorem dX10_faultsMany_7 : decode cX10_faultsMany 7 = .ok (.istore_n 3, 1) := by decide +kernel
theorem dX10_faultsMany_8 : decode cX10_faultsMany 8 = .ok (.iload_n 3, 1) := by decide +kernel
theorem dX10_faultsMany_9 : decode cX10_faultsMany 9 = .ok (.aload_n 0, 1) := by decide +kernel
theorem dX10_faultsMany_10 : decode cX10_faultsMany 10 = .ok (.getfield 84, 3) := by decide +kernel
theorem dX10_faultsMany_13 : decode cX10_faultsMany 13 = .ok (.if_icmp .ge 48, 3) := by decide +kernel
theorem dX10_faultsMany_16 : decode cX10_faultsMany 16 = .ok (.aload_n 0, 1) := by decide +kernel
theorem dX10_faultsMany_17 : decode cX10_faultsMany 17 = .ok (.iload_n 3, 1) := by decide +kernel
theorem dX10_faultsMany_18 : decode cX10_faultsMany 18 = .ok (.invokevirtual 193, 3) := by decide +kernel
theorem dX10_faultsMany_21 : decode cX10_faultsMany 21 = .ok (.istore 4, 2) := by decide +kernel
theorem dX10_faultsMany_23 : decode cX10_faultsMany 23 = .ok (.iload_n 2, 1) := by decide +kernel
theorem dX10_faultsMany_24 : decode cX10_faultsMany 24 = .ok (.iload_n 1, 1) := by decide +kernel
theorem dX10_faultsMany_25 : decode cX10_faultsMany 25 = .ok (.ifCond .ne 16, 3) := by decide +kernel
theorem dX10_faultsMany_28 : decode cX10_faultsMany 28 = .ok (.iload 4, 2) := by decide +kernel
theorem dX10_faultsMany_30 : decode cX10_faultsMany 30 = .ok (.ifCond .le 7, 3) := by decide +kernel
theorem dX10_faultsMany_33 : decode cX10_faultsMany 33 = .ok (.iconst 1, 1) := by decide +kernel
theorem dX10_faultsMany_34 : decode cX10_faultsMany 34 = .ok (.goto 19, 3) := by decide +kernel
theorem dX10_faultsMany_37 : decode cX10_faultsMany 37 = .ok (.iconst 0, 1) := by decide +kernel
theorem dX10_faultsMany_38 : decode cX10_faultsMany 38 = .ok (.goto 15, 3) := by decide +kernel
theorem dX10_faultsMany_41 : decode cX10_faultsMany 41 = .ok (.iload 4, 2) := by decide +kernel
theorem dX10_faultsMany_43 : decode cX10_faultsMany 43 = .ok (.iload_n 1, 1) := by decide +kernel
theorem dX10_faultsMany_44 : decode cX10_faultsMany 44 = .ok (.iand, 1) := by decide +kernel
theorem dX10_faultsMany_45 : decode cX10_faultsMany 45 = .ok (.ifCond .le 7, 3) := by decide +kernel
theorem dX10_faultsMany_48 : decode cX10_faultsMany 48 = .ok (.iconst 1, 1) := by decide +kernel
theorem dX10_faultsMany_49 : decode cX10_faultsMany 49 = .ok (.goto 4, 3) := by decide +kernel
theorem dX10_faultsMany_52 : decode cX10_faultsMany 52 = .ok (.iconst 0, 1) := by decide +kernel
theorem dX10_faultsMany_53 : decode cX10_faultsMany 53 = .ok (.iadd, 1) := by decide +kernel
theorem dX10_faultsMany_54 : decode cX10_faultsMany 54 = .ok (.istore_n 2, 1) := by decide +kernel
theorem dX10_faultsMany_55 : decode cX10_faultsMany 55 = .ok (.iinc 3 1, 3) := by decide +kernel
theorem dX10_faultsMany_58 : decode cX10_faultsMany 58 = .ok (.goto (-50), 3) := by decide +kernel
theorem dX10_faultsMany_61 : decode cX10_faultsMany 61 = .ok (.iload_n 2, 1) := by decide +kernel
theorem dX10_faultsMany_62 : decode cX10_faultsMany 62 = .ok (.ireturn, 1) := by decide +kernel
theorem dX10_faults_0 : decode cX10_faults 0 = .ok (.iload_n 1, 1) := by decide +kernel
theorem dX10_faults_1 : decode cX10_faults 1 = .ok (.iconst 0, 1) := by decide +kernel
theorem dX10_faults_2 : decode cX10_faults 2 = .ok (.bipush 32, 2) := by decide +kernel
theorem dX10_faults_4 : decode cX10_faults 4 = .ok (.invokestatic 60, 3) := by decide +kernel
theorem dX10_faults_7 : decode cX10_faults 7 = .ok (.ifCond .eq 19, 3) := by decide +kernel
theorem dX10_faults_10 : decode cX10_faults 10 = .ok (.iload_n 1, 1) := by decide +kernel
theorem dX10_faults_11 : decode cX10_faults 11 = .ok (.iload_n 1, 1) := by decide +kernel
theorem dX10_faults_12 : decode cX10_faults 12 = .ok (.iconst 1, 1) := by decide +kernel
theorem dX10_faults_13 : decode cX10_faults 13 = .ok (.isub, 1) := by decide +kernel
theorem dX10_faults_14 : decode cX10_faults 14 = .ok (.iand, 1) := by decide +kernel
theorem dX10_faults_15 : decode cX10_faults 15 = .ok (.ifCond .ne 11, 3) := by decide +kernel
theorem dX10_faults_18 : decode cX10_faults 18 = .ok (.aload_n 0, 1) := by decide +kernel
theorem dX10_faults_19 : decode cX10_faults 19 = .ok (.iload_n 1, 1) := by decide +kernel
theorem dX10_faults_20 : decode cX10_faults 20 = .ok (.invokevirtual 208, 3) := by decide +kernel
theorem dX10_faults_23 : decode cX10_faults 23 = .ok (.goto 4, 3) := by decide +kernel
theorem dX10_faults_26 : decode cX10_faults 26 = .ok (.iconst (-1), 1) := by decide +kernel
theorem dX10_faults_27 : decode cX10_faults 27 = .ok (.ireturn, 1) := by decide +kernel
theorem dX10_doubles_0 : decode cX10_doubles 0 = .ok (.iconst 0, 1) := by decide +kernel
theorem dX10_doubles_1 : decode cX10_doubles 1 = .ok (.istore_n 1, 1) := by decide +kernel
theorem dX10_doubles_2 : decode cX10_doubles 2 = .ok (.iconst 0, 1) := by decide +kernel
theorem dX10_doubles_3 : decode cX10_doubles 3 = .ok (.istore_n 2, 1) := by decide +kernel
theorem dX10_doubles_4 : decode cX10_doubles 4 = .ok (.iload_n 2, 1) := by decide +kernel
theorem dX10_doubles_5 : decode cX10_doubles 5 = .ok (.aload_n 0, 1) := by decide +kernel
theorem dX10_doubles_6 : decode cX10_doubles 6 = .ok (.getfield 7, 3) := by decide +kernel
theorem dX10_doubles_9 : decode cX10_doubles 9 = .ok (.bipush 42, 2) := by decide +kernel
theorem dX10_doubles_11 : decode cX10_doubles 11 = .ok (.iaload, 1) := by decide +kernel
theorem dX10_doubles_12 : decode cX10_doubles 12 = .ok (.if_icmp .ge 33, 3) := by decide +kernel
theorem dX10_doubles_15 : decode cX10_doubles 15 = .ok (.iload_n 1, 1) := by decide +kernel
theorem dX10_doubles_16 : decode cX10_doubles 16 = .ok (.aload_n 0, 1) := by decide +kernel
theorem dX10_doubles_17 : decode cX10_doubles 17 = .ok (.getfield 7, 3) := by decide +kernel
theorem dX10_doubles_20 : decode cX10_doubles 20 = .ok (.aload_n 0, 1) := by decide +kernel
theorem dX10_doubles_21 : decode cX10_doubles 21 = .ok (.iload_n 2, 1) := by decide +kernel
theorem dX10_doubles_22 : decode cX10_doubles 22 = .ok (.invokevirtual 81, 3) := by decide +kernel
theorem dX10_doubles_25 : decode cX10_doubles 25 = .ok (.iconst 2, 1) := by decide +kernel
theorem dX10_doubles_26 : decode cX10_doubles 26 = .ok (.iadd, 1) := by decide +kernel
theorem dX10_doubles_27 : decode cX10_doubles 27 = .ok (.iaload, 1) := by decide +kernel
theorem dX10_doubles_28 : decode cX10_doubles 28 = .ok (.iconst 2, 1) := by decide +kernel
theorem dX10_doubles_29 : decode cX10_doubles 29 = .ok (.if_icmp .ne 7, 3) := by decide +kernel
theorem dX10_doubles_32 : decode cX10_doubles 32 = .ok (.iconst 1, 1) := by decide +kernel
theorem dX10_doubles_33 : decode cX10_doubles 33 = .ok (.goto 4, 3) := by decide +kernel
theorem dX10_doubles_36 : decode cX10_doubles 36 = .ok (.iconst 0, 1) := by decide +kernel
theorem dX10_doubles_37 : decode cX10_doubles 37 = .ok (.iadd, 1) := by decide +kernel
theorem dX10_doubles_38 : decode cX10_doubles 38 = .ok (.istore_n 1, 1) := by decide +kernel
theorem dX10_doubles_39 : decode cX10_doubles 39 = .ok (.iinc 2 1, 3) := by decide +kernel
theorem dX10_doubles_42 : decode cX10_doubles 42 = .ok (.goto (-38), 3) := by decide +kernel
theorem dX10_doubles_45 : decode cX10_doubles 45 = .ok (.iload_n 1, 1) := by decide +kernel
theorem dX10_doubles_46 : decode cX10_doubles 46 = .ok (.ireturn, 1) := by decide +kernel
theorem dX10_told_0 : decode cX10_told 0 = .ok (.iload_n 1, 1) := by decide +kernel
theorem dX10_told_1 : decode cX10_told 1 = .ok (.tableswitch 86 5 11 #[43, 50, 55, 63, 71, 76, 81], 43) := by decide +kernel
theorem dX10_told_44 : decode cX10_told 44 = .ok (.aload_n 0, 1) := by decide +kernel
theorem dX10_told_45 : decode cX10_told 45 = .ok (.getfield 7, 3) := by decide +kernel
theorem dX10_told_48 : decode cX10_told 48 = .ok (.iconst 0, 1) := by decide +kernel
theorem dX10_told_49 : decode cX10_told 49 = .ok (.iaload, 1) := by decide +kernel
theorem dX10_told_50 : decode cX10_told 50 = .ok (.ireturn, 1) := by decide +kernel
theorem dX10_told_51 : decode cX10_told 51 = .ok (.aload_n 0, 1) := by decide +kernel
theorem dX10_told_52 : decode cX10_told 52 = .ok (.invokevirtual 64, 3) := by decide +kernel
theorem dX10_told_55 : decode cX10_told 55 = .ok (.ireturn, 1) := by decide +kernel
theorem dX10_told_56 : decode cX10_told 56 = .ok (.aload_n 0, 1) := by decide +kernel
theorem dX10_told_57 : decode cX10_told 57 = .ok (.getfield 7, 3) := by decide +kernel
theorem dX10_told_60 : decode cX10_told 60 = .ok (.bipush 21, 2) := by decide +kernel
theorem dX10_told_62 : decode cX10_told 62 = .ok (.iaload, 1) := by decide +kernel
theorem dX10_told_63 : decode cX10_told 63 = .ok (.ireturn, 1) := by decide +kernel
theorem dX10_told_64 : decode cX10_told 64 = .ok (.aload_n 0, 1) := by decide +kernel
theorem dX10_told_65 : decode cX10_told 65 = .ok (.getfield 7, 3) := by decide +kernel
theorem dX10_told_68 : decode cX10_told 68 = .ok (.bipush 42, 2) := by decide +kernel
theorem dX10_told_70 : decode cX10_told 70 = .ok (.iaload, 1) := by decide +kernel
theorem dX10_told_71 : decode cX10_told 71 = .ok (.ireturn, 1) := by decide +kernel
theorem dX10_told_72 : decode cX10_told 72 = .ok (.aload_n 0, 1) := by decide +kernel
theorem dX10_told_73 : decode cX10_told 73 = .ok (.invokevirtual 211, 3) := by decide +kernel
theorem dX10_told_76 : decode cX10_told 76 = .ok (.ireturn, 1) := by decide +kernel
theorem dX10_told_77 : decode cX10_told 77 = .ok (.aload_n 0, 1) := by decide +kernel
theorem dX10_told_78 : decode cX10_told 78 = .ok (.getfield 174, 3) := by decide +kernel
theorem dX10_told_81 : decode cX10_told 81 = .ok (.ireturn, 1) := by decide +kernel
theorem dX10_told_82 : decode cX10_told 82 = .ok (.aload_n 0, 1) := by decide +kernel
theorem dX10_told_83 : decode cX10_told 83 = .ok (.getfield 49, 3) := by decide +kernel
theorem dX10_told_86 : decode cX10_told 86 = .ok (.ireturn, 1) := by decide +kernel
theorem dX10_told_87 : decode cX10_told 87 = .ok (.iload_n 1, 1) := by decide +kernel
theorem dX10_told_88 : decode cX10_told 88 = .ok (.iconst 0, 1) := by decide +kernel
theorem dX10_told_89 : decode cX10_told 89 = .ok (.iconst 4, 1) := by decide +kernel
theorem dX10_told_90 : decode cX10_told 90 = .ok (.invokestatic 60, 3) := by decide +kernel
theorem dX10_told_93 : decode cX10_told 93 = .ok (.ifCond .eq 11, 3) := by decide +kernel
theorem dX10_told_96 : decode cX10_told 96 = .ok (.aload_n 0, 1) := by decide +kernel
theorem dX10_told_97 : decode cX10_told 97 = .ok (.iload_n 1, 1) := by decide +kernel
theorem dX10_told_98 : decode cX10_told 98 = .ok (.invokevirtual 105, 3) := by decide +kernel
theorem dX10_told_101 : decode cX10_told 101 = .ok (.goto 4, 3) := by decide +kernel
theorem dX10_told_104 : decode cX10_told 104 = .ok (.iconst (-1), 1) := by decide +kernel
theorem dX10_told_105 : decode cX10_told 105 = .ok (.ireturn, 1) := by decide +kernel
theorem dX10_undo_0 : decode cX10_undo 0 = .ok (.aload_n 0, 1) := by decide +kernel
theorem dX10_undo_1 : decode cX10_undo 1 = .ok (.getfield 49, 3) := by decide +kernel
theorem dX10_undo_4 : decode cX10_undo 4 = .ok (.ifCond .ne 6, 3) := by decide +kernel
theorem dX10_undo_7 : decode cX10_undo 7 = .ok (.bipush (-2), 2) := by decide +kernel
theorem dX10_undo_9 : decode cX10_undo 9 = .ok (.ireturn, 1) := by decide +kernel
theorem dX10_undo_10 : decode cX10_undo 10 = .ok (.iconst 0, 1) := by decide +kernel
theorem dX10_undo_11 : decode cX10_undo 11 = .ok (.istore_n 1, 1) := by decide +kernel
theorem dX10_undo_12 : decode cX10_undo 12 = .ok (.iload_n 1, 1) := by decide +kernel
theorem dX10_undo_13 : decode cX10_undo 13 = .ok (.sipush 1440, 3) := by decide +kernel
theorem dX10_undo_16 : decode cX10_undo 16 = .ok (.if_icmp .ge 30, 3) := by decide +kernel
theorem dX10_undo_19 : decode cX10_undo 19 = .ok (.aload_n 0, 1) := by decide +kernel
theorem dX10_undo_20 : decode cX10_undo 20 = .ok (.getfield 7, 3) := by decide +kernel
theorem dX10_undo_23 : decode cX10_undo 23 = .ok (.iload_n 1, 1) := by decide +kernel
theorem dX10_undo_24 : decode cX10_undo 24 = .ok (.aload_n 0, 1) := by decide +kernel
theorem dX10_undo_25 : decode cX10_undo 25 = .ok (.getfield 7, 3) := by decide +kernel
theorem dX10_undo_28 : decode cX10_undo 28 = .ok (.sipush 1440, 3) := by decide +kernel
theorem dX10_undo_31 : decode cX10_undo 31 = .ok (.aload_n 0, 1) := by decide +kernel
theorem dX10_undo_32 : decode cX10_undo 32 = .ok (.getfield 49, 3) := by decide +kernel
theorem dX10_undo_35 : decode cX10_undo 35 = .ok (.imul, 1) := by decide +kernel
theorem dX10_undo_36 : decode cX10_undo 36 = .ok (.iload_n 1, 1) := by decide +kernel
theorem dX10_undo_37 : decode cX10_undo 37 = .ok (.iadd, 1) := by decide +kernel
theorem dX10_undo_38 : decode cX10_undo 38 = .ok (.iaload, 1) := by decide +kernel
theorem dX10_undo_39 : decode cX10_undo 39 = .ok (.iastore, 1) := by decide +kernel
theorem dX10_undo_40 : decode cX10_undo 40 = .ok (.iinc 1 1, 3) := by decide +kernel
theorem dX10_undo_43 : decode cX10_undo 43 = .ok (.goto (-31), 3) := by decide +kernel
theorem dX10_undo_46 : decode cX10_undo 46 = .ok (.aload_n 0, 1) := by decide +kernel
theorem dX10_undo_47 : decode cX10_undo 47 = .ok (.dup, 1) := by decide +kernel
theorem dX10_undo_48 : decode cX10_undo 48 = .ok (.getfield 49, 3) := by decide +kernel
theorem dX10_undo_51 : decode cX10_undo 51 = .ok (.iconst 1, 1) := by decide +kernel
theorem dX10_undo_52 : decode cX10_undo 52 = .ok (.isub, 1) := by decide +kernel
theorem dX10_undo_53 : decode cX10_undo 53 = .ok (.putfield 49, 3) := by decide +kernel
theorem dX10_undo_56 : decode cX10_undo 56 = .ok (.aload_n 0, 1) := by decide +kernel
theorem dX10_undo_57 : decode cX10_undo 57 = .ok (.getfield 49, 3) := by decide +kernel
theorem dX10_undo_60 : decode cX10_undo 60 = .ok (.ireturn, 1) := by decide +kernel
theorem dX10_mixedSubtitle_0 : decode cX10_mixedSubtitle 0 = .ok (.lload_n 1, 1) := by decide +kernel
theorem dX10_mixedSubtitle_1 : decode cX10_mixedSubtitle 1 = .ok (.lstore 4, 2) := by decide +kernel
theorem dX10_mixedSubtitle_3 : decode cX10_mixedSubtitle 3 = .ok (.iconst 0, 1) := by decide +kernel
theorem dX10_mixedSubtitle_4 : decode cX10_mixedSubtitle 4 = .ok (.istore 6, 2) := by decide +kernel
theorem dX10_mixedSubtitle_6 : decode cX10_mixedSubtitle 6 = .ok (.iload 6, 2) := by decide +kernel
theorem dX10_mixedSubtitle_8 : decode cX10_mixedSubtitle 8 = .ok (.bipush 6, 2) := by decide +kernel
theorem dX10_mixedSubtitle_10 : decode cX10_mixedSubtitle 10 = .ok (.if_icmp .gt 26, 3) := by decide +kernel
theorem dX10_mixedSubtitle_13 : decode cX10_mixedSubtitle 13 = .ok (.ldc2_w 214, 3) := by decide +kernel
theorem dX10_mixedSubtitle_16 : decode cX10_mixedSubtitle 16 = .ok (.lload 4, 2) := by decide +kernel
theorem dX10_mixedSubtitle_18 : decode cX10_mixedSubtitle 18 = .ok (.lmul, 1) := by decide +kernel
theorem dX10_mixedSubtitle_19 : decode cX10_mixedSubtitle 19 = .ok (.aload_n 0, 1) := by decide +kernel
theorem dX10_mixedSubtitle_20 : decode cX10_mixedSubtitle 20 = .ok (.iload_n 3, 1) := by decide +kernel
theorem dX10_mixedSubtitle_21 : decode cX10_mixedSubtitle 21 = .ok (.iload 6, 2) := by decide +kernel
theorem dX10_mixedSubtitle_23 : decode cX10_mixedSubtitle 23 = .ok (.invokevirtual 216, 3) := by decide +kernel
theorem dX10_mixedSubtitle_26 : decode cX10_mixedSubtitle 26 = .ok (.i2l, 1) := by decide +kernel
theorem dX10_mixedSubtitle_27 : decode cX10_mixedSubtitle 27 = .ok (.ladd, 1) := by decide +kernel
theorem dX10_mixedSubtitle_28 : decode cX10_mixedSubtitle 28 = .ok (.lstore 4, 2) := by decide +kernel
theorem dX10_mixedSubtitle_30 : decode cX10_mixedSubtitle 30 = .ok (.iinc 6 1, 3) := by decide +kernel
theorem dX10_mixedSubtitle_33 : decode cX10_mixedSubtitle 33 = .ok (.goto (-27), 3) := by decide +kernel
theorem dX10_mixedSubtitle_36 : decode cX10_mixedSubtitle 36 = .ok (.ldc2_w 214, 3) := by decide +kernel
theorem dX10_mixedSubtitle_39 : decode cX10_mixedSubtitle 39 = .ok (.lload 4, 2) := by decide +kernel
theorem dX10_mixedSubtitle_41 : decode cX10_mixedSubtitle 41 = .ok (.lmul, 1) := by decide +kernel
theorem dX10_mixedSubtitle_42 : decode cX10_mixedSubtitle 42 = .ok (.aload_n 0, 1) := by decide +kernel
theorem dX10_mixedSubtitle_43 : decode cX10_mixedSubtitle 43 = .ok (.iload_n 3, 1) := by decide +kernel
theorem dX10_mixedSubtitle_44 : decode cX10_mixedSubtitle 44 = .ok (.invokevirtual 219, 3) := by decide +kernel
theorem dX10_mixedSubtitle_47 : decode cX10_mixedSubtitle 47 = .ok (.i2l, 1) := by decide +kernel
theorem dX10_mixedSubtitle_48 : decode cX10_mixedSubtitle 48 = .ok (.ladd, 1) := by decide +kernel
theorem dX10_mixedSubtitle_49 : decode cX10_mixedSubtitle 49 = .ok (.lstore 4, 2) := by decide +kernel
theorem dX10_mixedSubtitle_51 : decode cX10_mixedSubtitle 51 = .ok (.iconst 0, 1) := by decide +kernel
theorem dX10_mixedSubtitle_52 : decode cX10_mixedSubtitle 52 = .ok (.istore 6, 2) := by decide +kernel
theorem dX10_mixedSubtitle_54 : decode cX10_mixedSubtitle 54 = .ok (.iload 6, 2) := by decide +kernel
theorem dX10_mixedSubtitle_56 : decode cX10_mixedSubtitle 56 = .ok (.aload_n 0, 1) := by decide +kernel
theorem dX10_mixedSubtitle_57 : decode cX10_mixedSubtitle 57 = .ok (.getfield 7, 3) := by decide +kernel
theorem dX10_mixedSubtitle_60 : decode cX10_mixedSubtitle 60 = .ok (.aload_n 0, 1) := by decide +kernel
theorem dX10_mixedSubtitle_61 : decode cX10_mixedSubtitle 61 = .ok (.iload_n 3, 1) := by decide +kernel
theorem dX10_mixedSubtitle_62 : decode cX10_mixedSubtitle 62 = .ok (.invokevirtual 81, 3) := by decide +kernel
theorem dX10_mixedSubtitle_65 : decode cX10_mixedSubtitle 65 = .ok (.iconst 2, 1) := by decide +kernel
theorem dX10_mixedSubtitle_66 : decode cX10_mixedSubtitle 66 = .ok (.iadd, 1) := by decide +kernel
theorem dX10_mixedSubtitle_67 : decode cX10_mixedSubtitle 67 = .ok (.iaload, 1) := by decide +kernel
theorem dX10_mixedSubtitle_68 : decode cX10_mixedSubtitle 68 = .ok (.if_icmp .ge 92, 3) := by decide +kernel
theorem dX10_mixedSubtitle_71 : decode cX10_mixedSubtitle 71 = .ok (.iconst 0, 1) := by decide +kernel
theorem dX10_mixedSubtitle_72 : decode cX10_mixedSubtitle 72 = .ok (.istore 7, 2) := by decide +kernel
theorem dX10_mixedSubtitle_74 : decode cX10_mixedSubtitle 74 = .ok (.iload 7, 2) := by decide +kernel
theorem dX10_mixedSubtitle_76 : decode cX10_mixedSubtitle 76 = .ok (.iconst 3, 1) := by decide +kernel
theorem dX10_mixedSubtitle_77 : decode cX10_mixedSubtitle 77 = .ok (.if_icmp .gt 31, 3) := by decide +kernel
theorem dX10_mixedSubtitle_80 : decode cX10_mixedSubtitle 80 = .ok (.ldc2_w 214, 3) := by decide +kernel
theorem dX10_mixedSubtitle_83 : decode cX10_mixedSubtitle 83 = .ok (.lload 4, 2) := by decide +kernel
theorem dX10_mixedSubtitle_85 : decode cX10_mixedSubtitle 85 = .ok (.lmul, 1) := by decide +kernel
theorem dX10_mixedSubtitle_86 : decode cX10_mixedSubtitle 86 = .ok (.aload_n 0, 1) := by decide +kernel
theorem dX10_mixedSubtitle_87 : decode cX10_mixedSubtitle 87 = .ok (.iconst 2, 1) := by decide +kernel
theorem dX10_mixedSubtitle_88 : decode cX10_mixedSubtitle 88 = .ok (.iload_n 3, 1) := by decide +kernel
theorem dX10_mixedSubtitle_89 : decode cX10_mixedSubtitle 89 = .ok (.imul, 1) := by decide +kernel
theorem dX10_mixedSubtitle_90 : decode cX10_mixedSubtitle 90 = .ok (.iload 6, 2) := by decide +kernel
theorem dX10_mixedSubtitle_92 : decode cX10_mixedSubtitle 92 = .ok (.iadd, 1) := by decide +kernel
theorem dX10_mixedSubtitle_93 : decode cX10_mixedSubtitle 93 = .ok (.iload 7, 2) := by decide +kernel
theorem dX10_mixedSubtitle_95 : decode cX10_mixedSubtitle 95 = .ok (.invokevirtual 199, 3) := by decide +kernel
theorem dX10_mixedSubtitle_98 : decode cX10_mixedSubtitle 98 = .ok (.i2l, 1) := by decide +kernel
theorem dX10_mixedSubtitle_99 : decode cX10_mixedSubtitle 99 = .ok (.ladd, 1) := by decide +kernel
theorem dX10_mixedSubtitle_100 : decode cX10_mixedSubtitle 100 = .ok (.lstore 4, 2) := by decide +kernel
theorem dX10_mixedSubtitle_102 : decode cX10_mixedSubtitle 102 = .ok (.iinc 7 1, 3) := by decide +kernel
theorem dX10_mixedSubtitle_105 : decode cX10_mixedSubtitle 105 = .ok (.goto (-31), 3) := by decide +kernel
theorem dX10_mixedSubtitle_108 : decode cX10_mixedSubtitle 108 = .ok (.iconst 0, 1) := by decide +kernel
theorem dX10_mixedSubtitle_109 : decode cX10_mixedSubtitle 109 = .ok (.istore 7, 2) := by decide +kernel
theorem dX10_mixedSubtitle_111 : decode cX10_mixedSubtitle 111 = .ok (.iload 7, 2) := by decide +kernel
theorem dX10_mixedSubtitle_113 : decode cX10_mixedSubtitle 113 = .ok (.aload_n 0, 1) := by decide +kernel
theorem dX10_mixedSubtitle_114 : decode cX10_mixedSubtitle 114 = .ok (.iconst 2, 1) := by decide +kernel
theorem dX10_mixedSubtitle_115 : decode cX10_mixedSubtitle 115 = .ok (.iload_n 3, 1) := by decide +kernel
theorem dX10_mixedSubtitle_116 : decode cX10_mixedSubtitle 116 = .ok (.imul, 1) := by decide +kernel
theorem dX10_mixedSubtitle_117 : decode cX10_mixedSubtitle 117 = .ok (.iload 6, 2) := by decide +kernel
theorem dX10_mixedSubtitle_119 : decode cX10_mixedSubtitle 119 = .ok (.iadd, 1) := by decide +kernel
theorem dX10_mixedSubtitle_120 : decode cX10_mixedSubtitle 120 = .ok (.invokevirtual 94, 3) := by decide +kernel
theorem dX10_mixedSubtitle_123 : decode cX10_mixedSubtitle 123 = .ok (.if_icmp .ge 31, 3) := by decide +kernel
theorem dX10_mixedSubtitle_126 : decode cX10_mixedSubtitle 126 = .ok (.ldc2_w 214, 3) := by decide +kernel
theorem dX10_mixedSubtitle_129 : decode cX10_mixedSubtitle 129 = .ok (.lload 4, 2) := by decide +kernel
theorem dX10_mixedSubtitle_131 : decode cX10_mixedSubtitle 131 = .ok (.lmul, 1) := by decide +kernel
theorem dX10_mixedSubtitle_132 : decode cX10_mixedSubtitle 132 = .ok (.aload_n 0, 1) := by decide +kernel
theorem dX10_mixedSubtitle_133 : decode cX10_mixedSubtitle 133 = .ok (.iconst 2, 1) := by decide +kernel
theorem dX10_mixedSubtitle_134 : decode cX10_mixedSubtitle 134 = .ok (.iload_n 3, 1) := by decide +kernel
theorem dX10_mixedSubtitle_135 : decode cX10_mixedSubtitle 135 = .ok (.imul, 1) := by decide +kernel
theorem dX10_mixedSubtitle_136 : decode cX10_mixedSubtitle 136 = .ok (.iload 6, 2) := by decide +kernel
theorem dX10_mixedSubtitle_138 : decode cX10_mixedSubtitle 138 = .ok (.iadd, 1) := by decide +kernel
theorem dX10_mixedSubtitle_139 : decode cX10_mixedSubtitle 139 = .ok (.iload 7, 2) := by decide +kernel
theorem dX10_mixedSubtitle_141 : decode cX10_mixedSubtitle 141 = .ok (.invokevirtual 97, 3) := by decide +kernel
theorem dX10_mixedSubtitle_144 : decode cX10_mixedSubtitle 144 = .ok (.i2l, 1) := by decide +kernel
theorem dX10_mixedSubtitle_145 : decode cX10_mixedSubtitle 145 = .ok (.ladd, 1) := by decide +kernel
theorem dX10_mixedSubtitle_146 : decode cX10_mixedSubtitle 146 = .ok (.lstore 4, 2) := by decide +kernel
theorem dX10_mixedSubtitle_148 : decode cX10_mixedSubtitle 148 = .ok (.iinc 7 1, 3) := by decide +kernel
theorem dX10_mixedSubtitle_151 : decode cX10_mixedSubtitle 151 = .ok (.goto (-40), 3) := by decide +kernel
theorem dX10_mixedSubtitle_154 : decode cX10_mixedSubtitle 154 = .ok (.iinc 6 1, 3) := by decide +kernel
theorem dX10_mixedSubtitle_157 : decode cX10_mixedSubtitle 157 = .ok (.goto (-103), 3) := by decide +kernel
theorem dX10_mixedSubtitle_160 : decode cX10_mixedSubtitle 160 = .ok (.lload 4, 2) := by decide +kernel
theorem dX10_mixedSubtitle_162 : decode cX10_mixedSubtitle 162 = .ok (.lreturn, 1) := by decide +kernel
theorem dX10_digest_0 : decode cX10_digest 0 = .ok (.ldc2_w 222, 3) := by decide +kernel
theorem dX10_digest_3 : decode cX10_digest 3 = .ok (.lstore_n 1, 1) := by decide +kernel
theorem dX10_digest_4 : decode cX10_digest 4 = .ok (.iconst 0, 1) := by decide +kernel
theorem dX10_digest_5 : decode cX10_digest 5 = .ok (.istore_n 3, 1) := by decide +kernel
theorem dX10_digest_6 : decode cX10_digest 6 = .ok (.iload_n 3, 1) := by decide +kernel
theorem dX10_digest_7 : decode cX10_digest 7 = .ok (.bipush 11, 2) := by decide +kernel
theorem dX10_digest_9 : decode cX10_digest 9 = .ok (.if_icmp .gt 22, 3) := by decide +kernel
theorem dX10_digest_12 : decode cX10_digest 12 = .ok (.ldc2_w 214, 3) := by decide +kernel
theorem dX10_digest_15 : decode cX10_digest 15 = .ok (.lload_n 1, 1) := by decide +kernel
theorem dX10_digest_16 : decode cX10_digest 16 = .ok (.lmul, 1) := by decide +kernel
theorem dX10_digest_17 : decode cX10_digest 17 = .ok (.aload_n 0, 1) := by decide +kernel
theorem dX10_digest_18 : decode cX10_digest 18 = .ok (.iload_n 3, 1) := by decide +kernel
theorem dX10_digest_19 : decode cX10_digest 19 = .ok (.invokevirtual 224, 3) := by decide +kernel
theorem dX10_digest_22 : decode cX10_digest 22 = .ok (.i2l, 1) := by decide +kernel
theorem dX10_digest_23 : decode cX10_digest 23 = .ok (.ladd, 1) := by decide +kernel
theorem dX10_digest_24 : decode cX10_digest 24 = .ok (.lstore_n 1, 1) := by decide +kernel
theorem dX10_digest_25 : decode cX10_digest 25 = .ok (.iinc 3 1, 3) := by decide +kernel
theorem dX10_digest_28 : decode cX10_digest 28 = .ok (.goto (-22), 3) := by decide +kernel
theorem dX10_digest_31 : decode cX10_digest 31 = .ok (.iconst 0, 1) := by decide +kernel
theorem dX10_digest_32 : decode cX10_digest 32 = .ok (.istore_n 3, 1) := by decide +kernel
theorem dX10_digest_33 : decode cX10_digest 33 = .ok (.iload_n 3, 1) := by decide +kernel
theorem dX10_digest_34 : decode cX10_digest 34 = .ok (.aload_n 0, 1) := by decide +kernel
theorem dX10_digest_35 : decode cX10_digest 35 = .ok (.getfield 7, 3) := by decide +kernel
theorem dX10_digest_38 : decode cX10_digest 38 = .ok (.iconst 0, 1) := by decide +kernel
theorem dX10_digest_39 : decode cX10_digest 39 = .ok (.iaload, 1) := by decide +kernel
theorem dX10_digest_40 : decode cX10_digest 40 = .ok (.if_icmp .ge 39, 3) := by decide +kernel
theorem dX10_digest_43 : decode cX10_digest 43 = .ok (.iconst 0, 1) := by decide +kernel
theorem dX10_digest_44 : decode cX10_digest 44 = .ok (.istore 4, 2) := by decide +kernel
theorem dX10_digest_46 : decode cX10_digest 46 = .ok (.iload 4, 2) := by decide +kernel
theorem dX10_digest_48 : decode cX10_digest 48 = .ok (.iconst 2, 1) := by decide +kernel
theorem dX10_digest_49 : decode cX10_digest 49 = .ok (.if_icmp .gt 24, 3) := by decide +kernel
theorem dX10_digest_52 : decode cX10_digest 52 = .ok (.ldc2_w 214, 3) := by decide +kernel
theorem dX10_digest_55 : decode cX10_digest 55 = .ok (.lload_n 1, 1) := by decide +kernel
theorem dX10_digest_56 : decode cX10_digest 56 = .ok (.lmul, 1) := by decide +kernel
theorem dX10_digest_57 : decode cX10_digest 57 = .ok (.aload_n 0, 1) := by decide +kernel
theorem dX10_digest_58 : decode cX10_digest 58 = .ok (.iload_n 3, 1) := by decide +kernel
theorem dX10_digest_59 : decode cX10_digest 59 = .ok (.iload 4, 2) := by decide +kernel
theorem dX10_digest_61 : decode cX10_digest 61 = .ok (.invokevirtual 227, 3) := by decide +kernel
theorem dX10_digest_64 : decode cX10_digest 64 = .ok (.i2l, 1) := by decide +kernel
theorem dX10_digest_65 : decode cX10_digest 65 = .ok (.ladd, 1) := by decide +kernel
theorem dX10_digest_66 : decode cX10_digest 66 = .ok (.lstore_n 1, 1) := by decide +kernel
theorem dX10_digest_67 : decode cX10_digest 67 = .ok (.iinc 4 1, 3) := by decide +kernel
theorem dX10_digest_70 : decode cX10_digest 70 = .ok (.goto (-24), 3) := by decide +kernel
theorem dX10_digest_73 : decode cX10_digest 73 = .ok (.iinc 3 1, 3) := by decide +kernel
theorem dX10_digest_76 : decode cX10_digest 76 = .ok (.goto (-43), 3) := by decide +kernel
theorem dX10_digest_79 : decode cX10_digest 79 = .ok (.iconst 0, 1) := by decide +kernel
theorem dX10_digest_80 : decode cX10_digest 80 = .ok (.istore_n 3, 1) := by decide +kernel
theorem dX10_digest_81 : decode cX10_digest 81 = .ok (.iload_n 3, 1) := by decide +kernel
theorem dX10_digest_82 : decode cX10_digest 82 = .ok (.aload_n 0, 1) := by decide +kernel
theorem dX10_digest_83 : decode cX10_digest 83 = .ok (.getfield 7, 3) := by decide +kernel
theorem dX10_digest_86 : decode cX10_digest 86 = .ok (.bipush 21, 2) := by decide +kernel
theorem dX10_digest_88 : decode cX10_digest 88 = .ok (.iaload, 1) := by decide +kernel
theorem dX10_digest_89 : decode cX10_digest 89 = .ok (.if_icmp .ge 26, 3) := by decide +kernel
theorem dX10_digest_92 : decode cX10_digest 92 = .ok (.ldc2_w 214, 3) := by decide +kernel
theorem dX10_digest_95 : decode cX10_digest 95 = .ok (.lload_n 1, 1) := by decide +kernel
theorem dX10_digest_96 : decode cX10_digest 96 = .ok (.lmul, 1) := by decide +kernel
theorem dX10_digest_97 : decode cX10_digest 97 = .ok (.aload_n 0, 1) := by decide +kernel
theorem dX10_digest_98 : decode cX10_digest 98 = .ok (.getfield 7, 3) := by decide +kernel
theorem dX10_digest_101 : decode cX10_digest 101 = .ok (.bipush 22, 2) := by decide +kernel
theorem dX10_digest_103 : decode cX10_digest 103 = .ok (.iload_n 3, 1) := by decide +kernel
theorem dX10_digest_104 : decode cX10_digest 104 = .ok (.iadd, 1) := by decide +kernel
theorem dX10_digest_105 : decode cX10_digest 105 = .ok (.iaload, 1) := by decide +kernel
theorem dX10_digest_106 : decode cX10_digest 106 = .ok (.i2l, 1) := by decide +kernel
theorem dX10_digest_107 : decode cX10_digest 107 = .ok (.ladd, 1) := by decide +kernel
theorem dX10_digest_108 : decode cX10_digest 108 = .ok (.lstore_n 1, 1) := by decide +kernel
theorem dX10_digest_109 : decode cX10_digest 109 = .ok (.iinc 3 1, 3) := by decide +kernel
theorem dX10_digest_112 : decode cX10_digest 112 = .ok (.goto (-31), 3) := by decide +kernel
theorem dX10_digest_115 : decode cX10_digest 115 = .ok (.iconst 0, 1) := by decide +kernel
theorem dX10_digest_116 : decode cX10_digest 116 = .ok (.istore_n 3, 1) := by decide +kernel
theorem dX10_digest_117 : decode cX10_digest 117 = .ok (.iload_n 3, 1) := by decide +kernel
theorem dX10_digest_118 : decode cX10_digest 118 = .ok (.aload_n 0, 1) := by decide +kernel
theorem dX10_digest_119 : decode cX10_digest 119 = .ok (.getfield 7, 3) := by decide +kernel
theorem dX10_digest_122 : decode cX10_digest 122 = .ok (.bipush 42, 2) := by decide +kernel
theorem dX10_digest_124 : decode cX10_digest 124 = .ok (.iaload, 1) := by decide +kernel
theorem dX10_digest_125 : decode cX10_digest 125 = .ok (.if_icmp .ge 16, 3) := by decide +kernel
theorem dX10_digest_128 : decode cX10_digest 128 = .ok (.aload_n 0, 1) := by decide +kernel
theorem dX10_digest_129 : decode cX10_digest 129 = .ok (.lload_n 1, 1) := by decide +kernel
theorem dX10_digest_130 : decode cX10_digest 130 = .ok (.iload_n 3, 1) := by decide +kernel
theorem dX10_digest_131 : decode cX10_digest 131 = .ok (.invokevirtual 230, 3) := by decide +kernel
theorem dX10_digest_134 : decode cX10_digest 134 = .ok (.lstore_n 1, 1) := by decide +kernel
theorem dX10_digest_135 : decode cX10_digest 135 = .ok (.iinc 3 1, 3) := by decide +kernel
theorem dX10_digest_138 : decode cX10_digest 138 = .ok (.goto (-21), 3) := by decide +kernel
theorem dX10_digest_141 : decode cX10_digest 141 = .ok (.ldc2_w 214, 3) := by decide +kernel
theorem dX10_digest_144 : decode cX10_digest 144 = .ok (.lload_n 1, 1) := by decide +kernel
theorem dX10_digest_145 : decode cX10_digest 145 = .ok (.lmul, 1) := by decide +kernel
theorem dX10_digest_146 : decode cX10_digest 146 = .ok (.aload_n 0, 1) := by decide +kernel
theorem dX10_digest_147 : decode cX10_digest 147 = .ok (.iconst 0, 1) := by decide +kernel
theorem dX10_digest_148 : decode cX10_digest 148 = .ok (.invokevirtual 234, 3) := by decide +kernel
theorem dX10_digest_151 : decode cX10_digest 151 = .ok (.i2l, 1) := by decide +kernel
theorem dX10_digest_152 : decode cX10_digest 152 = .ok (.ladd, 1) := by decide +kernel
theorem dX10_digest_153 : decode cX10_digest 153 = .ok (.lstore_n 1, 1) := by decide +kernel
theorem dX10_digest_154 : decode cX10_digest 154 = .ok (.iconst 1, 1) := by decide +kernel
theorem dX10_digest_155 : decode cX10_digest 155 = .ok (.istore_n 3, 1) := by decide +kernel
theorem dX10_digest_156 : decode cX10_digest 156 = .ok (.iload_n 3, 1) := by decide +kernel
theorem dX10_digest_157 : decode cX10_digest 157 = .ok (.bipush 32, 2) := by decide +kernel
theorem dX10_digest_159 : decode cX10_digest 159 = .ok (.if_icmp .gt 23, 3) := by decide +kernel
theorem dX10_digest_162 : decode cX10_digest 162 = .ok (.ldc2_w 214, 3) := by decide +kernel
theorem dX10_digest_165 : decode cX10_digest 165 = .ok (.lload_n 1, 1) := by decide +kernel
theorem dX10_digest_166 : decode cX10_digest 166 = .ok (.lmul, 1) := by decide +kernel
theorem dX10_digest_167 : decode cX10_digest 167 = .ok (.aload_n 0, 1) := by decide +kernel
theorem dX10_digest_168 : decode cX10_digest 168 = .ok (.iload_n 3, 1) := by decide +kernel
theorem dX10_digest_169 : decode cX10_digest 169 = .ok (.invokevirtual 234, 3) := by decide +kernel
theorem dX10_digest_172 : decode cX10_digest 172 = .ok (.i2l, 1) := by decide +kernel
theorem dX10_digest_173 : decode cX10_digest 173 = .ok (.ladd, 1) := by decide +kernel
theorem dX10_digest_174 : decode cX10_digest 174 = .ok (.lstore_n 1, 1) := by decide +kernel
theorem dX10_digest_175 : decode cX10_digest 175 = .ok (.iload_n 3, 1) := by decide +kernel
theorem dX10_digest_176 : decode cX10_digest 176 = .ok (.iconst 2, 1) := by decide +kernel
theorem dX10_digest_177 : decode cX10_digest 177 = .ok (.imul, 1) := by decide +kernel
theorem dX10_digest_178 : decode cX10_digest 178 = .ok (.istore_n 3, 1) := by decide +kernel
theorem dX10_digest_179 : decode cX10_digest 179 = .ok (.goto (-23), 3) := by decide +kernel
theorem dX10_digest_182 : decode cX10_digest 182 = .ok (.iconst 0, 1) := by decide +kernel
theorem dX10_digest_183 : decode cX10_digest 183 = .ok (.istore_n 3, 1) := by decide +kernel
theorem dX10_digest_184 : decode cX10_digest 184 = .ok (.iload_n 3, 1) := by decide +kernel
theorem dX10_digest_185 : decode cX10_digest 185 = .ok (.iconst 4, 1) := by decide +kernel
theorem dX10_digest_186 : decode cX10_digest 186 = .ok (.if_icmp .gt 24, 3) := by decide +kernel
theorem dX10_digest_189 : decode cX10_digest 189 = .ok (.ldc2_w 214, 3) := by decide +kernel
theorem dX10_digest_192 : decode cX10_digest 192 = .ok (.lload_n 1, 1) := by decide +kernel
theorem dX10_digest_193 : decode cX10_digest 193 = .ok (.lmul, 1) := by decide +kernel
theorem dX10_digest_194 : decode cX10_digest 194 = .ok (.aload_n 0, 1) := by decide +kernel
theorem dX10_digest_195 : decode cX10_digest 195 = .ok (.bipush 31, 2) := by decide +kernel
theorem dX10_digest_197 : decode cX10_digest 197 = .ok (.iload_n 3, 1) := by decide +kernel
theorem dX10_digest_198 : decode cX10_digest 198 = .ok (.invokevirtual 237, 3) := by decide +kernel
theorem dX10_digest_201 : decode cX10_digest 201 = .ok (.i2l, 1) := by decide +kernel
theorem dX10_digest_202 : decode cX10_digest 202 = .ok (.ladd, 1) := by decide +kernel
theorem dX10_digest_203 : decode cX10_digest 203 = .ok (.lstore_n 1, 1) := by decide +kernel
theorem dX10_digest_204 : decode cX10_digest 204 = .ok (.iinc 3 1, 3) := by decide +kernel
theorem dX10_digest_207 : decode cX10_digest 207 = .ok (.goto (-23), 3) := by decide +kernel
theorem dX10_digest_210 : decode cX10_digest 210 = .ok (.lload_n 1, 1) := by decide +kernel
theorem dX10_digest_211 : decode cX10_digest 211 = .ok (.lreturn, 1) := by decide +kernel
end
section
/-! THE CORE: whole numbers for the machine's ints; the pure state of class and reference; where its cells lie -/
def jI (x : Int) : Int32 := Int32.ofInt x
def jL (x : Int) : Int64 := Int64.ofInt x
def rgI (x : Int) : Prop := -2147483648 ≤ x ∧ x ≤ 2147483647
theorem jI_add (x y : Int) : jI x + jI y = jI (x + y) := (Int32.ofInt_add x y).symm
theorem jI_sub (x y : Int) : jI x - jI y = jI (x - y) := (Int32.ofInt_sub x y).symm
theorem jI_mul (x y : Int) : jI x * jI y = jI (x * y) := (Int32.ofInt_mul x y).symm
theorem jI_neg (x : Int) : -jI x = jI (-x) := (Int32.ofInt_neg x).symm
theorem jL_add (x y : Int) : jL x + jL y = jL (x + y) := (Int64.ofInt_add x y).symm
theorem jL_mul (x y : Int) : jL x * jL y = jL (x * y) := (Int64.ofInt_mul x y).symm
theorem jI_toInt {x : Int} (h : rgI x) : (jI x).toInt = x := by
  obtain ⟨h1, h2⟩ := h
  exact Int32.toInt_ofInt_of_le (by omega) (by omega)
theorem jI_lt {x y : Int} (hx : rgI x) (hy : rgI y) : jI x < jI y ↔ x < y := by
  rw [Int32.lt_iff_toInt_lt, jI_toInt hx, jI_toInt hy]
theorem jI_le {x y : Int} (hx : rgI x) (hy : rgI y) : jI x ≤ jI y ↔ x ≤ y := by
  rw [Int32.le_iff_toInt_le, jI_toInt hx, jI_toInt hy]
theorem jI_eq {x y : Int} (hx : rgI x) (hy : rgI y) : jI x = jI y ↔ x = y := by
  rw [← Int32.toInt_inj, jI_toInt hx, jI_toInt hy]
theorem jI_of (x : Int32) : jI x.toInt = x := Int32.ofInt_toInt x
theorem rgI_of (x : Int32) : rgI x.toInt := by
  have h1 := x.le_toInt
  have h2 := x.toInt_lt
  exact ⟨by omega, by omega⟩
theorem jI_clamp {x : Int} (h : rgI x) : (jI x).toNatClampNeg = x.toNat := by
  obtain ⟨h1, h2⟩ := h
  exact Int32.toNatClampNeg_ofInt_of_le (by omega) (by omega)
theorem rgI_0 : rgI 0 := ⟨by decide, by decide⟩
theorem jI_0 : (0 : Int32) = jI 0 := rfl
theorem jI_in {x : Int} {n : Nat} (hn : n < 2147483648) (h0 : 0 ≤ x) (h1 : x < (n : Int)) : vp_in (jI x) n := by
  have hr : rgI x := ⟨by omega, by omega⟩
  rintro (h | h)
  · rw [jI_0, jI_lt hr rgI_0] at h
    omega
  · rw [jI_clamp hr] at h
    omega
theorem jI_i2l {x : Int} (h : rgI x) : (jI x).toInt64 = jL x := by
  obtain ⟨h1, h2⟩ := h
  exact Int32.toInt64_ofInt (by show (-2147483648 : Int) ≤ x; exact h1) (by show x ≤ (2147483647 : Int); exact h2)
theorem jI_byte {x : Int} (h1 : -128 ≤ x) (h2 : x ≤ 127) : (jI x).toInt8.toInt32 = jI x := by
  show ((Int32.ofInt x).toInt8).toInt32 = Int32.ofInt x
  rw [Int32.toInt8_ofInt]
  exact Int8.toInt32_ofInt (by show (-128 : Int) ≤ x; exact h1) (by show x ≤ (127 : Int); exact h2)
theorem jI_div {x y : Int} (hx : rgI x) (hy : rgI y) : jI x / jI y = jI (x.tdiv y) := by
  obtain ⟨h1, h2⟩ := hx
  obtain ⟨h3, h4⟩ := hy
  exact (Int32.ofInt_tdiv (by show (-2147483648 : Int) ≤ x; exact h1) (by show x ≤ (2147483647 : Int); exact h2) (by show (-2147483648 : Int) ≤ y; exact h3) (by show y ≤ (2147483647 : Int); exact h4)).symm
theorem jI_rem {x y : Int} (hx : rgI x) (hy : rgI y) : jI x - jI x / jI y * jI y = jI (x.tmod y) := by
  rw [jI_div hx hy, jI_mul, jI_sub]
  congr 1
  have := Int.tmod_add_mul_tdiv x y
  have h2 : y * x.tdiv y = x.tdiv y * y := Int.mul_comm _ _
  omega
def jAnd (x y : Int) : Int := (jI x &&& jI y).toInt
def jOr (x y : Int) : Int := (jI x ||| jI y).toInt
def jShl (x y : Int) : Int := (jI x <<< (jI y &&& 31)).toInt
def jShr (x y : Int) : Int := (jI x >>> (jI y &&& 31)).toInt
theorem jI_and (x y : Int) : jI x &&& jI y = jI (jAnd x y) := (jI_of _).symm
theorem jI_or (x y : Int) : jI x ||| jI y = jI (jOr x y) := (jI_of _).symm
theorem jI_shl (x y : Int) : jI x <<< (jI y &&& 31) = jI (jShl x y) := (jI_of _).symm
theorem jI_shr (x y : Int) : jI x >>> (jI y &&& 31) = jI (jShr x y) := (jI_of _).symm
theorem rg_and (x y : Int) : rgI (jAnd x y) := rgI_of _
theorem rg_or (x y : Int) : rgI (jOr x y) := rgI_of _
theorem rg_shl (x y : Int) : rgI (jShl x y) := rgI_of _
theorem rg_shr (x y : Int) : rgI (jShr x y) := rgI_of _
/-! the pure state: what each cell (by its number) holds: whole numbers at places; numbers of cells; how many cells; how long a text is -/
abbrev Sg : Type := (Nat → Int → Int) × (Nat → Int → Nat) × Nat × (Nat → Int)
def gI (σ : Sg) (q : Nat) (j : Int) : Int := σ.1 q j
def gR (σ : Sg) (q : Nat) (j : Int) : Nat := σ.2.1 q j
def gN (σ : Sg) : Nat := σ.2.2.1
def gL (σ : Sg) (q : Nat) : Int := σ.2.2.2 q
def sI (σ : Sg) (q : Nat) (j v : Int) : Sg := (fun a b => if a = q ∧ b = j then v else σ.1 a b, σ.2)
def sR (σ : Sg) (q : Nat) (j : Int) (v : Nat) : Sg := (σ.1, fun a b => if a = q ∧ b = j then v else σ.2.1 a b, σ.2.2)
/-- n numbers of the row q0 from sp on come into the row q1 from dp on -/
def sC (σ : Sg) (q0 : Nat) (sp : Int) (q1 : Nat) (dp n : Int) : Sg := (fun a b => if a = q1 ∧ dp ≤ b ∧ b < dp + n then σ.1 q0 (sp + (b - dp)) else σ.1 a b, σ.2)
theorem gI_sI (σ : Sg) (q : Nat) (j v : Int) (a : Nat) (b : Int) : gI (sI σ q j v) a b = if a = q ∧ b = j then v else gI σ a b := rfl
theorem gI_sI_self (σ : Sg) (q : Nat) (j v : Int) : gI (sI σ q j v) q j = v := by rw [gI_sI, if_pos ⟨rfl, rfl⟩]
theorem gI_sI_ne {σ : Sg} {q : Nat} {j v : Int} {a : Nat} {b : Int} (h : a ≠ q) : gI (sI σ q j v) a b = gI σ a b := by rw [gI_sI, if_neg (fun z => h z.1)]
theorem gI_sI_nj {σ : Sg} {q : Nat} {j v : Int} {a : Nat} {b : Int} (h : b ≠ j) : gI (sI σ q j v) a b = gI σ a b := by rw [gI_sI, if_neg (fun z => h z.2)]
theorem gR_sI (σ : Sg) (q : Nat) (j v : Int) (a : Nat) (b : Int) : gR (sI σ q j v) a b = gR σ a b := rfl
theorem gN_sI (σ : Sg) (q : Nat) (j v : Int) : gN (sI σ q j v) = gN σ := rfl
theorem gL_sI (σ : Sg) (q : Nat) (j v : Int) (a : Nat) : gL (sI σ q j v) a = gL σ a := rfl
theorem gI_sR (σ : Sg) (q : Nat) (j : Int) (v : Nat) (a : Nat) (b : Int) : gI (sR σ q j v) a b = gI σ a b := rfl
theorem gR_sR (σ : Sg) (q : Nat) (j : Int) (v : Nat) (a : Nat) (b : Int) : gR (sR σ q j v) a b = if a = q ∧ b = j then v else gR σ a b := rfl
theorem gR_sR_self (σ : Sg) (q : Nat) (j : Int) (v : Nat) : gR (sR σ q j v) q j = v := by rw [gR_sR, if_pos ⟨rfl, rfl⟩]
theorem gR_sR_ne {σ : Sg} {q : Nat} {j : Int} {v : Nat} {a : Nat} {b : Int} (h : a ≠ q) : gR (sR σ q j v) a b = gR σ a b := by rw [gR_sR, if_neg (fun z => h z.1)]
theorem gR_sR_nj {σ : Sg} {q : Nat} {j : Int} {v : Nat} {a : Nat} {b : Int} (h : b ≠ j) : gR (sR σ q j v) a b = gR σ a b := by rw [gR_sR, if_neg (fun z => h z.2)]
theorem gN_sR (σ : Sg) (q : Nat) (j : Int) (v : Nat) : gN (sR σ q j v) = gN σ := rfl
theorem gL_sR (σ : Sg) (q : Nat) (j : Int) (v : Nat) (a : Nat) : gL (sR σ q j v) a = gL σ a := rfl
theorem gI_sC (σ : Sg) (q0 : Nat) (sp : Int) (q1 : Nat) (dp n : Int) (a : Nat) (b : Int) : gI (sC σ q0 sp q1 dp n) a b = if a = q1 ∧ dp ≤ b ∧ b < dp + n then gI σ q0 (sp + (b - dp)) else gI σ a b := rfl
theorem gI_sC_ne {σ : Sg} {q0 : Nat} {sp : Int} {q1 : Nat} {dp n : Int} {a : Nat} {b : Int} (h : a ≠ q1) : gI (sC σ q0 sp q1 dp n) a b = gI σ a b := by rw [gI_sC, if_neg (fun z => h z.1)]
theorem gR_sC (σ : Sg) (q0 : Nat) (sp : Int) (q1 : Nat) (dp n : Int) (a : Nat) (b : Int) : gR (sC σ q0 sp q1 dp n) a b = gR σ a b := rfl
theorem gN_sC (σ : Sg) (q0 : Nat) (sp : Int) (q1 : Nat) (dp n : Int) : gN (sC σ q0 sp q1 dp n) = gN σ := rfl
theorem gL_sC (σ : Sg) (q0 : Nat) (sp : Int) (q1 : Nat) (dp n : Int) (a : Nat) : gL (sC σ q0 sp q1 dp n) a = gL σ a := rfl
/-! the numbers of the cells: 0 the class's object, 4 .. 30 its state, 31 .. 60 the trial, 61 .. 278 the history; 279 .. 292 the reference; 293 and on the parts, two cells each -/
def kbO (r : Nat) : Nat := if r = 0 then 5 else if r = 1 then 6 else if r = 2 then 7 else if r = 3 then 7 else if r = 4 then 8 else if r = 5 then 9 else if r = 6 then 10 else if r = 7 then 11 else if r = 8 then 12 else if r = 9 then 13 else 14
def kdO (q : Nat) : Nat := if q < 4 then q + 1 else if q < 31 then kbO (q - 4) else if q < 34 then (if q = 31 then 15 else 7) else if q < 61 then kbO (q - 34) else if q = 61 then 16 else if q = 62 then 17 else if q < 279 then kbO ((q - 63) % 27) else if q = 279 then 20 else if q = 280 then 21 else if q = 281 then 22 else if q < 292 then 23 else if q = 292 then 24 else if q % 2 = 1 then 3 else 4
theorem kbO_in (r : Nat) : 5 ≤ kbO r ∧ kbO r ≤ 14 := by unfold kbO; (repeat' split) <;> omega
/-- a number below 279 -/
theorem kdO_cls {q k : Nat} (h : kdO q = k) (h1 : k < 20) (h2 : k ≠ 3) (h3 : k ≠ 4) : q < 279 := by
  rcases Nat.lt_or_ge q 279 with g | g
  · exact g
  · exfalso
    unfold kdO at h
    rw [if_neg (by omega), if_neg (by omega), if_neg (by omega), if_neg (by omega), if_neg (by omega), if_neg (by omega), if_neg (by omega)] at h
    (repeat' split at h) <;> omega
theorem kdO_lo {q : Nat} (h : q < 279) : kdO q ≤ 17 := by
  have b1 := kbO_in (q - 4)
  have b2 := kbO_in (q - 34)
  have b3 := kbO_in ((q - 63) % 27)
  unfold kdO
  (repeat' split) <;> omega
theorem kdO_hi {q : Nat} (h : 293 ≤ q) : kdO q = if q % 2 = 1 then 3 else 4 := by
  unfold kdO
  rw [if_neg (by omega), if_neg (by omega), if_neg (by omega), if_neg (by omega), if_neg (by omega), if_neg (by omega), if_neg (by omega), if_neg (by omega), if_neg (by omega), if_neg (by omega), if_neg (by omega), if_neg (by omega)]
theorem kdO_mod {q k : Nat} (h : kdO q = k) (h1 : 20 ≤ k) : 279 ≤ q ∧ q < 293 := by
  rcases Nat.lt_or_ge q 279 with g | g
  · have := kdO_lo g
    omega
  · refine ⟨g, ?_⟩
    rcases Nat.lt_or_ge q 293 with g2 | g2
    · exact g2
    · rw [kdO_hi g2] at h
      split at h <;> omega
theorem kdO_blk {q r : Nat} (h : (∃ k, k < 8 ∧ q = 63 + 27 * k + r) ∨ q = 4 + r ∨ q = 34 + r) (hr : r < 27) : kdO q = kbO r := by
  rcases h with ⟨k, hk, rfl⟩ | rfl | rfl
  · unfold kdO
    rw [if_neg (by omega), if_neg (by omega), if_neg (by omega), if_neg (by omega), if_neg (by omega), if_neg (by omega), if_pos (by omega)]
    congr 1
    omega
  · unfold kdO
    rw [if_neg (by omega), if_pos (by omega)]
    congr 1
    omega
  · unfold kdO
    rw [if_neg (by omega), if_neg (by omega), if_neg (by omega), if_pos (by omega)]
    congr 1
    omega
/-- where a cell of a state lies: its block, and its place there -/
theorem kdO_in {q k : Nat} (h : kdO q = k) (h1 : 5 ≤ k) (h2 : k ≤ 14) (h7 : k ≠ 7) : ∃ r, r < 27 ∧ kbO r = k ∧ ((∃ k, k < 8 ∧ q = 63 + 27 * k + r) ∨ q = 4 + r ∨ q = 34 + r) := by
  have hq : q < 279 := kdO_cls h (by omega) (by omega) (by omega)
  unfold kdO at h
  split at h
  · omega
  split at h
  · exact ⟨q - 4, by omega, h, Or.inr (Or.inl (by omega))⟩
  split at h
  · split at h <;> omega
  split at h
  · exact ⟨q - 34, by omega, h, Or.inr (Or.inr (by omega))⟩
  split at h
  · omega
  split at h
  · omega
  · exact ⟨(q - 63) % 27, by omega, h, Or.inl ⟨(q - 63) / 27, by omega, by omega⟩⟩
theorem kbO_5 {r : Nat} (h : kbO r = 5) : r = 0 := by unfold kbO at h; (repeat' split at h) <;> omega
theorem kbO_6 {r : Nat} (h : kbO r = 6) : r = 1 := by unfold kbO at h; (repeat' split at h) <;> omega
theorem kbO_8 {r : Nat} (h : kbO r = 8) : r = 4 := by unfold kbO at h; (repeat' split at h) <;> omega
theorem kbO_10 {r : Nat} (h : kbO r = 10) : r = 6 := by unfold kbO at h; (repeat' split at h) <;> omega
theorem kbO_12 {r : Nat} (h : kbO r = 12) : r = 8 := by unfold kbO at h; (repeat' split at h) <;> omega
theorem kbO_13 {r : Nat} (h : kbO r = 13) : r = 9 := by unfold kbO at h; (repeat' split at h) <;> omega
theorem kd_next {q k r0 r1 : Nat} (h : kdO q = k) (h1 : 5 ≤ k) (h2 : k ≤ 14) (h7 : k ≠ 7) (hr : ∀ r, kbO r = k → r = r0) (hle : r0 ≤ r1) (hlt : r1 < 27) : kdO (q + (r1 - r0)) = kbO r1 := by
  obtain ⟨r, g1, g2, g3⟩ := kdO_in h h1 h2 h7
  have e := hr r g2
  subst e
  refine kdO_blk ?_ hlt
  rcases g3 with ⟨k, hk, g⟩ | g | g
  · exact Or.inl ⟨k, hk, by omega⟩
  · exact Or.inr (Or.inl (by omega))
  · exact Or.inr (Or.inr (by omega))
theorem kd5_cut {q : Nat} (h : kdO q = 5) : kdO (q + 1) = 6 := kd_next (r1 := 1) h (by omega) (by omega) (by omega) (fun _ => kbO_5) (by omega) (by omega)
theorem kd5_shots {q : Nat} (h : kdO q = 5) : kdO (q + 4) = 8 := kd_next (r1 := 4) h (by omega) (by omega) (by omega) (fun _ => kbO_5) (by omega) (by omega)
theorem kd5_settings {q : Nat} (h : kdO q = 5) : kdO (q + 6) = 10 := kd_next (r1 := 6) h (by omega) (by omega) (by omega) (fun _ => kbO_5) (by omega) (by omega)
theorem kd5_track {q : Nat} (h : kdO q = 5) : kdO (q + 8) = 12 := kd_next (r1 := 8) h (by omega) (by omega) (by omega) (fun _ => kbO_5) (by omega) (by omega)
theorem kd6_firsts {q : Nat} (h : kdO q = 6) : kdO (q + 1) = 7 := kd_next (r1 := 2) h (by omega) (by omega) (by omega) (fun _ => kbO_6) (by omega) (by omega)
theorem kd6_lengths {q : Nat} (h : kdO q = 6) : kdO (q + 2) = 7 := kd_next (r1 := 3) h (by omega) (by omega) (by omega) (fun _ => kbO_6) (by omega) (by omega)
theorem kd8_frames {q : Nat} (h : kdO q = 8) : kdO (q + 1) = 9 := kd_next (r1 := 5) h (by omega) (by omega) (by omega) (fun _ => kbO_8) (by omega) (by omega)
theorem kd10_values {q : Nat} (h : kdO q = 10) : kdO (q + 1) = 11 := kd_next (r1 := 7) h (by omega) (by omega) (by omega) (fun _ => kbO_10) (by omega) (by omega)
theorem kd12_rows {q : Nat} (h : kdO q = 12) : kdO (q + 1) = 13 := kd_next (r1 := 9) h (by omega) (by omega) (by omega) (fun _ => kbO_12) (by omega) (by omega)
theorem kd12_missing {q : Nat} (h : kdO q = 12) : kdO (q + 18) = 14 := kd_next (r1 := 26) h (by omega) (by omega) (by omega) (fun _ => kbO_12) (by omega) (by omega)
theorem kd3_text {q : Nat} (h : kdO q = 3) : kdO (q + 1) = 4 := by
  rcases Nat.lt_or_ge q 293 with g | g
  · have b1 := kbO_in (q - 4)
    have b2 := kbO_in (q - 34)
    have b3 := kbO_in ((q - 63) % 27)
    have : q = 2 := by
      unfold kdO at h
      rcases Nat.lt_or_ge q 4 with g4 | g4
      · rw [if_pos g4] at h
        omega
      · rw [if_neg (by omega)] at h
        (repeat' split at h) <;> omega
    subst this
    decide
  · rw [kdO_hi g] at h
    rw [kdO_hi (by omega)]
    split at h
    · rw [if_neg (by omega)]
    · omega
theorem kd_state {k : Int} (h0 : 0 ≤ k) (h : k < 8) : kdO (63 + 27 * k.toNat) = 5 := by
  have := kdO_blk (q := 63 + 27 * k.toNat) (r := 0) (Or.inl ⟨k.toNat, by omega, by omega⟩) (by omega)
  rw [this]; rfl
end
section
/-! THE WORLD: the environment (where the cells begin, class numbers, where strings and tables lie), cells, the tables' facts -/
/-- base, base of the parts, is it the class's side, class numbers and slots, the arrays' classes (int, byte, Subtitle, State), addresses of strings 0..2, of their bytes 3..5, of tables 6..8 -/
abbrev ET : Type := Nat × Nat × Bool × va_G × ClassId × ClassId × ClassId × ClassId × (Nat → Nat)
abbrev eb (E : ET) : Nat := E.1
abbrev eb2 (E : ET) : Nat := E.2.1
abbrev eS (E : ET) : Bool := E.2.2.1
abbrev eD (E : ET) : va_G := E.2.2.2.1
abbrev ecI (E : ET) : ClassId := E.2.2.2.2.1
abbrev ecB (E : ET) : ClassId := E.2.2.2.2.2.1
abbrev ecS (E : ET) : ClassId := E.2.2.2.2.2.2.1
abbrev ecT (E : ET) : ClassId := E.2.2.2.2.2.2.2.1
abbrev ea (E : ET) : Nat → Nat := E.2.2.2.2.2.2.2.2
def adE (E : ET) (q : Nat) : Nat := if q < 293 then eb E + q else eb2 E + (q - 293)
/-- the cells of a side -/
def dmE (E : ET) (σ : Sg) (q : Nat) : Prop := if eS E = true then q < 279 ∨ (293 ≤ q ∧ q < gN σ) else 279 ≤ q ∧ q < 293
/-- those of them that are written -/
def wrE (E : ET) (q : Nat) : Prop := if eS E = true then q < 279 else 279 ≤ q ∧ q < 293
/-- the region of those -/
def rgA (E : ET) : Nat → Prop := fun a => if eS E = true then eb E ≤ a ∧ a < eb E + 279 else eb E + 279 ≤ a ∧ a < eb E + 293
def clK (E : ET) (σ : Sg) (q : Nat) : Nat → va_E
  | 1 => .inr (9, [.ref (adE E 1), .int (jI (gI σ q 1)), .ref (adE E 4), .ref (adE E 31), .ref (adE E 61)])
  | 2 => .inl (ecB E, 40, .inl (fun j => jI (gI σ q (j : Int))))
  | 3 => .inr (2, [.int (jI (gI σ q 0)), .ref (adE E (q + 1))])
  | 4 => .inl (ecB E, (gL σ q).toNat, .inl (fun j => jI (gI σ q (j : Int))))
  | 5 => .inr (5, [.ref (adE E (q + 1)), .ref (adE E (q + 4)), .ref (adE E (q + 6)), .ref (adE E (q + 8))])
  | 6 => .inr (0, [.ref (adE E (q + 1)), .ref (adE E (q + 2)), .int (jI (gI σ q 2))])
  | 7 => .inl (ecI E, 10, .inl (fun j => jI (gI σ q (j : Int))))
  | 8 => .inr (4, [.ref (adE E (q + 1)), .int (jI (gI σ q 1))])
  | 9 => .inl (ecI E, 20, .inl (fun j => jI (gI σ q (j : Int))))
  | 10 => .inr (3, [.ref (adE E (q + 1))])
  | 11 => .inl (ecI E, 5, .inl (fun j => jI (gI σ q (j : Int))))
  | 12 => .inr (7, [.ref (adE E (q + 1)), .ref (adE E (q + 18)), .int (jI (gI σ q 2))])
  | 13 => .inl (ecS E, 16, .inr (.inr (.inr (.inr (fun j => some (adE E (gR σ q (j : Int))))))))
  | 14 => .inr (6, [.int (jI (gI σ q 0)), .int (jI (gI σ q 1)), .int (jI (gI σ q 2)), .ref (adE E (gR σ q 3)), .ref (adE E (gR σ q 4))])
  | 15 => .inr (8, [.ref (adE E 34), .int (jI (gI σ q 1)), .ref (adE E 32), .ref (adE E 33), .int (jI (gI σ q 4))])
  | 16 => .inr (1, [.ref (adE E 62), .int (jI (gI σ q 1)), .int (jI (gI σ q 2))])
  | 17 => .inl (ecT E, 8, .inr (.inr (.inr (.inr (fun j => some (adE E (63 + 27 * j)))))))
  | 20 => .inr (10, [.ref (adE E 280), .int (jI (gI σ q 1)), .ref (adE E 281), .int (jI (gI σ q 3)), .ref (adE E 282), .ref (adE E 283), .ref (adE E 284), .ref (adE E 285), .ref (adE E 286), .int (jI (gI σ q 9)), .ref (adE E 287), .ref (adE E 288), .ref (adE E 289), .ref (adE E 290), .ref (adE E 291), .ref (adE E 292), .int (jI (gI σ q 16)), .int (jI (gI σ q 17))])
  | 21 => .inl (ecI E, 12960, .inl (fun j => jI (gI σ q (j : Int))))
  | 22 => .inl (ecI E, 40, .inl (fun j => jI (gI σ q (j : Int))))
  | 23 => .inl (ecI E, 16, .inl (fun j => jI (gI σ q (j : Int))))
  | 24 => .inl (ecI E, 1344, .inl (fun j => jI (gI σ q (j : Int))))
  | _ => .inl (ecI E, 0, .inl (fun _ => 0))
def clE (E : ET) (σ : Sg) (q : Nat) : va_E := clK E σ q (kdO q)
theorem clE_k (E : ET) (σ : Sg) {q k : Nat} (h : kdO q = k) : clE E σ q = clK E σ q k := by rw [clE, h]
theorem clK_congr {E : ET} {σ σ' : Sg} {q k : Nat} (h1 : ∀ j, gI σ' q j = gI σ q j) (h2 : ∀ j, gR σ' q j = gR σ q j) (h3 : gL σ' q = gL σ q) : clK E σ' q k = clK E σ q k := by
  unfold clK
  simp only [h1, h2, h3]
def okP (σ : Sg) (q : Nat) : Prop := kdO q = 3 ∧ q < gN σ
/-- what holds of the numbers themselves -/
def WtE (σ : Sg) : Prop := (∀ q j, rgI (gI σ q j)) ∧ (∀ q j, kdO q = 13 → kdO (gR σ q j) = 14) ∧ (∀ q, kdO q = 14 → okP σ (gR σ q 3) ∧ okP σ (gR σ q 4)) ∧ 293 ≤ gN σ ∧ gN σ % 2 = 1 ∧ ∀ q, 0 ≤ gL σ q ∧ gL σ q ≤ 40
/-- the heap holds the cells of a side -/
def RepE (E : ET) (σ : Sg) (H : Heap) : Prop := (∀ q, dmE E σ q → va_at (eD E) vwCl (adE E q, clE E σ q) H) ∧ WtE σ
def tabE (k j : Nat) : Int := if k = 6 then [1, 1, 0, 0, 8].getD j 0 else if k = 7 then [20, 200, 50, 50, 40].getD j 0 else [2, 24, 2, 6, 16].getD j 0
def lenJ : List Nat := [3, 2, 3]
def bytJ : List (List Int32) := [[97, 110, 100], [111, 114], [98, 117, 116]]
/-- static fields and string constants: nobody writes them -/
def StE (E : ET) (U : State) (H : Heap) : Prop :=
  (va_Z "CutConformer" "LOWEST" "[I" (.ref (ea E 6)) (fun a => eb E ≤ a) U H ∧ va_T .int (ea E 6) 5 (fun j => .int (jI (tabE 6 j))) (fun a => eb E ≤ a) U H) ∧
  (va_Z "CutConformer" "HIGHEST" "[I" (.ref (ea E 7)) (fun a => eb E ≤ a) U H ∧ va_T .int (ea E 7) 5 (fun j => .int (jI (tabE 7 j))) (fun a => eb E ≤ a) U H) ∧
  (va_Z "CutConformer" "AT_FIRST" "[I" (.ref (ea E 8)) (fun a => eb E ≤ a) U H ∧ va_T .int (ea E 8) 5 (fun j => .int (jI (tabE 8 j))) (fun a => eb E ≤ a) U H) ∧
  vk_S 3 lenJ bytJ (fun i => ea E i) (fun i => ea E (3 + i)) (fun a => eb E ≤ a) U H ∧
  va_Z "java/lang/String" "COMPACT_STRINGS" "Z" (.int 1) (fun a => eb E ≤ a) U H ∧
  va_Zq "jdk/internal/util/Preconditions" "SIOOBE_FORMATTER" "Ljava/util/function/BiFunction;" (fun a => eb E ≤ a) U H
/-- words of nest mates and of arrays of objects, which no caller may hand on -/
def NwE (U : State) : Prop := va_Nw (.fieldLinkNest "CutConformer$Settings" 7 "CutConformer" "AT_FIRST" "[I" "CutConformer") U ∧ va_Nw (.fieldLinkNest "CutConformer$Settings" 24 "CutConformer" "LOWEST" "[I" "CutConformer") U ∧ va_Nw (.fieldLinkNest "CutConformer$Settings" 27 "CutConformer" "HIGHEST" "[I" "CutConformer") U ∧
  va_Nw (.methodLinkNest "CutConformer$State" 11 ⟨"CutConformer$Cut", "<init>", "()V"⟩ "CutConformer") U ∧ va_Nw (.methodLinkNest "CutConformer$State" 20 ⟨"CutConformer$Shots", "<init>", "()V"⟩ "CutConformer") U ∧ va_AO "CutConformer$Subtitle" U ∧ va_AO "CutConformer$State" U
theorem NwE.warm {s U : State} (hW : s.WarmedH U.vm) (h : NwE s) : NwE U := by
  obtain ⟨a, b, c, d, e, f, g⟩ := h
  exact ⟨a.warmF hW, b.warmF hW, c.warmF hW, d.warmM hW, e.warmM hW, f.moved hW.alike, g.moved hW.alike⟩
theorem NwE.same {u U : State} (hv : u.vm = U.vm) (h : NwE u) : NwE U := by
  obtain ⟨a, b, c, d, e, f, g⟩ := h
  have hA : u.vm.Alike U.vm := hv ▸ Vm.Alike.refl u.vm
  exact ⟨a.same rfl hv, b.same rfl hv, c.same rfl hv, d.same rfl hv, e.same rfl hv, f.moved hA, g.moved hA⟩
def StrE (E : ET) (U : State) : Prop := vk_R "CutConformer$Part" 44 "and" (ea E 0) U ∧ vk_R "CutConformer$Part" 50 "or" (ea E 1) U ∧ vk_R "CutConformer$Part" 52 "but" (ea E 2) U ∧ NwE U
theorem StE.moved {E : ET} {u U : State} {H : Heap} (hvm : u.vm.Alike U.vm) (h : StE E u H) : StE E U H := by
  obtain ⟨⟨a1, a2⟩, ⟨b1, b2⟩, ⟨c1, c2⟩, d, e, f⟩ := h
  exact ⟨⟨a1.moved hvm, a2.moved hvm⟩, ⟨b1.moved hvm, b2.moved hvm⟩, ⟨c1.moved hvm, c2.moved hvm⟩, d.moved hvm, e.moved hvm, f.moved hvm⟩
theorem StE.kept {E : ET} {U : State} {H H1 : Heap} (h : StE E U H) (hq : ∀ a : Nat, a < H.size → ¬ eb E ≤ a → H1[a]? = H[a]?) : StE E U H1 := by
  obtain ⟨⟨a1, a2⟩, ⟨b1, b2⟩, ⟨c1, c2⟩, d, e, f⟩ := h
  exact ⟨⟨a1.kept hq, a2.kept hq⟩, ⟨b1.kept hq, b2.kept hq⟩, ⟨c1.kept hq, c2.kept hq⟩, d.kept hq, e.kept hq, f.kept hq⟩
def tysE (E : ET) : List (ClassId × FieldType) := [(ecI E, .int), (ecB E, .byte), (ecS E, .object "CutConformer$Subtitle"), (ecT E, .object "CutConformer$State")]
/-- what is known of a state's tables and of the cells below the base -/
def KnE (E : ET) (U : State) : Prop := va_K (eD E) vwCl (tysE E) U ∧ StE E U U.heap ∧ StrE E U ∧ eb E + 279 ≤ eb2 E
theorem KnE.to {E : ET} {s U : State} {H : Heap} {A : Nat → Prop} {locs : List Loc} (h : KnE E s) (hS : va_S A s.heap H locs) (hA : ∀ a, A a → eb E ≤ a) (hW : s.WarmedH U.vm) (hU : U.heap = H) : KnE E U := by
  obtain ⟨h1, h2, ⟨r1, r2, r3, r4⟩, h3⟩ := h
  refine ⟨h1.moved hW.alike, ?_, ⟨r1.warm hW, r2.warm hW, r3.warm hW, r4.warm hW⟩, h3⟩
  rw [hU]
  exact (h2.moved hW.alike).kept (fun a g1 g2 => hS.2.1 a g1 (fun z => g2 (hA a z)))
/-- a method's start -/
def WdE (E : ET) (σ : Sg) (U : State) : Prop := KnE E U ∧ RepE E σ U.heap
theorem WdE.calling {E : ET} {σ : Sg} {U : State} {g : JFrame} {mk : MethodId} {a : Array Value} (h : WdE E σ U) : WdE E σ (U.calling g mk a) := by
  obtain ⟨⟨h1, h2, ⟨r1, r2, r3, r4⟩, h3⟩, h4⟩ := h
  exact ⟨⟨va_K.moved (u := U) (U := U.calling g mk a) (Vm.Alike.refl U.vm) h1, StE.moved (u := U) (U := U.calling g mk a) (Vm.Alike.refl U.vm) h2, ⟨vk_R.same (u := U) rfl r1, vk_R.same (u := U) rfl r2, vk_R.same (u := U) rfl r3, NwE.same (u := U) rfl r4⟩, h3⟩, h4⟩
theorem adE_lo (E : ET) {q : Nat} (h : q < 293) : adE E q = eb E + q := if_pos h
theorem adE_inj {E : ET} {σ : Sg} {p q : Nat} (h : eb E + 279 ≤ eb2 E) (hp : dmE E σ p) (hq : dmE E σ q) (e : adE E p = adE E q) : p = q := by
  unfold dmE at hp hq
  unfold adE at e
  cases hs : eS E with
  | true =>
    rw [if_pos hs] at hp hq
    split at e <;> split at e <;> omega
  | false =>
    rw [if_neg (by rw [hs]; decide)] at hp hq
    rw [if_pos (by omega), if_pos (by omega)] at e
    omega
theorem wrE_dm {E : ET} {σ : Sg} {q : Nat} (h : wrE E q) : dmE E σ q := by
  unfold wrE at h
  unfold dmE
  split
  · rename_i hs
    rw [if_pos hs] at h
    exact Or.inl h
  · rename_i hs
    rw [if_neg hs] at h
    exact h
theorem wrE_rg {E : ET} {q : Nat} (h : wrE E q) : rgA E (adE E q) := by
  unfold wrE at h
  unfold rgA
  split
  · rename_i hs
    rw [if_pos hs] at h
    rw [adE_lo E (by omega)]
    omega
  · rename_i hs
    rw [if_neg hs] at h
    rw [adE_lo E (by omega)]
    omega
theorem wr_c {E : ET} (hs : eS E = true) {q : Nat} (h : q < 279) : wrE E q := by unfold wrE; rw [if_pos hs]; exact h
theorem wr_m {E : ET} (hs : eS E = false) {q : Nat} (h : 279 ≤ q) (h2 : q < 293) : wrE E q := by unfold wrE; rw [if_neg (by rw [hs]; decide)]; exact ⟨h, h2⟩
theorem dm_p {E : ET} {σ : Sg} (hs : eS E = true) {q : Nat} (h : okP σ q) : dmE E σ q := by
  unfold dmE
  rw [if_pos hs]
  rcases Nat.lt_or_ge q 279 with g | g
  · exact Or.inl g
  · refine Or.inr ⟨?_, h.2⟩
    rcases Nat.lt_or_ge q 293 with g2 | g2
    · exfalso
      have h1 := h.1
      unfold kdO at h1
      rw [if_neg (by omega), if_neg (by omega), if_neg (by omega), if_neg (by omega), if_neg (by omega), if_neg (by omega), if_neg (by omega)] at h1
      (repeat' split at h1) <;> omega
    · exact g2
theorem okP_lo {σ : Sg} {q : Nat} (h : okP σ q) : q = 2 ∨ (293 ≤ q ∧ q % 2 = 1) := by
  have h1 := h.1
  rcases Nat.lt_or_ge q 293 with g | g
  · have b1 := kbO_in (q - 4)
    have b2 := kbO_in (q - 34)
    have b3 := kbO_in ((q - 63) % 27)
    unfold kdO at h1
    rcases Nat.lt_or_ge q 4 with g4 | g4
    · rw [if_pos g4] at h1
      omega
    · rw [if_neg (by omega)] at h1
      (repeat' split at h1) <;> omega
  · rw [kdO_hi g] at h1
    split at h1 <;> omega
theorem dm_t {E : ET} {σ : Sg} (hs : eS E = true) (hw : WtE σ) {q : Nat} (h : okP σ q) : dmE E σ (q + 1) := by
  unfold dmE
  rw [if_pos hs]
  have h2 := h.2
  have h5 := hw.2.2.2.2.1
  rcases okP_lo h with rfl | ⟨g1, g2⟩
  · exact Or.inl (by omega)
  · exact Or.inr ⟨by omega, by omega⟩
/-- one written cell: the rest stays -/
theorem RepE.put {E : ET} {σ σ' : Sg} {H H1 : Heap} {q : Nat} (h : RepE E σ H) (hb : eb E + 279 ≤ eb2 E) (hq : dmE E σ q) (hn : gN σ' = gN σ) (he : va_at (eD E) vwCl (adE E q, clE E σ' q) H1) (oq : ∀ a : Nat, a ≠ adE E q → H1[a]? = H[a]?)
    (h1 : ∀ p, p ≠ q → ∀ j, gI σ' p j = gI σ p j) (h2 : ∀ p, p ≠ q → ∀ j, gR σ' p j = gR σ p j) (h3 : ∀ p, p ≠ q → gL σ' p = gL σ p) (hw : WtE σ') : RepE E σ' H1 := by
  refine ⟨fun p hp => ?_, hw⟩
  by_cases e : p = q
  · subst e
    exact he
  · have hp' : dmE E σ p := by unfold dmE at hp ⊢; rw [hn] at hp; exact hp
    have e1 : clE E σ' p = clE E σ p := clK_congr (h1 p e) (h2 p e) (h3 p e)
    rw [e1]
    exact (h.1 p hp').kept (oq _ (fun z => e (adE_inj hb hp' hq z)))
theorem WtE.sI {σ : Sg} (h : WtE σ) (q : Nat) (j : Int) {v : Int} (hv : rgI v) : WtE (sI σ q j v) := by
  refine ⟨fun a b => ?_, h.2⟩
  rw [gI_sI]
  split
  · exact hv
  · exact h.1 a b
theorem WtE.sC {σ : Sg} (h : WtE σ) (q0 : Nat) (sp : Int) (q1 : Nat) (dp n : Int) : WtE (sC σ q0 sp q1 dp n) := by
  refine ⟨fun a b => ?_, h.2⟩
  rw [gI_sC]
  split
  · exact h.1 _ _
  · exact h.1 a b
theorem WtE.sRow {σ : Sg} (h : WtE σ) {q : Nat} (j : Int) {v : Nat} (hq : kdO q = 13) (hv : kdO v = 14) : WtE (sR σ q j v) := by
  refine ⟨h.1, fun a b ha => ?_, fun a ha => ?_, h.2.2.2⟩
  · rw [gR_sR]
    split
    · exact hv
    · exact h.2.1 a b ha
  · have hne : a ≠ q := fun z => by rw [z, hq] at ha; omega
    rw [gR_sR_ne hne, gR_sR_ne hne]
    exact h.2.2.1 a ha
theorem WtE.sPart {σ : Sg} (h : WtE σ) {q : Nat} (j : Int) {v : Nat} (hq : kdO q = 14) (hv : okP σ v) : WtE (sR σ q j v) := by
  refine ⟨h.1, fun a b ha => ?_, fun a ha => ?_, h.2.2.2⟩
  · have hne : a ≠ q := fun z => by rw [z, hq] at ha; omega
    rw [gR_sR_ne hne]
    exact h.2.1 a b ha
  · obtain ⟨g1, g2⟩ := h.2.2.1 a ha
    rw [gR_sR, gR_sR]
    refine ⟨?_, ?_⟩
    · split
      · exact hv
      · exact g1
    · split
      · exact hv
      · exact g2
def lw_gt : List Cond := lw_tbl.filter goodWord
theorem lw_gt_good : GoodIn lw_tbl lw_gt := fun w h => by
  obtain ⟨h1, h2⟩ := List.mem_filter.mp h
  exact ⟨h1, good_of_word h2⟩
theorem gt_in {w : Cond} (h : w ∈ lw_tbl) (g : goodWord w = true) : w ∈ lw_gt := List.mem_filter.mpr ⟨h, g⟩
end
section
/-! THE ROWS: an instruction at a time, over the pure state -/
abbrev FT : Type := Program × Launch × Env × Room × State × MethodId × Array Value × List Frame × Method × Code × Nat × Nat × (Nat → Prop) × Nat × (Option Value → Sg → Prop)
abbrev fp (F : FT) : Program := F.1
abbrev fl (F : FT) : Launch := F.2.1
abbrev fe (F : FT) : Env := F.2.2.1
abbrev fR (F : FT) : Room := F.2.2.2.1
abbrev fs (F : FT) : State := F.2.2.2.2.1
abbrev fm (F : FT) : MethodId := F.2.2.2.2.2.1
abbrev fa (F : FT) : Array Value := F.2.2.2.2.2.2.1
abbrev fb (F : FT) : List Frame := F.2.2.2.2.2.2.2.1
abbrev fme (F : FT) : Method := F.2.2.2.2.2.2.2.2.1
abbrev fc (F : FT) : Code := F.2.2.2.2.2.2.2.2.2.1
abbrev fmc (F : FT) : Nat := F.2.2.2.2.2.2.2.2.2.2.1
abbrev fms (F : FT) : Nat := F.2.2.2.2.2.2.2.2.2.2.2.1
abbrev fA (F : FT) : Nat → Prop := F.2.2.2.2.2.2.2.2.2.2.2.2.1
abbrev fn (F : FT) : Nat := F.2.2.2.2.2.2.2.2.2.2.2.2.2.1
abbrev fq (F : FT) : Option Value → Sg → Prop := F.2.2.2.2.2.2.2.2.2.2.2.2.2.2
/-- a method's end: what it answers, the numbers then, and that nothing but its own was written -/
def Qcc (E : ET) (A : Nat → Prop) (rq : Option Value → Sg → Prop) : Array Value → State → Outcome → State → Prop := fun _ st oc t => (∃ v σ', oc = .returned v ∧ rq v σ' ∧ RepE E σ' t.heap) ∧ va_F A st t
abbrev Wj (F : FT) (E : ET) (H : Heap) (locs : List Loc) (c0 s0 : Nat) (g : JFrame) : Prop := W (fp F) (fl F) (fe F) (fR F) (fs F) (fm F) (fa F) (fb F) (fme F) (fc F) H locs c0 s0 (MQ (fb F) (Qcc E (fA F) (fq F)) (fa F) (fs F) (fmc F) (fms F) (fA F)) g
/-- the machine at pc, with these locals and this stack and these numbers in the heap, comes to the method's end -/
def JJ (F : FT) (E : ET) (c0 s0 : Nat) (σ : Sg) (pc : Nat) (lv : List (Nat × Value)) (st : List Value) : Prop :=
  ∀ (H : Heap) (locs : List Loc) (ls : Array Slot), RepE E σ H → va_S (fA F) (fs F).heap H locs → lv_has ls (fn F) lv → Wj F E H locs c0 s0 (F0 (fm F) pc ls st)
def Cx (F : FT) (E : ET) (cc : ByteArray) (own : String) (ret : Option FieldType) (rm : Room) (ml : Nat) : Prop :=
  (fp F).tables.exec = Jvm.exec ∧ (fc F).code = cc ∧ (fc F).maxLocals = fn F ∧ (fs F).vm.findClass own = some (fm F).cls ∧ (∀ w ∈ lw_gt, w.before (fa F) (fs F) = true) ∧ (fme F).sig.returnType = ret ∧ (fme F).locks = false ∧ KnE E (fs F) ∧ (∀ a, rgA E a → fA F a) ∧ (∀ a, fA F a → eb E ≤ a) ∧ fR F = rm ∧ fn F = ml
section ROWS
variable {F : FT} {E : ET} {cc : ByteArray} {own : String} {ret : Option FieldType} {rm : Room} {ml c0 s0 : Nat} {σ : Sg} {pc : Nat} {lv : List (Nat × Value)} {st : List Value}
theorem Cx.hx (C : Cx F E cc own ret rm ml) : (fp F).tables.exec = Jvm.exec := C.1
theorem Cx.hb (C : Cx F E cc own ret rm ml) : (fc F).code = cc := C.2.1
theorem Cx.hml (C : Cx F E cc own ret rm ml) : (fc F).maxLocals = fn F := C.2.2.1
theorem Cx.ho (C : Cx F E cc own ret rm ml) : (fs F).vm.findClass own = some (fm F).cls := C.2.2.2.1
theorem Cx.ht (C : Cx F E cc own ret rm ml) : ∀ w ∈ lw_gt, w.before (fa F) (fs F) = true := C.2.2.2.2.1
theorem Cx.hr (C : Cx F E cc own ret rm ml) : (fme F).sig.returnType = ret := C.2.2.2.2.2.1
theorem Cx.hlk (C : Cx F E cc own ret rm ml) : (fme F).locks = false := C.2.2.2.2.2.2.1
theorem Cx.kn (C : Cx F E cc own ret rm ml) : KnE E (fs F) := C.2.2.2.2.2.2.2.1
theorem Cx.rg (C : Cx F E cc own ret rm ml) : ∀ a, rgA E a → fA F a := C.2.2.2.2.2.2.2.2.1
theorem Cx.lo (C : Cx F E cc own ret rm ml) : ∀ a, fA F a → eb E ≤ a := C.2.2.2.2.2.2.2.2.2.1
theorem Cx.hR (C : Cx F E cc own ret rm ml) : fR F = rm := C.2.2.2.2.2.2.2.2.2.2.1
theorem Cx.hn (C : Cx F E cc own ret rm ml) : fn F = ml := C.2.2.2.2.2.2.2.2.2.2.2
/-- fewer locals, in another order -/
theorem J_sub (pls : List Nat) {lv' : List (Nat × Value)} (h : lv_pick lv pls = lv') (k : JJ F E c0 s0 σ pc lv' st) : JJ F E c0 s0 σ pc lv st := fun H locs ls h1 h2 h3 => k H locs ls h1 h2 (lv_sub h3 pls h)
theorem J_iconst (C : Cx F E cc own ret rm ml) {n : Int} (d : decode cc pc = .ok (.iconst n, 1)) (k : JJ F E c0 s0 σ (pc + 1) lv (.int (jI n) :: st)) : JJ F E c0 s0 σ pc lv st := fun H locs ls h1 h2 h3 => lv_iconst C.hx C.hb d rfl (k H locs ls h1 h2 h3)
theorem J_bipush (C : Cx F E cc own ret rm ml) {n : Int} (d : decode cc pc = .ok (.bipush n, 2)) (hv : (Int8.ofInt n).toInt32 = jI n) (k : JJ F E c0 s0 σ (pc + 2) lv (.int (jI n) :: st)) : JJ F E c0 s0 σ pc lv st := fun H locs ls h1 h2 h3 => lv_bipush C.hx C.hb d hv (k H locs ls h1 h2 h3)
theorem J_sipush (C : Cx F E cc own ret rm ml) {n : Int} (d : decode cc pc = .ok (.sipush n, 3)) (hv : (Int16.ofInt n).toInt32 = jI n) (k : JJ F E c0 s0 σ (pc + 3) lv (.int (jI n) :: st)) : JJ F E c0 s0 σ pc lv st := fun H locs ls h1 h2 h3 => lv_sipush C.hx C.hb d hv (k H locs ls h1 h2 h3)
theorem J_ldcI (C : Cx F E cc own ret rm ml) {n : Int} {ix : Nat} (d : decode cc pc = .ok (.ldc ix, 2)) (hw : Jvm.Cond.constant own ix (jI n) ∈ lw_gt) (k : JJ F E c0 s0 σ (pc + 2) lv (.int (jI n) :: st)) : JJ F E c0 s0 σ pc lv st := fun H locs ls h1 h2 h3 => lv_ldc C.hx C.hb C.ho (C.ht _ hw) d (k H locs ls h1 h2 h3)
theorem J_ldc2 (C : Cx F E cc own ret rm ml) {n : Int} {ix : Nat} (d : decode cc pc = .ok (.ldc2_w ix, 3)) (hw : Jvm.Cond.constantLong own ix (jL n) ∈ lw_gt) (k : JJ F E c0 s0 σ (pc + 3) lv (.long (jL n) :: st)) : JJ F E c0 s0 σ pc lv st := fun H locs ls h1 h2 h3 => lv_ldc2 C.hx C.hb C.ho (C.ht _ hw) d (k H locs ls h1 h2 h3)
theorem J_iload_n (C : Cx F E cc own ret rm ml) {kk : Fin 4} {i : Nat} {x : Int32} (d : decode cc pc = .ok (.iload_n kk, 1)) (hi : (kk : Nat) = i) (pl : Nat) (h : lv[pl]? = some (i, .int x)) (k : JJ F E c0 s0 σ (pc + 1) lv (.int x :: st)) : JJ F E c0 s0 σ pc lv st := fun H locs ls h1 h2 h3 => lv_iload_n C.hx C.hb d hi (lv_at h3 pl h) (k H locs ls h1 h2 h3)
theorem J_iload (C : Cx F E cc own ret rm ml) {i : Nat} {x : Int32} (d : decode cc pc = .ok (.iload i, 2)) (pl : Nat) (h : lv[pl]? = some (i, .int x)) (k : JJ F E c0 s0 σ (pc + 2) lv (.int x :: st)) : JJ F E c0 s0 σ pc lv st := fun H locs ls h1 h2 h3 => lv_iload C.hx C.hb d (lv_at h3 pl h) (k H locs ls h1 h2 h3)
theorem J_lload_n (C : Cx F E cc own ret rm ml) {kk : Fin 4} {i : Nat} {x : Int64} (d : decode cc pc = .ok (.lload_n kk, 1)) (hi : (kk : Nat) = i) (pl : Nat) (h : lv[pl]? = some (i, .long x)) (k : JJ F E c0 s0 σ (pc + 1) lv (.long x :: st)) : JJ F E c0 s0 σ pc lv st := fun H locs ls h1 h2 h3 => lv_lload_n C.hx C.hb d hi (lv_at h3 pl h) (k H locs ls h1 h2 h3)
theorem J_lload (C : Cx F E cc own ret rm ml) {i : Nat} {x : Int64} (d : decode cc pc = .ok (.lload i, 2)) (pl : Nat) (h : lv[pl]? = some (i, .long x)) (k : JJ F E c0 s0 σ (pc + 2) lv (.long x :: st)) : JJ F E c0 s0 σ pc lv st := fun H locs ls h1 h2 h3 => lv_lload C.hx C.hb d (lv_at h3 pl h) (k H locs ls h1 h2 h3)
theorem J_aload_n (C : Cx F E cc own ret rm ml) {kk : Fin 4} {i x : Nat} (d : decode cc pc = .ok (.aload_n kk, 1)) (hi : (kk : Nat) = i) (pl : Nat) (h : lv[pl]? = some (i, .ref x)) (k : JJ F E c0 s0 σ (pc + 1) lv (.ref x :: st)) : JJ F E c0 s0 σ pc lv st := fun H locs ls h1 h2 h3 => lv_aload_n C.hx C.hb d hi (lv_at h3 pl h) (k H locs ls h1 h2 h3)
theorem J_aload (C : Cx F E cc own ret rm ml) {i x : Nat} (d : decode cc pc = .ok (.aload i, 2)) (pl : Nat) (h : lv[pl]? = some (i, .ref x)) (k : JJ F E c0 s0 σ (pc + 2) lv (.ref x :: st)) : JJ F E c0 s0 σ pc lv st := fun H locs ls h1 h2 h3 => lv_aload C.hx C.hb d (lv_at h3 pl h) (k H locs ls h1 h2 h3)
theorem J_istore_n (C : Cx F E cc own ret rm ml) {kk : Fin 4} {i : Nat} {x : Int32} {lv' : List (Nat × Value)} (d : decode cc pc = .ok (.istore_n kk, 1)) (hi : (kk : Nat) = i) (hn : i < ml) (hl : (i, Value.int x) :: lv.filter (fun q => !(q.1 == i) && !(q.1 + 1 == i && q.2.category == 2)) = lv') (k : JJ F E c0 s0 σ (pc + 1) lv' st) : JJ F E c0 s0 σ pc lv (.int x :: st) := fun H locs ls h1 h2 h3 => lv_istore_n C.hx C.hb d hi h3 (by rw [C.hn]; exact hn) hl (fun ls' h' => k H locs ls' h1 h2 h')
theorem J_istore (C : Cx F E cc own ret rm ml) {i : Nat} {x : Int32} {lv' : List (Nat × Value)} (d : decode cc pc = .ok (.istore i, 2)) (hn : i < ml) (hl : (i, Value.int x) :: lv.filter (fun q => !(q.1 == i) && !(q.1 + 1 == i && q.2.category == 2)) = lv') (k : JJ F E c0 s0 σ (pc + 2) lv' st) : JJ F E c0 s0 σ pc lv (.int x :: st) := fun H locs ls h1 h2 h3 => lv_istore C.hx C.hb d h3 (by rw [C.hn]; exact hn) hl (fun ls' h' => k H locs ls' h1 h2 h')
theorem J_lstore_n (C : Cx F E cc own ret rm ml) {kk : Fin 4} {i : Nat} {x : Int64} {lv' : List (Nat × Value)} (d : decode cc pc = .ok (.lstore_n kk, 1)) (hi : (kk : Nat) = i) (hn : i + 1 < ml) (hl : (i, Value.long x) :: lv.filter (fun q => !(q.1 == i) && (!(q.1 == i + 1) && !(q.1 + 1 == i && q.2.category == 2))) = lv') (k : JJ F E c0 s0 σ (pc + 1) lv' st) : JJ F E c0 s0 σ pc lv (.long x :: st) := fun H locs ls h1 h2 h3 => lv_lstore_n C.hx C.hb d hi h3 (by rw [C.hn]; exact hn) hl (fun ls' h' => k H locs ls' h1 h2 h')
theorem J_lstore (C : Cx F E cc own ret rm ml) {i : Nat} {x : Int64} {lv' : List (Nat × Value)} (d : decode cc pc = .ok (.lstore i, 2)) (hn : i + 1 < ml) (hl : (i, Value.long x) :: lv.filter (fun q => !(q.1 == i) && (!(q.1 == i + 1) && !(q.1 + 1 == i && q.2.category == 2))) = lv') (k : JJ F E c0 s0 σ (pc + 2) lv' st) : JJ F E c0 s0 σ pc lv (.long x :: st) := fun H locs ls h1 h2 h3 => lv_lstore C.hx C.hb d h3 (by rw [C.hn]; exact hn) hl (fun ls' h' => k H locs ls' h1 h2 h')
theorem J_astore_n (C : Cx F E cc own ret rm ml) {kk : Fin 4} {i x : Nat} {lv' : List (Nat × Value)} (d : decode cc pc = .ok (.astore_n kk, 1)) (hi : (kk : Nat) = i) (hn : i < ml) (hl : (i, Value.ref x) :: lv.filter (fun q => !(q.1 == i) && !(q.1 + 1 == i && q.2.category == 2)) = lv') (k : JJ F E c0 s0 σ (pc + 1) lv' st) : JJ F E c0 s0 σ pc lv (.ref x :: st) := fun H locs ls h1 h2 h3 => lv_astore_n C.hx C.hb d hi h3 (by rw [C.hn]; exact hn) hl (fun ls' h' => k H locs ls' h1 h2 h')
theorem J_astore (C : Cx F E cc own ret rm ml) {i x : Nat} {lv' : List (Nat × Value)} (d : decode cc pc = .ok (.astore i, 2)) (hn : i < ml) (hl : (i, Value.ref x) :: lv.filter (fun q => !(q.1 == i) && !(q.1 + 1 == i && q.2.category == 2)) = lv') (k : JJ F E c0 s0 σ (pc + 2) lv' st) : JJ F E c0 s0 σ pc lv (.ref x :: st) := fun H locs ls h1 h2 h3 => lv_astore C.hx C.hb d h3 (by rw [C.hn]; exact hn) hl (fun ls' h' => k H locs ls' h1 h2 h')
theorem J_iinc (C : Cx F E cc own ret rm ml) {i : Nat} {n x : Int} {lv' : List (Nat × Value)} (d : decode cc pc = .ok (.iinc i n, 3)) (pl : Nat) (h : lv[pl]? = some (i, .int (jI x))) (hn : i < ml) (hl : (i, Value.int (jI (x + n))) :: lv.filter (fun q => !(q.1 == i) && !(q.1 + 1 == i && q.2.category == 2)) = lv') (k : JJ F E c0 s0 σ (pc + 3) lv' st) : JJ F E c0 s0 σ pc lv st := fun H locs ls h1 h2 h3 => lv_iinc C.hx C.hb d h3 h (jI_add x n) (by rw [C.hn]; exact hn) hl (fun ls' h' => k H locs ls' h1 h2 h')
theorem J_dup (C : Cx F E cc own ret rm ml) {va : Value} (d : decode cc pc = .ok (.dup, 1)) (hc : va.category = 1) (k : JJ F E c0 s0 σ (pc + 1) lv (va :: va :: st)) : JJ F E c0 s0 σ pc lv (va :: st) := fun H locs ls h1 h2 h3 => lv_dup C.hx C.hb d hc (k H locs ls h1 h2 h3)
theorem J_dup2 (C : Cx F E cc own ret rm ml) {va vb : Value} (d : decode cc pc = .ok (.dup2, 1)) (hc : va.category = 1) (hc2 : vb.category = 1) (k : JJ F E c0 s0 σ (pc + 1) lv (va :: vb :: va :: vb :: st)) : JJ F E c0 s0 σ pc lv (va :: vb :: st) := fun H locs ls h1 h2 h3 => lv_dup2_11 C.hx C.hb d hc hc2 (k H locs ls h1 h2 h3)
theorem J_pop (C : Cx F E cc own ret rm ml) {va : Value} (d : decode cc pc = .ok (.pop, 1)) (hc : va.category = 1) (k : JJ F E c0 s0 σ (pc + 1) lv st) : JJ F E c0 s0 σ pc lv (va :: st) := fun H locs ls h1 h2 h3 => lv_pop C.hx C.hb d hc (k H locs ls h1 h2 h3)
theorem J_iadd (C : Cx F E cc own ret rm ml) {x y : Int} (d : decode cc pc = .ok (.iadd, 1)) (k : JJ F E c0 s0 σ (pc + 1) lv (.int (jI (x + y)) :: st)) : JJ F E c0 s0 σ pc lv (.int (jI y) :: .int (jI x) :: st) := fun H locs ls h1 h2 h3 => lv_iadd C.hx C.hb d (by rw [jI_add]; exact k H locs ls h1 h2 h3)
theorem J_isub (C : Cx F E cc own ret rm ml) {x y : Int} (d : decode cc pc = .ok (.isub, 1)) (k : JJ F E c0 s0 σ (pc + 1) lv (.int (jI (x - y)) :: st)) : JJ F E c0 s0 σ pc lv (.int (jI y) :: .int (jI x) :: st) := fun H locs ls h1 h2 h3 => lv_isub C.hx C.hb d (by rw [jI_sub]; exact k H locs ls h1 h2 h3)
theorem J_imul (C : Cx F E cc own ret rm ml) {x y : Int} (d : decode cc pc = .ok (.imul, 1)) (k : JJ F E c0 s0 σ (pc + 1) lv (.int (jI (x * y)) :: st)) : JJ F E c0 s0 σ pc lv (.int (jI y) :: .int (jI x) :: st) := fun H locs ls h1 h2 h3 => lv_imul C.hx C.hb d (by rw [jI_mul]; exact k H locs ls h1 h2 h3)
theorem J_iand (C : Cx F E cc own ret rm ml) {x y : Int} (d : decode cc pc = .ok (.iand, 1)) (k : JJ F E c0 s0 σ (pc + 1) lv (.int (jI (jAnd x y)) :: st)) : JJ F E c0 s0 σ pc lv (.int (jI y) :: .int (jI x) :: st) := fun H locs ls h1 h2 h3 => lv_iand C.hx C.hb d (by rw [jI_and]; exact k H locs ls h1 h2 h3)
theorem J_ior (C : Cx F E cc own ret rm ml) {x y : Int} (d : decode cc pc = .ok (.ior, 1)) (k : JJ F E c0 s0 σ (pc + 1) lv (.int (jI (jOr x y)) :: st)) : JJ F E c0 s0 σ pc lv (.int (jI y) :: .int (jI x) :: st) := fun H locs ls h1 h2 h3 => lv_ior C.hx C.hb d (by rw [jI_or]; exact k H locs ls h1 h2 h3)
theorem J_ishl (C : Cx F E cc own ret rm ml) {x y : Int} (d : decode cc pc = .ok (.ishl, 1)) (k : JJ F E c0 s0 σ (pc + 1) lv (.int (jI (jShl x y)) :: st)) : JJ F E c0 s0 σ pc lv (.int (jI y) :: .int (jI x) :: st) := fun H locs ls h1 h2 h3 => lv_ishl C.hx C.hb d (by rw [jI_shl]; exact k H locs ls h1 h2 h3)
theorem J_ishr (C : Cx F E cc own ret rm ml) {x y : Int} (d : decode cc pc = .ok (.ishr, 1)) (k : JJ F E c0 s0 σ (pc + 1) lv (.int (jI (jShr x y)) :: st)) : JJ F E c0 s0 σ pc lv (.int (jI y) :: .int (jI x) :: st) := fun H locs ls h1 h2 h3 => lv_ishr C.hx C.hb d (by rw [jI_shr]; exact k H locs ls h1 h2 h3)
theorem jI_ne0 {y : Int} (hy : rgI y) (h : y ≠ 0) : ¬ jI y = 0 := fun z => h ((jI_eq hy rgI_0).mp z)
theorem J_idiv (C : Cx F E cc own ret rm ml) {x y : Int} (hx : rgI x) (hy : rgI y) (h0 : y ≠ 0) (d : decode cc pc = .ok (.idiv, 1)) (k : JJ F E c0 s0 σ (pc + 1) lv (.int (jI (x.tdiv y)) :: st)) : JJ F E c0 s0 σ pc lv (.int (jI y) :: .int (jI x) :: st) := fun H locs ls h1 h2 h3 => lv_idiv C.hx C.hb d (jI_ne0 hy h0) (by rw [jI_div hx hy]; exact k H locs ls h1 h2 h3)
theorem J_irem (C : Cx F E cc own ret rm ml) {x y : Int} (hx : rgI x) (hy : rgI y) (h0 : y ≠ 0) (d : decode cc pc = .ok (.irem, 1)) (k : JJ F E c0 s0 σ (pc + 1) lv (.int (jI (x.tmod y)) :: st)) : JJ F E c0 s0 σ pc lv (.int (jI y) :: .int (jI x) :: st) := fun H locs ls h1 h2 h3 => lv_irem C.hx C.hb d (jI_ne0 hy h0) (by rw [jI_rem hx hy]; exact k H locs ls h1 h2 h3)
theorem J_i2l (C : Cx F E cc own ret rm ml) {x : Int} (hx : rgI x) (d : decode cc pc = .ok (.i2l, 1)) (k : JJ F E c0 s0 σ (pc + 1) lv (.long (jL x) :: st)) : JJ F E c0 s0 σ pc lv (.int (jI x) :: st) := fun H locs ls h1 h2 h3 => lv_i2l C.hx C.hb d (jI_i2l hx) (k H locs ls h1 h2 h3)
theorem J_i2b (C : Cx F E cc own ret rm ml) {x : Int} (hx : -128 ≤ x ∧ x ≤ 127) (d : decode cc pc = .ok (.i2b, 1)) (k : JJ F E c0 s0 σ (pc + 1) lv (.int (jI x) :: st)) : JJ F E c0 s0 σ pc lv (.int (jI x) :: st) := fun H locs ls h1 h2 h3 => lv_i2b C.hx C.hb d (jI_byte hx.1 hx.2) (k H locs ls h1 h2 h3)
theorem J_ladd (C : Cx F E cc own ret rm ml) {x y : Int} (d : decode cc pc = .ok (.ladd, 1)) (k : JJ F E c0 s0 σ (pc + 1) lv (.long (jL (x + y)) :: st)) : JJ F E c0 s0 σ pc lv (.long (jL y) :: .long (jL x) :: st) := fun H locs ls h1 h2 h3 => lv_ladd C.hx C.hb d (by rw [jL_add]; exact k H locs ls h1 h2 h3)
theorem J_lmul (C : Cx F E cc own ret rm ml) {x y : Int} (d : decode cc pc = .ok (.lmul, 1)) (k : JJ F E c0 s0 σ (pc + 1) lv (.long (jL (x * y)) :: st)) : JJ F E c0 s0 σ pc lv (.long (jL y) :: .long (jL x) :: st) := fun H locs ls h1 h2 h3 => lv_lmul C.hx C.hb d (by rw [jL_mul]; exact k H locs ls h1 h2 h3)
theorem J_goto (C : Cx F E cc own ret rm ml) {off : Int} {tgt : Nat} (d : decode cc pc = .ok (.goto off, 3)) (ht : (pc : Int) + off = (tgt : Int)) (k : JJ F E c0 s0 σ tgt lv st) : JJ F E c0 s0 σ pc lv st := fun H locs ls h1 h2 h3 => lv_goto C.hx C.hb d ht (k H locs ls h1 h2 h3)
theorem J_icmp_eq (C : Cx F E cc own ret rm ml) {x y : Int} (hx : rgI x) (hy : rgI y) {off : Int} {tgt : Nat} (d : decode cc pc = .ok (.if_icmp .eq off, 3)) (ht : (pc : Int) + off = (tgt : Int)) (kt : x = y → JJ F E c0 s0 σ tgt lv st) (kf : ¬ x = y → JJ F E c0 s0 σ (pc + 3) lv st) : JJ F E c0 s0 σ pc lv (.int (jI y) :: .int (jI x) :: st) := fun H locs ls h1 h2 h3 => lv_icmp_eq C.hx C.hb d ht (fun q => kt ((jI_eq hx hy).mp q) H locs ls h1 h2 h3) (fun q => kf (fun z => q ((jI_eq hx hy).mpr z)) H locs ls h1 h2 h3)
theorem J_icmp_ne (C : Cx F E cc own ret rm ml) {x y : Int} (hx : rgI x) (hy : rgI y) {off : Int} {tgt : Nat} (d : decode cc pc = .ok (.if_icmp .ne off, 3)) (ht : (pc : Int) + off = (tgt : Int)) (kt : ¬ x = y → JJ F E c0 s0 σ tgt lv st) (kf : x = y → JJ F E c0 s0 σ (pc + 3) lv st) : JJ F E c0 s0 σ pc lv (.int (jI y) :: .int (jI x) :: st) := fun H locs ls h1 h2 h3 => lv_icmp_ne C.hx C.hb d ht (fun q => kt (fun z => q ((jI_eq hx hy).mpr z)) H locs ls h1 h2 h3) (fun q => kf ((jI_eq hx hy).mp q) H locs ls h1 h2 h3)
theorem J_icmp_lt (C : Cx F E cc own ret rm ml) {x y : Int} (hx : rgI x) (hy : rgI y) {off : Int} {tgt : Nat} (d : decode cc pc = .ok (.if_icmp .lt off, 3)) (ht : (pc : Int) + off = (tgt : Int)) (kt : x < y → JJ F E c0 s0 σ tgt lv st) (kf : ¬ x < y → JJ F E c0 s0 σ (pc + 3) lv st) : JJ F E c0 s0 σ pc lv (.int (jI y) :: .int (jI x) :: st) := fun H locs ls h1 h2 h3 => lv_icmp_lt C.hx C.hb d ht (fun q => kt ((jI_lt hx hy).mp q) H locs ls h1 h2 h3) (fun q => kf (fun z => q ((jI_lt hx hy).mpr z)) H locs ls h1 h2 h3)
theorem J_icmp_ge (C : Cx F E cc own ret rm ml) {x y : Int} (hx : rgI x) (hy : rgI y) {off : Int} {tgt : Nat} (d : decode cc pc = .ok (.if_icmp .ge off, 3)) (ht : (pc : Int) + off = (tgt : Int)) (kt : y ≤ x → JJ F E c0 s0 σ tgt lv st) (kf : ¬ y ≤ x → JJ F E c0 s0 σ (pc + 3) lv st) : JJ F E c0 s0 σ pc lv (.int (jI y) :: .int (jI x) :: st) := fun H locs ls h1 h2 h3 => lv_icmp_ge C.hx C.hb d ht (fun q => kt ((jI_le hy hx).mp q) H locs ls h1 h2 h3) (fun q => kf (fun z => q ((jI_le hy hx).mpr z)) H locs ls h1 h2 h3)
theorem J_icmp_gt (C : Cx F E cc own ret rm ml) {x y : Int} (hx : rgI x) (hy : rgI y) {off : Int} {tgt : Nat} (d : decode cc pc = .ok (.if_icmp .gt off, 3)) (ht : (pc : Int) + off = (tgt : Int)) (kt : y < x → JJ F E c0 s0 σ tgt lv st) (kf : ¬ y < x → JJ F E c0 s0 σ (pc + 3) lv st) : JJ F E c0 s0 σ pc lv (.int (jI y) :: .int (jI x) :: st) := fun H locs ls h1 h2 h3 => lv_icmp_gt C.hx C.hb d ht (fun q => kt ((jI_lt hy hx).mp q) H locs ls h1 h2 h3) (fun q => kf (fun z => q ((jI_lt hy hx).mpr z)) H locs ls h1 h2 h3)
theorem J_icmp_le (C : Cx F E cc own ret rm ml) {x y : Int} (hx : rgI x) (hy : rgI y) {off : Int} {tgt : Nat} (d : decode cc pc = .ok (.if_icmp .le off, 3)) (ht : (pc : Int) + off = (tgt : Int)) (kt : x ≤ y → JJ F E c0 s0 σ tgt lv st) (kf : ¬ x ≤ y → JJ F E c0 s0 σ (pc + 3) lv st) : JJ F E c0 s0 σ pc lv (.int (jI y) :: .int (jI x) :: st) := fun H locs ls h1 h2 h3 => lv_icmp_le C.hx C.hb d ht (fun q => kt ((jI_le hx hy).mp q) H locs ls h1 h2 h3) (fun q => kf (fun z => q ((jI_le hx hy).mpr z)) H locs ls h1 h2 h3)
theorem J_if_eq (C : Cx F E cc own ret rm ml) {x : Int} (hx : rgI x) {off : Int} {tgt : Nat} (d : decode cc pc = .ok (.ifCond .eq off, 3)) (ht : (pc : Int) + off = (tgt : Int)) (kt : x = 0 → JJ F E c0 s0 σ tgt lv st) (kf : ¬ x = 0 → JJ F E c0 s0 σ (pc + 3) lv st) : JJ F E c0 s0 σ pc lv (.int (jI x) :: st) := fun H locs ls h1 h2 h3 => lv_if_eq C.hx C.hb d ht (fun q => kt ((jI_eq hx rgI_0).mp q) H locs ls h1 h2 h3) (fun q => kf (fun z => q ((jI_eq hx rgI_0).mpr z)) H locs ls h1 h2 h3)
theorem J_if_ne (C : Cx F E cc own ret rm ml) {x : Int} (hx : rgI x) {off : Int} {tgt : Nat} (d : decode cc pc = .ok (.ifCond .ne off, 3)) (ht : (pc : Int) + off = (tgt : Int)) (kt : ¬ x = 0 → JJ F E c0 s0 σ tgt lv st) (kf : x = 0 → JJ F E c0 s0 σ (pc + 3) lv st) : JJ F E c0 s0 σ pc lv (.int (jI x) :: st) := fun H locs ls h1 h2 h3 => lv_if_ne C.hx C.hb d ht (fun q => kt (fun z => q ((jI_eq hx rgI_0).mpr z)) H locs ls h1 h2 h3) (fun q => kf ((jI_eq hx rgI_0).mp q) H locs ls h1 h2 h3)
theorem J_if_lt (C : Cx F E cc own ret rm ml) {x : Int} (hx : rgI x) {off : Int} {tgt : Nat} (d : decode cc pc = .ok (.ifCond .lt off, 3)) (ht : (pc : Int) + off = (tgt : Int)) (kt : x < 0 → JJ F E c0 s0 σ tgt lv st) (kf : ¬ x < 0 → JJ F E c0 s0 σ (pc + 3) lv st) : JJ F E c0 s0 σ pc lv (.int (jI x) :: st) := fun H locs ls h1 h2 h3 => lv_if_lt C.hx C.hb d ht (fun q => kt ((jI_lt hx rgI_0).mp q) H locs ls h1 h2 h3) (fun q => kf (fun z => q ((jI_lt hx rgI_0).mpr z)) H locs ls h1 h2 h3)
theorem J_if_ge (C : Cx F E cc own ret rm ml) {x : Int} (hx : rgI x) {off : Int} {tgt : Nat} (d : decode cc pc = .ok (.ifCond .ge off, 3)) (ht : (pc : Int) + off = (tgt : Int)) (kt : 0 ≤ x → JJ F E c0 s0 σ tgt lv st) (kf : ¬ 0 ≤ x → JJ F E c0 s0 σ (pc + 3) lv st) : JJ F E c0 s0 σ pc lv (.int (jI x) :: st) := fun H locs ls h1 h2 h3 => lv_if_ge C.hx C.hb d ht (fun q => kt ((jI_le rgI_0 hx).mp q) H locs ls h1 h2 h3) (fun q => kf (fun z => q ((jI_le rgI_0 hx).mpr z)) H locs ls h1 h2 h3)
theorem J_if_gt (C : Cx F E cc own ret rm ml) {x : Int} (hx : rgI x) {off : Int} {tgt : Nat} (d : decode cc pc = .ok (.ifCond .gt off, 3)) (ht : (pc : Int) + off = (tgt : Int)) (kt : 0 < x → JJ F E c0 s0 σ tgt lv st) (kf : ¬ 0 < x → JJ F E c0 s0 σ (pc + 3) lv st) : JJ F E c0 s0 σ pc lv (.int (jI x) :: st) := fun H locs ls h1 h2 h3 => lv_if_gt C.hx C.hb d ht (fun q => kt ((jI_lt rgI_0 hx).mp q) H locs ls h1 h2 h3) (fun q => kf (fun z => q ((jI_lt rgI_0 hx).mpr z)) H locs ls h1 h2 h3)
theorem J_if_le (C : Cx F E cc own ret rm ml) {x : Int} (hx : rgI x) {off : Int} {tgt : Nat} (d : decode cc pc = .ok (.ifCond .le off, 3)) (ht : (pc : Int) + off = (tgt : Int)) (kt : x ≤ 0 → JJ F E c0 s0 σ tgt lv st) (kf : ¬ x ≤ 0 → JJ F E c0 s0 σ (pc + 3) lv st) : JJ F E c0 s0 σ pc lv (.int (jI x) :: st) := fun H locs ls h1 h2 h3 => lv_if_le C.hx C.hb d ht (fun q => kt ((jI_le hx rgI_0).mp q) H locs ls h1 h2 h3) (fun q => kf (fun z => q ((jI_le hx rgI_0).mpr z)) H locs ls h1 h2 h3)
theorem J_tswOut (C : Cx F E cc own ret rm ml) {x : Int} (hx : rgI x) {dflt lo hi : Int} {offs : Array Int} {len tgt : Nat} (d : decode cc pc = .ok (.tableswitch dflt lo hi offs, len)) (h : x < lo ∨ hi < x) (ht : (pc : Int) + dflt = (tgt : Int)) (k : JJ F E c0 s0 σ tgt lv st) : JJ F E c0 s0 σ pc lv (.int (jI x) :: st) := fun H locs ls h1 h2 h3 => lv_tableOut C.hx C.hb d (by rw [jI_toInt hx]; exact h) ht (k H locs ls h1 h2 h3)
theorem J_tswIn (C : Cx F E cc own ret rm ml) {x v : Int} (hv : x = v) (hr : rgI v) {dflt lo hi off : Int} {offs : Array Int} {len tgt : Nat} (d : decode cc pc = .ok (.tableswitch dflt lo hi offs, len)) (g1 : ¬ v < lo) (g2 : ¬ hi < v) (ho : offs[(v - lo).toNat]? = some off) (ht : (pc : Int) + off = (tgt : Int)) (k : JJ F E c0 s0 σ tgt lv st) : JJ F E c0 s0 σ pc lv (.int (jI x) :: st) := fun H locs ls h1 h2 h3 => by
  subst hv
  exact lv_tableIn C.hx C.hb d (by rw [jI_toInt hr]; exact g1) (by rw [jI_toInt hr]; exact g2) (by rw [jI_toInt hr]; exact ho) ht (k H locs ls h1 h2 h3)
theorem RepE.one {H : Heap} (h : RepE E σ H) {q : Nat} (hq : dmE E σ q) : va_P (eD E) vwCl [(adE E q, clE E σ q)] H := fun k p hp => by
  cases k with
  | zero => cases hp; exact h.1 q hq
  | succ k => simp at hp
theorem J_get (C : Cx F E cc own ret rm ml) {q : Nat} (hq : dmE E σ q) {ci N index : Nat} {fs : List Value} {Cn : String} {T : u_T} (hcl : clE E σ q = .inr (ci, fs)) (hc : vwCl[ci]? = some (Cn, T, N)) (hin : ∀ w ∈ u_ws Cn T N, w ∈ lw_gt) (k : Nat) (hk : k < N) (hl : Cond.fieldLink own index (T k).1 (T k).2.1 (T k).2.2.1 ∈ lw_gt) {v : Value} (hv : fs[k]? = some v) (d : decode cc pc = .ok (.getfield index, 3)) (kk : WtE σ → JJ F E c0 s0 σ (pc + 3) lv (v :: st)) : JJ F E c0 s0 σ pc lv (.ref (adE E q) :: st) := fun H locs ls h1 h2 h3 =>
  va_get C.hx C.hb C.ht hin C.ho C.kn.1 (h1.one hq) 0 (by rw [hcl]; rfl) hc k hk (C.ht _ hl) (fun _ z => z) hv d (kk h1.2 H locs ls h1 h2 h3)
theorem J_put (C : Cx F E cc own ret rm ml) {q : Nat} (hw : wrE E q) {σ' : Sg} {ci N index : Nat} {fs : List Value} {Cn : String} {T : u_T} {k : Nat} {v : Value} {ty : FieldType} (hcl : clE E σ q = .inr (ci, fs)) (hcl' : clE E σ' q = .inr (ci, fs.set k v)) (hc : vwCl[ci]? = some (Cn, T, N)) (hin : ∀ w ∈ u_ws Cn T N, w ∈ lw_gt) (ty0 : Nat → FieldType) (hty : ∀ k, k < N → parseFieldDescriptor (T k).2.2.1 = some (ty0 k)) (hnm : ∀ a, a < N → ∀ b, b < N → a ≠ b → (T a).2.1 ≠ (T b).2.1) (hk : k < N) (hl : Cond.fieldLink own index (T k).1 (T k).2.1 (T k).2.2.1 ∈ lw_gt) (hfin : (T k).2.2.2 = false) (hd : parseFieldDescriptor (T k).2.2.1 = some ty) (hnv : narrow ty v = v) (hft : fits ty v = true) (hlen : k < fs.length)
    (gn : gN σ' = gN σ) (g1 : ∀ p, p ≠ q → ∀ j, gI σ' p j = gI σ p j) (g2 : ∀ p, p ≠ q → ∀ j, gR σ' p j = gR σ p j) (g3 : ∀ p, p ≠ q → gL σ' p = gL σ p) (gw : WtE σ → WtE σ')
    (d : decode cc pc = .ok (.putfield index, 3)) (kk : JJ F E c0 s0 σ' (pc + 3) lv st) : JJ F E c0 s0 σ pc lv (v :: .ref (adE E q) :: st) := by
  intro H locs ls h1 h2 h3
  have hap := va_apart (own := own) C.ht hin ty0 hty hnm C.kn.1 hc
  have hat := h1.1 q (wrE_dm hw)
  rw [hcl] at hat
  obtain ⟨r, e1, cell, q1, q2, q3, q4⟩ := hat
  have hr : r = (Cn, T, N) := Option.some.inj (e1.symm.trans hc)
  subst hr
  obtain ⟨hS, hfc, kC, hkC, hkind⟩ := C.kn.1.1 ci _ hc
  obtain ⟨cf, kf, fi, f, hi, hsl⟩ := hS k hk
  have hlay := C.ht _ (hin _ (u_in_lay hk))
  unfold u_lay at hlay
  rw [if_neg (by rw [hfin]; decide)] at hlay
  have hst := (u_facts hfc hkC (u_lays C.ht hin hk) hi).1
  have h6 := u_store hfc hkC hkind hlay hi hd hnv hft
  refine W.putK C.hx C.hb (f := f) ⟨C.ho, C.ht _ hl, ⟨_, _, _, hi⟩, hst⟩ (by rw [q2]; exact h6) q1 q3 (by rw [hsl]; exact k2_hasslot (q4 k hk)) rfl rfl d fun H' e1 e2 e3 => ?_
  rw [hsl] at e1 ⊢
  refine kk H' _ ls (h1.put C.kn.2.2.2 (wrE_dm hw) gn ?_ e3 g1 g2 g3 (gw h1.2)) (h2.put e2 e3 (C.rg _ (wrE_rg hw))) h3
  rw [hcl']
  exact ⟨_, hc, t_OB.to (V := updV (vp_V fs) k v) ⟨_, e1, q2, q3, t_set q4 hap hk v⟩ (fun j _ => vp_updV_set hlen v j)⟩
theorem J_putI (C : Cx F E cc own ret rm ml) {q : Nat} (hw : wrE E q) {j x : Int} {ci N index : Nat} {fs : List Value} {Cn : String} {T : u_T} {k : Nat} (hcl : clE E σ q = .inr (ci, fs)) (hcl' : clE E (sI σ q j x) q = .inr (ci, fs.set k (.int (jI x)))) (hc : vwCl[ci]? = some (Cn, T, N)) (hin : ∀ w ∈ u_ws Cn T N, w ∈ lw_gt) (ty0 : Nat → FieldType) (hty : ∀ k, k < N → parseFieldDescriptor (T k).2.2.1 = some (ty0 k)) (hnm : ∀ a, a < N → ∀ b, b < N → a ≠ b → (T a).2.1 ≠ (T b).2.1) (hk : k < N) (hl : Cond.fieldLink own index (T k).1 (T k).2.1 (T k).2.2.1 ∈ lw_gt) (hfin : (T k).2.2.2 = false) (hd : parseFieldDescriptor (T k).2.2.1 = some .int) (hlen : k < fs.length) (hx : rgI x)
    (d : decode cc pc = .ok (.putfield index, 3)) (kk : JJ F E c0 s0 (sI σ q j x) (pc + 3) lv st) : JJ F E c0 s0 σ pc lv (.int (jI x) :: .ref (adE E q) :: st) :=
  J_put C hw hcl hcl' hc hin ty0 hty hnm hk hl hfin hd rfl rfl hlen rfl (fun p hp j => gI_sI_ne hp) (fun _ _ _ => rfl) (fun _ _ => rfl) (fun h => h.sI q j hx) d kk
/-- a row of numbers -/
theorem J_iald (C : Cx F E cc own ret rm ml) {q n : Nat} (hq : dmE E σ q) (hcl : clE E σ q = .inl (ecI E, n, .inl (fun j => jI (gI σ q (j : Int))))) (hn : n < 2147483648) {x : Int} (g0 : 0 ≤ x) (g1 : x < (n : Int)) (d : decode cc pc = .ok (.iaload, 1)) (kk : rgI (gI σ q x) → JJ F E c0 s0 σ (pc + 1) lv (.int (jI (gI σ q x)) :: st)) : JJ F E c0 s0 σ pc lv (.int (jI x) :: .ref (adE E q) :: st) := fun H locs ls h1 h2 h3 => by
  refine va_iald C.hx C.hb C.kn.1 (h1.one hq) 0 0 (cA := ecI E) (n := n) (f := fun j => jI (gI σ q (j : Int))) (by rw [hcl]; rfl) rfl (jI_in hn g0 g1) d ?_
  have e : (((jI x).toNatClampNeg : Nat) : Int) = x := by
    rw [jI_clamp ⟨by omega, by omega⟩]
    omega
  show Wj F E H locs c0 s0 (F0 (fm F) (pc + 1) ls (.int (jI (gI σ q (((jI x).toNatClampNeg : Nat) : Int))) :: st))
  rw [e]
  exact kk (h1.2.1 q x) H locs ls h1 h2 h3
theorem J_bald (C : Cx F E cc own ret rm ml) {q n : Nat} (hq : dmE E σ q) (hcl : clE E σ q = .inl (ecB E, n, .inl (fun j => jI (gI σ q (j : Int))))) (hn : n < 2147483648) {x : Int} (g0 : 0 ≤ x) (g1 : x < (n : Int)) (d : decode cc pc = .ok (.baload, 1)) (kk : rgI (gI σ q x) → JJ F E c0 s0 σ (pc + 1) lv (.int (jI (gI σ q x)) :: st)) : JJ F E c0 s0 σ pc lv (.int (jI x) :: .ref (adE E q) :: st) := fun H locs ls h1 h2 h3 => by
  refine va_bald C.hx C.hb C.kn.1 (h1.one hq) 0 1 (cA := ecB E) (n := n) (f := fun j => jI (gI σ q (j : Int))) (by rw [hcl]; rfl) rfl (jI_in hn g0 g1) d ?_
  have e : (((jI x).toNatClampNeg : Nat) : Int) = x := by
    rw [jI_clamp ⟨by omega, by omega⟩]
    omega
  show Wj F E H locs c0 s0 (F0 (fm F) (pc + 1) ls (.int (jI (gI σ q (((jI x).toNatClampNeg : Nat) : Int))) :: st))
  rw [e]
  exact kk (h1.2.1 q x) H locs ls h1 h2 h3
theorem jI_upd {q : Nat} {x v : Int} (g0 : 0 ≤ x) (hr : rgI x) (σ : Sg) : (fun j : Nat => Value.int (jI (gI (sI σ q x v) q (j : Int)))) = updV (fun j : Nat => Value.int (jI (gI σ q (j : Int)))) (jI x).toNatClampNeg (.int (jI v)) := by
  funext j
  have e : (jI x).toNatClampNeg = x.toNat := jI_clamp hr
  rw [e]
  unfold updV
  rw [gI_sI]
  by_cases hj : j = x.toNat
  · rw [if_pos hj, if_pos ⟨rfl, by omega⟩]
  · rw [if_neg hj, if_neg (fun z => hj (by omega))]
theorem J_iast (C : Cx F E cc own ret rm ml) {q n : Nat} (hw : wrE E q) (hcl : ∀ σ : Sg, clE E σ q = .inl (ecI E, n, .inl (fun j => jI (gI σ q (j : Int))))) (hn : n < 2147483648) {x v : Int} (g0 : 0 ≤ x) (g1 : x < (n : Int)) (hv : rgI v) (d : decode cc pc = .ok (.iastore, 1)) (kk : JJ F E c0 s0 (sI σ q x v) (pc + 1) lv st) : JJ F E c0 s0 σ pc lv (.int (jI v) :: .int (jI x) :: .ref (adE E q) :: st) := by
  intro H locs ls h1 h2 h3
  have hat := h1.1 q (wrE_dm hw)
  rw [hcl] at hat
  have hin := jI_in hn g0 g1
  refine W.iast C.hx C.hb hat ((C.kn.1.2 0 _ rfl).1 n (fun j => .int (jI (gI σ q (j : Int))))) (fun z => by cases z) (by show ¬ (jI x < 0 ∨ (arrV _ _ _).slots.size ≤ _); rw [arrV_size]; exact hin) rfl rfl d fun H1 e z oq => ?_
  refine kk H1 _ ls (h1.put C.kn.2.2.2 (wrE_dm hw) rfl ?_ oq (fun p hp j => gI_sI_ne hp) (fun _ _ _ => rfl) (fun _ _ => rfl) (h1.2.sI q x hv)) (h2.put z oq (C.rg _ (wrE_rg hw))) h3
  rw [hcl]
  show H1[adE E q]? = some (vp_cell _ _)
  rw [e, vp_cell_i, vp_cell_i, arrV_store]
  congr 2
  exact (jI_upd g0 ⟨by omega, by omega⟩ σ).symm
theorem J_bast (C : Cx F E cc own ret rm ml) {q n : Nat} (hw : wrE E q) (hcl : ∀ σ : Sg, clE E σ q = .inl (ecB E, n, .inl (fun j => jI (gI σ q (j : Int))))) (hn : n < 2147483648) {x v : Int} (g0 : 0 ≤ x) (g1 : x < (n : Int)) (hv : -128 ≤ v ∧ v ≤ 127) (d : decode cc pc = .ok (.bastore, 1)) (kk : JJ F E c0 s0 (sI σ q x v) (pc + 1) lv st) : JJ F E c0 s0 σ pc lv (.int (jI v) :: .int (jI x) :: .ref (adE E q) :: st) := by
  intro H locs ls h1 h2 h3
  have hat := h1.1 q (wrE_dm hw)
  rw [hcl] at hat
  have hin := jI_in hn g0 g1
  have hnr : narrow .byte (.int (jI v)) = .int (jI v) := congrArg Value.int (jI_byte hv.1 hv.2)
  refine W.bast C.hx C.hb hat ((C.kn.1.2 1 _ rfl).1 n (fun j => .int (jI (gI σ q (j : Int))))) (fun z => by cases z) (by show ¬ (jI x < 0 ∨ (arrV _ _ _).slots.size ≤ _); rw [arrV_size]; exact hin) rfl rfl d fun H1 e z oq => ?_
  rw [hnr] at e
  refine kk H1 _ ls (h1.put C.kn.2.2.2 (wrE_dm hw) rfl ?_ oq (fun p hp j => gI_sI_ne hp) (fun _ _ _ => rfl) (fun _ _ => rfl) (h1.2.sI q x ⟨by omega, by omega⟩)) (h2.put z oq (C.rg _ (wrE_rg hw))) h3
  rw [hcl]
  show H1[adE E q]? = some (vp_cell _ _)
  rw [e, vp_cell_i, vp_cell_i, arrV_store]
  congr 2
  exact (jI_upd g0 ⟨by omega, by omega⟩ σ).symm
/-- a track's row of subtitles -/
theorem J_aald (C : Cx F E cc own ret rm ml) (hs : eS E = true) {q : Nat} (hk : kdO q = 13) {x : Int} (g0 : 0 ≤ x) (g1 : x < 16) (d : decode cc pc = .ok (.aaload, 1)) (kk : kdO (gR σ q x) = 14 → JJ F E c0 s0 σ (pc + 1) lv (.ref (adE E (gR σ q x)) :: st)) : JJ F E c0 s0 σ pc lv (.int (jI x) :: .ref (adE E q) :: st) := fun H locs ls h1 h2 h3 => by
  refine va_aldq C.hx C.hb C.kn.1 (h1.one (wrE_dm (wr_c hs (kdO_cls hk (by omega) (by omega) (by omega))))) 0 2 (cA := ecS E) (C := "CutConformer$Subtitle") (n := 16) (f := fun j => some (adE E (gR σ q (j : Int)))) (by rw [clE_k E σ hk]; rfl) rfl (jI_in (by decide) g0 g1) d ?_
  have e : (((jI x).toNatClampNeg : Nat) : Int) = x := by
    rw [jI_clamp ⟨by omega, by omega⟩]
    omega
  show Wj F E H locs c0 s0 (F0 (fm F) (pc + 1) ls (.ref (adE E (gR σ q (((jI x).toNatClampNeg : Nat) : Int))) :: st))
  rw [e]
  exact kk (h1.2.2.1 q x hk) H locs ls h1 h2 h3
theorem J_aaldT (C : Cx F E cc own ret rm ml) (hs : eS E = true) {x : Int} (g0 : 0 ≤ x) (g1 : x < 8) (d : decode cc pc = .ok (.aaload, 1)) (kk : JJ F E c0 s0 σ (pc + 1) lv (.ref (adE E (63 + 27 * x.toNat)) :: st)) : JJ F E c0 s0 σ pc lv (.int (jI x) :: .ref (adE E 62) :: st) := fun H locs ls h1 h2 h3 => by
  have hk : kdO 62 = 17 := by decide
  refine va_aldq C.hx C.hb C.kn.1 (h1.one (wrE_dm (wr_c hs (by decide : 62 < 279)))) 0 3 (cA := ecT E) (C := "CutConformer$State") (n := 8) (f := fun j => some (adE E (63 + 27 * j))) (by rw [clE_k E σ hk]; rfl) rfl (jI_in (by decide) g0 g1) d ?_
  show Wj F E H locs c0 s0 (F0 (fm F) (pc + 1) ls (.ref (adE E (63 + 27 * (jI x).toNatClampNeg)) :: st))
  rw [jI_clamp ⟨by omega, by omega⟩]
  exact kk H locs ls h1 h2 h3
theorem J_aast (C : Cx F E cc own ret rm ml) (hs : eS E = true) {q v : Nat} (hk : kdO q = 13) (hv : kdO v = 14) {x : Int} (g0 : 0 ≤ x) (g1 : x < 16) (d : decode cc pc = .ok (.aastore, 1)) (kk : JJ F E c0 s0 (sR σ q x v) (pc + 1) lv st) : JJ F E c0 s0 σ pc lv (.ref (adE E v) :: .int (jI x) :: .ref (adE E q) :: st) := by
  intro H locs ls h1 h2 h3
  have hw : wrE E q := wr_c hs (kdO_cls hk (by omega) (by omega) (by omega))
  have hat := h1.1 q (wrE_dm hw)
  rw [clE_k E σ hk] at hat
  have hav := h1.1 v (wrE_dm (wr_c hs (kdO_cls hv (by omega) (by omega) (by omega))))
  rw [clE_k E σ hv] at hav
  obtain ⟨r', hr', cellV, y1, y2, y3, -⟩ := hav
  have hin := jI_in (n := 16) (by decide) g0 g1
  have hcls := (C.kn.1.1 6 _ rfl).2
  obtain ⟨kA, comp, k1, k2, k3, -⟩ := (C.kn.1.2 2 _ rfl).2
  have hcomp : comp = (eD E).1 6 := Option.some.inj (k3.symm.trans hcls.1)
  subst hcomp
  obtain ⟨kC, hkC, -⟩ := hcls.2
  refine W.aast C.hx C.hb hat (fun q h => by cases h) (fun h => by cases h) k1 k2 rfl hkC ⟨fun z => hin (Or.inl z), by show _ < (arrV _ _ _).slots.size; rw [arrV_size]; exact Nat.not_le.mp fun z => hin (Or.inr z)⟩ y1 (fun q h => by rw [y3] at h; cases h) (by rw [y2]; exact hkC) (by rw [y2]; exact va_assign hcls) rfl rfl d fun H1 e z oq => ?_
  refine kk H1 _ ls (h1.put C.kn.2.2.2 (wrE_dm hw) rfl ?_ oq (fun _ _ _ => rfl) (fun p hp j => gR_sR_ne hp) (fun _ _ => rfl) (h1.2.sRow x hk hv)) (h2.put z oq (C.rg _ (wrE_rg hw))) h3
  rw [clE_k E _ hk]
  show H1[adE E q]? = some (vp_cell _ _)
  rw [e, vp_cell_q, vp_cell_q, arrV_store]
  congr 2
  funext j
  have ec : (jI x).toNatClampNeg = x.toNat := jI_clamp ⟨by omega, by omega⟩
  rw [ec]
  unfold updV
  rw [gR_sR]
  by_cases hj : j = x.toNat
  · rw [if_pos hj, if_pos ⟨rfl, by omega⟩]; rfl
  · rw [if_neg hj, if_neg (fun z => hj (by omega))]
theorem J_alen (C : Cx F E cc own ret rm ml) {q : Nat} (hq : dmE E σ q) {cA : ClassId} {ty : FieldType} {n : Nat} {b : (Nat → Int32) ⊕ (Nat → Int64) ⊕ (Nat → UInt32) ⊕ (Nat → UInt64) ⊕ (Nat → Option Nat)} (t0 : Nat) (ht : (tysE E)[t0]? = some (cA, ty)) (hcl : clE E σ q = .inl (cA, n, b)) (d : decode cc pc = .ok (.arraylength, 1)) (kk : JJ F E c0 s0 σ (pc + 1) lv (.int (jI (n : Int)) :: st)) : JJ F E c0 s0 σ pc lv (.ref (adE E q) :: st) := fun H locs ls h1 h2 h3 => by
  have e : Int32.ofNat n = jI (n : Int) := (Int32.ofInt_eq_ofNat).symm
  exact va_alen C.hx C.hb C.kn.1 (h1.one hq) 0 t0 (x := (n, b)) (by rw [hcl]; rfl) ht e d (kk H locs ls h1 h2 h3)
end ROWS
end
section
/-! calls, answers, tables, Math, copies; a method's contract -/
def MetE (l : Launch) (E : ET) (y : MethodName) (cy : ByteArray) (mlc : Nat) (rc : Option FieldType) (rmc : Room) (σ : Sg) (av : List Value) (rq : Option Value → Sg → Prop) : Prop :=
  Met l y (Cond.code y cy mlc rc :: lw_gt) rmc (va_Pc av (WdE E σ)) (Qcc E (rgA E) rq) 0 0 (rgA E)
/-- what the tables say of a callee -/
def CkE (y : MethodName) (cy : ByteArray) (mlc : Nat) (rc : Option FieldType) (n : Nat) : Prop :=
  Cond.code y cy mlc rc ∈ lw_gt ∧ Cond.initialized y.cls ∈ lw_gt ∧ (y.cls ≠ "java/lang/invoke/MethodHandle" ∧ y.cls ≠ "java/lang/invoke/VarHandle" ∧ (parseMethodDescriptor y.desc).map (fun d => d.parameters.length) = some n)
theorem gt_good {w : Cond} (h : w ∈ lw_gt) : (w.onTables && w.keeps) = true ∨ ∃ ty, w = .arrayClass ty := good_of_word (List.mem_filter.mp h).2
theorem gt_goodIn {w : Cond} (h : w ∈ lw_gt) : GoodIn lw_gt (w :: lw_gt) := fun v hv => by
  rcases List.mem_cons.mp hv with rfl | hv
  · exact ⟨h, gt_good h⟩
  · exact ⟨hv, gt_good hv⟩
theorem MetJ {l : Launch} {E : ET} {y : MethodName} {cy : ByteArray} {mlc : Nat} {rc : Option FieldType} {rmc : Room} {σ : Sg} {av : List Value} {rq : Option Value → Sg → Prop} (hy : plainName y.cls = true) (hav : (lg_sl av).length ≤ mlc)
    (h : ∀ F, fl F = l → Cx F E cy y.cls rc rmc mlc → fq F = rq → JJ F E 0 0 σ 0 (lv_args 0 av) []) : MetE l E y cy mlc rc rmc σ av rq := by
  refine Met.ofW (cc := cy) (maxL := mlc) (ret := rc) hy rfl ?_
  intro p e s m args below meth c s₁ B hml hv
  obtain ⟨rfl, hk, hrep⟩ := hv
  have hts := atoms_spec (ws := Cond.code y cy mlc rc :: lw_gt) B.pre
  have C : Cx (p, l, e, (headSpec (Cond.code y cy mlc rc :: lw_gt) rmc).room, s, m, av.toArray, below, meth, c, 0, 0, rgA E, mlc, rq) E cy y.cls rc rmc mlc :=
    ⟨B.exec, B.bytes, hml, findClass_of_methodNamed B.named, fun w hw => hts w (List.mem_cons_of_mem _ hw), B.returns, B.notSynchronized, hk, fun _ z => z, fun a ha => by
      unfold rgA at ha
      split at ha <;> omega, rfl, rfl⟩
  have key := h _ rfl C rfl
  rw [lg_entry_eq]
  exact key s.heap [] _ hrep va_S.rf (lv_entry av hav)
section ROWS2
variable {F : FT} {E : ET} {cc : ByteArray} {own : String} {ret : Option FieldType} {rm : Room} {ml c0 s0 : Nat} {σ : Sg} {pc : Nat} {lv : List (Nat × Value)} {st : List Value}
theorem J_iret (C : Cx F E cc own (some .int) rm ml) (hc : c0 ≤ fmc F) (hs : s0 ≤ fms F) {x : Int} (d : decode cc pc = .ok (.ireturn, 1)) (hq : fq F (some (.int (jI x))) σ) : JJ F E c0 s0 σ pc lv [.int (jI x)] := fun H locs ls h1 h2 h3 =>
  W.widen hc hs (W.iret C.hx C.hb C.hr (fun t ht hW => ⟨⟨_, σ, rfl, hq, by rw [ht]; exact h1⟩, h2.F ht⟩) h2.2.2 d C.hlk)
theorem J_zret {ty : FieldType} (C : Cx F E cc own (some ty) rm ml) (hc : c0 ≤ fmc F) (hs : s0 ≤ fms F) {x : Int} (hn : narrow ty (.int (jI x)) = .int (jI x)) (d : decode cc pc = .ok (.ireturn, 1)) (hq : fq F (some (.int (jI x))) σ) : JJ F E c0 s0 σ pc lv [.int (jI x)] := fun H locs ls h1 h2 h3 =>
  W.widen hc hs (W.zret C.hx C.hb C.hr hn (fun t ht hW => ⟨⟨_, σ, rfl, hq, by rw [ht]; exact h1⟩, h2.F ht⟩) h2.2.2 d C.hlk)
theorem nar_z {x : Int} (h : x = 0 ∨ x = 1) : narrow .boolean (.int (jI x)) = .int (jI x) := by rcases h with rfl | rfl <;> rfl
theorem J_lret (C : Cx F E cc own (some .long) rm ml) (hc : c0 ≤ fmc F) (hs : s0 ≤ fms F) {x : Int} (d : decode cc pc = .ok (.lreturn, 1)) (hq : fq F (some (.long (jL x))) σ) : JJ F E c0 s0 σ pc lv [.long (jL x)] := fun H locs ls h1 h2 h3 =>
  W.widen hc hs (W.lret C.hx C.hb C.hr (fun t ht hW => ⟨⟨_, σ, rfl, hq, by rw [ht]; exact h1⟩, h2.F ht⟩) h2.2.2 d C.hlk)
theorem J_vret (C : Cx F E cc own none rm ml) (hc : c0 ≤ fmc F) (hs : s0 ≤ fms F) (d : decode cc pc = .ok (.return_, 1)) (hq : fq F none σ) : JJ F E c0 s0 σ pc lv [] := fun H locs ls h1 h2 h3 =>
  W.widen hc hs (W.vret C.hx C.hb C.hr (fun t ht hW => ⟨⟨_, σ, rfl, hq, by rw [ht]; exact h1⟩, h2.F ht⟩) h2.2.2 d C.hlk)
theorem J_aret {Cn : String} (C : Cx F E cc own (some (.object Cn)) rm ml) (hc : c0 ≤ fmc F) (hs : s0 ≤ fms F) {a : Nat} (d : decode cc pc = .ok (.areturn, 1)) (hq : fq F (some (.ref a)) σ) : JJ F E c0 s0 σ pc lv [.ref a] := fun H locs ls h1 h2 h3 =>
  W.widen hc hs (W.aret C.hx C.hb C.hr (Or.inl ⟨_, rfl⟩) (Or.inr ⟨_, rfl⟩) (fun t ht hW => ⟨⟨_, σ, rfl, hq, by rw [ht]; exact h1⟩, h2.F ht⟩) h2.2.2 d C.hlk)
/-- behind a call -/
theorem J_run {mc ms : Nat} {rest st0 : List Value} {A1 free : Nat → Prop} {rq : Option Value → Sg → Prop} {av : Array Value} (hA : ∀ q, A1 q → fA F q) (hf : ∀ q, free q → fA F q)
    (hr : ∀ (H : Heap) (locs : List Loc) (ls : Array Slot), RepE E σ H → va_S (fA F) (fs F).heap H locs → lv_has ls (fn F) lv → va_Run (fp F) (fl F) (fe F) (fR F) (fs F) (fm F) (fa F) (fb F) (fme F) (fc F) H locs c0 s0 mc ms (F0 (fm F) pc ls st0) rest (Qcc E A1 rq av) free)
    (kk : ∀ v σ', rq v σ' → JJ F E (c0 + mc) (s0 + ms) σ' (pc + 3) lv (v.toList ++ rest)) : JJ F E c0 s0 σ pc lv st0 := by
  intro H locs ls h1 h2 h3 T hT X
  obtain ⟨v, st₀, t, T', L, e0, X', hL, e1, e2, ⟨⟨v', σ', hv, hq, hb⟩, hz, hk⟩, go⟩ := hr H locs ls h1 h2 h3 T hT X
  cases hv
  rw [e0] at hz hk
  obtain ⟨t2, a1, b1⟩ := kk v σ' hq T'.heap (locs ++ L) ls (by rw [e1]; exact hb) ⟨Nat.le_trans h2.1 (by rw [e1]; exact hz), fun q g1 g2 => by
      rw [e1, hk q (Nat.lt_of_lt_of_le g1 h2.1) (fun z => g2 (hA q z))]
      exact h2.2.1 q g1 g2, fun q hq => by
      rcases List.mem_append.mp hq with h | h
      · exact h2.2.2 q h
      · exact hf _ (hL q h)⟩ h3 T' rfl X'
  exact ⟨t2, go t2 a1, b1⟩
theorem Cx.callB {y : MethodName} {cy : ByteArray} {mlc n index : Nat} {rc : Option FieldType} {rmc : Room} (C : Cx F E cc own ret rm ml) (ck : CkE y cy mlc rc n) (hl : Cond.methodLink own index y ∈ lw_gt) (hz : rmc.cells = 0 ∧ rmc.slots = 0) (hR : rmc.frames + 1 ≤ rm.frames ∧ 8 + (mlc + 11) + rmc.locals ≤ rm.locals) :
    CallB (fR F) (fs F) (fa F) own index y cy mlc rc (Cond.code y cy mlc rc :: lw_gt) rmc 0 0 n :=
  callB_of n C.ht (gt_goodIn ck.1) rfl hz.1 hz.2 (C.ht _ ck.2.1) (C.ht _ hl) ck.2.2 (by rw [C.hR]; exact hR)
theorem J_V {y : MethodName} {cy : ByteArray} {mlc n index q : Nat} {rc : Option FieldType} {rmc : Room} {rq : Option Value → Sg → Prop} {As rest st0 : List Value} (C : Cx F E cc own ret rm ml) (hM : MetE (fl F) E y cy mlc rc rmc σ (.ref (adE E q) :: As) rq) (ck : CkE y cy mlc rc n) (hl : Cond.methodLink own index y ∈ lw_gt) (hi : Cond.instanceMethod y ∈ lw_gt) (hse : Cond.selects y.cls y y ∈ lw_gt)
    (hq : dmE E σ q) {ci N : Nat} {vs : List Value} {T : u_T} (hcl : clE E σ q = .inr (ci, vs)) (hc : vwCl[ci]? = some (y.cls, T, N)) (hz : rmc.cells = 0 ∧ rmc.slots = 0) (hR : rmc.frames + 1 ≤ rm.frames ∧ 8 + (mlc + 11) + rmc.locals ≤ rm.locals) (hcs : c0 ≤ rm.cells ∧ s0 ≤ rm.slots) (hn : As.length = n) (hst : st0 = As.reverse ++ .ref (adE E q) :: rest) (hW : (rest.map fun v => v.category).sum ≤ 8)
    (d : decode cc pc = .ok (.invokevirtual index, 3)) (kk : ∀ v σ', rq v σ' → JJ F E c0 s0 σ' (pc + 3) lv (v.toList ++ rest)) : JJ F E c0 s0 σ pc lv st0 := by
  refine J_run (mc := 0) (ms := 0) (rest := rest) (rq := rq) (av := (Value.ref (adE E q) :: As).toArray) C.rg C.rg (fun H locs ls h1 h2 h3 => ?_) kk
  exact va_runV (As := As) (rest := rest) (nL := fn F) ⟨C.hx, C.hb, C.hml, C.ho, C.ht⟩ hM ⟨C.callB ck hl hz hR, C.ht _ hi, C.ht _ hse⟩ ⟨fun a U g mk h => ⟨h.1, h.2.calling⟩, va_recv (q0 := 0) C.kn.1 (h1.one hq) hc (by rw [hcl]; rfl), fun U hU hW => ⟨rfl, C.kn.to h2 C.lo hW hU, by rw [hU]; exact h1⟩⟩ rfl hn h3.1 hst (lv_room hW) d (by rw [C.hR]; exact hcs)
theorem J_S {y : MethodName} {cy : ByteArray} {mlc n index : Nat} {rc : Option FieldType} {rmc : Room} {rq : Option Value → Sg → Prop} {As rest st0 : List Value} (C : Cx F E cc own ret rm ml) (hM : MetE (fl F) E y cy mlc rc rmc σ As rq) (ck : CkE y cy mlc rc n) (hl : Cond.methodLink own index y ∈ lw_gt) (hi : Cond.static y ∈ lw_gt)
    (hz : rmc.cells = 0 ∧ rmc.slots = 0) (hR : rmc.frames + 1 ≤ rm.frames ∧ 8 + (mlc + 11) + rmc.locals ≤ rm.locals) (hcs : c0 ≤ rm.cells ∧ s0 ≤ rm.slots) (hn : As.length = n) (hst : st0 = As.reverse ++ rest) (hW : (rest.map fun v => v.category).sum ≤ 8)
    (d : decode cc pc = .ok (.invokestatic index, 3)) (kk : ∀ v σ', rq v σ' → JJ F E c0 s0 σ' (pc + 3) lv (v.toList ++ rest)) : JJ F E c0 s0 σ pc lv st0 := by
  refine J_run (mc := 0) (ms := 0) (rest := rest) (rq := rq) (av := As.toArray) C.rg C.rg (fun H locs ls h1 h2 h3 => ?_) kk
  exact va_runS (As := As) (rest := rest) (nL := fn F) ⟨C.hx, C.hb, C.hml, C.ho, C.ht⟩ hM ⟨C.callB ck hl hz hR, C.ht _ hi⟩ ⟨fun a U g mk h => ⟨h.1, h.2.calling⟩, fun U hU hW => ⟨rfl, C.kn.to h2 C.lo hW hU, by rw [hU]; exact h1⟩⟩ rfl hn h3.1 hst (lv_room hW) d (by rw [C.hR]; exact hcs)
/-! tables -/
theorem J_gets (C : Cx F E cc own ret rm ml) {Cn n de : String} {v : Value} {index : Nat} (hZ : KnE E (fs F) → va_Z Cn n de v (fun a => eb E ≤ a) (fs F) (fs F).heap) (hl : Cond.fieldLink own index Cn n de ∈ lw_gt) (d : decode cc pc = .ok (.getstatic index, 3)) (kk : JJ F E c0 s0 σ (pc + 3) lv (v :: st)) : JJ F E c0 s0 σ pc lv st := fun H locs ls h1 h2 h3 =>
  va_gets C.hx C.hb ((hZ C.kn).narrow C.lo) h2 C.ho (C.ht _ hl) (fun _ z => z) d (kk H locs ls h1 h2 h3)
theorem tabE_rg (k j : Nat) : rgI (tabE k j) := by
  have h5 : ∀ (l : List Int), (∀ x ∈ l, rgI x) → rgI (l.getD j 0) := fun l hl => by
    rw [List.getD_eq_getElem?_getD]
    cases h : l[j]? with
    | none => exact rgI_0
    | some x => exact hl x (List.mem_of_getElem? h)
  unfold tabE
  split
  · exact h5 _ (by unfold rgI; decide)
  · split
    · exact h5 _ (by unfold rgI; decide)
    · exact h5 _ (by unfold rgI; decide)
theorem J_tald (C : Cx F E cc own ret rm ml) {k : Nat} (hT : KnE E (fs F) → va_T .int (ea E k) 5 (fun j => .int (jI (tabE k j))) (fun a => eb E ≤ a) (fs F) (fs F).heap) {x : Int} (g0 : 0 ≤ x) (g1 : x < 5) (d : decode cc pc = .ok (.iaload, 1)) (kk : JJ F E c0 s0 σ (pc + 1) lv (.int (jI (tabE k x.toNat)) :: st)) : JJ F E c0 s0 σ pc lv (.int (jI x) :: .ref (ea E k) :: st) := fun H locs ls h1 h2 h3 => by
  refine va_ti C.hx C.hb ((hT C.kn).narrow C.lo) h2 (jI_in (n := 5) (by decide) g0 g1) (v := .int (jI (tabE k x.toNat))) ?_ d (kk H locs ls h1 h2 h3)
  show Value.int (jI (tabE k (jI x).toNatClampNeg)) = _
  rw [jI_clamp ⟨by omega, by omega⟩]
theorem J_tlen (C : Cx F E cc own ret rm ml) {k : Nat} (hT : KnE E (fs F) → va_T .int (ea E k) 5 (fun j => .int (jI (tabE k j))) (fun a => eb E ≤ a) (fs F) (fs F).heap) (d : decode cc pc = .ok (.arraylength, 1)) (kk : JJ F E c0 s0 σ (pc + 1) lv (.int (jI 5) :: st)) : JJ F E c0 s0 σ pc lv (.ref (ea E k) :: st) := fun H locs ls h1 h2 h3 =>
  va_tlen C.hx C.hb ((hT C.kn).narrow C.lo) h2 (v := jI 5) rfl d (kk H locs ls h1 h2 h3)
/-! Math -/
theorem J_max (C : Cx F E cc own ret rm ml) {x y : Int} (hx : rgI x) (hy : rgI y) {index : Nat} (hl : Cond.methodLink own index Lib.Math.max.name ∈ lw_gt) (w1 : Cond.static Lib.Math.max.name ∈ lw_gt) (w2 : Cond.initialized "java/lang/Math" ∈ lw_gt) (w3 : Cond.code Lib.Math.max.name Lib.Math.max.code 2 (some .int) ∈ lw_gt) (hR : 1 ≤ rm.frames ∧ 21 ≤ rm.locals) (hW : (st.map fun v => v.category).sum ≤ 8) (hcs : c0 ≤ rm.cells ∧ s0 ≤ rm.slots) (d : decode cc pc = .ok (.invokestatic index, 3)) (kk : JJ F E c0 s0 σ (pc + 3) lv (.int (jI (max x y)) :: st)) : JJ F E c0 s0 σ pc lv (.int (jI y) :: .int (jI x) :: st) := fun H locs ls h1 h2 h3 => by
  refine va_mmax C.hx C.hb (by rw [C.hml, h3.1]) C.ho (C.ht _ hl) (C.ht _ w1) (C.ht _ w2) (C.ht _ w3) (by rw [C.hR]; exact hR.1) (by rw [C.hR]; have := hR.2; omega) (by rw [C.hR]; exact hcs.1) (by rw [C.hR]; exact hcs.2) d ?_
  have e : (if jI x < jI y then jI y else jI x) = jI (max x y) := by
    by_cases h : x < y
    · rw [if_pos ((jI_lt hx hy).mpr h)]
      congr 1
      omega
    · rw [if_neg (fun z => h ((jI_lt hx hy).mp z))]
      congr 1
      omega
  rw [e]
  exact kk H locs ls h1 h2 h3
theorem J_min (C : Cx F E cc own ret rm ml) {x y : Int} (hx : rgI x) (hy : rgI y) {index : Nat} (hl : Cond.methodLink own index Lib.Math.min.name ∈ lw_gt) (w1 : Cond.static Lib.Math.min.name ∈ lw_gt) (w2 : Cond.initialized "java/lang/Math" ∈ lw_gt) (w3 : Cond.code Lib.Math.min.name Lib.Math.min.code 2 (some .int) ∈ lw_gt) (hR : 1 ≤ rm.frames ∧ 21 ≤ rm.locals) (hW : (st.map fun v => v.category).sum ≤ 8) (hcs : c0 ≤ rm.cells ∧ s0 ≤ rm.slots) (d : decode cc pc = .ok (.invokestatic index, 3)) (kk : JJ F E c0 s0 σ (pc + 3) lv (.int (jI (min x y)) :: st)) : JJ F E c0 s0 σ pc lv (.int (jI y) :: .int (jI x) :: st) := fun H locs ls h1 h2 h3 => by
  refine va_mmin C.hx C.hb (by rw [C.hml, h3.1]) C.ho (C.ht _ hl) (C.ht _ w1) (C.ht _ w2) (C.ht _ w3) (by rw [C.hR]; exact hR.1) (by rw [C.hR]; have := hR.2; omega) (by rw [C.hR]; exact hcs.1) (by rw [C.hR]; exact hcs.2) d ?_
  have e : (if jI y < jI x then jI y else jI x) = jI (min x y) := by
    by_cases h : y < x
    · rw [if_pos ((jI_lt hy hx).mpr h)]
      congr 1
      omega
    · rw [if_neg (fun z => h ((jI_lt hy hx).mp z))]
      congr 1
      omega
  rw [e]
  exact kk H locs ls h1 h2 h3
/-- |x|, of an x in range -/
def jAbs (x : Int) : Int := if 0 ≤ x then x else 0 - x
theorem J_abs (C : Cx F E cc own ret rm ml) {x : Int} (hx : rgI x) {index : Nat} (hl : Cond.methodLink own index Lib.Math.abs.name ∈ lw_gt) (w1 : Cond.static Lib.Math.abs.name ∈ lw_gt) (w2 : Cond.initialized "java/lang/Math" ∈ lw_gt) (w3 : Cond.code Lib.Math.abs.name Lib.Math.abs.code 1 (some .int) ∈ lw_gt) (hR : 1 ≤ rm.frames ∧ 21 ≤ rm.locals) (hW : (st.map fun v => v.category).sum ≤ 8) (hcs : c0 ≤ rm.cells ∧ s0 ≤ rm.slots) (d : decode cc pc = .ok (.invokestatic index, 3)) (kk : JJ F E c0 s0 σ (pc + 3) lv (.int (jI (jAbs x)) :: st)) : JJ F E c0 s0 σ pc lv (.int (jI x) :: st) := fun H locs ls h1 h2 h3 => by
  refine va_mabs C.hx C.hb (by rw [C.hml, h3.1]) C.ho (C.ht _ hl) (C.ht _ w1) (C.ht _ w2) (C.ht _ w3) (by rw [C.hR]; exact hR.1) (by rw [C.hR]; have := hR.2; omega) (by rw [C.hR]; exact hcs.1) (by rw [C.hR]; exact hcs.2) d ?_
  have e : (if 0 ≤ jI x then jI x else 0 - jI x) = jI (jAbs x) := by
    unfold jAbs
    show (if jI 0 ≤ jI x then jI x else jI 0 - jI x) = _
    by_cases h : 0 ≤ x
    · rw [if_pos ((jI_le rgI_0 hx).mpr h), if_pos h]
    · rw [if_neg (fun z => h ((jI_le rgI_0 hx).mp z)), if_neg h, jI_sub]
  rw [e]
  exact kk H locs ls h1 h2 h3
/-! copies of rows of ints -/
theorem J_copy (C : Cx F E cc own ret rm ml) {q0 q1 n0 n1 : Nat} (hq0 : dmE E σ q0) (hw : wrE E q1) (hcl0 : ∀ σ : Sg, clE E σ q0 = .inl (ecI E, n0, .inl (fun j => jI (gI σ q0 (j : Int))))) (hcl1 : ∀ σ : Sg, clE E σ q1 = .inl (ecI E, n1, .inl (fun j => jI (gI σ q1 (j : Int))))) (hn0 : n0 < 2147483648) (hn1 : n1 < 2147483648)
    {sp dp n : Int} (b1 : 0 ≤ sp) (b2 : 0 ≤ dp) (b3 : 0 ≤ n) (b4 : sp + n ≤ (n0 : Int)) (b5 : dp + n ≤ (n1 : Int)) {index : Nat} (hl : Cond.methodLink own index arraycopyName ∈ lw_gt) (w1 : Cond.native arraycopyName ∈ lw_gt) (w2 : Cond.static arraycopyName ∈ lw_gt) (w3 : Cond.initialized "java/lang/System" ∈ lw_gt) (hR : 1 ≤ rm.frames ∧ 26 ≤ rm.locals) (hW : (st.map fun v => v.category).sum ≤ 8)
    (d : decode cc pc = .ok (.invokestatic index, 3)) (kk : JJ F E c0 s0 (sC σ q0 sp q1 dp n) (pc + 3) lv st) : JJ F E c0 s0 σ pc lv (.int (jI n) :: .int (jI dp) :: .ref (adE E q1) :: .int (jI sp) :: .ref (adE E q0) :: st) := by
  intro H locs ls h1 h2 h3 T hT X
  have hc0 := h1.1 q0 hq0
  rw [hcl0] at hc0
  have hc1 := h1.1 q1 (wrE_dm hw)
  rw [hcl1] at hc1
  have hc0' : H[adE E q0]? = some (vp_cell (ecI E) (n0, .inl (fun j => jI (gI σ q0 (j : Int))))) := hc0
  have hc1' : H[adE E q1]? = some (vp_cell (ecI E) (n1, .inl (fun j => jI (gI σ q1 (j : Int))))) := hc1
  obtain ⟨-, k0, hk0, cm0, hkk0⟩ := (C.kn.1.2 0 _ rfl).1 n0 (fun j => .int (jI (gI σ q0 (j : Int))))
  have rs : rgI sp := ⟨by omega, by omega⟩
  have rd : rgI dp := ⟨by omega, by omega⟩
  have rn : rgI n := ⟨by omega, by omega⟩
  have es : (jI sp).toNatClampNeg = sp.toNat := jI_clamp rs
  have ed : (jI dp).toNatClampNeg = dp.toNat := jI_clamp rd
  have en : (jI n).toNatClampNeg = n.toNat := jI_clamp rn
  have nn : ∀ {z : Int}, rgI z → 0 ≤ z → ¬ jI z < 0 := fun hz h0 h => by
    have := (jI_lt hz rgI_0).mp h
    omega
  have hlo26 : 2 * (F0 (fm F) pc ls (.int (jI n) :: .int (jI dp) :: .ref (adE E q1) :: .int (jI sp) :: .ref (adE E q0) :: st)).monitorRoom + (st.map fun v => v.category).sum + (nativeFrameWords "java/lang/System" "arraycopy" 5 + 11) ≤ (fR F).locals := by
    have e5 : nativeFrameWords "java/lang/System" "arraycopy" 5 = 7 := by decide +kernel
    have h26 := hR.2
    rw [C.hR, e5]
    show 2 * 0 + _ + _ ≤ _
    omega
  obtain ⟨vm', X', step⟩ := X.arraycopy C.hx C.ho (C.ht _ hl) (C.ht _ w1) (C.ht _ w2) (C.ht _ w3) (src := adE E q0) (dst := adE E q1) (cs := vp_cell (ecI E) (n0, .inl (fun j => jI (gI σ q0 (j : Int))))) (cd := vp_cell (ecI E) (n1, .inl (fun j => jI (gI σ q1 (j : Int))))) (srcPos := jI sp) (destPos := jI dp) (n := jI n) (by rw [hT]; exact hc0') (by rw [hT]; exact hc1')
    (fun _ h => by cases h) (fun _ h => by cases h) (fun h => by cases h) (fun h => by cases h) hk0 hk0 hkk0 hkk0 (by simp [refKind]) (nn rs b1) (nn rd b2) (nn rn b3)
    (by rw [jI_toInt rs, jI_toInt rn]; show ¬ _ > ((arrV _ n0 _).slots.size : Int); rw [arrV_size]; omega)
    (by rw [jI_toInt rd, jI_toInt rn]; show ¬ _ > ((arrV _ n1 _).slots.size : Int); rw [arrV_size]; omega)
    (fun vm₁ _ i hi => by
      rw [en] at hi
      have e : (vp_cell (ecI E) (n0, .inl (fun j => jI (gI σ q0 (j : Int))))).slots.getD ((jI sp).toNatClampNeg + i) .null = .int (jI (gI σ q0 (((jI sp).toNatClampNeg + i : Nat) : Int))) := by
        show (arrV (ecI E) n0 (fun j => Value.int (jI (gI σ q0 (j : Int))))).slots.getD _ _ = _
        rw [Array.getD_eq_getD_getElem?, arrV_read _ _ (by rw [es]; omega)]
        rfl
      refine ⟨?_, ?_⟩
      · rw [e]; rfl
      · rw [e]; exact trivial)
    (g := F0 (fm F) pc ls (.int (jI n) :: .int (jI dp) :: .ref (adE E q1) :: .int (jI sp) :: .ref (adE E q0) :: st)) rfl (by rw [C.hml]; exact h3.1) (rest := st) rfl (by rw [C.hb]; exact d) (by rw [C.hR]; exact hR.1) hlo26
  have e1 : copied (vp_cell (ecI E) (n0, .inl (fun j => jI (gI σ q0 (j : Int))))) (vp_cell (ecI E) (n1, .inl (fun j => jI (gI σ q1 (j : Int))))) (jI sp) (jI dp) (jI n) = vp_cell (ecI E) (n1, .inl (va_cpy (fun j : Nat => jI (gI σ q0 (j : Int))) (fun j : Nat => jI (gI σ q1 (j : Int))) (jI sp).toNatClampNeg (jI dp).toNatClampNeg (jI n).toNatClampNeg)) := va_copied (fun z => .int z) (ecI E) (ecI E) (n0 := n0) (n1 := n1) (sp := (jI sp).toNatClampNeg) (dp := (jI dp).toNatClampNeg) (n := (jI n).toNatClampNeg) (fun j : Nat => jI (gI σ q0 (j : Int))) (fun j : Nat => jI (gI σ q1 (j : Int))) (by rw [es, en]; omega)
  rw [e1] at X' step
  have hlt : adE E q1 < H.size := (Array.getElem?_eq_some_iff.mp hc1').1
  have ev : va_cpy (fun j : Nat => jI (gI σ q0 (j : Int))) (fun j : Nat => jI (gI σ q1 (j : Int))) (jI sp).toNatClampNeg (jI dp).toNatClampNeg (jI n).toNatClampNeg = fun j : Nat => jI (gI (sC σ q0 sp q1 dp n) q1 (j : Int)) := by
    funext j
    rw [es, ed, en]
    unfold va_cpy
    rw [gI_sC]
    by_cases hj : dp.toNat ≤ j ∧ j < dp.toNat + n.toNat
    · rw [if_pos hj, if_pos ⟨rfl, by omega, by omega⟩]
      have ej : ((sp.toNat + (j - dp.toNat) : Nat) : Int) = sp + ((j : Int) - dp) := by omega
      rw [← ej]
    · rw [if_neg hj, if_neg (fun z => hj ⟨by omega, by omega⟩)]
  rw [ev] at X' step
  have hheap : ((T.setVm vm').setCell (adE E q1) (vp_cell (ecI E) (n1, .inl (fun j => jI (gI (sC σ q0 sp q1 dp n) q1 (j : Int)))))).heap = H.setIfInBounds (adE E q1) (vp_cell (ecI E) (n1, .inl (fun j => jI (gI (sC σ q0 sp q1 dp n) q1 (j : Int))))) := by rw [← hT]; rfl
  have oq : ∀ a : Nat, a ≠ adE E q1 → (H.setIfInBounds (adE E q1) (vp_cell (ecI E) (n1, .inl (fun j => jI (gI (sC σ q0 sp q1 dp n) q1 (j : Int))))))[a]? = H[a]? := fun a ha => by simp [Array.getElem?_setIfInBounds, Ne.symm ha]
  obtain ⟨t, a1, b1⟩ := kk _ _ ls (h1.put C.kn.2.2.2 (wrE_dm hw) rfl (by rw [hcl1]; show (H.setIfInBounds _ _)[_]? = some _; simp [Array.getElem?_setIfInBounds, hlt]) oq (fun p hp j => gI_sC_ne hp) (fun _ _ _ => rfl) (fun _ _ => rfl) (h1.2.sC q0 sp q1 dp n))
    ⟨by simp; exact h2.1, fun a g1 g2 => by
      rw [oq a (fun z => g2 (by rw [z]; exact C.rg _ (wrE_rg hw)))]
      exact h2.2.1 a g1 g2, fun q hq => by
      rcases List.mem_append.mp hq with h | h
      · exact h2.2.2 q h
      · obtain ⟨z, -, hz⟩ := List.mem_map.mp h
        rw [← hz]
        exact C.rg _ (wrE_rg hw)⟩ h3 _ hheap X'
  exact ⟨t, step t a1, b1⟩
theorem J_top {x y : Int} (e : y = x) (k : JJ F E c0 s0 σ pc lv (.int (jI y) :: st)) : JJ F E c0 s0 σ pc lv (.int (jI x) :: st) := by rw [← e]; exact k
theorem J_topL {x y : Int} (e : y = x) (k : JJ F E c0 s0 σ pc lv (.long (jL y) :: st)) : JJ F E c0 s0 σ pc lv (.long (jL x) :: st) := by rw [← e]; exact k
theorem J_sig {σ' : Sg} (e : σ' = σ) (k : JJ F E c0 s0 σ' pc lv st) : JJ F E c0 s0 σ pc lv st := by rw [← e]; exact k
end ROWS2
/-! what a method answers -/
def qI (Q : Int → Sg → Prop) (n : Nat) : Option Value → Sg → Prop := fun v σ' => ∃ r : Int, v = some (.int (jI r)) ∧ rgI r ∧ Q r σ' ∧ gN σ' = n
def qZ (Q : Int → Sg → Prop) (n : Nat) : Option Value → Sg → Prop := fun v σ' => ∃ r : Int, v = some (.int (jI r)) ∧ (r = 0 ∨ r = 1) ∧ Q r σ' ∧ gN σ' = n
def qL (Q : Int → Sg → Prop) (n : Nat) : Option Value → Sg → Prop := fun v σ' => ∃ r : Int, v = some (.long (jL r)) ∧ Q r σ' ∧ gN σ' = n
def qV (Q : Sg → Prop) (n : Nat) : Option Value → Sg → Prop := fun v σ' => v = none ∧ Q σ' ∧ gN σ' = n
def qR (E : ET) (k : Nat) (Q : Nat → Sg → Prop) (n : Nat) : Option Value → Sg → Prop := fun v σ' => ∃ q : Nat, v = some (.ref (adE E q)) ∧ kdO q = k ∧ Q q σ' ∧ gN σ' = n
section ANSW
variable {F : FT} {E : ET} {c0 s0 n pc : Nat} {lv : List (Nat × Value)} {rest : List Value}
theorem rg_z {r : Int} (h : r = 0 ∨ r = 1) : rgI r := by rcases h with rfl | rfl <;> exact ⟨by decide, by decide⟩
theorem J_kI {Q : Int → Sg → Prop} (k : ∀ (r : Int) (σ' : Sg), rgI r → Q r σ' → gN σ' = n → JJ F E c0 s0 σ' pc lv (.int (jI r) :: rest)) : ∀ v σ', qI Q n v σ' → JJ F E c0 s0 σ' pc lv (v.toList ++ rest) := by
  rintro v σ' ⟨r, rfl, h1, h2, h3⟩
  exact k r σ' h1 h2 h3
theorem J_kZ {Q : Int → Sg → Prop} (k : ∀ (r : Int) (σ' : Sg), (r = 0 ∨ r = 1) → Q r σ' → gN σ' = n → JJ F E c0 s0 σ' pc lv (.int (jI r) :: rest)) : ∀ v σ', qZ Q n v σ' → JJ F E c0 s0 σ' pc lv (v.toList ++ rest) := by
  rintro v σ' ⟨r, rfl, h1, h2, h3⟩
  exact k r σ' h1 h2 h3
theorem J_kL {Q : Int → Sg → Prop} (k : ∀ (r : Int) (σ' : Sg), Q r σ' → gN σ' = n → JJ F E c0 s0 σ' pc lv (.long (jL r) :: rest)) : ∀ v σ', qL Q n v σ' → JJ F E c0 s0 σ' pc lv (v.toList ++ rest) := by
  rintro v σ' ⟨r, rfl, h2, h3⟩
  exact k r σ' h2 h3
theorem J_kV {Q : Sg → Prop} (k : ∀ (σ' : Sg), Q σ' → gN σ' = n → JJ F E c0 s0 σ' pc lv rest) : ∀ v σ', qV Q n v σ' → JJ F E c0 s0 σ' pc lv (v.toList ++ rest) := by
  rintro v σ' ⟨rfl, h2, h3⟩
  exact k σ' h2 h3
theorem J_kR {kd : Nat} {Q : Nat → Sg → Prop} (k : ∀ (q : Nat) (σ' : Sg), kdO q = kd → Q q σ' → gN σ' = n → JJ F E c0 s0 σ' pc lv (.ref (adE E q) :: rest)) : ∀ v σ', qR E kd Q n v σ' → JJ F E c0 s0 σ' pc lv (v.toList ++ rest) := by
  rintro v σ' ⟨q, rfl, h1, h2, h3⟩
  exact k q σ' h1 h2 h3
end ANSW
theorem okP.to {σ σ' : Sg} {q : Nat} (h : okP σ q) (e : gN σ' = gN σ) : okP σ' q := ⟨h.1, by rw [e]; exact h.2⟩
section PURE
variable {F : FT} {E : ET} {c0 s0 n pc : Nat} {σ : Sg} {lv : List (Nat × Value)} {rest : List Value}
theorem J_pI {Q : Int → Prop} (k : ∀ r : Int, rgI r → Q r → JJ F E c0 s0 σ pc lv (.int (jI r) :: rest)) : ∀ v σ', qI (fun r t => Q r ∧ t = σ) n v σ' → JJ F E c0 s0 σ' pc lv (v.toList ++ rest) := by
  rintro v σ' ⟨r, rfl, h1, ⟨h2, h4⟩, h3⟩
  rw [h4]
  exact k r h1 h2
theorem J_pZ {Q : Int → Prop} (k : ∀ r : Int, (r = 0 ∨ r = 1) → Q r → JJ F E c0 s0 σ pc lv (.int (jI r) :: rest)) : ∀ v σ', qZ (fun r t => Q r ∧ t = σ) n v σ' → JJ F E c0 s0 σ' pc lv (v.toList ++ rest) := by
  rintro v σ' ⟨r, rfl, h1, ⟨h2, h4⟩, h3⟩
  rw [h4]
  exact k r h1 h2
theorem J_pL {Q : Int → Prop} (k : ∀ r : Int, Q r → JJ F E c0 s0 σ pc lv (.long (jL r) :: rest)) : ∀ v σ', qL (fun r t => Q r ∧ t = σ) n v σ' → JJ F E c0 s0 σ' pc lv (v.toList ++ rest) := by
  rintro v σ' ⟨r, rfl, ⟨h2, h4⟩, h3⟩
  rw [h4]
  exact k r h2
theorem J_pR {kd : Nat} {Q : Nat → Prop} (k : ∀ q : Nat, kdO q = kd → Q q → JJ F E c0 s0 σ pc lv (.ref (adE E q) :: rest)) : ∀ v σ', qR E kd (fun r t => Q r ∧ t = σ) n v σ' → JJ F E c0 s0 σ' pc lv (v.toList ++ rest) := by
  rintro v σ' ⟨q, rfl, h1, ⟨h2, h4⟩, h3⟩
  rw [h4]
  exact k q h1 h2
end PURE
theorem dmC {E : ET} {σ : Sg} (hs : eS E = true) {q k : Nat} (hk : kdO q = k) (h : k < 20 ∧ k ≠ 3 ∧ k ≠ 4) : dmE E σ q := wrE_dm (wr_c hs (kdO_cls hk h.1 h.2.1 h.2.2))
theorem wrC {E : ET} (hs : eS E = true) {q k : Nat} (hk : kdO q = k) (h : k < 20 ∧ k ≠ 3 ∧ k ≠ 4) : wrE E q := wr_c hs (kdO_cls hk h.1 h.2.1 h.2.2)
theorem dmM {E : ET} {σ : Sg} (hs : eS E = false) {q k : Nat} (hk : kdO q = k) (h : 20 ≤ k) : dmE E σ q := wrE_dm (wr_m hs (kdO_mod hk h).1 (kdO_mod hk h).2)
theorem wrM {E : ET} (hs : eS E = false) {q k : Nat} (hk : kdO q = k) (h : 20 ≤ k) : wrE E q := wr_m hs (kdO_mod hk h).1 (kdO_mod hk h).2
theorem kc0 : kdO 0 = 1 := by decide
theorem kc1 : kdO 1 = 2 := by decide
theorem kc4 : kdO 4 = 5 := by decide
theorem kc31 : kdO 31 = 15 := by decide
theorem kc32 : kdO 32 = 7 := by decide
theorem kc33 : kdO 33 = 7 := by decide
theorem kc34 : kdO 34 = 5 := by decide
theorem kc61 : kdO 61 = 16 := by decide
theorem kc62 : kdO 62 = 17 := by decide
theorem kc279 : kdO 279 = 20 := by decide
theorem kc280 : kdO 280 = 21 := by decide
theorem kc281 : kdO 281 = 22 := by decide
theorem kc282 : kdO 282 = 23 := by decide
theorem kc283 : kdO 283 = 23 := by decide
theorem kc284 : kdO 284 = 23 := by decide
theorem kc285 : kdO 285 = 23 := by decide
theorem kc286 : kdO 286 = 23 := by decide
theorem kc287 : kdO 287 = 23 := by decide
theorem kc288 : kdO 288 = 23 := by decide
theorem kc289 : kdO 289 = 23 := by decide
theorem kc290 : kdO 290 = 23 := by decide
theorem kc291 : kdO 291 = 23 := by decide
theorem kc292 : kdO 292 = 24 := by decide
section TEXT
variable {F : FT} {E : ET} {cc : ByteArray} {own : String} {ret : Option FieldType} {rm : Room} {ml c0 s0 : Nat} {σ : Sg} {pc : Nat} {lv : List (Nat × Value)} {st : List Value}
theorem J_baldT (C : Cx F E cc own ret rm ml) (hs : eS E = true) {q : Nat} (hp : okP σ q) {x : Int} (g0 : 0 ≤ x) (g1 : x < gL σ (q + 1)) (d : decode cc pc = .ok (.baload, 1)) (kk : rgI (gI σ (q + 1) x) → JJ F E c0 s0 σ (pc + 1) lv (.int (jI (gI σ (q + 1) x)) :: st)) : JJ F E c0 s0 σ pc lv (.int (jI x) :: .ref (adE E (q + 1)) :: st) := fun H locs ls h1 h2 h3 => by
  have hL := h1.2.2.2.2.2.2 (q + 1)
  exact J_bald C (dm_t hs h1.2 hp) (n := (gL σ (q + 1)).toNat) (clE_k E σ (kd3_text hp.1)) (by omega) g0 (by omega) d kk H locs ls h1 h2 h3
theorem J_alenT (C : Cx F E cc own ret rm ml) (hs : eS E = true) {q : Nat} (hp : okP σ q) (d : decode cc pc = .ok (.arraylength, 1)) (kk : rgI (gL σ (q + 1)) → JJ F E c0 s0 σ (pc + 1) lv (.int (jI (gL σ (q + 1))) :: st)) : JJ F E c0 s0 σ pc lv (.ref (adE E (q + 1)) :: st) := fun H locs ls h1 h2 h3 => by
  have hL := h1.2.2.2.2.2.2 (q + 1)
  have e : (((gL σ (q + 1)).toNat : Nat) : Int) = gL σ (q + 1) := by omega
  refine J_alen C (dm_t hs h1.2 hp) (n := (gL σ (q + 1)).toNat) 1 rfl (clE_k E σ (kd3_text hp.1)) d ?_ H locs ls h1 h2 h3
  rw [e]
  exact kk ⟨by omega, by omega⟩
end TEXT
end
section
theorem zz_in : ∀ w ∈ wsX00, w ∈ lw_tbl := by decide +kernel
end
