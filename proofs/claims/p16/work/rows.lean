section
/-- a private method of a class that the tables say can be made, by its rows of tables_1 -/
def lw_okq (q : MethodName × Nat) : Prop := (q.1.cls ≠ "java/lang/invoke/MethodHandle" ∧ q.1.cls ≠ "java/lang/invoke/VarHandle") ∧ Cond.instantiable q.1.cls q.2 ∈ tables_1 ∧ Cond.privateMethod q.1 ∈ tables_1 ∧ Cond.instanceMethod q.1 ∈ tables_1
theorem lw_p0 : lw_okq (⟨"FourWaters", "counted", "(I)I"⟩, 15) := ⟨⟨by decide +kernel, by decide +kernel⟩, List.mem_of_getElem? (i := 19) (by decide +kernel), List.mem_of_getElem? (i := 317) (by decide +kernel), List.mem_of_getElem? (i := 318) (by decide +kernel)⟩
theorem lw_p1 : lw_okq (⟨"FourWaters", "bad", "(I)I"⟩, 15) := ⟨⟨by decide +kernel, by decide +kernel⟩, List.mem_of_getElem? (i := 19) (by decide +kernel), List.mem_of_getElem? (i := 358) (by decide +kernel), List.mem_of_getElem? (i := 359) (by decide +kernel)⟩
theorem lw_p2 : lw_okq (⟨"FourWaters$Text", "skipBlanks", "()V"⟩, 6) := ⟨⟨by decide +kernel, by decide +kernel⟩, List.mem_of_getElem? (i := 176) (by decide +kernel), List.mem_of_getElem? (i := 452) (by decide +kernel), List.mem_of_getElem? (i := 453) (by decide +kernel)⟩
theorem lw_p3 : lw_okq (⟨"FourWaters$Text", "takeWord", "()I"⟩, 6) := ⟨⟨by decide +kernel, by decide +kernel⟩, List.mem_of_getElem? (i := 176) (by decide +kernel), List.mem_of_getElem? (i := 456) (by decide +kernel), List.mem_of_getElem? (i := 457) (by decide +kernel)⟩
theorem lw_p4 : lw_okq (⟨"FourWaters$Text", "isWord", "(Ljava/lang/String;II)Z"⟩, 6) := ⟨⟨by decide +kernel, by decide +kernel⟩, List.mem_of_getElem? (i := 176) (by decide +kernel), List.mem_of_getElem? (i := 471) (by decide +kernel), List.mem_of_getElem? (i := 472) (by decide +kernel)⟩
theorem lw_p5 : lw_okq (⟨"FourWaters$Text", "takeNumbers", "(I)I"⟩, 6) := ⟨⟨by decide +kernel, by decide +kernel⟩, List.mem_of_getElem? (i := 176) (by decide +kernel), List.mem_of_getElem? (i := 526) (by decide +kernel), List.mem_of_getElem? (i := 527) (by decide +kernel)⟩
theorem lw_p6 : lw_okq (⟨"FourWaters$Text", "isFigure", "()Z"⟩, 6) := ⟨⟨by decide +kernel, by decide +kernel⟩, List.mem_of_getElem? (i := 176) (by decide +kernel), List.mem_of_getElem? (i := 530) (by decide +kernel), List.mem_of_getElem? (i := 531) (by decide +kernel)⟩
theorem lw_p7 : lw_okq (⟨"FourWaters$Text", "tellItem", "(LFourWaters$Sea;I)I"⟩, 6) := ⟨⟨by decide +kernel, by decide +kernel⟩, List.mem_of_getElem? (i := 176) (by decide +kernel), List.mem_of_getElem? (i := 534) (by decide +kernel), List.mem_of_getElem? (i := 535) (by decide +kernel)⟩
theorem lw_p8 : lw_okq (⟨"FourWaters", "shapeNow", "(I)V"⟩, 15) := ⟨⟨by decide +kernel, by decide +kernel⟩, List.mem_of_getElem? (i := 19) (by decide +kernel), List.mem_of_getElem? (i := 581) (by decide +kernel), List.mem_of_getElem? (i := 582) (by decide +kernel)⟩
theorem lw_p9 : lw_okq (⟨"FourWaters", "shapeWithBallast", "(III)V"⟩, 15) := ⟨⟨by decide +kernel, by decide +kernel⟩, List.mem_of_getElem? (i := 19) (by decide +kernel), List.mem_of_getElem? (i := 585) (by decide +kernel), List.mem_of_getElem? (i := 586) (by decide +kernel)⟩
theorem lw_p10 : lw_okq (⟨"FourWaters", "letGoNow", "(III)V"⟩, 15) := ⟨⟨by decide +kernel, by decide +kernel⟩, List.mem_of_getElem? (i := 19) (by decide +kernel), List.mem_of_getElem? (i := 621) (by decide +kernel), List.mem_of_getElem? (i := 622) (by decide +kernel)⟩
theorem lw_p11 : lw_okq (⟨"FourWaters$Fall", "forget", "()V"⟩, 8) := ⟨⟨by decide +kernel, by decide +kernel⟩, List.mem_of_getElem? (i := 205) (by decide +kernel), List.mem_of_getElem? (i := 629) (by decide +kernel), List.mem_of_getElem? (i := 630) (by decide +kernel)⟩
theorem lw_p12 : lw_okq (⟨"FourWaters$Fall", "getsThrough", "(LFourWaters$Sea;II)Z"⟩, 8) := ⟨⟨by decide +kernel, by decide +kernel⟩, List.mem_of_getElem? (i := 205) (by decide +kernel), List.mem_of_getElem? (i := 635) (by decide +kernel), List.mem_of_getElem? (i := 636) (by decide +kernel)⟩
theorem lw_p13 : lw_okq (⟨"FourWaters", "takesBallast", "(I)Z"⟩, 15) := ⟨⟨by decide +kernel, by decide +kernel⟩, List.mem_of_getElem? (i := 19) (by decide +kernel), List.mem_of_getElem? (i := 643) (by decide +kernel), List.mem_of_getElem? (i := 644) (by decide +kernel)⟩
theorem lw_p14 : lw_okq (⟨"FourWaters", "leastBallast", "(IIII)I"⟩, 15) := ⟨⟨by decide +kernel, by decide +kernel⟩, List.mem_of_getElem? (i := 19) (by decide +kernel), List.mem_of_getElem? (i := 647) (by decide +kernel), List.mem_of_getElem? (i := 648) (by decide +kernel)⟩
theorem lw_p15 : lw_okq (⟨"FourWaters", "letGoWithBallast", "(IIII)V"⟩, 15) := ⟨⟨by decide +kernel, by decide +kernel⟩, List.mem_of_getElem? (i := 19) (by decide +kernel), List.mem_of_getElem? (i := 651) (by decide +kernel), List.mem_of_getElem? (i := 652) (by decide +kernel)⟩
def lw_privs_1 : List (MethodName × Nat) := [(⟨"FourWaters", "counted", "(I)I"⟩, 15), (⟨"FourWaters", "bad", "(I)I"⟩, 15), (⟨"FourWaters$Text", "skipBlanks", "()V"⟩, 6), (⟨"FourWaters$Text", "takeWord", "()I"⟩, 6), (⟨"FourWaters$Text", "isWord", "(Ljava/lang/String;II)Z"⟩, 6), (⟨"FourWaters$Text", "takeNumbers", "(I)I"⟩, 6), (⟨"FourWaters$Text", "isFigure", "()Z"⟩, 6), (⟨"FourWaters$Text", "tellItem", "(LFourWaters$Sea;I)I"⟩, 6), (⟨"FourWaters", "shapeNow", "(I)V"⟩, 15), (⟨"FourWaters", "shapeWithBallast", "(III)V"⟩, 15), (⟨"FourWaters", "letGoNow", "(III)V"⟩, 15), (⟨"FourWaters$Fall", "forget", "()V"⟩, 8), (⟨"FourWaters$Fall", "getsThrough", "(LFourWaters$Sea;II)Z"⟩, 8), (⟨"FourWaters", "takesBallast", "(I)Z"⟩, 15), (⟨"FourWaters", "leastBallast", "(IIII)I"⟩, 15), (⟨"FourWaters", "letGoWithBallast", "(IIII)V"⟩, 15)]
theorem lw_r1 : ∀ q ∈ lw_privs_1, lw_okq q := List.forall_mem_cons.mpr ⟨lw_p0, List.forall_mem_cons.mpr ⟨lw_p1, List.forall_mem_cons.mpr ⟨lw_p2, List.forall_mem_cons.mpr ⟨lw_p3, List.forall_mem_cons.mpr ⟨lw_p4, List.forall_mem_cons.mpr ⟨lw_p5, List.forall_mem_cons.mpr ⟨lw_p6, List.forall_mem_cons.mpr ⟨lw_p7, List.forall_mem_cons.mpr ⟨lw_p8, List.forall_mem_cons.mpr ⟨lw_p9, List.forall_mem_cons.mpr ⟨lw_p10, List.forall_mem_cons.mpr ⟨lw_p11, List.forall_mem_cons.mpr ⟨lw_p12, List.forall_mem_cons.mpr ⟨lw_p13, List.forall_mem_cons.mpr ⟨lw_p14, List.forall_mem_cons.mpr ⟨lw_p15, fun _ h => absurd h List.not_mem_nil⟩⟩⟩⟩⟩⟩⟩⟩⟩⟩⟩⟩⟩⟩⟩⟩
theorem lw_p16 : lw_okq (⟨"FourWaters$Ways", "goByLifts", "(LFourWaters$Sea;)V"⟩, 1) := ⟨⟨by decide +kernel, by decide +kernel⟩, List.mem_of_getElem? (i := 256) (by decide +kernel), List.mem_of_getElem? (i := 677) (by decide +kernel), List.mem_of_getElem? (i := 678) (by decide +kernel)⟩
theorem lw_p17 : lw_okq (⟨"FourWaters$Ways", "join", "(III)V"⟩, 1) := ⟨⟨by decide +kernel, by decide +kernel⟩, List.mem_of_getElem? (i := 256) (by decide +kernel), List.mem_of_getElem? (i := 681) (by decide +kernel), List.mem_of_getElem? (i := 682) (by decide +kernel)⟩
theorem lw_p18 : lw_okq (⟨"FourWaters$Ways", "goBeside", "(LFourWaters$Sea;)V"⟩, 1) := ⟨⟨by decide +kernel, by decide +kernel⟩, List.mem_of_getElem? (i := 256) (by decide +kernel), List.mem_of_getElem? (i := 686) (by decide +kernel), List.mem_of_getElem? (i := 687) (by decide +kernel)⟩
theorem lw_p19 : lw_okq (⟨"FourWaters", "isSpill", "(III)Z"⟩, 15) := ⟨⟨by decide +kernel, by decide +kernel⟩, List.mem_of_getElem? (i := 19) (by decide +kernel), List.mem_of_getElem? (i := 708) (by decide +kernel), List.mem_of_getElem? (i := 709) (by decide +kernel)⟩
theorem lw_p20 : lw_okq (⟨"FourWaters", "keepsOut", "(IIIII)Z"⟩, 15) := ⟨⟨by decide +kernel, by decide +kernel⟩, List.mem_of_getElem? (i := 19) (by decide +kernel), List.mem_of_getElem? (i := 731) (by decide +kernel), List.mem_of_getElem? (i := 732) (by decide +kernel)⟩
theorem lw_p21 : lw_okq (⟨"FourWaters", "areFish", "(I)Z"⟩, 15) := ⟨⟨by decide +kernel, by decide +kernel⟩, List.mem_of_getElem? (i := 19) (by decide +kernel), List.mem_of_getElem? (i := 764) (by decide +kernel), List.mem_of_getElem? (i := 765) (by decide +kernel)⟩
theorem lw_p22 : lw_okq (⟨"FourWaters", "fillDowns", "(I)V"⟩, 15) := ⟨⟨by decide +kernel, by decide +kernel⟩, List.mem_of_getElem? (i := 19) (by decide +kernel), List.mem_of_getElem? (i := 768) (by decide +kernel), List.mem_of_getElem? (i := 769) (by decide +kernel)⟩
theorem lw_p23 : lw_okq (⟨"FourWaters", "caught", "(II)I"⟩, 15) := ⟨⟨by decide +kernel, by decide +kernel⟩, List.mem_of_getElem? (i := 19) (by decide +kernel), List.mem_of_getElem? (i := 772) (by decide +kernel), List.mem_of_getElem? (i := 773) (by decide +kernel)⟩
theorem lw_p24 : lw_okq (⟨"FourWaters", "nextToTry", "(II)I"⟩, 15) := ⟨⟨by decide +kernel, by decide +kernel⟩, List.mem_of_getElem? (i := 19) (by decide +kernel), List.mem_of_getElem? (i := 799) (by decide +kernel), List.mem_of_getElem? (i := 800) (by decide +kernel)⟩
theorem lw_p25 : lw_okq (⟨"FourWaters", "putFraction", "(JJ)V"⟩, 15) := ⟨⟨by decide +kernel, by decide +kernel⟩, List.mem_of_getElem? (i := 19) (by decide +kernel), List.mem_of_getElem? (i := 811) (by decide +kernel), List.mem_of_getElem? (i := 812) (by decide +kernel)⟩
theorem lw_p26 : lw_okq (⟨"FourWaters", "imageAt", "(I)LFourWaters$Sea;"⟩, 15) := ⟨⟨by decide +kernel, by decide +kernel⟩, List.mem_of_getElem? (i := 19) (by decide +kernel), List.mem_of_getElem? (i := 823) (by decide +kernel), List.mem_of_getElem? (i := 824) (by decide +kernel)⟩
theorem lw_p27 : lw_okq (⟨"FourWatersModel", "begins", "(II)V"⟩, 28) := ⟨⟨by decide +kernel, by decide +kernel⟩, List.mem_of_getElem? (i := 858) (by decide +kernel), List.mem_of_getElem? (i := 864) (by decide +kernel), List.mem_of_getElem? (i := 865) (by decide +kernel)⟩
theorem lw_p28 : lw_okq (⟨"FourWatersModel", "seaTo", "(II)I"⟩, 28) := ⟨⟨by decide +kernel, by decide +kernel⟩, List.mem_of_getElem? (i := 858) (by decide +kernel), List.mem_of_getElem? (i := 957) (by decide +kernel), List.mem_of_getElem? (i := 958) (by decide +kernel)⟩
theorem lw_p29 : lw_okq (⟨"FourWatersModel", "met", "(I)I"⟩, 28) := ⟨⟨by decide +kernel, by decide +kernel⟩, List.mem_of_getElem? (i := 858) (by decide +kernel), List.mem_of_getElem? (i := 965) (by decide +kernel), List.mem_of_getElem? (i := 966) (by decide +kernel)⟩
theorem lw_p30 : lw_okq (⟨"FourWatersModel", "waterTo", "(III)I"⟩, 28) := ⟨⟨by decide +kernel, by decide +kernel⟩, List.mem_of_getElem? (i := 858) (by decide +kernel), List.mem_of_getElem? (i := 973) (by decide +kernel), List.mem_of_getElem? (i := 974) (by decide +kernel)⟩
theorem lw_p31 : lw_okq (⟨"FourWatersModel", "becomes", "(II)I"⟩, 28) := ⟨⟨by decide +kernel, by decide +kernel⟩, List.mem_of_getElem? (i := 858) (by decide +kernel), List.mem_of_getElem? (i := 982) (by decide +kernel), List.mem_of_getElem? (i := 983) (by decide +kernel)⟩
def lw_privs_2 : List (MethodName × Nat) := [(⟨"FourWaters$Ways", "goByLifts", "(LFourWaters$Sea;)V"⟩, 1), (⟨"FourWaters$Ways", "join", "(III)V"⟩, 1), (⟨"FourWaters$Ways", "goBeside", "(LFourWaters$Sea;)V"⟩, 1), (⟨"FourWaters", "isSpill", "(III)Z"⟩, 15), (⟨"FourWaters", "keepsOut", "(IIIII)Z"⟩, 15), (⟨"FourWaters", "areFish", "(I)Z"⟩, 15), (⟨"FourWaters", "fillDowns", "(I)V"⟩, 15), (⟨"FourWaters", "caught", "(II)I"⟩, 15), (⟨"FourWaters", "nextToTry", "(II)I"⟩, 15), (⟨"FourWaters", "putFraction", "(JJ)V"⟩, 15), (⟨"FourWaters", "imageAt", "(I)LFourWaters$Sea;"⟩, 15), (⟨"FourWatersModel", "begins", "(II)V"⟩, 28), (⟨"FourWatersModel", "seaTo", "(II)I"⟩, 28), (⟨"FourWatersModel", "met", "(I)I"⟩, 28), (⟨"FourWatersModel", "waterTo", "(III)I"⟩, 28), (⟨"FourWatersModel", "becomes", "(II)I"⟩, 28)]
theorem lw_r2 : ∀ q ∈ lw_privs_2, lw_okq q := List.forall_mem_cons.mpr ⟨lw_p16, List.forall_mem_cons.mpr ⟨lw_p17, List.forall_mem_cons.mpr ⟨lw_p18, List.forall_mem_cons.mpr ⟨lw_p19, List.forall_mem_cons.mpr ⟨lw_p20, List.forall_mem_cons.mpr ⟨lw_p21, List.forall_mem_cons.mpr ⟨lw_p22, List.forall_mem_cons.mpr ⟨lw_p23, List.forall_mem_cons.mpr ⟨lw_p24, List.forall_mem_cons.mpr ⟨lw_p25, List.forall_mem_cons.mpr ⟨lw_p26, List.forall_mem_cons.mpr ⟨lw_p27, List.forall_mem_cons.mpr ⟨lw_p28, List.forall_mem_cons.mpr ⟨lw_p29, List.forall_mem_cons.mpr ⟨lw_p30, List.forall_mem_cons.mpr ⟨lw_p31, fun _ h => absurd h List.not_mem_nil⟩⟩⟩⟩⟩⟩⟩⟩⟩⟩⟩⟩⟩⟩⟩⟩
theorem lw_p32 : lw_okq (⟨"FourWatersModel", "thickTo", "(IIII)I"⟩, 28) := ⟨⟨by decide +kernel, by decide +kernel⟩, List.mem_of_getElem? (i := 858) (by decide +kernel), List.mem_of_getElem? (i := 990) (by decide +kernel), List.mem_of_getElem? (i := 991) (by decide +kernel)⟩
theorem lw_p33 : lw_okq (⟨"FourWatersModel", "isCellOf", "(II)Z"⟩, 28) := ⟨⟨by decide +kernel, by decide +kernel⟩, List.mem_of_getElem? (i := 858) (by decide +kernel), List.mem_of_getElem? (i := 994) (by decide +kernel), List.mem_of_getElem? (i := 995) (by decide +kernel)⟩
theorem lw_p34 : lw_okq (⟨"FourWatersModel", "skinTo", "(III)I"⟩, 28) := ⟨⟨by decide +kernel, by decide +kernel⟩, List.mem_of_getElem? (i := 858) (by decide +kernel), List.mem_of_getElem? (i := 1003) (by decide +kernel), List.mem_of_getElem? (i := 1004) (by decide +kernel)⟩
theorem lw_p35 : lw_okq (⟨"FourWatersModel", "badAs", "(I)I"⟩, 28) := ⟨⟨by decide +kernel, by decide +kernel⟩, List.mem_of_getElem? (i := 858) (by decide +kernel), List.mem_of_getElem? (i := 1014) (by decide +kernel), List.mem_of_getElem? (i := 1015) (by decide +kernel)⟩
theorem lw_p36 : lw_okq (⟨"FourWatersModel", "thingTo", "(IIII)I"⟩, 28) := ⟨⟨by decide +kernel, by decide +kernel⟩, List.mem_of_getElem? (i := 858) (by decide +kernel), List.mem_of_getElem? (i := 1027) (by decide +kernel), List.mem_of_getElem? (i := 1028) (by decide +kernel)⟩
theorem lw_p37 : lw_okq (⟨"FourWatersModel", "isThing", "(I)Z"⟩, 28) := ⟨⟨by decide +kernel, by decide +kernel⟩, List.mem_of_getElem? (i := 858) (by decide +kernel), List.mem_of_getElem? (i := 1035) (by decide +kernel), List.mem_of_getElem? (i := 1036) (by decide +kernel)⟩
theorem lw_p38 : lw_okq (⟨"FourWatersModel", "bad", "()I"⟩, 28) := ⟨⟨by decide +kernel, by decide +kernel⟩, List.mem_of_getElem? (i := 858) (by decide +kernel), List.mem_of_getElem? (i := 1039) (by decide +kernel), List.mem_of_getElem? (i := 1040) (by decide +kernel)⟩
theorem lw_p39 : lw_okq (⟨"FourWatersModel", "liftTo", "(IIII)I"⟩, 28) := ⟨⟨by decide +kernel, by decide +kernel⟩, List.mem_of_getElem? (i := 858) (by decide +kernel), List.mem_of_getElem? (i := 1047) (by decide +kernel), List.mem_of_getElem? (i := 1048) (by decide +kernel)⟩
theorem lw_p40 : lw_okq (⟨"FourWatersModel", "isPlaceOf", "(II)Z"⟩, 28) := ⟨⟨by decide +kernel, by decide +kernel⟩, List.mem_of_getElem? (i := 858) (by decide +kernel), List.mem_of_getElem? (i := 1051) (by decide +kernel), List.mem_of_getElem? (i := 1052) (by decide +kernel)⟩
theorem lw_p41 : lw_okq (⟨"FourWatersModel", "townTo", "(II)I"⟩, 28) := ⟨⟨by decide +kernel, by decide +kernel⟩, List.mem_of_getElem? (i := 858) (by decide +kernel), List.mem_of_getElem? (i := 1059) (by decide +kernel), List.mem_of_getElem? (i := 1060) (by decide +kernel)⟩
theorem lw_p42 : lw_okq (⟨"FourWatersModel", "damTo", "(IIZ)I"⟩, 28) := ⟨⟨by decide +kernel, by decide +kernel⟩, List.mem_of_getElem? (i := 858) (by decide +kernel), List.mem_of_getElem? (i := 1067) (by decide +kernel), List.mem_of_getElem? (i := 1068) (by decide +kernel)⟩
theorem lw_p43 : lw_okq (⟨"FourWatersModel", "token", "()V"⟩, 28) := ⟨⟨by decide +kernel, by decide +kernel⟩, List.mem_of_getElem? (i := 858) (by decide +kernel), List.mem_of_getElem? (i := 1095) (by decide +kernel), List.mem_of_getElem? (i := 1096) (by decide +kernel)⟩
theorem lw_p44 : lw_okq (⟨"FourWatersModel", "byteAt", "(I)I"⟩, 28) := ⟨⟨by decide +kernel, by decide +kernel⟩, List.mem_of_getElem? (i := 858) (by decide +kernel), List.mem_of_getElem? (i := 1099) (by decide +kernel), List.mem_of_getElem? (i := 1100) (by decide +kernel)⟩
theorem lw_p45 : lw_okq (⟨"FourWatersModel", "takesItem", "(I)Z"⟩, 28) := ⟨⟨by decide +kernel, by decide +kernel⟩, List.mem_of_getElem? (i := 858) (by decide +kernel), List.mem_of_getElem? (i := 1107) (by decide +kernel), List.mem_of_getElem? (i := 1108) (by decide +kernel)⟩
theorem lw_p46 : lw_okq (⟨"FourWatersModel", "wordNow", "()I"⟩, 28) := ⟨⟨by decide +kernel, by decide +kernel⟩, List.mem_of_getElem? (i := 858) (by decide +kernel), List.mem_of_getElem? (i := 1111) (by decide +kernel), List.mem_of_getElem? (i := 1112) (by decide +kernel)⟩
theorem lw_p47 : lw_okq (⟨"FourWatersModel", "isNamed", "(IIIII)Z"⟩, 28) := ⟨⟨by decide +kernel, by decide +kernel⟩, List.mem_of_getElem? (i := 858) (by decide +kernel), List.mem_of_getElem? (i := 1115) (by decide +kernel), List.mem_of_getElem? (i := 1116) (by decide +kernel)⟩
def lw_privs_3 : List (MethodName × Nat) := [(⟨"FourWatersModel", "thickTo", "(IIII)I"⟩, 28), (⟨"FourWatersModel", "isCellOf", "(II)Z"⟩, 28), (⟨"FourWatersModel", "skinTo", "(III)I"⟩, 28), (⟨"FourWatersModel", "badAs", "(I)I"⟩, 28), (⟨"FourWatersModel", "thingTo", "(IIII)I"⟩, 28), (⟨"FourWatersModel", "isThing", "(I)Z"⟩, 28), (⟨"FourWatersModel", "bad", "()I"⟩, 28), (⟨"FourWatersModel", "liftTo", "(IIII)I"⟩, 28), (⟨"FourWatersModel", "isPlaceOf", "(II)Z"⟩, 28), (⟨"FourWatersModel", "townTo", "(II)I"⟩, 28), (⟨"FourWatersModel", "damTo", "(IIZ)I"⟩, 28), (⟨"FourWatersModel", "token", "()V"⟩, 28), (⟨"FourWatersModel", "byteAt", "(I)I"⟩, 28), (⟨"FourWatersModel", "takesItem", "(I)Z"⟩, 28), (⟨"FourWatersModel", "wordNow", "()I"⟩, 28), (⟨"FourWatersModel", "isNamed", "(IIIII)Z"⟩, 28)]
theorem lw_r3 : ∀ q ∈ lw_privs_3, lw_okq q := List.forall_mem_cons.mpr ⟨lw_p32, List.forall_mem_cons.mpr ⟨lw_p33, List.forall_mem_cons.mpr ⟨lw_p34, List.forall_mem_cons.mpr ⟨lw_p35, List.forall_mem_cons.mpr ⟨lw_p36, List.forall_mem_cons.mpr ⟨lw_p37, List.forall_mem_cons.mpr ⟨lw_p38, List.forall_mem_cons.mpr ⟨lw_p39, List.forall_mem_cons.mpr ⟨lw_p40, List.forall_mem_cons.mpr ⟨lw_p41, List.forall_mem_cons.mpr ⟨lw_p42, List.forall_mem_cons.mpr ⟨lw_p43, List.forall_mem_cons.mpr ⟨lw_p44, List.forall_mem_cons.mpr ⟨lw_p45, List.forall_mem_cons.mpr ⟨lw_p46, List.forall_mem_cons.mpr ⟨lw_p47, fun _ h => absurd h List.not_mem_nil⟩⟩⟩⟩⟩⟩⟩⟩⟩⟩⟩⟩⟩⟩⟩⟩
theorem lw_p48 : lw_okq (⟨"FourWatersModel", "done", "()I"⟩, 28) := ⟨⟨by decide +kernel, by decide +kernel⟩, List.mem_of_getElem? (i := 858) (by decide +kernel), List.mem_of_getElem? (i := 1122) (by decide +kernel), List.mem_of_getElem? (i := 1123) (by decide +kernel)⟩
theorem lw_p49 : lw_okq (⟨"FourWatersModel", "copy", "(II)V"⟩, 28) := ⟨⟨by decide +kernel, by decide +kernel⟩, List.mem_of_getElem? (i := 858) (by decide +kernel), List.mem_of_getElem? (i := 1126) (by decide +kernel), List.mem_of_getElem? (i := 1127) (by decide +kernel)⟩
theorem lw_p50 : lw_okq (⟨"FourWatersModel", "lay", "(I)V"⟩, 28) := ⟨⟨by decide +kernel, by decide +kernel⟩, List.mem_of_getElem? (i := 858) (by decide +kernel), List.mem_of_getElem? (i := 1142) (by decide +kernel), List.mem_of_getElem? (i := 1143) (by decide +kernel)⟩
theorem lw_p51 : lw_okq (⟨"FourWatersModel", "weighs", "()I"⟩, 28) := ⟨⟨by decide +kernel, by decide +kernel⟩, List.mem_of_getElem? (i := 858) (by decide +kernel), List.mem_of_getElem? (i := 1146) (by decide +kernel), List.mem_of_getElem? (i := 1147) (by decide +kernel)⟩
theorem lw_p52 : lw_okq (⟨"FourWatersModel", "room", "()I"⟩, 28) := ⟨⟨by decide +kernel, by decide +kernel⟩, List.mem_of_getElem? (i := 858) (by decide +kernel), List.mem_of_getElem? (i := 1153) (by decide +kernel), List.mem_of_getElem? (i := 1154) (by decide +kernel)⟩
theorem lw_p53 : lw_okq (⟨"FourWatersModel", "isCell", "(I)Z"⟩, 28) := ⟨⟨by decide +kernel, by decide +kernel⟩, List.mem_of_getElem? (i := 858) (by decide +kernel), List.mem_of_getElem? (i := 1161) (by decide +kernel), List.mem_of_getElem? (i := 1162) (by decide +kernel)⟩
theorem lw_p54 : lw_okq (⟨"FourWatersModel", "thickIn", "(III)I"⟩, 28) := ⟨⟨by decide +kernel, by decide +kernel⟩, List.mem_of_getElem? (i := 858) (by decide +kernel), List.mem_of_getElem? (i := 1165) (by decide +kernel), List.mem_of_getElem? (i := 1166) (by decide +kernel)⟩
theorem lw_p55 : lw_okq (⟨"FourWatersModel", "comesDown", "(I)V"⟩, 28) := ⟨⟨by decide +kernel, by decide +kernel⟩, List.mem_of_getElem? (i := 858) (by decide +kernel), List.mem_of_getElem? (i := 1173) (by decide +kernel), List.mem_of_getElem? (i := 1174) (by decide +kernel)⟩
theorem lw_p56 : lw_okq (⟨"FourWatersModel", "breaks", "(I)Z"⟩, 28) := ⟨⟨by decide +kernel, by decide +kernel⟩, List.mem_of_getElem? (i := 858) (by decide +kernel), List.mem_of_getElem? (i := 1177) (by decide +kernel), List.mem_of_getElem? (i := 1178) (by decide +kernel)⟩
theorem lw_p57 : lw_okq (⟨"FourWatersModel", "isLoaded", "(I)Z"⟩, 28) := ⟨⟨by decide +kernel, by decide +kernel⟩, List.mem_of_getElem? (i := 858) (by decide +kernel), List.mem_of_getElem? (i := 1185) (by decide +kernel), List.mem_of_getElem? (i := 1186) (by decide +kernel)⟩
theorem lw_p58 : lw_okq (⟨"FourWatersModel", "leastFor", "(II)I"⟩, 28) := ⟨⟨by decide +kernel, by decide +kernel⟩, List.mem_of_getElem? (i := 858) (by decide +kernel), List.mem_of_getElem? (i := 1190) (by decide +kernel), List.mem_of_getElem? (i := 1191) (by decide +kernel)⟩
theorem lw_p59 : lw_okq (⟨"FourWatersModel", "comesTo", "(III)Z"⟩, 28) := ⟨⟨by decide +kernel, by decide +kernel⟩, List.mem_of_getElem? (i := 858) (by decide +kernel), List.mem_of_getElem? (i := 1207) (by decide +kernel), List.mem_of_getElem? (i := 1208) (by decide +kernel)⟩
theorem lw_p60 : lw_okq (⟨"FourWatersModel", "isThick", "(I)Z"⟩, 28) := ⟨⟨by decide +kernel, by decide +kernel⟩, List.mem_of_getElem? (i := 858) (by decide +kernel), List.mem_of_getElem? (i := 1211) (by decide +kernel), List.mem_of_getElem? (i := 1212) (by decide +kernel)⟩
theorem lw_p61 : lw_okq (⟨"FourWatersModel", "ceilingOf", "(I)I"⟩, 28) := ⟨⟨by decide +kernel, by decide +kernel⟩, List.mem_of_getElem? (i := 858) (by decide +kernel), List.mem_of_getElem? (i := 1219) (by decide +kernel), List.mem_of_getElem? (i := 1220) (by decide +kernel)⟩
theorem lw_p62 : lw_okq (⟨"FourWatersModel", "duesOf", "(I)I"⟩, 28) := ⟨⟨by decide +kernel, by decide +kernel⟩, List.mem_of_getElem? (i := 858) (by decide +kernel), List.mem_of_getElem? (i := 1223) (by decide +kernel), List.mem_of_getElem? (i := 1224) (by decide +kernel)⟩
theorem lw_p63 : lw_okq (⟨"FourWatersModel", "laySpill", "(II)V"⟩, 28) := ⟨⟨by decide +kernel, by decide +kernel⟩, List.mem_of_getElem? (i := 858) (by decide +kernel), List.mem_of_getElem? (i := 1233) (by decide +kernel), List.mem_of_getElem? (i := 1234) (by decide +kernel)⟩
def lw_privs_4 : List (MethodName × Nat) := [(⟨"FourWatersModel", "done", "()I"⟩, 28), (⟨"FourWatersModel", "copy", "(II)V"⟩, 28), (⟨"FourWatersModel", "lay", "(I)V"⟩, 28), (⟨"FourWatersModel", "weighs", "()I"⟩, 28), (⟨"FourWatersModel", "room", "()I"⟩, 28), (⟨"FourWatersModel", "isCell", "(I)Z"⟩, 28), (⟨"FourWatersModel", "thickIn", "(III)I"⟩, 28), (⟨"FourWatersModel", "comesDown", "(I)V"⟩, 28), (⟨"FourWatersModel", "breaks", "(I)Z"⟩, 28), (⟨"FourWatersModel", "isLoaded", "(I)Z"⟩, 28), (⟨"FourWatersModel", "leastFor", "(II)I"⟩, 28), (⟨"FourWatersModel", "comesTo", "(III)Z"⟩, 28), (⟨"FourWatersModel", "isThick", "(I)Z"⟩, 28), (⟨"FourWatersModel", "ceilingOf", "(I)I"⟩, 28), (⟨"FourWatersModel", "duesOf", "(I)I"⟩, 28), (⟨"FourWatersModel", "laySpill", "(II)V"⟩, 28)]
theorem lw_r4 : ∀ q ∈ lw_privs_4, lw_okq q := List.forall_mem_cons.mpr ⟨lw_p48, List.forall_mem_cons.mpr ⟨lw_p49, List.forall_mem_cons.mpr ⟨lw_p50, List.forall_mem_cons.mpr ⟨lw_p51, List.forall_mem_cons.mpr ⟨lw_p52, List.forall_mem_cons.mpr ⟨lw_p53, List.forall_mem_cons.mpr ⟨lw_p54, List.forall_mem_cons.mpr ⟨lw_p55, List.forall_mem_cons.mpr ⟨lw_p56, List.forall_mem_cons.mpr ⟨lw_p57, List.forall_mem_cons.mpr ⟨lw_p58, List.forall_mem_cons.mpr ⟨lw_p59, List.forall_mem_cons.mpr ⟨lw_p60, List.forall_mem_cons.mpr ⟨lw_p61, List.forall_mem_cons.mpr ⟨lw_p62, List.forall_mem_cons.mpr ⟨lw_p63, fun _ h => absurd h List.not_mem_nil⟩⟩⟩⟩⟩⟩⟩⟩⟩⟩⟩⟩⟩⟩⟩⟩
theorem lw_p64 : lw_okq (⟨"FourWatersModel", "spills", "(I)V"⟩, 28) := ⟨⟨by decide +kernel, by decide +kernel⟩, List.mem_of_getElem? (i := 858) (by decide +kernel), List.mem_of_getElem? (i := 1237) (by decide +kernel), List.mem_of_getElem? (i := 1238) (by decide +kernel)⟩
theorem lw_p65 : lw_okq (⟨"FourWatersModel", "keepsOut", "(IIIII)Z"⟩, 28) := ⟨⟨by decide +kernel, by decide +kernel⟩, List.mem_of_getElem? (i := 858) (by decide +kernel), List.mem_of_getElem? (i := 1248) (by decide +kernel), List.mem_of_getElem? (i := 1249) (by decide +kernel)⟩
theorem lw_p66 : lw_okq (⟨"FourWatersModel", "driftsTo", "(I)I"⟩, 28) := ⟨⟨by decide +kernel, by decide +kernel⟩, List.mem_of_getElem? (i := 858) (by decide +kernel), List.mem_of_getElem? (i := 1264) (by decide +kernel), List.mem_of_getElem? (i := 1265) (by decide +kernel)⟩
theorem lw_p67 : lw_okq (⟨"FourWatersModel", "tapped", "(III)I"⟩, 28) := ⟨⟨by decide +kernel, by decide +kernel⟩, List.mem_of_getElem? (i := 858) (by decide +kernel), List.mem_of_getElem? (i := 1276) (by decide +kernel), List.mem_of_getElem? (i := 1277) (by decide +kernel)⟩
theorem lw_p68 : lw_okq (⟨"FourWatersModel", "fits", "(II)Z"⟩, 28) := ⟨⟨by decide +kernel, by decide +kernel⟩, List.mem_of_getElem? (i := 858) (by decide +kernel), List.mem_of_getElem? (i := 1284) (by decide +kernel), List.mem_of_getElem? (i := 1285) (by decide +kernel)⟩
theorem lw_p69 : lw_okq (⟨"FourWatersModel", "tells", "(JJ)V"⟩, 28) := ⟨⟨by decide +kernel, by decide +kernel⟩, List.mem_of_getElem? (i := 858) (by decide +kernel), List.mem_of_getElem? (i := 1293) (by decide +kernel), List.mem_of_getElem? (i := 1294) (by decide +kernel)⟩
theorem lw_p70 : lw_okq (⟨"FourWatersModel", "countOf", "(I)I"⟩, 28) := ⟨⟨by decide +kernel, by decide +kernel⟩, List.mem_of_getElem? (i := 858) (by decide +kernel), List.mem_of_getElem? (i := 1318) (by decide +kernel), List.mem_of_getElem? (i := 1319) (by decide +kernel)⟩
theorem lw_p71 : lw_okq (⟨"FourWatersModel", "mix", "(J)V"⟩, 28) := ⟨⟨by decide +kernel, by decide +kernel⟩, List.mem_of_getElem? (i := 858) (by decide +kernel), List.mem_of_getElem? (i := 1327) (by decide +kernel), List.mem_of_getElem? (i := 1328) (by decide +kernel)⟩
theorem lw_p72 : lw_okq (⟨"FourWatersModel", "mixSea", "()V"⟩, 28) := ⟨⟨by decide +kernel, by decide +kernel⟩, List.mem_of_getElem? (i := 858) (by decide +kernel), List.mem_of_getElem? (i := 1332) (by decide +kernel), List.mem_of_getElem? (i := 1333) (by decide +kernel)⟩
def lw_privs_5 : List (MethodName × Nat) := [(⟨"FourWatersModel", "spills", "(I)V"⟩, 28), (⟨"FourWatersModel", "keepsOut", "(IIIII)Z"⟩, 28), (⟨"FourWatersModel", "driftsTo", "(I)I"⟩, 28), (⟨"FourWatersModel", "tapped", "(III)I"⟩, 28), (⟨"FourWatersModel", "fits", "(II)Z"⟩, 28), (⟨"FourWatersModel", "tells", "(JJ)V"⟩, 28), (⟨"FourWatersModel", "countOf", "(I)I"⟩, 28), (⟨"FourWatersModel", "mix", "(J)V"⟩, 28), (⟨"FourWatersModel", "mixSea", "()V"⟩, 28)]
theorem lw_r5 : ∀ q ∈ lw_privs_5, lw_okq q := List.forall_mem_cons.mpr ⟨lw_p64, List.forall_mem_cons.mpr ⟨lw_p65, List.forall_mem_cons.mpr ⟨lw_p66, List.forall_mem_cons.mpr ⟨lw_p67, List.forall_mem_cons.mpr ⟨lw_p68, List.forall_mem_cons.mpr ⟨lw_p69, List.forall_mem_cons.mpr ⟨lw_p70, List.forall_mem_cons.mpr ⟨lw_p71, List.forall_mem_cons.mpr ⟨lw_p72, fun _ h => absurd h List.not_mem_nil⟩⟩⟩⟩⟩⟩⟩⟩⟩
def lw_privs : List (MethodName × Nat) := lw_privs_1 ++ (lw_privs_2 ++ (lw_privs_3 ++ (lw_privs_4 ++ (lw_privs_5))))
def lw_tbl : List Cond := k2_sels lw_privs ++ tables_1
theorem lw_privs_ok : ∀ q ∈ lw_privs, lw_okq q := by
  show ∀ q ∈ lw_privs_1 ++ (lw_privs_2 ++ (lw_privs_3 ++ (lw_privs_4 ++ (lw_privs_5)))), lw_okq q
  exact List.forall_mem_append.mpr ⟨lw_r1, List.forall_mem_append.mpr ⟨lw_r2, List.forall_mem_append.mpr ⟨lw_r3, List.forall_mem_append.mpr ⟨lw_r4, lw_r5⟩⟩⟩⟩
def RX0 : String := "FourWaters$Fall"
def TX0 : u_T := fun k => match k with
  | 0 => ("FourWaters$Fall", "weighs", "I", false)
  | 1 => ("FourWaters$Fall", "room", "I", false)
  | 2 => ("FourWaters$Fall", "force", "I", false)
  | 3 => ("FourWaters$Fall", "layer", "I", false)
  | 4 => ("FourWaters$Fall", "down", "I", false)
  | 5 => ("FourWaters$Fall", "broken", "I", false)
  | 6 => ("FourWaters$Fall", "stopper", "I", false)
  | _ => ("FourWaters$Fall", "passedThick", "[I", true)
def tyX0 : Nat → FieldType := fun k => match k with
  | 0 => .int
  | 1 => .int
  | 2 => .int
  | 3 => .int
  | 4 => .int
  | 5 => .int
  | 6 => .int
  | _ => .array .int
abbrev wsX00 : List Cond := u_ws RX0 TX0 8
theorem nmX0 : ∀ a, a < 8 → ∀ b, b < 8 → a ≠ b → (TX0 a).2.1 ≠ (TX0 b).2.1 := by decide +kernel
theorem tyX0_ok : ∀ k, k < 8 → parseFieldDescriptor (TX0 k).2.2.1 = some (tyX0 k) := by decide +kernel
def RX1 : String := "FourWaters$Lifts"
def TX1 : u_T := fun k => match k with
  | 0 => ("FourWaters$Lifts", "count", "I", false)
  | 1 => ("FourWaters$Lifts", "froms", "[I", true)
  | 2 => ("FourWaters$Lifts", "tos", "[I", true)
  | _ => ("FourWaters$Lifts", "times", "[I", true)
def tyX1 : Nat → FieldType := fun k => match k with
  | 0 => .int
  | 1 => .array .int
  | 2 => .array .int
  | _ => .array .int
abbrev wsX10 : List Cond := u_ws RX1 TX1 4
theorem nmX1 : ∀ a, a < 4 → ∀ b, b < 4 → a ≠ b → (TX1 a).2.1 ≠ (TX1 b).2.1 := by decide +kernel
theorem tyX1_ok : ∀ k, k < 4 → parseFieldDescriptor (TX1 k).2.2.1 = some (tyX1 k) := by decide +kernel
def RX2 : String := "FourWaters$Sea"
def TX2 : u_T := fun k => match k with
  | 0 => ("FourWaters$Sea", "cells", "I", false)
  | 1 => ("FourWaters$Sea", "hour", "I", false)
  | 2 => ("FourWaters$Sea", "dams", "I", false)
  | 3 => ("FourWaters$Sea", "densities", "[I", true)
  | 4 => ("FourWaters$Sea", "currents", "[I", true)
  | 5 => ("FourWaters$Sea", "tides", "[I", true)
  | 6 => ("FourWaters$Sea", "thicks", "[I", true)
  | 7 => ("FourWaters$Sea", "skins", "[I", true)
  | 8 => ("FourWaters$Sea", "things", "LFourWaters$Things;", true)
  | 9 => ("FourWaters$Sea", "lifts", "LFourWaters$Lifts;", true)
  | 10 => ("FourWaters$Sea", "towns", "I", false)
  | 11 => ("FourWaters$Sea", "townPlaces", "[I", true)
  | 12 => ("FourWaters$Sea", "drops", "I", false)
  | 13 => ("FourWaters$Sea", "dropLayers", "[I", true)
  | 14 => ("FourWaters$Sea", "dropFloats", "[I", true)
  | 15 => ("FourWaters$Sea", "undos", "I", false)
  | _ => ("FourWaters$Sea", "hoursBefore", "[I", true)
def tyX2 : Nat → FieldType := fun k => match k with
  | 0 => .int
  | 1 => .int
  | 2 => .int
  | 3 => .array .int
  | 4 => .array .int
  | 5 => .array .int
  | 6 => .array .int
  | 7 => .array .int
  | 8 => .object "FourWaters$Things"
  | 9 => .object "FourWaters$Lifts"
  | 10 => .int
  | 11 => .array .int
  | 12 => .int
  | 13 => .array .int
  | 14 => .array .int
  | 15 => .int
  | _ => .array .int
abbrev wsX20 : List Cond := u_ws RX2 TX2 17
theorem nmX2 : ∀ a, a < 17 → ∀ b, b < 17 → a ≠ b → (TX2 a).2.1 ≠ (TX2 b).2.1 := by decide +kernel
theorem tyX2_ok : ∀ k, k < 17 → parseFieldDescriptor (TX2 k).2.2.1 = some (tyX2 k) := by decide +kernel
def RX3 : String := "FourWaters$Spread"
def TX3 : u_T := fun k => match k with
  | 0 => ("FourWaters$Spread", "amounts", "[I", true)
  | _ => ("FourWaters$Spread", "gifts", "[I", true)
def tyX3 : Nat → FieldType := fun k => match k with
  | 0 => .array .int
  | _ => .array .int
abbrev wsX30 : List Cond := u_ws RX3 TX3 2
theorem nmX3 : ∀ a, a < 2 → ∀ b, b < 2 → a ≠ b → (TX3 a).2.1 ≠ (TX3 b).2.1 := by decide +kernel
theorem tyX3_ok : ∀ k, k < 2 → parseFieldDescriptor (TX3 k).2.2.1 = some (tyX3 k) := by decide +kernel
def RX4 : String := "FourWaters$Text"
def TX4 : u_T := fun k => match k with
  | 0 => ("FourWaters$Text", "length", "I", false)
  | 1 => ("FourWaters$Text", "items", "I", false)
  | 2 => ("FourWaters$Text", "refusedItem", "I", false)
  | 3 => ("FourWaters$Text", "bytes", "[I", true)
  | 4 => ("FourWaters$Text", "numbers", "[I", true)
  | _ => ("FourWaters$Text", "at", "I", false)
def tyX4 : Nat → FieldType := fun k => match k with
  | 0 => .int
  | 1 => .int
  | 2 => .int
  | 3 => .array .int
  | 4 => .array .int
  | _ => .int
abbrev wsX40 : List Cond := u_ws RX4 TX4 6
theorem nmX4 : ∀ a, a < 6 → ∀ b, b < 6 → a ≠ b → (TX4 a).2.1 ≠ (TX4 b).2.1 := by decide +kernel
theorem tyX4_ok : ∀ k, k < 6 → parseFieldDescriptor (TX4 k).2.2.1 = some (tyX4 k) := by decide +kernel
def RX5 : String := "FourWaters$Things"
def TX5 : u_T := fun k => match k with
  | 0 => ("FourWaters$Things", "count", "I", false)
  | 1 => ("FourWaters$Things", "kinds", "[I", true)
  | 2 => ("FourWaters$Things", "weights", "[I", true)
  | 3 => ("FourWaters$Things", "volumes", "[I", true)
  | _ => ("FourWaters$Things", "ballasts", "[I", true)
def tyX5 : Nat → FieldType := fun k => match k with
  | 0 => .int
  | 1 => .array .int
  | 2 => .array .int
  | 3 => .array .int
  | _ => .array .int
abbrev wsX50 : List Cond := u_ws RX5 TX5 5
theorem nmX5 : ∀ a, a < 5 → ∀ b, b < 5 → a ≠ b → (TX5 a).2.1 ≠ (TX5 b).2.1 := by decide +kernel
theorem tyX5_ok : ∀ k, k < 5 → parseFieldDescriptor (TX5 k).2.2.1 = some (tyX5 k) := by decide +kernel
def RX6 : String := "FourWaters$Ways"
def TX6 : u_T := fun k => match k with
  | _ => ("FourWaters$Ways", "reached", "[I", true)
def tyX6 : Nat → FieldType := fun k => match k with
  | _ => .array .int
abbrev wsX60 : List Cond := u_ws RX6 TX6 1
theorem nmX6 : ∀ a, a < 1 → ∀ b, b < 1 → a ≠ b → (TX6 a).2.1 ≠ (TX6 b).2.1 := by decide +kernel
theorem tyX6_ok : ∀ k, k < 1 → parseFieldDescriptor (TX6 k).2.2.1 = some (tyX6 k) := by decide +kernel
def RX7 : String := "FourWaters"
def TX7 : u_T := fun k => match k with
  | 0 => ("FourWaters", "now", "LFourWaters$Sea;", true)
  | 1 => ("FourWaters", "spare", "LFourWaters$Sea;", true)
  | 2 => ("FourWaters", "imageZero", "LFourWaters$Sea;", true)
  | 3 => ("FourWaters", "imageOne", "LFourWaters$Sea;", true)
  | 4 => ("FourWaters", "imageKept", "[Z", true)
  | 5 => ("FourWaters", "text", "LFourWaters$Text;", true)
  | 6 => ("FourWaters", "fall", "LFourWaters$Fall;", true)
  | 7 => ("FourWaters", "spread", "LFourWaters$Spread;", true)
  | 8 => ("FourWaters", "ways", "LFourWaters$Ways;", true)
  | 9 => ("FourWaters", "downs", "[I", true)
  | 10 => ("FourWaters", "above", "J", false)
  | 11 => ("FourWaters", "below", "J", false)
  | 12 => ("FourWaters", "refusedBad", "I", false)
  | 13 => ("FourWaters", "refusedNo", "I", false)
  | _ => ("FourWaters", "refusedFull", "I", false)
def tyX7 : Nat → FieldType := fun k => match k with
  | 0 => .object "FourWaters$Sea"
  | 1 => .object "FourWaters$Sea"
  | 2 => .object "FourWaters$Sea"
  | 3 => .object "FourWaters$Sea"
  | 4 => .array .boolean
  | 5 => .object "FourWaters$Text"
  | 6 => .object "FourWaters$Fall"
  | 7 => .object "FourWaters$Spread"
  | 8 => .object "FourWaters$Ways"
  | 9 => .array .int
  | 10 => .long
  | 11 => .long
  | 12 => .int
  | 13 => .int
  | _ => .int
abbrev wsX70 : List Cond := u_ws RX7 TX7 15
theorem nmX7 : ∀ a, a < 15 → ∀ b, b < 15 → a ≠ b → (TX7 a).2.1 ≠ (TX7 b).2.1 := by decide +kernel
theorem tyX7_ok : ∀ k, k < 15 → parseFieldDescriptor (TX7 k).2.2.1 = some (tyX7 k) := by decide +kernel
def RX8 : String := "FourWatersModel"
def TX8 : u_T := fun k => match k with
  | 0 => ("FourWatersModel", "w", "[I", true)
  | 1 => ("FourWatersModel", "isKept", "[Z", true)
  | 2 => ("FourWatersModel", "text", "[I", true)
  | 3 => ("FourWatersModel", "texted", "I", false)
  | 4 => ("FourWatersModel", "refused", "[I", true)
  | 5 => ("FourWatersModel", "above", "J", false)
  | 6 => ("FourWatersModel", "below", "J", false)
  | 7 => ("FourWatersModel", "at", "I", false)
  | 8 => ("FourWatersModel", "start", "I", false)
  | 9 => ("FourWatersModel", "isWord", "Z", false)
  | 10 => ("FourWatersModel", "isFigures", "Z", false)
  | 11 => ("FourWatersModel", "numbers", "[I", true)
  | 12 => ("FourWatersModel", "word", "I", false)
  | 13 => ("FourWatersModel", "kind", "I", false)
  | 14 => ("FourWatersModel", "weight", "I", false)
  | 15 => ("FourWatersModel", "volume", "I", false)
  | 16 => ("FourWatersModel", "load", "I", false)
  | 17 => ("FourWatersModel", "hour", "I", false)
  | 18 => ("FourWatersModel", "torn", "I", false)
  | 19 => ("FourWatersModel", "restsIn", "I", false)
  | 20 => ("FourWatersModel", "down", "I", false)
  | 21 => ("FourWatersModel", "broken", "I", false)
  | 22 => ("FourWatersModel", "passes", "I", false)
  | 23 => ("FourWatersModel", "stops", "I", false)
  | 24 => ("FourWatersModel", "far", "[I", true)
  | 25 => ("FourWatersModel", "there", "[I", true)
  | 26 => ("FourWatersModel", "gives", "[I", true)
  | _ => ("FourWatersModel", "h", "J", false)
def tyX8 : Nat → FieldType := fun k => match k with
  | 0 => .array .int
  | 1 => .array .boolean
  | 2 => .array .int
  | 3 => .int
  | 4 => .array .int
  | 5 => .long
  | 6 => .long
  | 7 => .int
  | 8 => .int
  | 9 => .boolean
  | 10 => .boolean
  | 11 => .array .int
  | 12 => .int
  | 13 => .int
  | 14 => .int
  | 15 => .int
  | 16 => .int
  | 17 => .int
  | 18 => .int
  | 19 => .int
  | 20 => .int
  | 21 => .int
  | 22 => .int
  | 23 => .int
  | 24 => .array .int
  | 25 => .array .int
  | 26 => .array .int
  | _ => .long
abbrev wsX80 : List Cond := u_ws RX8 TX8 28
theorem nmX8 : ∀ a, a < 28 → ∀ b, b < 28 → a ≠ b → (TX8 a).2.1 ≠ (TX8 b).2.1 := by decide +kernel
theorem tyX8_ok : ∀ k, k < 28 → parseFieldDescriptor (TX8 k).2.2.1 = some (tyX8 k) := by decide +kernel
abbrev vwCl : List vw_C := [(RX0, TX0, 8), (RX1, TX1, 4), (RX2, TX2, 17), (RX3, TX3, 2), (RX4, TX4, 6), (RX5, TX5, 5), (RX6, TX6, 1), (RX7, TX7, 15), (RX8, TX8, 28)]
end
section
/-! the method records and tables of the interpreter: written by a program of the verifier -/
abbrev ai_M : Type := (MethodName × ByteArray × Nat × Option FieldType) × (String × Nat × Room × List (Nat × Instr × Nat))
abbrev ai_y (M : ai_M) : MethodName := M.1.1
abbrev ai_cc (M : ai_M) : ByteArray := M.1.2.1
abbrev ai_mL (M : ai_M) : Nat := M.1.2.2.1
abbrev ai_rt (M : ai_M) : Option FieldType := M.1.2.2.2
abbrev ai_own (M : ai_M) : String := M.2.1
abbrev ai_cl (M : ai_M) : Nat := M.2.2.1
abbrev ai_rm (M : ai_M) : Room := M.2.2.2.1
abbrev ai_cd (M : ai_M) : List (Nat × Instr × Nat) := M.2.2.2.2
/-- the length of an instruction, but for switches -/
def ai_len : Instr → Nat
  | .bipush _ => 2 | .sipush _ => 3 | .aload _ => 2 | .iload _ => 2 | .lload _ => 2 | .astore _ => 2 | .istore _ => 2 | .lstore _ => 2 | .ldc _ => 2 | .ldc_w _ => 3 | .ldc2_w _ => 3
  | .iinc _ _ => 3 | .goto _ => 3 | .ifCond _ _ => 3 | .if_icmp _ _ => 3 | .getfield _ => 3 | .putfield _ => 3 | .getstatic _ => 3 | .newarray _ => 2 | .new _ => 3
  | .invokevirtual _ => 3 | .invokestatic _ => 3 | .invokespecial _ => 3 | _ => 1
def ai_sw : Instr → Bool
  | .tableswitch _ _ _ _ => true | _ => false
def ai_okI (cc : ByteArray) (q : Nat × Instr × Nat) : Bool := decide (decode cc q.1 = .ok q.2) && (ai_sw q.2.1 || Nat.beq q.2.2 (ai_len q.2.1))
def ai_okC (M : ai_M) : Bool := (ai_cd M).all (ai_okI (ai_cc M))
/-- a method's record is what the tables say -/
def ai_okM (M : ai_M) : Prop := ai_okC M = true ∧ (∃ i : Nat, lw_tbl[i]? = some (Jvm.Cond.code (ai_y M) (ai_cc M) (ai_mL M) (ai_rt M))) ∧ plainName (ai_y M).cls = true ∧ (ai_y M).cls = ai_own M
def mthg_init : ai_M := ((⟨"FourWaters$Things", "<init>", "()V"⟩, prog_7_method_1_code, 1, (Option.none : Option Jvm.ClassFile.FieldType)), ("FourWaters$Things", 5, { frames := 1, cells := 4, slots := 24, locals := 20 }, [(0, .aload_n 0, 1), (1, .invokespecial 3, 3), (4, .aload_n 0, 1), (5, .iconst 0, 1), (6, .putfield 9, 3), (9, .aload_n 0, 1), (10, .bipush 6, 2), (12, .newarray .int, 2), (14, .putfield 15, 3), (17, .aload_n 0, 1), (18, .bipush 6, 2), (20, .newarray .int, 2), (22, .putfield 19, 3), (25, .aload_n 0, 1), (26, .bipush 6, 2), (28, .newarray .int, 2), (30, .putfield 22, 3), (33, .aload_n 0, 1), (34, .bipush 6, 2), (36, .newarray .int, 2), (38, .putfield 25, 3), (41, .return_, 1)]))
def mlift_init : ai_M := ((⟨"FourWaters$Lifts", "<init>", "()V"⟩, prog_3_method_1_code, 1, (Option.none : Option Jvm.ClassFile.FieldType)), ("FourWaters$Lifts", 1, { frames := 1, cells := 3, slots := 30, locals := 20 }, [(0, .aload_n 0, 1), (1, .invokespecial 3, 3), (4, .aload_n 0, 1), (5, .iconst 0, 1), (6, .putfield 9, 3), (9, .aload_n 0, 1), (10, .bipush 10, 2), (12, .newarray .int, 2), (14, .putfield 15, 3), (17, .aload_n 0, 1), (18, .bipush 10, 2), (20, .newarray .int, 2), (22, .putfield 19, 3), (25, .aload_n 0, 1), (26, .bipush 10, 2), (28, .newarray .int, 2), (30, .putfield 22, 3), (33, .return_, 1)]))
def mf_within : ai_M := ((⟨"FourWaters", "within", "(III)Z"⟩, prog_1_method_45_code, 3, (Option.some Jvm.ClassFile.FieldType.boolean)), ("FourWaters", 7, { frames := 0, cells := 0, slots := 0, locals := 0 }, [(0, .iload_n 0, 1), (1, .iload_n 1, 1), (2, .if_icmp .lt 12, 3), (5, .iload_n 0, 1), (6, .iload_n 2, 1), (7, .if_icmp .gt 7, 3), (10, .iconst 1, 1), (11, .goto 4, 3), (14, .iconst 0, 1), (15, .ireturn, 1)]))
def marr_fill : ai_M := ((⟨"java/util/Arrays", "fill", "([II)V"⟩, prog_17_method_103_code, 4, (Option.none : Option Jvm.ClassFile.FieldType)), ("java/util/Arrays", 11, { frames := 0, cells := 0, slots := 0, locals := 0 }, [(0, .iconst 0, 1), (1, .istore_n 2, 1), (2, .aload_n 0, 1), (3, .arraylength, 1), (4, .istore_n 3, 1), (5, .iload_n 2, 1), (6, .iload_n 3, 1), (7, .if_icmp .ge 13, 3), (10, .aload_n 0, 1), (11, .iload_n 2, 1), (12, .iload_n 1, 1), (13, .iastore, 1), (14, .iinc 2 1, 3), (17, .goto (-12), 3), (20, .return_, 1)]))
def msea_startAnew : ai_M := ((⟨"FourWaters$Sea", "startAnew", "(I)I"⟩, prog_4_method_2_code, 3, (Option.some Jvm.ClassFile.FieldType.int)), ("FourWaters$Sea", 2, { frames := 1, cells := 0, slots := 0, locals := 35 }, [(0, .iload_n 1, 1), (1, .iconst 1, 1), (2, .bipush 6, 2), (4, .invokestatic 76, 3), (7, .ifCond .ne 6, 3), (10, .bipush (-2), 2), (12, .ireturn, 1), (13, .aload_n 0, 1), (14, .getfield 9, 3), (17, .istore_n 2, 1), (18, .aload_n 0, 1), (19, .iload_n 1, 1), (20, .putfield 9, 3), (23, .aload_n 0, 1), (24, .iconst 0, 1), (25, .putfield 15, 3), (28, .aload_n 0, 1), (29, .iconst 0, 1), (30, .putfield 18, 3), (33, .getstatic 80, 3), (36, .iconst 0, 1), (37, .aload_n 0, 1), (38, .getfield 21, 3), (41, .iconst 0, 1), (42, .iconst 4, 1), (43, .invokestatic 83, 3), (46, .aload_n 0, 1), (47, .getfield 25, 3), (50, .iconst 0, 1), (51, .invokestatic 89, 3), (54, .aload_n 0, 1), (55, .getfield 28, 3), (58, .iconst 0, 1), (59, .invokestatic 89, 3), (62, .aload_n 0, 1), (63, .getfield 31, 3), (66, .iconst 3, 1), (67, .invokestatic 89, 3), (70, .aload_n 0, 1), (71, .getfield 34, 3), (74, .iconst 0, 1), (75, .invokestatic 89, 3), (78, .aload_n 0, 1), (79, .getfield 40, 3), (82, .iconst 0, 1), (83, .putfield 95, 3), (86, .aload_n 0, 1), (87, .getfield 47, 3), (90, .iconst 0, 1), (91, .putfield 98, 3), (94, .aload_n 0, 1), (95, .iconst 0, 1), (96, .putfield 51, 3), (99, .aload_n 0, 1), (100, .iconst 0, 1), (101, .putfield 57, 3), (104, .aload_n 0, 1), (105, .iconst 0, 1), (106, .putfield 66, 3), (109, .iload_n 2, 1), (110, .ireturn, 1)]))
def msea_init : ai_M := ((⟨"FourWaters$Sea", "<init>", "()V"⟩, prog_4_method_1_code, 1, (Option.none : Option Jvm.ClassFile.FieldType)), ("FourWaters$Sea", 2, { frames := 2, cells := 18, slots := 150, locals := 57 }, [(0, .aload_n 0, 1), (1, .invokespecial 3, 3), (4, .aload_n 0, 1), (5, .iconst 0, 1), (6, .putfield 9, 3), (9, .aload_n 0, 1), (10, .iconst 0, 1), (11, .putfield 15, 3), (14, .aload_n 0, 1), (15, .iconst 0, 1), (16, .putfield 18, 3), (19, .aload_n 0, 1), (20, .iconst 4, 1), (21, .newarray .int, 2), (23, .putfield 21, 3), (26, .aload_n 0, 1), (27, .iconst 4, 1), (28, .newarray .int, 2), (30, .putfield 25, 3), (33, .aload_n 0, 1), (34, .bipush 24, 2), (36, .newarray .int, 2), (38, .putfield 28, 3), (41, .aload_n 0, 1), (42, .bipush 24, 2), (44, .newarray .int, 2), (46, .putfield 31, 3), (49, .aload_n 0, 1), (50, .iconst 3, 1), (51, .newarray .int, 2), (53, .putfield 34, 3), (56, .aload_n 0, 1), (57, .new 37, 3), (60, .dup, 1), (61, .invokespecial 39, 3), (64, .putfield 40, 3), (67, .aload_n 0, 1), (68, .new 44, 3), (71, .dup, 1), (72, .invokespecial 46, 3), (75, .putfield 47, 3), (78, .aload_n 0, 1), (79, .iconst 0, 1), (80, .putfield 51, 3), (83, .aload_n 0, 1), (84, .bipush 6, 2), (86, .newarray .int, 2), (88, .putfield 54, 3), (91, .aload_n 0, 1), (92, .iconst 0, 1), (93, .putfield 57, 3), (96, .aload_n 0, 1), (97, .bipush 6, 2), (99, .newarray .int, 2), (101, .putfield 60, 3), (104, .aload_n 0, 1), (105, .bipush 6, 2), (107, .newarray .int, 2), (109, .putfield 63, 3), (112, .aload_n 0, 1), (113, .iconst 0, 1), (114, .putfield 66, 3), (117, .aload_n 0, 1), (118, .bipush 10, 2), (120, .newarray .int, 2), (122, .putfield 69, 3), (125, .aload_n 0, 1), (126, .iconst 4, 1), (127, .invokevirtual 72, 3), (130, .pop, 1), (131, .return_, 1)]))
def mtxt_init : ai_M := ((⟨"FourWaters$Text", "<init>", "()V"⟩, prog_6_method_1_code, 1, (Option.none : Option Jvm.ClassFile.FieldType)), ("FourWaters$Text", 4, { frames := 1, cells := 2, slots := 153, locals := 20 }, [(0, .aload_n 0, 1), (1, .invokespecial 3, 3), (4, .aload_n 0, 1), (5, .iconst 0, 1), (6, .putfield 9, 3), (9, .aload_n 0, 1), (10, .iconst 0, 1), (11, .putfield 15, 3), (14, .aload_n 0, 1), (15, .iconst (-1), 1), (16, .putfield 18, 3), (19, .aload_n 0, 1), (20, .sipush 150, 3), (23, .newarray .int, 2), (25, .putfield 21, 3), (28, .aload_n 0, 1), (29, .iconst 3, 1), (30, .newarray .int, 2), (32, .putfield 25, 3), (35, .aload_n 0, 1), (36, .iconst 0, 1), (37, .putfield 28, 3), (40, .return_, 1)]))
def mfall_init : ai_M := ((⟨"FourWaters$Fall", "<init>", "()V"⟩, prog_2_method_1_code, 1, (Option.none : Option Jvm.ClassFile.FieldType)), ("FourWaters$Fall", 0, { frames := 1, cells := 1, slots := 4, locals := 20 }, [(0, .aload_n 0, 1), (1, .invokespecial 3, 3), (4, .aload_n 0, 1), (5, .iconst 0, 1), (6, .putfield 9, 3), (9, .aload_n 0, 1), (10, .iconst 0, 1), (11, .putfield 15, 3), (14, .aload_n 0, 1), (15, .iconst 0, 1), (16, .putfield 18, 3), (19, .aload_n 0, 1), (20, .iconst 0, 1), (21, .putfield 21, 3), (24, .aload_n 0, 1), (25, .iconst 0, 1), (26, .putfield 24, 3), (29, .aload_n 0, 1), (30, .iconst 0, 1), (31, .putfield 27, 3), (34, .aload_n 0, 1), (35, .iconst (-1), 1), (36, .putfield 30, 3), (39, .aload_n 0, 1), (40, .iconst 4, 1), (41, .newarray .int, 2), (43, .putfield 33, 3), (46, .return_, 1)]))
def mspr_init : ai_M := ((⟨"FourWaters$Spread", "<init>", "()V"⟩, prog_5_method_1_code, 1, (Option.none : Option Jvm.ClassFile.FieldType)), ("FourWaters$Spread", 3, { frames := 1, cells := 2, slots := 12, locals := 20 }, [(0, .aload_n 0, 1), (1, .invokespecial 3, 3), (4, .aload_n 0, 1), (5, .bipush 6, 2), (7, .newarray .int, 2), (9, .putfield 9, 3), (12, .aload_n 0, 1), (13, .bipush 6, 2), (15, .newarray .int, 2), (17, .putfield 15, 3), (20, .return_, 1)]))
def mway_init : ai_M := ((⟨"FourWaters$Ways", "<init>", "()V"⟩, prog_8_method_1_code, 1, (Option.none : Option Jvm.ClassFile.FieldType)), ("FourWaters$Ways", 6, { frames := 1, cells := 1, slots := 24, locals := 20 }, [(0, .aload_n 0, 1), (1, .invokespecial 3, 3), (4, .aload_n 0, 1), (5, .bipush 24, 2), (7, .newarray .int, 2), (9, .putfield 11, 3), (12, .return_, 1)]))
def mf_init : ai_M := ((⟨"FourWaters", "<init>", "()V"⟩, prog_1_method_1_code, 1, (Option.none : Option Jvm.ClassFile.FieldType)), ("FourWaters", 7, { frames := 3, cells := 88, slots := 886, locals := 77 }, [(0, .aload_n 0, 1), (1, .invokespecial 1, 3), (4, .aload_n 0, 1), (5, .new 7, 3), (8, .dup, 1), (9, .invokespecial 9, 3), (12, .putfield 10, 3), (15, .aload_n 0, 1), (16, .new 7, 3), (19, .dup, 1), (20, .invokespecial 9, 3), (23, .putfield 16, 3), (26, .aload_n 0, 1), (27, .new 7, 3), (30, .dup, 1), (31, .invokespecial 9, 3), (34, .putfield 19, 3), (37, .aload_n 0, 1), (38, .new 7, 3), (41, .dup, 1), (42, .invokespecial 9, 3), (45, .putfield 22, 3), (48, .aload_n 0, 1), (49, .iconst 2, 1), (50, .newarray .boolean, 2), (52, .putfield 25, 3), (55, .aload_n 0, 1), (56, .new 29, 3), (59, .dup, 1), (60, .invokespecial 31, 3), (63, .putfield 32, 3), (66, .aload_n 0, 1), (67, .new 36, 3), (70, .dup, 1), (71, .invokespecial 38, 3), (74, .putfield 39, 3), (77, .aload_n 0, 1), (78, .new 43, 3), (81, .dup, 1), (82, .invokespecial 45, 3), (85, .putfield 46, 3), (88, .aload_n 0, 1), (89, .new 50, 3), (92, .dup, 1), (93, .invokespecial 52, 3), (96, .putfield 53, 3), (99, .aload_n 0, 1), (100, .bipush 6, 2), (102, .newarray .int, 2), (104, .putfield 57, 3), (107, .aload_n 0, 1), (108, .lconst 0, 1), (109, .putfield 61, 3), (112, .aload_n 0, 1), (113, .lconst 1, 1), (114, .putfield 65, 3), (117, .aload_n 0, 1), (118, .iconst 0, 1), (119, .putfield 68, 3), (122, .aload_n 0, 1), (123, .iconst 0, 1), (124, .putfield 72, 3), (127, .aload_n 0, 1), (128, .iconst 0, 1), (129, .putfield 75, 3), (132, .return_, 1)]))
def mm_begins : ai_M := ((⟨"FourWatersModel", "begins", "(II)V"⟩, prog_10_method_11_code, 4, (Option.none : Option Jvm.ClassFile.FieldType)), ("FourWatersModel", 8, { frames := 0, cells := 0, slots := 0, locals := 0 }, [(0, .iconst 0, 1), (1, .istore_n 3, 1), (2, .iload_n 3, 1), (3, .sipush 149, 3), (6, .if_icmp .ge 18, 3), (9, .aload_n 0, 1), (10, .getfield 7, 3), (13, .iload_n 1, 1), (14, .iload_n 3, 1), (15, .iadd, 1), (16, .iconst 0, 1), (17, .iastore, 1), (18, .iinc 3 1, 3), (21, .goto (-19), 3), (24, .aload_n 0, 1), (25, .getfield 7, 3), (28, .iload_n 1, 1), (29, .iconst 0, 1), (30, .iadd, 1), (31, .iload_n 2, 1), (32, .iastore, 1), (33, .aload_n 0, 1), (34, .getfield 7, 3), (37, .iload_n 1, 1), (38, .bipush 8, 2), (40, .iadd, 1), (41, .bipush 10, 2), (43, .iastore, 1), (44, .aload_n 0, 1), (45, .getfield 7, 3), (48, .iload_n 1, 1), (49, .bipush 8, 2), (51, .iadd, 1), (52, .iconst 1, 1), (53, .iadd, 1), (54, .bipush 13, 2), (56, .iastore, 1), (57, .aload_n 0, 1), (58, .getfield 7, 3), (61, .iload_n 1, 1), (62, .bipush 8, 2), (64, .iadd, 1), (65, .iconst 2, 1), (66, .iadd, 1), (67, .bipush 16, 2), (69, .iastore, 1), (70, .aload_n 0, 1), (71, .getfield 7, 3), (74, .iload_n 1, 1), (75, .bipush 8, 2), (77, .iadd, 1), (78, .iconst 3, 1), (79, .iadd, 1), (80, .bipush 20, 2), (82, .iastore, 1), (83, .iconst 0, 1), (84, .istore_n 3, 1), (85, .iload_n 3, 1), (86, .bipush 24, 2), (88, .if_icmp .ge 21, 3), (91, .aload_n 0, 1), (92, .getfield 7, 3), (95, .iload_n 1, 1), (96, .bipush 40, 2), (98, .iadd, 1), (99, .iload_n 3, 1), (100, .iadd, 1), (101, .iconst 3, 1), (102, .iastore, 1), (103, .iinc 3 1, 3), (106, .goto (-21), 3), (109, .return_, 1)]))
def mm_init : ai_M := ((⟨"FourWatersModel", "<init>", "()V"⟩, prog_10_method_1_code, 1, (Option.none : Option Jvm.ClassFile.FieldType)), ("FourWatersModel", 8, { frames := 1, cells := 8, slots := 826, locals := 23 }, [(0, .aload_n 0, 1), (1, .invokespecial 1, 3), (4, .aload_n 0, 1), (5, .sipush 596, 3), (8, .newarray .int, 2), (10, .putfield 7, 3), (13, .aload_n 0, 1), (14, .iconst 2, 1), (15, .newarray .boolean, 2), (17, .putfield 13, 3), (20, .aload_n 0, 1), (21, .sipush 150, 3), (24, .newarray .int, 2), (26, .putfield 17, 3), (29, .aload_n 0, 1), (30, .iconst 3, 1), (31, .newarray .int, 2), (33, .putfield 20, 3), (36, .aload_n 0, 1), (37, .lconst 1, 1), (38, .putfield 23, 3), (41, .aload_n 0, 1), (42, .iconst 3, 1), (43, .newarray .int, 2), (45, .putfield 27, 3), (48, .aload_n 0, 1), (49, .bipush 60, 2), (51, .newarray .int, 2), (53, .putfield 30, 3), (56, .aload_n 0, 1), (57, .bipush 6, 2), (59, .newarray .int, 2), (61, .putfield 33, 3), (64, .aload_n 0, 1), (65, .bipush 6, 2), (67, .newarray .int, 2), (69, .putfield 36, 3), (72, .aload_n 0, 1), (73, .iconst 0, 1), (74, .iconst 4, 1), (75, .invokevirtual 39, 3), (78, .return_, 1)]))
def mf_counted : ai_M := ((⟨"FourWaters", "counted", "(I)I"⟩, prog_1_method_43_code, 2, (Option.some Jvm.ClassFile.FieldType.int)), ("FourWaters", 7, { frames := 0, cells := 0, slots := 0, locals := 0 }, [(0, .iload_n 1, 1), (1, .bipush (-2), 2), (3, .if_icmp .ne 16, 3), (6, .aload_n 0, 1), (7, .dup, 1), (8, .getfield 68, 3), (11, .iconst 1, 1), (12, .iadd, 1), (13, .putfield 68, 3), (16, .goto 38, 3), (19, .iload_n 1, 1), (20, .bipush (-3), 2), (22, .if_icmp .ne 16, 3), (25, .aload_n 0, 1), (26, .dup, 1), (27, .getfield 72, 3), (30, .iconst 1, 1), (31, .iadd, 1), (32, .putfield 72, 3), (35, .goto 19, 3), (38, .iload_n 1, 1), (39, .bipush (-4), 2), (41, .if_icmp .ne 13, 3), (44, .aload_n 0, 1), (45, .dup, 1), (46, .getfield 75, 3), (49, .iconst 1, 1), (50, .iadd, 1), (51, .putfield 75, 3), (54, .iload_n 1, 1), (55, .ireturn, 1)]))
def mf_sea : ai_M := ((⟨"FourWaters", "sea", "(I)I"⟩, prog_1_method_2_code, 2, (Option.some Jvm.ClassFile.FieldType.int)), ("FourWaters", 7, { frames := 2, cells := 0, slots := 0, locals := 57 }, [(0, .aload_n 0, 1), (1, .aload_n 0, 1), (2, .getfield 10, 3), (5, .iload_n 1, 1), (6, .invokevirtual 78, 3), (9, .invokevirtual 82, 3), (12, .ireturn, 1)]))
def mm_in : ai_M := ((⟨"FourWatersModel", "in", "(JJJ)Z"⟩, prog_10_method_3_code, 6, (Option.some Jvm.ClassFile.FieldType.boolean)), ("FourWatersModel", 8, { frames := 0, cells := 0, slots := 0, locals := 0 }, [(0, .lload_n 0, 1), (1, .lload_n 2, 1), (2, .lcmp, 1), (3, .ifCond .lt 14, 3), (6, .lload_n 0, 1), (7, .lload 4, 2), (9, .lcmp, 1), (10, .ifCond .gt 7, 3), (13, .iconst 1, 1), (14, .goto 4, 3), (17, .iconst 0, 1), (18, .ireturn, 1)]))
def mm_seaTo : ai_M := ((⟨"FourWatersModel", "seaTo", "(II)I"⟩, prog_10_method_18_code, 4, (Option.some Jvm.ClassFile.FieldType.int)), ("FourWatersModel", 8, { frames := 1, cells := 0, slots := 0, locals := 25 }, [(0, .iload_n 2, 1), (1, .i2l, 1), (2, .lconst 1, 1), (3, .ldc2_w 61, 3), (6, .invokestatic 49, 3), (9, .ifCond .ne 6, 3), (12, .bipush (-2), 2), (14, .ireturn, 1), (15, .aload_n 0, 1), (16, .getfield 7, 3), (19, .iload_n 1, 1), (20, .iconst 0, 1), (21, .iadd, 1), (22, .iaload, 1), (23, .istore_n 3, 1), (24, .aload_n 0, 1), (25, .iload_n 1, 1), (26, .iload_n 2, 1), (27, .invokevirtual 39, 3), (30, .iload_n 3, 1), (31, .ireturn, 1)]))
def mm_met : ai_M := ((⟨"FourWatersModel", "met", "(I)I"⟩, prog_10_method_7_code, 2, (Option.some Jvm.ClassFile.FieldType.int)), ("FourWatersModel", 8, { frames := 0, cells := 0, slots := 0, locals := 0 }, [(0, .iload_n 1, 1), (1, .bipush (-2), 2), (3, .if_icmp .eq 15, 3), (6, .iload_n 1, 1), (7, .bipush (-3), 2), (9, .if_icmp .eq 9, 3), (12, .iload_n 1, 1), (13, .bipush (-4), 2), (15, .if_icmp .ne 16, 3), (18, .aload_n 0, 1), (19, .getfield 20, 3), (22, .bipush (-2), 2), (24, .iload_n 1, 1), (25, .isub, 1), (26, .dup2, 1), (27, .iaload, 1), (28, .iconst 1, 1), (29, .iadd, 1), (30, .iastore, 1), (31, .iload_n 1, 1), (32, .ireturn, 1)]))
def mm_sea : ai_M := ((⟨"FourWatersModel", "sea", "(I)I"⟩, prog_10_method_26_code, 2, (Option.some Jvm.ClassFile.FieldType.int)), ("FourWatersModel", 8, { frames := 2, cells := 0, slots := 0, locals := 48 }, [(0, .aload_n 0, 1), (1, .aload_n 0, 1), (2, .iconst 0, 1), (3, .iload_n 1, 1), (4, .invokevirtual 81, 3), (7, .invokevirtual 43, 3), (10, .ireturn, 1)]))
def mf_isLayer : ai_M := ((⟨"FourWaters", "isLayer", "(I)Z"⟩, prog_1_method_46_code, 1, (Option.some Jvm.ClassFile.FieldType.boolean)), ("FourWaters", 7, { frames := 1, cells := 0, slots := 0, locals := 22 }, [(0, .iload_n 0, 1), (1, .iconst 0, 1), (2, .iconst 3, 1), (3, .invokestatic 100, 3), (6, .ireturn, 1)]))
def msea_putDensity : ai_M := ((⟨"FourWaters$Sea", "putDensity", "(II)I"⟩, prog_4_method_6_code, 6, (Option.some Jvm.ClassFile.FieldType.int)), ("FourWaters$Sea", 2, { frames := 2, cells := 0, slots := 0, locals := 42 }, [(0, .iload_n 1, 1), (1, .invokestatic 110, 3), (4, .ifCond .eq 13, 3), (7, .iload_n 2, 1), (8, .iconst 1, 1), (9, .bipush 99, 2), (11, .invokestatic 76, 3), (14, .ifCond .ne 6, 3), (17, .bipush (-2), 2), (19, .ireturn, 1), (20, .iload_n 1, 1), (21, .ifCond .eq 15, 3), (24, .aload_n 0, 1), (25, .getfield 21, 3), (28, .iload_n 1, 1), (29, .iconst 1, 1), (30, .isub, 1), (31, .iaload, 1), (32, .iload_n 2, 1), (33, .if_icmp .ge 7, 3), (36, .iconst 1, 1), (37, .goto 4, 3), (40, .iconst 0, 1), (41, .istore_n 3, 1), (42, .iload_n 1, 1), (43, .iconst 3, 1), (44, .if_icmp .eq 15, 3), (47, .aload_n 0, 1), (48, .getfield 21, 3), (51, .iload_n 1, 1), (52, .iconst 1, 1), (53, .iadd, 1), (54, .iaload, 1), (55, .iload_n 2, 1), (56, .if_icmp .le 7, 3), (59, .iconst 1, 1), (60, .goto 4, 3), (63, .iconst 0, 1), (64, .istore 4, 2), (66, .iload_n 3, 1), (67, .ifCond .eq 8, 3), (70, .iload 4, 2), (72, .ifCond .ne 6, 3), (75, .bipush (-3), 2), (77, .ireturn, 1), (78, .aload_n 0, 1), (79, .getfield 21, 3), (82, .iload_n 1, 1), (83, .iaload, 1), (84, .istore 5, 2), (86, .aload_n 0, 1), (87, .getfield 21, 3), (90, .iload_n 1, 1), (91, .iload_n 2, 1), (92, .iastore, 1), (93, .iload 5, 2), (95, .ireturn, 1)]))
def mf_water : ai_M := ((⟨"FourWaters", "water", "(II)I"⟩, prog_1_method_3_code, 3, (Option.some Jvm.ClassFile.FieldType.int)), ("FourWaters", 7, { frames := 3, cells := 0, slots := 0, locals := 67 }, [(0, .aload_n 0, 1), (1, .aload_n 0, 1), (2, .getfield 10, 3), (5, .iload_n 1, 1), (6, .iload_n 2, 1), (7, .invokevirtual 85, 3), (10, .invokevirtual 82, 3), (13, .ireturn, 1)]))
def mm_isLayer : ai_M := ((⟨"FourWatersModel", "isLayer", "(I)Z"⟩, prog_10_method_12_code, 1, (Option.some Jvm.ClassFile.FieldType.boolean)), ("FourWatersModel", 8, { frames := 1, cells := 0, slots := 0, locals := 25 }, [(0, .iload_n 0, 1), (1, .i2l, 1), (2, .lconst 0, 1), (3, .ldc2_w 47, 3), (6, .invokestatic 49, 3), (9, .ireturn, 1)]))
def mm_becomes : ai_M := ((⟨"FourWatersModel", "becomes", "(II)I"⟩, prog_10_method_17_code, 4, (Option.some Jvm.ClassFile.FieldType.int)), ("FourWatersModel", 8, { frames := 0, cells := 0, slots := 0, locals := 0 }, [(0, .aload_n 0, 1), (1, .getfield 7, 3), (4, .iload_n 1, 1), (5, .iaload, 1), (6, .istore_n 3, 1), (7, .aload_n 0, 1), (8, .getfield 7, 3), (11, .iload_n 1, 1), (12, .iload_n 2, 1), (13, .iastore, 1), (14, .iload_n 3, 1), (15, .ireturn, 1)]))
def mm_waterTo : ai_M := ((⟨"FourWatersModel", "waterTo", "(III)I"⟩, prog_10_method_19_code, 5, (Option.some Jvm.ClassFile.FieldType.int)), ("FourWatersModel", 8, { frames := 2, cells := 0, slots := 0, locals := 45 }, [(0, .iload_n 2, 1), (1, .invokestatic 57, 3), (4, .ifCond .eq 15, 3), (7, .iload_n 3, 1), (8, .i2l, 1), (9, .lconst 1, 1), (10, .ldc2_w 63, 3), (13, .invokestatic 49, 3), (16, .ifCond .ne 6, 3), (19, .bipush (-2), 2), (21, .ireturn, 1), (22, .iload_n 2, 1), (23, .ifCond .eq 20, 3), (26, .aload_n 0, 1), (27, .getfield 7, 3), (30, .iload_n 1, 1), (31, .bipush 8, 2), (33, .iadd, 1), (34, .iload_n 2, 1), (35, .iadd, 1), (36, .iconst 1, 1), (37, .isub, 1), (38, .iaload, 1), (39, .iload_n 3, 1), (40, .if_icmp .ge 29, 3), (43, .iload_n 2, 1), (44, .iconst 3, 1), (45, .if_icmp .eq 20, 3), (48, .aload_n 0, 1), (49, .getfield 7, 3), (52, .iload_n 1, 1), (53, .bipush 8, 2), (55, .iadd, 1), (56, .iload_n 2, 1), (57, .iadd, 1), (58, .iconst 1, 1), (59, .iadd, 1), (60, .iaload, 1), (61, .iload_n 3, 1), (62, .if_icmp .le 7, 3), (65, .iconst 1, 1), (66, .goto 4, 3), (69, .iconst 0, 1), (70, .istore 4, 2), (72, .iload 4, 2), (74, .ifCond .eq 17, 3), (77, .aload_n 0, 1), (78, .iload_n 1, 1), (79, .bipush 8, 2), (81, .iadd, 1), (82, .iload_n 2, 1), (83, .iadd, 1), (84, .iload_n 3, 1), (85, .invokevirtual 65, 3), (88, .goto 5, 3), (91, .bipush (-3), 2), (93, .ireturn, 1)]))
def mm_water : ai_M := ((⟨"FourWatersModel", "water", "(II)I"⟩, prog_10_method_27_code, 3, (Option.some Jvm.ClassFile.FieldType.int)), ("FourWatersModel", 8, { frames := 3, cells := 0, slots := 0, locals := 69 }, [(0, .aload_n 0, 1), (1, .aload_n 0, 1), (2, .iconst 0, 1), (3, .iload_n 1, 1), (4, .iload_n 2, 1), (5, .invokevirtual 84, 3), (8, .invokevirtual 43, 3), (11, .ireturn, 1)]))
def msea_hasCell : ai_M := ((⟨"FourWaters$Sea", "hasCell", "(I)Z"⟩, prog_4_method_4_code, 2, (Option.some Jvm.ClassFile.FieldType.boolean)), ("FourWaters$Sea", 2, { frames := 1, cells := 0, slots := 0, locals := 22 }, [(0, .iload_n 1, 1), (1, .iconst 0, 1), (2, .aload_n 0, 1), (3, .getfield 9, 3), (6, .iconst 1, 1), (7, .isub, 1), (8, .invokestatic 76, 3), (11, .ireturn, 1)]))
def msea_putThick : ai_M := ((⟨"FourWaters$Sea", "putThick", "(III)I"⟩, prog_4_method_7_code, 6, (Option.some Jvm.ClassFile.FieldType.int)), ("FourWaters$Sea", 2, { frames := 2, cells := 0, slots := 0, locals := 43 }, [(0, .iload_n 1, 1), (1, .invokestatic 110, 3), (4, .ifCond .eq 21, 3), (7, .aload_n 0, 1), (8, .iload_n 2, 1), (9, .invokevirtual 106, 3), (12, .ifCond .eq 13, 3), (15, .iload_n 3, 1), (16, .iconst 0, 1), (17, .bipush 9, 2), (19, .invokestatic 76, 3), (22, .ifCond .ne 6, 3), (25, .bipush (-2), 2), (27, .ireturn, 1), (28, .iload_n 1, 1), (29, .bipush 6, 2), (31, .imul, 1), (32, .iload_n 2, 1), (33, .iadd, 1), (34, .istore 4, 2), (36, .aload_n 0, 1), (37, .getfield 31, 3), (40, .iload 4, 2), (42, .iaload, 1), (43, .istore 5, 2), (45, .aload_n 0, 1), (46, .getfield 31, 3), (49, .iload 4, 2), (51, .iload_n 3, 1), (52, .iastore, 1), (53, .iload 5, 2), (55, .ireturn, 1)]))
def mf_thick : ai_M := ((⟨"FourWaters", "thick", "(III)I"⟩, prog_1_method_4_code, 4, (Option.some Jvm.ClassFile.FieldType.int)), ("FourWaters", 7, { frames := 3, cells := 0, slots := 0, locals := 68 }, [(0, .aload_n 0, 1), (1, .aload_n 0, 1), (2, .getfield 10, 3), (5, .iload_n 1, 1), (6, .iload_n 2, 1), (7, .iload_n 3, 1), (8, .invokevirtual 89, 3), (11, .invokevirtual 82, 3), (14, .ireturn, 1)]))
def mm_isCellOf : ai_M := ((⟨"FourWatersModel", "isCellOf", "(II)Z"⟩, prog_10_method_13_code, 3, (Option.some Jvm.ClassFile.FieldType.boolean)), ("FourWatersModel", 8, { frames := 1, cells := 0, slots := 0, locals := 25 }, [(0, .iload_n 2, 1), (1, .i2l, 1), (2, .lconst 0, 1), (3, .aload_n 0, 1), (4, .getfield 7, 3), (7, .iload_n 1, 1), (8, .iconst 0, 1), (9, .iadd, 1), (10, .iaload, 1), (11, .iconst 1, 1), (12, .isub, 1), (13, .i2l, 1), (14, .invokestatic 49, 3), (17, .ireturn, 1)]))
def mm_thickTo : ai_M := ((⟨"FourWatersModel", "thickTo", "(IIII)I"⟩, prog_10_method_20_code, 5, (Option.some Jvm.ClassFile.FieldType.int)), ("FourWatersModel", 8, { frames := 2, cells := 0, slots := 0, locals := 47 }, [(0, .iload_n 2, 1), (1, .invokestatic 57, 3), (4, .ifCond .eq 45, 3), (7, .aload_n 0, 1), (8, .iload_n 1, 1), (9, .iload_n 3, 1), (10, .invokevirtual 53, 3), (13, .ifCond .eq 36, 3), (16, .iload 4, 2), (18, .i2l, 1), (19, .lconst 0, 1), (20, .ldc2_w 69, 3), (23, .invokestatic 49, 3), (26, .ifCond .eq 23, 3), (29, .aload_n 0, 1), (30, .iload_n 1, 1), (31, .bipush 40, 2), (33, .iadd, 1), (34, .bipush 6, 2), (36, .iload_n 2, 1), (37, .imul, 1), (38, .iadd, 1), (39, .iload_n 3, 1), (40, .iadd, 1), (41, .iload 4, 2), (43, .invokevirtual 65, 3), (46, .goto 5, 3), (49, .bipush (-2), 2), (51, .ireturn, 1)]))
def mm_thick : ai_M := ((⟨"FourWatersModel", "thick", "(III)I"⟩, prog_10_method_28_code, 4, (Option.some Jvm.ClassFile.FieldType.int)), ("FourWatersModel", 8, { frames := 3, cells := 0, slots := 0, locals := 71 }, [(0, .aload_n 0, 1), (1, .aload_n 0, 1), (2, .iconst 0, 1), (3, .iload_n 1, 1), (4, .iload_n 2, 1), (5, .iload_n 3, 1), (6, .invokevirtual 88, 3), (9, .invokevirtual 43, 3), (12, .ireturn, 1)]))
def msea_putSkin : ai_M := ((⟨"FourWaters$Sea", "putSkin", "(II)I"⟩, prog_4_method_8_code, 4, (Option.some Jvm.ClassFile.FieldType.int)), ("FourWaters$Sea", 2, { frames := 1, cells := 0, slots := 0, locals := 22 }, [(0, .iload_n 1, 1), (1, .iconst 0, 1), (2, .iconst 2, 1), (3, .invokestatic 76, 3), (6, .ifCond .eq 13, 3), (9, .iload_n 2, 1), (10, .iconst 0, 1), (11, .bipush 99, 2), (13, .invokestatic 76, 3), (16, .ifCond .ne 6, 3), (19, .bipush (-2), 2), (21, .ireturn, 1), (22, .aload_n 0, 1), (23, .getfield 34, 3), (26, .iload_n 1, 1), (27, .iaload, 1), (28, .istore_n 3, 1), (29, .aload_n 0, 1), (30, .getfield 34, 3), (33, .iload_n 1, 1), (34, .iload_n 2, 1), (35, .iastore, 1), (36, .iload_n 3, 1), (37, .ireturn, 1)]))
def mf_skin : ai_M := ((⟨"FourWaters", "skin", "(II)I"⟩, prog_1_method_5_code, 3, (Option.some Jvm.ClassFile.FieldType.int)), ("FourWaters", 7, { frames := 2, cells := 0, slots := 0, locals := 45 }, [(0, .aload_n 0, 1), (1, .aload_n 0, 1), (2, .getfield 10, 3), (5, .iload_n 1, 1), (6, .iload_n 2, 1), (7, .invokevirtual 93, 3), (10, .invokevirtual 82, 3), (13, .ireturn, 1)]))
def mm_skinTo : ai_M := ((⟨"FourWatersModel", "skinTo", "(III)I"⟩, prog_10_method_21_code, 4, (Option.some Jvm.ClassFile.FieldType.int)), ("FourWatersModel", 8, { frames := 1, cells := 0, slots := 0, locals := 25 }, [(0, .iload_n 2, 1), (1, .i2l, 1), (2, .lconst 0, 1), (3, .ldc2_w 71, 3), (6, .invokestatic 49, 3), (9, .ifCond .eq 29, 3), (12, .iload_n 3, 1), (13, .i2l, 1), (14, .lconst 0, 1), (15, .ldc2_w 63, 3), (18, .invokestatic 49, 3), (21, .ifCond .eq 17, 3), (24, .aload_n 0, 1), (25, .iload_n 1, 1), (26, .bipush 64, 2), (28, .iadd, 1), (29, .iload_n 2, 1), (30, .iadd, 1), (31, .iload_n 3, 1), (32, .invokevirtual 65, 3), (35, .goto 5, 3), (38, .bipush (-2), 2), (40, .ireturn, 1)]))
def mm_skin : ai_M := ((⟨"FourWatersModel", "skin", "(II)I"⟩, prog_10_method_29_code, 3, (Option.some Jvm.ClassFile.FieldType.int)), ("FourWatersModel", 8, { frames := 2, cells := 0, slots := 0, locals := 48 }, [(0, .aload_n 0, 1), (1, .aload_n 0, 1), (2, .iconst 0, 1), (3, .iload_n 1, 1), (4, .iload_n 2, 1), (5, .invokevirtual 92, 3), (8, .invokevirtual 43, 3), (11, .ireturn, 1)]))
def mf_bad : ai_M := ((⟨"FourWaters", "bad", "(I)I"⟩, prog_1_method_44_code, 2, (Option.some Jvm.ClassFile.FieldType.int)), ("FourWaters", 7, { frames := 0, cells := 0, slots := 0, locals := 0 }, [(0, .aload_n 0, 1), (1, .dup, 1), (2, .getfield 68, 3), (5, .iconst 1, 1), (6, .iadd, 1), (7, .putfield 68, 3), (10, .iload_n 1, 1), (11, .ireturn, 1)]))
def mf_tide : ai_M := ((⟨"FourWaters", "tide", "(III)I"⟩, prog_1_method_6_code, 6, (Option.some Jvm.ClassFile.FieldType.int)), ("FourWaters", 7, { frames := 2, cells := 0, slots := 0, locals := 42 }, [(0, .iload_n 1, 1), (1, .invokestatic 96, 3), (4, .ifCond .eq 22, 3), (7, .iload_n 2, 1), (8, .iconst 0, 1), (9, .iconst 5, 1), (10, .invokestatic 100, 3), (13, .ifCond .eq 13, 3), (16, .iload_n 3, 1), (17, .bipush (-2), 2), (19, .iconst 2, 1), (20, .invokestatic 100, 3), (23, .ifCond .ne 10, 3), (26, .aload_n 0, 1), (27, .bipush (-10), 2), (29, .invokevirtual 104, 3), (32, .ireturn, 1), (33, .iload_n 1, 1), (34, .bipush 6, 2), (36, .imul, 1), (37, .iload_n 2, 1), (38, .iadd, 1), (39, .istore 4, 2), (41, .aload_n 0, 1), (42, .getfield 10, 3), (45, .getfield 107, 3), (48, .iload 4, 2), (50, .iaload, 1), (51, .istore 5, 2), (53, .aload_n 0, 1), (54, .getfield 10, 3), (57, .getfield 107, 3), (60, .iload 4, 2), (62, .iload_n 3, 1), (63, .iastore, 1), (64, .iload 5, 2), (66, .ireturn, 1)]))
def mm_badAs : ai_M := ((⟨"FourWatersModel", "badAs", "(I)I"⟩, prog_10_method_9_code, 2, (Option.some Jvm.ClassFile.FieldType.int)), ("FourWatersModel", 8, { frames := 0, cells := 0, slots := 0, locals := 0 }, [(0, .aload_n 0, 1), (1, .getfield 20, 3), (4, .iconst 0, 1), (5, .dup2, 1), (6, .iaload, 1), (7, .iconst 1, 1), (8, .iadd, 1), (9, .iastore, 1), (10, .iload_n 1, 1), (11, .ireturn, 1)]))
def mm_tide : ai_M := ((⟨"FourWatersModel", "tide", "(III)I"⟩, prog_10_method_30_code, 4, (Option.some Jvm.ClassFile.FieldType.int)), ("FourWatersModel", 8, { frames := 2, cells := 0, slots := 0, locals := 45 }, [(0, .iload_n 1, 1), (1, .invokestatic 57, 3), (4, .ifCond .eq 46, 3), (7, .iload_n 2, 1), (8, .i2l, 1), (9, .lconst 0, 1), (10, .ldc2_w 73, 3), (13, .invokestatic 49, 3), (16, .ifCond .eq 34, 3), (19, .iload_n 3, 1), (20, .i2l, 1), (21, .ldc2_w 95, 3), (24, .ldc2_w 71, 3), (27, .invokestatic 49, 3), (30, .ifCond .eq 20, 3), (33, .aload_n 0, 1), (34, .bipush 16, 2), (36, .bipush 6, 2), (38, .iload_n 1, 1), (39, .imul, 1), (40, .iadd, 1), (41, .iload_n 2, 1), (42, .iadd, 1), (43, .iload_n 3, 1), (44, .invokevirtual 65, 3), (47, .goto 9, 3), (50, .aload_n 0, 1), (51, .bipush (-10), 2), (53, .invokevirtual 97, 3), (56, .ireturn, 1)]))
def mf_current : ai_M := ((⟨"FourWaters", "current", "(II)I"⟩, prog_1_method_7_code, 4, (Option.some Jvm.ClassFile.FieldType.int)), ("FourWaters", 7, { frames := 2, cells := 0, slots := 0, locals := 42 }, [(0, .iload_n 1, 1), (1, .invokestatic 96, 3), (4, .ifCond .eq 12, 3), (7, .iload_n 2, 1), (8, .iconst (-1), 1), (9, .iconst 1, 1), (10, .invokestatic 100, 3), (13, .ifCond .ne 10, 3), (16, .aload_n 0, 1), (17, .bipush (-10), 2), (19, .invokevirtual 104, 3), (22, .ireturn, 1), (23, .aload_n 0, 1), (24, .getfield 10, 3), (27, .getfield 110, 3), (30, .iload_n 1, 1), (31, .iaload, 1), (32, .istore_n 3, 1), (33, .aload_n 0, 1), (34, .getfield 10, 3), (37, .getfield 110, 3), (40, .iload_n 1, 1), (41, .iload_n 2, 1), (42, .iastore, 1), (43, .iload_n 3, 1), (44, .ireturn, 1)]))
def mm_current : ai_M := ((⟨"FourWatersModel", "current", "(II)I"⟩, prog_10_method_31_code, 3, (Option.some Jvm.ClassFile.FieldType.int)), ("FourWatersModel", 8, { frames := 2, cells := 0, slots := 0, locals := 45 }, [(0, .iload_n 1, 1), (1, .invokestatic 57, 3), (4, .ifCond .eq 27, 3), (7, .iload_n 2, 1), (8, .i2l, 1), (9, .ldc2_w 100, 3), (12, .lconst 1, 1), (13, .invokestatic 49, 3), (16, .ifCond .eq 15, 3), (19, .aload_n 0, 1), (20, .bipush 12, 2), (22, .iload_n 1, 1), (23, .iadd, 1), (24, .iload_n 2, 1), (25, .invokevirtual 65, 3), (28, .goto 9, 3), (31, .aload_n 0, 1), (32, .bipush (-10), 2), (34, .invokevirtual 97, 3), (37, .ireturn, 1)]))
def mthg_add : ai_M := ((⟨"FourWaters$Things", "add", "(III)I"⟩, prog_7_method_3_code, 4, (Option.some Jvm.ClassFile.FieldType.int)), ("FourWaters$Things", 5, { frames := 1, cells := 0, slots := 0, locals := 22 }, [(0, .iload_n 1, 1), (1, .iconst 0, 1), (2, .iconst 5, 1), (3, .invokestatic 28, 3), (6, .ifCond .eq 23, 3), (9, .iload_n 2, 1), (10, .iconst 1, 1), (11, .bipush 99, 2), (13, .invokestatic 28, 3), (16, .ifCond .eq 13, 3), (19, .iload_n 3, 1), (20, .iconst 1, 1), (21, .bipush 9, 2), (23, .invokestatic 28, 3), (26, .ifCond .ne 6, 3), (29, .bipush (-2), 2), (31, .ireturn, 1), (32, .aload_n 0, 1), (33, .getfield 9, 3), (36, .bipush 6, 2), (38, .if_icmp .lt 6, 3), (41, .bipush (-4), 2), (43, .ireturn, 1), (44, .aload_n 0, 1), (45, .getfield 15, 3), (48, .aload_n 0, 1), (49, .getfield 9, 3), (52, .iload_n 1, 1), (53, .iastore, 1), (54, .aload_n 0, 1), (55, .getfield 19, 3), (58, .aload_n 0, 1), (59, .getfield 9, 3), (62, .iload_n 2, 1), (63, .iastore, 1), (64, .aload_n 0, 1), (65, .getfield 22, 3), (68, .aload_n 0, 1), (69, .getfield 9, 3), (72, .iload_n 3, 1), (73, .iastore, 1), (74, .aload_n 0, 1), (75, .getfield 25, 3), (78, .aload_n 0, 1), (79, .getfield 9, 3), (82, .iconst 0, 1), (83, .iastore, 1), (84, .aload_n 0, 1), (85, .dup, 1), (86, .getfield 9, 3), (89, .dup_x1, 1), (90, .iconst 1, 1), (91, .iadd, 1), (92, .putfield 9, 3), (95, .ireturn, 1)]))
def mf_thing : ai_M := ((⟨"FourWaters", "thing", "(III)I"⟩, prog_1_method_8_code, 4, (Option.some Jvm.ClassFile.FieldType.int)), ("FourWaters", 7, { frames := 2, cells := 0, slots := 0, locals := 45 }, [(0, .aload_n 0, 1), (1, .aload_n 0, 1), (2, .getfield 10, 3), (5, .getfield 113, 3), (8, .iload_n 1, 1), (9, .iload_n 2, 1), (10, .iload_n 3, 1), (11, .invokevirtual 117, 3), (14, .invokevirtual 82, 3), (17, .ireturn, 1)]))
def mm_thingTo : ai_M := ((⟨"FourWatersModel", "thingTo", "(IIII)I"⟩, prog_10_method_22_code, 6, (Option.some Jvm.ClassFile.FieldType.int)), ("FourWatersModel", 8, { frames := 1, cells := 0, slots := 0, locals := 25 }, [(0, .iload_n 2, 1), (1, .i2l, 1), (2, .lconst 0, 1), (3, .ldc2_w 73, 3), (6, .invokestatic 49, 3), (9, .ifCond .eq 28, 3), (12, .iload_n 3, 1), (13, .i2l, 1), (14, .lconst 1, 1), (15, .ldc2_w 63, 3), (18, .invokestatic 49, 3), (21, .ifCond .eq 16, 3), (24, .iload 4, 2), (26, .i2l, 1), (27, .lconst 1, 1), (28, .ldc2_w 69, 3), (31, .invokestatic 49, 3), (34, .ifCond .ne 6, 3), (37, .bipush (-2), 2), (39, .ireturn, 1), (40, .aload_n 0, 1), (41, .getfield 7, 3), (44, .iload_n 1, 1), (45, .iconst 2, 1), (46, .iadd, 1), (47, .iaload, 1), (48, .istore 5, 2), (50, .iload 5, 2), (52, .bipush 6, 2), (54, .if_icmp .ne 6, 3), (57, .bipush (-4), 2), (59, .ireturn, 1), (60, .aload_n 0, 1), (61, .getfield 7, 3), (64, .iload_n 1, 1), (65, .bipush 67, 2), (67, .iadd, 1), (68, .iload 5, 2), (70, .iadd, 1), (71, .iload_n 2, 1), (72, .iastore, 1), (73, .aload_n 0, 1), (74, .getfield 7, 3), (77, .iload_n 1, 1), (78, .bipush 73, 2), (80, .iadd, 1), (81, .iload 5, 2), (83, .iadd, 1), (84, .iload_n 3, 1), (85, .iastore, 1), (86, .aload_n 0, 1), (87, .getfield 7, 3), (90, .iload_n 1, 1), (91, .bipush 79, 2), (93, .iadd, 1), (94, .iload 5, 2), (96, .iadd, 1), (97, .iload 4, 2), (99, .iastore, 1), (100, .aload_n 0, 1), (101, .getfield 7, 3), (104, .iload_n 1, 1), (105, .bipush 85, 2), (107, .iadd, 1), (108, .iload 5, 2), (110, .iadd, 1), (111, .iconst 0, 1), (112, .iastore, 1), (113, .aload_n 0, 1), (114, .getfield 7, 3), (117, .iload_n 1, 1), (118, .iconst 2, 1), (119, .iadd, 1), (120, .dup2, 1), (121, .iaload, 1), (122, .iconst 1, 1), (123, .iadd, 1), (124, .iastore, 1), (125, .iload 5, 2), (127, .ireturn, 1)]))
def mm_thing : ai_M := ((⟨"FourWatersModel", "thing", "(III)I"⟩, prog_10_method_32_code, 4, (Option.some Jvm.ClassFile.FieldType.int)), ("FourWatersModel", 8, { frames := 2, cells := 0, slots := 0, locals := 50 }, [(0, .aload_n 0, 1), (1, .aload_n 0, 1), (2, .iconst 0, 1), (3, .iload_n 1, 1), (4, .iload_n 2, 1), (5, .iload_n 3, 1), (6, .invokevirtual 102, 3), (9, .invokevirtual 43, 3), (12, .ireturn, 1)]))
def mthg_has : ai_M := ((⟨"FourWaters$Things", "has", "(I)Z"⟩, prog_7_method_2_code, 2, (Option.some Jvm.ClassFile.FieldType.boolean)), ("FourWaters$Things", 5, { frames := 1, cells := 0, slots := 0, locals := 22 }, [(0, .iload_n 1, 1), (1, .iconst 0, 1), (2, .aload_n 0, 1), (3, .getfield 9, 3), (6, .iconst 1, 1), (7, .isub, 1), (8, .invokestatic 28, 3), (11, .ireturn, 1)]))
def mf_ballast : ai_M := ((⟨"FourWaters", "ballast", "(II)I"⟩, prog_1_method_9_code, 4, (Option.some Jvm.ClassFile.FieldType.int)), ("FourWaters", 7, { frames := 2, cells := 0, slots := 0, locals := 43 }, [(0, .aload_n 0, 1), (1, .getfield 10, 3), (4, .getfield 113, 3), (7, .iload_n 1, 1), (8, .invokevirtual 122, 3), (11, .ifCond .eq 13, 3), (14, .iload_n 2, 1), (15, .iconst 0, 1), (16, .bipush 99, 2), (18, .invokestatic 100, 3), (21, .ifCond .ne 10, 3), (24, .aload_n 0, 1), (25, .bipush (-2), 2), (27, .invokevirtual 104, 3), (30, .ireturn, 1), (31, .aload_n 0, 1), (32, .getfield 10, 3), (35, .getfield 113, 3), (38, .getfield 125, 3), (41, .iload_n 1, 1), (42, .iaload, 1), (43, .istore_n 3, 1), (44, .aload_n 0, 1), (45, .getfield 10, 3), (48, .getfield 113, 3), (51, .getfield 125, 3), (54, .iload_n 1, 1), (55, .iload_n 2, 1), (56, .iastore, 1), (57, .iload_n 3, 1), (58, .ireturn, 1)]))
def mm_isThing : ai_M := ((⟨"FourWatersModel", "isThing", "(I)Z"⟩, prog_10_method_16_code, 2, (Option.some Jvm.ClassFile.FieldType.boolean)), ("FourWatersModel", 8, { frames := 1, cells := 0, slots := 0, locals := 25 }, [(0, .iload_n 1, 1), (1, .i2l, 1), (2, .lconst 0, 1), (3, .aload_n 0, 1), (4, .getfield 7, 3), (7, .iconst 2, 1), (8, .iaload, 1), (9, .iconst 1, 1), (10, .isub, 1), (11, .i2l, 1), (12, .invokestatic 49, 3), (15, .ireturn, 1)]))
def mm_bad : ai_M := ((⟨"FourWatersModel", "bad", "()I"⟩, prog_10_method_8_code, 1, (Option.some Jvm.ClassFile.FieldType.int)), ("FourWatersModel", 8, { frames := 1, cells := 0, slots := 0, locals := 21 }, [(0, .aload_n 0, 1), (1, .bipush (-2), 2), (3, .invokevirtual 43, 3), (6, .ireturn, 1)]))
def mm_ballast : ai_M := ((⟨"FourWatersModel", "ballast", "(II)I"⟩, prog_10_method_33_code, 3, (Option.some Jvm.ClassFile.FieldType.int)), ("FourWatersModel", 8, { frames := 2, cells := 0, slots := 0, locals := 46 }, [(0, .aload_n 0, 1), (1, .iload_n 1, 1), (2, .invokevirtual 105, 3), (5, .ifCond .eq 27, 3), (8, .iload_n 2, 1), (9, .i2l, 1), (10, .lconst 0, 1), (11, .ldc2_w 63, 3), (14, .invokestatic 49, 3), (17, .ifCond .eq 15, 3), (20, .aload_n 0, 1), (21, .bipush 85, 2), (23, .iload_n 1, 1), (24, .iadd, 1), (25, .iload_n 2, 1), (26, .invokevirtual 65, 3), (29, .goto 7, 3), (32, .aload_n 0, 1), (33, .invokevirtual 108, 3), (36, .ireturn, 1)]))
def msea_hasPlace : ai_M := ((⟨"FourWaters$Sea", "hasPlace", "(I)Z"⟩, prog_4_method_5_code, 2, (Option.some Jvm.ClassFile.FieldType.boolean)), ("FourWaters$Sea", 2, { frames := 2, cells := 0, slots := 0, locals := 43 }, [(0, .iload_n 1, 1), (1, .ifCond .lt 28, 3), (4, .aload_n 0, 1), (5, .iload_n 1, 1), (6, .bipush 10, 2), (8, .idiv, 1), (9, .invokevirtual 106, 3), (12, .ifCond .eq 17, 3), (15, .iload_n 1, 1), (16, .bipush 10, 2), (18, .irem, 1), (19, .invokestatic 110, 3), (22, .ifCond .eq 7, 3), (25, .iconst 1, 1), (26, .goto 4, 3), (29, .iconst 0, 1), (30, .ireturn, 1)]))
def mlift_add : ai_M := ((⟨"FourWaters$Lifts", "add", "(III)I"⟩, prog_3_method_2_code, 4, (Option.some Jvm.ClassFile.FieldType.int)), ("FourWaters$Lifts", 1, { frames := 0, cells := 0, slots := 0, locals := 0 }, [(0, .aload_n 0, 1), (1, .getfield 9, 3), (4, .bipush 10, 2), (6, .if_icmp .lt 6, 3), (9, .bipush (-4), 2), (11, .ireturn, 1), (12, .aload_n 0, 1), (13, .getfield 15, 3), (16, .aload_n 0, 1), (17, .getfield 9, 3), (20, .iload_n 1, 1), (21, .iastore, 1), (22, .aload_n 0, 1), (23, .getfield 19, 3), (26, .aload_n 0, 1), (27, .getfield 9, 3), (30, .iload_n 2, 1), (31, .iastore, 1), (32, .aload_n 0, 1), (33, .getfield 22, 3), (36, .aload_n 0, 1), (37, .getfield 9, 3), (40, .iload_n 3, 1), (41, .iastore, 1), (42, .aload_n 0, 1), (43, .dup, 1), (44, .getfield 9, 3), (47, .dup_x1, 1), (48, .iconst 1, 1), (49, .iadd, 1), (50, .putfield 9, 3), (53, .ireturn, 1)]))
def msea_addLift : ai_M := ((⟨"FourWaters$Sea", "addLift", "(III)I"⟩, prog_4_method_9_code, 4, (Option.some Jvm.ClassFile.FieldType.int)), ("FourWaters$Sea", 2, { frames := 3, cells := 0, slots := 0, locals := 64 }, [(0, .aload_n 0, 1), (1, .iload_n 1, 1), (2, .invokevirtual 113, 3), (5, .ifCond .eq 26, 3), (8, .aload_n 0, 1), (9, .iload_n 2, 1), (10, .invokevirtual 113, 3), (13, .ifCond .eq 18, 3), (16, .iload_n 1, 1), (17, .iload_n 2, 1), (18, .if_icmp .eq 13, 3), (21, .iload_n 3, 1), (22, .iconst 1, 1), (23, .bipush 9, 2), (25, .invokestatic 76, 3), (28, .ifCond .ne 6, 3), (31, .bipush (-2), 2), (33, .ireturn, 1), (34, .aload_n 0, 1), (35, .getfield 47, 3), (38, .iload_n 1, 1), (39, .iload_n 2, 1), (40, .iload_n 3, 1), (41, .invokevirtual 116, 3), (44, .ireturn, 1)]))
def mf_lift : ai_M := ((⟨"FourWaters", "lift", "(III)I"⟩, prog_1_method_10_code, 4, (Option.some Jvm.ClassFile.FieldType.int)), ("FourWaters", 7, { frames := 4, cells := 0, slots := 0, locals := 87 }, [(0, .aload_n 0, 1), (1, .aload_n 0, 1), (2, .getfield 10, 3), (5, .iload_n 1, 1), (6, .iload_n 2, 1), (7, .iload_n 3, 1), (8, .invokevirtual 128, 3), (11, .invokevirtual 82, 3), (14, .ireturn, 1)]))
def mm_isPlaceOf : ai_M := ((⟨"FourWatersModel", "isPlaceOf", "(II)Z"⟩, prog_10_method_15_code, 3, (Option.some Jvm.ClassFile.FieldType.boolean)), ("FourWatersModel", 8, { frames := 2, cells := 0, slots := 0, locals := 47 }, [(0, .iload_n 2, 1), (1, .ifCond .lt 29, 3), (4, .aload_n 0, 1), (5, .iload_n 1, 1), (6, .iload_n 2, 1), (7, .bipush 10, 2), (9, .idiv, 1), (10, .invokevirtual 53, 3), (13, .ifCond .eq 17, 3), (16, .iload_n 2, 1), (17, .bipush 10, 2), (19, .irem, 1), (20, .invokestatic 57, 3), (23, .ifCond .eq 7, 3), (26, .iconst 1, 1), (27, .goto 4, 3), (30, .iconst 0, 1), (31, .ireturn, 1)]))
def mm_liftTo : ai_M := ((⟨"FourWatersModel", "liftTo", "(IIII)I"⟩, prog_10_method_23_code, 6, (Option.some Jvm.ClassFile.FieldType.int)), ("FourWatersModel", 8, { frames := 3, cells := 0, slots := 0, locals := 69 }, [(0, .aload_n 0, 1), (1, .iload_n 1, 1), (2, .iload_n 2, 1), (3, .invokevirtual 75, 3), (6, .ifCond .eq 30, 3), (9, .aload_n 0, 1), (10, .iload_n 1, 1), (11, .iload_n 3, 1), (12, .invokevirtual 75, 3), (15, .ifCond .eq 21, 3), (18, .iload_n 2, 1), (19, .iload_n 3, 1), (20, .if_icmp .eq 16, 3), (23, .iload 4, 2), (25, .i2l, 1), (26, .lconst 1, 1), (27, .ldc2_w 69, 3), (30, .invokestatic 49, 3), (33, .ifCond .ne 6, 3), (36, .bipush (-2), 2), (38, .ireturn, 1), (39, .aload_n 0, 1), (40, .getfield 7, 3), (43, .iload_n 1, 1), (44, .iconst 3, 1), (45, .iadd, 1), (46, .iaload, 1), (47, .istore 5, 2), (49, .iload 5, 2), (51, .bipush 10, 2), (53, .if_icmp .ne 6, 3), (56, .bipush (-4), 2), (58, .ireturn, 1), (59, .aload_n 0, 1), (60, .getfield 7, 3), (63, .iload_n 1, 1), (64, .bipush 91, 2), (66, .iadd, 1), (67, .iload 5, 2), (69, .iadd, 1), (70, .iload_n 2, 1), (71, .iastore, 1), (72, .aload_n 0, 1), (73, .getfield 7, 3), (76, .iload_n 1, 1), (77, .bipush 101, 2), (79, .iadd, 1), (80, .iload 5, 2), (82, .iadd, 1), (83, .iload_n 3, 1), (84, .iastore, 1), (85, .aload_n 0, 1), (86, .getfield 7, 3), (89, .iload_n 1, 1), (90, .bipush 111, 2), (92, .iadd, 1), (93, .iload 5, 2), (95, .iadd, 1), (96, .iload 4, 2), (98, .iastore, 1), (99, .aload_n 0, 1), (100, .getfield 7, 3), (103, .iload_n 1, 1), (104, .iconst 3, 1), (105, .iadd, 1), (106, .dup2, 1), (107, .iaload, 1), (108, .iconst 1, 1), (109, .iadd, 1), (110, .iastore, 1), (111, .iload 5, 2), (113, .ireturn, 1)]))
def mm_lift : ai_M := ((⟨"FourWatersModel", "lift", "(III)I"⟩, prog_10_method_34_code, 4, (Option.some Jvm.ClassFile.FieldType.int)), ("FourWatersModel", 8, { frames := 4, cells := 0, slots := 0, locals := 94 }, [(0, .aload_n 0, 1), (1, .aload_n 0, 1), (2, .iconst 0, 1), (3, .iload_n 1, 1), (4, .iload_n 2, 1), (5, .iload_n 3, 1), (6, .invokevirtual 112, 3), (9, .invokevirtual 43, 3), (12, .ireturn, 1)]))
def msea_addTown : ai_M := ((⟨"FourWaters$Sea", "addTown", "(I)I"⟩, prog_4_method_10_code, 3, (Option.some Jvm.ClassFile.FieldType.int)), ("FourWaters$Sea", 2, { frames := 3, cells := 0, slots := 0, locals := 64 }, [(0, .aload_n 0, 1), (1, .iload_n 1, 1), (2, .invokevirtual 113, 3), (5, .ifCond .ne 6, 3), (8, .bipush (-2), 2), (10, .ireturn, 1), (11, .iconst 0, 1), (12, .istore_n 2, 1), (13, .iload_n 2, 1), (14, .aload_n 0, 1), (15, .getfield 51, 3), (18, .if_icmp .ge 22, 3), (21, .aload_n 0, 1), (22, .getfield 54, 3), (25, .iload_n 2, 1), (26, .iaload, 1), (27, .iload_n 1, 1), (28, .if_icmp .ne 6, 3), (31, .bipush (-3), 2), (33, .ireturn, 1), (34, .iinc 2 1, 3), (37, .goto (-24), 3), (40, .aload_n 0, 1), (41, .getfield 51, 3), (44, .bipush 6, 2), (46, .if_icmp .lt 6, 3), (49, .bipush (-4), 2), (51, .ireturn, 1), (52, .aload_n 0, 1), (53, .getfield 54, 3), (56, .aload_n 0, 1), (57, .getfield 51, 3), (60, .iload_n 1, 1), (61, .iastore, 1), (62, .aload_n 0, 1), (63, .dup, 1), (64, .getfield 51, 3), (67, .dup_x1, 1), (68, .iconst 1, 1), (69, .iadd, 1), (70, .putfield 51, 3), (73, .ireturn, 1)]))
def mf_town : ai_M := ((⟨"FourWaters", "town", "(I)I"⟩, prog_1_method_11_code, 2, (Option.some Jvm.ClassFile.FieldType.int)), ("FourWaters", 7, { frames := 4, cells := 0, slots := 0, locals := 86 }, [(0, .aload_n 0, 1), (1, .aload_n 0, 1), (2, .getfield 10, 3), (5, .iload_n 1, 1), (6, .invokevirtual 131, 3), (9, .invokevirtual 82, 3), (12, .ireturn, 1)]))
def mm_townTo : ai_M := ((⟨"FourWatersModel", "townTo", "(II)I"⟩, prog_10_method_24_code, 5, (Option.some Jvm.ClassFile.FieldType.int)), ("FourWatersModel", 8, { frames := 3, cells := 0, slots := 0, locals := 69 }, [(0, .aload_n 0, 1), (1, .iload_n 1, 1), (2, .iload_n 2, 1), (3, .invokevirtual 75, 3), (6, .ifCond .ne 6, 3), (9, .bipush (-2), 2), (11, .ireturn, 1), (12, .aload_n 0, 1), (13, .getfield 7, 3), (16, .iload_n 1, 1), (17, .iconst 4, 1), (18, .iadd, 1), (19, .iaload, 1), (20, .istore_n 3, 1), (21, .iconst 0, 1), (22, .istore 4, 2), (24, .iload 4, 2), (26, .iload_n 3, 1), (27, .if_icmp .ge 28, 3), (30, .aload_n 0, 1), (31, .getfield 7, 3), (34, .iload_n 1, 1), (35, .bipush 121, 2), (37, .iadd, 1), (38, .iload 4, 2), (40, .iadd, 1), (41, .iaload, 1), (42, .iload_n 2, 1), (43, .if_icmp .ne 6, 3), (46, .bipush (-3), 2), (48, .ireturn, 1), (49, .iinc 4 1, 3), (52, .goto (-28), 3), (55, .iload_n 3, 1), (56, .bipush 6, 2), (58, .if_icmp .ne 6, 3), (61, .bipush (-4), 2), (63, .ireturn, 1), (64, .aload_n 0, 1), (65, .getfield 7, 3), (68, .iload_n 1, 1), (69, .bipush 121, 2), (71, .iadd, 1), (72, .iload_n 3, 1), (73, .iadd, 1), (74, .iload_n 2, 1), (75, .iastore, 1), (76, .aload_n 0, 1), (77, .getfield 7, 3), (80, .iload_n 1, 1), (81, .iconst 4, 1), (82, .iadd, 1), (83, .dup2, 1), (84, .iaload, 1), (85, .iconst 1, 1), (86, .iadd, 1), (87, .iastore, 1), (88, .iload_n 3, 1), (89, .ireturn, 1)]))
def mm_town : ai_M := ((⟨"FourWatersModel", "town", "(I)I"⟩, prog_10_method_35_code, 2, (Option.some Jvm.ClassFile.FieldType.int)), ("FourWatersModel", 8, { frames := 4, cells := 0, slots := 0, locals := 93 }, [(0, .aload_n 0, 1), (1, .aload_n 0, 1), (2, .iconst 0, 1), (3, .iload_n 1, 1), (4, .invokevirtual 115, 3), (7, .invokevirtual 43, 3), (10, .ireturn, 1)]))
def msea_putDam : ai_M := ((⟨"FourWaters$Sea", "putDam", "(IZ)I"⟩, prog_4_method_11_code, 3, (Option.some Jvm.ClassFile.FieldType.int)), ("FourWaters$Sea", 2, { frames := 1, cells := 0, slots := 0, locals := 22 }, [(0, .iload_n 1, 1), (1, .iconst 0, 1), (2, .aload_n 0, 1), (3, .getfield 9, 3), (6, .iconst 2, 1), (7, .isub, 1), (8, .invokestatic 76, 3), (11, .ifCond .ne 6, 3), (14, .bipush (-2), 2), (16, .ireturn, 1), (17, .aload_n 0, 1), (18, .getfield 18, 3), (21, .iload_n 1, 1), (22, .ishr, 1), (23, .iconst 1, 1), (24, .iand, 1), (25, .iload_n 2, 1), (26, .ifCond .eq 7, 3), (29, .iconst 1, 1), (30, .goto 4, 3), (33, .iconst 0, 1), (34, .if_icmp .ne 6, 3), (37, .bipush (-3), 2), (39, .ireturn, 1), (40, .aload_n 0, 1), (41, .dup, 1), (42, .getfield 18, 3), (45, .iconst 1, 1), (46, .iload_n 1, 1), (47, .ishl, 1), (48, .ixor, 1), (49, .putfield 18, 3), (52, .iconst 1, 1), (53, .ireturn, 1)]))
def mf_dam : ai_M := ((⟨"FourWaters", "dam", "(IZ)I"⟩, prog_1_method_12_code, 3, (Option.some Jvm.ClassFile.FieldType.int)), ("FourWaters", 7, { frames := 2, cells := 0, slots := 0, locals := 44 }, [(0, .aload_n 0, 1), (1, .aload_n 0, 1), (2, .getfield 10, 3), (5, .iload_n 1, 1), (6, .iload_n 2, 1), (7, .invokevirtual 134, 3), (10, .invokevirtual 82, 3), (13, .ireturn, 1)]))
def mm_has : ai_M := ((⟨"FourWatersModel", "has", "(II)Z"⟩, prog_10_method_4_code, 2, (Option.some Jvm.ClassFile.FieldType.boolean)), ("FourWatersModel", 8, { frames := 0, cells := 0, slots := 0, locals := 0 }, [(0, .iload_n 0, 1), (1, .iload_n 1, 1), (2, .ishr, 1), (3, .iconst 1, 1), (4, .iand, 1), (5, .iconst 1, 1), (6, .if_icmp .ne 7, 3), (9, .iconst 1, 1), (10, .goto 4, 3), (13, .iconst 0, 1), (14, .ireturn, 1)]))
def mm_damTo : ai_M := ((⟨"FourWatersModel", "damTo", "(IIZ)I"⟩, prog_10_method_25_code, 4, (Option.some Jvm.ClassFile.FieldType.int)), ("FourWatersModel", 8, { frames := 1, cells := 0, slots := 0, locals := 25 }, [(0, .iload_n 2, 1), (1, .i2l, 1), (2, .lconst 0, 1), (3, .aload_n 0, 1), (4, .getfield 7, 3), (7, .iload_n 1, 1), (8, .iconst 0, 1), (9, .iadd, 1), (10, .iaload, 1), (11, .iconst 2, 1), (12, .isub, 1), (13, .i2l, 1), (14, .invokestatic 49, 3), (17, .ifCond .ne 6, 3), (20, .bipush (-2), 2), (22, .ireturn, 1), (23, .aload_n 0, 1), (24, .getfield 7, 3), (27, .iload_n 1, 1), (28, .iconst 5, 1), (29, .iadd, 1), (30, .iaload, 1), (31, .iload_n 2, 1), (32, .invokestatic 78, 3), (35, .iload_n 3, 1), (36, .if_icmp .ne 6, 3), (39, .bipush (-3), 2), (41, .ireturn, 1), (42, .aload_n 0, 1), (43, .getfield 7, 3), (46, .iload_n 1, 1), (47, .iconst 5, 1), (48, .iadd, 1), (49, .dup2, 1), (50, .iaload, 1), (51, .iconst 1, 1), (52, .iload_n 2, 1), (53, .ishl, 1), (54, .ixor, 1), (55, .iastore, 1), (56, .iconst 1, 1), (57, .ireturn, 1)]))
def mm_dam : ai_M := ((⟨"FourWatersModel", "dam", "(IZ)I"⟩, prog_10_method_36_code, 3, (Option.some Jvm.ClassFile.FieldType.int)), ("FourWatersModel", 8, { frames := 2, cells := 0, slots := 0, locals := 48 }, [(0, .aload_n 0, 1), (1, .aload_n 0, 1), (2, .iconst 0, 1), (3, .iload_n 1, 1), (4, .iload_n 2, 1), (5, .invokevirtual 118, 3), (8, .invokevirtual 43, 3), (11, .ireturn, 1)]))
def msea_addDrop : ai_M := ((⟨"FourWaters$Sea", "addDrop", "(IZ)I"⟩, prog_4_method_12_code, 3, (Option.some Jvm.ClassFile.FieldType.int)), ("FourWaters$Sea", 2, { frames := 2, cells := 0, slots := 0, locals := 42 }, [(0, .iload_n 1, 1), (1, .invokestatic 110, 3), (4, .ifCond .ne 6, 3), (7, .bipush (-2), 2), (9, .ireturn, 1), (10, .aload_n 0, 1), (11, .getfield 57, 3), (14, .bipush 6, 2), (16, .if_icmp .lt 6, 3), (19, .bipush (-4), 2), (21, .ireturn, 1), (22, .aload_n 0, 1), (23, .getfield 60, 3), (26, .aload_n 0, 1), (27, .getfield 57, 3), (30, .iload_n 1, 1), (31, .iastore, 1), (32, .aload_n 0, 1), (33, .getfield 63, 3), (36, .aload_n 0, 1), (37, .getfield 57, 3), (40, .iload_n 2, 1), (41, .ifCond .eq 7, 3), (44, .iconst 1, 1), (45, .goto 4, 3), (48, .iconst 0, 1), (49, .iastore, 1), (50, .aload_n 0, 1), (51, .dup, 1), (52, .getfield 57, 3), (55, .iconst 1, 1), (56, .iadd, 1), (57, .putfield 57, 3), (60, .aload_n 0, 1), (61, .getfield 57, 3), (64, .ireturn, 1)]))
def mf_drop : ai_M := ((⟨"FourWaters", "drop", "(IZ)I"⟩, prog_1_method_13_code, 3, (Option.some Jvm.ClassFile.FieldType.int)), ("FourWaters", 7, { frames := 3, cells := 0, slots := 0, locals := 64 }, [(0, .aload_n 0, 1), (1, .aload_n 0, 1), (2, .getfield 10, 3), (5, .iload_n 1, 1), (6, .iload_n 2, 1), (7, .invokevirtual 138, 3), (10, .invokevirtual 82, 3), (13, .ireturn, 1)]))
def mm_drop : ai_M := ((⟨"FourWatersModel", "drop", "(IZ)I"⟩, prog_10_method_37_code, 3, (Option.some Jvm.ClassFile.FieldType.int)), ("FourWatersModel", 8, { frames := 2, cells := 0, slots := 0, locals := 45 }, [(0, .iload_n 1, 1), (1, .invokestatic 57, 3), (4, .ifCond .ne 8, 3), (7, .aload_n 0, 1), (8, .invokevirtual 108, 3), (11, .ireturn, 1), (12, .aload_n 0, 1), (13, .getfield 7, 3), (16, .bipush 6, 2), (18, .iaload, 1), (19, .bipush 6, 2), (21, .if_icmp .ne 10, 3), (24, .aload_n 0, 1), (25, .bipush (-4), 2), (27, .invokevirtual 43, 3), (30, .ireturn, 1), (31, .aload_n 0, 1), (32, .getfield 7, 3), (35, .bipush 127, 2), (37, .aload_n 0, 1), (38, .getfield 7, 3), (41, .bipush 6, 2), (43, .iaload, 1), (44, .iadd, 1), (45, .iload_n 1, 1), (46, .iastore, 1), (47, .aload_n 0, 1), (48, .getfield 7, 3), (51, .sipush 133, 3), (54, .aload_n 0, 1), (55, .getfield 7, 3), (58, .bipush 6, 2), (60, .iaload, 1), (61, .iadd, 1), (62, .iload_n 2, 1), (63, .ifCond .eq 7, 3), (66, .iconst 1, 1), (67, .goto 4, 3), (70, .iconst 0, 1), (71, .iastore, 1), (72, .aload_n 0, 1), (73, .getfield 7, 3), (76, .bipush 6, 2), (78, .dup2, 1), (79, .iaload, 1), (80, .iconst 1, 1), (81, .iadd, 1), (82, .iastore, 1), (83, .aload_n 0, 1), (84, .getfield 7, 3), (87, .bipush 6, 2), (89, .iaload, 1), (90, .ireturn, 1)]))
def msea_empty : ai_M := ((⟨"FourWaters$Sea", "empty", "(I)I"⟩, prog_4_method_13_code, 3, (Option.some Jvm.ClassFile.FieldType.int)), ("FourWaters$Sea", 2, { frames := 1, cells := 0, slots := 0, locals := 22 }, [(0, .iload_n 1, 1), (1, .iconst 0, 1), (2, .iconst 3, 1), (3, .invokestatic 76, 3), (6, .ifCond .ne 6, 3), (9, .bipush (-2), 2), (11, .ireturn, 1), (12, .iload_n 1, 1), (13, .ifCond .ne 22, 3), (16, .aload_n 0, 1), (17, .getfield 40, 3), (20, .getfield 95, 3), (23, .istore_n 2, 1), (24, .aload_n 0, 1), (25, .getfield 40, 3), (28, .iconst 0, 1), (29, .putfield 95, 3), (32, .goto 55, 3), (35, .iload_n 1, 1), (36, .iconst 1, 1), (37, .if_icmp .ne 22, 3), (40, .aload_n 0, 1), (41, .getfield 47, 3), (44, .getfield 98, 3), (47, .istore_n 2, 1), (48, .aload_n 0, 1), (49, .getfield 47, 3), (52, .iconst 0, 1), (53, .putfield 98, 3), (56, .goto 31, 3), (59, .iload_n 1, 1), (60, .iconst 2, 1), (61, .if_icmp .ne 16, 3), (64, .aload_n 0, 1), (65, .getfield 51, 3), (68, .istore_n 2, 1), (69, .aload_n 0, 1), (70, .iconst 0, 1), (71, .putfield 51, 3), (74, .goto 13, 3), (77, .aload_n 0, 1), (78, .getfield 57, 3), (81, .istore_n 2, 1), (82, .aload_n 0, 1), (83, .iconst 0, 1), (84, .putfield 57, 3), (87, .iload_n 2, 1), (88, .ireturn, 1)]))
def mf_clean : ai_M := ((⟨"FourWaters", "clean", "(I)I"⟩, prog_1_method_14_code, 2, (Option.some Jvm.ClassFile.FieldType.int)), ("FourWaters", 7, { frames := 2, cells := 0, slots := 0, locals := 44 }, [(0, .aload_n 0, 1), (1, .aload_n 0, 1), (2, .getfield 10, 3), (5, .iload_n 1, 1), (6, .invokevirtual 141, 3), (9, .invokevirtual 82, 3), (12, .ireturn, 1)]))
def mm_clean : ai_M := ((⟨"FourWatersModel", "clean", "(I)I"⟩, prog_10_method_38_code, 2, (Option.some Jvm.ClassFile.FieldType.int)), ("FourWatersModel", 8, { frames := 2, cells := 0, slots := 0, locals := 41 }, [(0, .iload_n 1, 1), (1, .i2l, 1), (2, .lconst 0, 1), (3, .ldc2_w 47, 3), (6, .invokestatic 49, 3), (9, .ifCond .ne 8, 3), (12, .aload_n 0, 1), (13, .invokevirtual 108, 3), (16, .ireturn, 1), (17, .aload_n 0, 1), (18, .iload_n 1, 1), (19, .ifCond .ne 7, 3), (22, .iconst 2, 1), (23, .goto 23, 3), (26, .iload_n 1, 1), (27, .iconst 1, 1), (28, .if_icmp .ne 7, 3), (31, .iconst 3, 1), (32, .goto 14, 3), (35, .iload_n 1, 1), (36, .iconst 2, 1), (37, .if_icmp .ne 7, 3), (40, .iconst 4, 1), (41, .goto 5, 3), (44, .bipush 6, 2), (46, .iconst 0, 1), (47, .invokevirtual 65, 3), (50, .ireturn, 1)]))
def mtxt_add : ai_M := ((⟨"FourWaters$Text", "add", "(I)I"⟩, prog_6_method_2_code, 2, (Option.some Jvm.ClassFile.FieldType.int)), ("FourWaters$Text", 4, { frames := 1, cells := 0, slots := 0, locals := 22 }, [(0, .iload_n 1, 1), (1, .iconst 0, 1), (2, .bipush 127, 2), (4, .invokestatic 31, 3), (7, .ifCond .ne 6, 3), (10, .bipush (-2), 2), (12, .ireturn, 1), (13, .aload_n 0, 1), (14, .getfield 9, 3), (17, .sipush 150, 3), (20, .if_icmp .lt 6, 3), (23, .bipush (-4), 2), (25, .ireturn, 1), (26, .aload_n 0, 1), (27, .getfield 21, 3), (30, .aload_n 0, 1), (31, .getfield 9, 3), (34, .iload_n 1, 1), (35, .iastore, 1), (36, .aload_n 0, 1), (37, .dup, 1), (38, .getfield 9, 3), (41, .iconst 1, 1), (42, .iadd, 1), (43, .putfield 9, 3), (46, .aload_n 0, 1), (47, .getfield 9, 3), (50, .ireturn, 1)]))
def mf_type : ai_M := ((⟨"FourWaters", "type", "(I)I"⟩, prog_1_method_15_code, 2, (Option.some Jvm.ClassFile.FieldType.int)), ("FourWaters", 7, { frames := 2, cells := 0, slots := 0, locals := 43 }, [(0, .aload_n 0, 1), (1, .aload_n 0, 1), (2, .getfield 32, 3), (5, .iload_n 1, 1), (6, .invokevirtual 144, 3), (9, .invokevirtual 82, 3), (12, .ireturn, 1)]))
def mm_type : ai_M := ((⟨"FourWatersModel", "type", "(I)I"⟩, prog_10_method_39_code, 2, (Option.some Jvm.ClassFile.FieldType.int)), ("FourWatersModel", 8, { frames := 2, cells := 0, slots := 0, locals := 41 }, [(0, .iload_n 1, 1), (1, .i2l, 1), (2, .lconst 0, 1), (3, .ldc2_w 122, 3), (6, .invokestatic 49, 3), (9, .ifCond .ne 8, 3), (12, .aload_n 0, 1), (13, .invokevirtual 108, 3), (16, .ireturn, 1), (17, .aload_n 0, 1), (18, .getfield 124, 3), (21, .sipush 150, 3), (24, .if_icmp .ne 10, 3), (27, .aload_n 0, 1), (28, .bipush (-4), 2), (30, .invokevirtual 43, 3), (33, .ireturn, 1), (34, .aload_n 0, 1), (35, .getfield 17, 3), (38, .aload_n 0, 1), (39, .getfield 124, 3), (42, .iload_n 1, 1), (43, .iastore, 1), (44, .aload_n 0, 1), (45, .dup, 1), (46, .getfield 124, 3), (49, .iconst 1, 1), (50, .iadd, 1), (51, .putfield 124, 3), (54, .aload_n 0, 1), (55, .getfield 124, 3), (58, .ireturn, 1)]))
def mf_clear : ai_M := ((⟨"FourWaters", "clear", "()I"⟩, prog_1_method_16_code, 2, (Option.some Jvm.ClassFile.FieldType.int)), ("FourWaters", 7, { frames := 0, cells := 0, slots := 0, locals := 0 }, [(0, .aload_n 0, 1), (1, .getfield 32, 3), (4, .getfield 146, 3), (7, .istore_n 1, 1), (8, .aload_n 0, 1), (9, .getfield 32, 3), (12, .iconst 0, 1), (13, .putfield 146, 3), (16, .iload_n 1, 1), (17, .ireturn, 1)]))
def mm_clear : ai_M := ((⟨"FourWatersModel", "clear", "()I"⟩, prog_10_method_40_code, 2, (Option.some Jvm.ClassFile.FieldType.int)), ("FourWatersModel", 8, { frames := 0, cells := 0, slots := 0, locals := 0 }, [(0, .aload_n 0, 1), (1, .getfield 124, 3), (4, .istore_n 1, 1), (5, .aload_n 0, 1), (6, .iconst 0, 1), (7, .putfield 124, 3), (10, .iload_n 1, 1), (11, .ireturn, 1)]))
def mtxt_skipBlanks : ai_M := ((⟨"FourWaters$Text", "skipBlanks", "()V"⟩, prog_6_method_5_code, 1, (Option.none : Option Jvm.ClassFile.FieldType)), ("FourWaters$Text", 4, { frames := 0, cells := 0, slots := 0, locals := 0 }, [(0, .aload_n 0, 1), (1, .getfield 28, 3), (4, .aload_n 0, 1), (5, .getfield 9, 3), (8, .if_icmp .ge 30, 3), (11, .aload_n 0, 1), (12, .getfield 21, 3), (15, .aload_n 0, 1), (16, .getfield 28, 3), (19, .iaload, 1), (20, .bipush 32, 2), (22, .if_icmp .ne 16, 3), (25, .aload_n 0, 1), (26, .dup, 1), (27, .getfield 28, 3), (30, .iconst 1, 1), (31, .iadd, 1), (32, .putfield 28, 3), (35, .goto (-35), 3), (38, .return_, 1)]))
def mtxt_nameOf : ai_M := ((⟨"FourWaters$Text", "nameOf", "(I)Ljava/lang/String;"⟩, prog_6_method_9_code, 1, (Option.some (Jvm.ClassFile.FieldType.object "java/lang/String"))), ("FourWaters$Text", 4, { frames := 0, cells := 0, slots := 0, locals := 0 }, [(0, .iload_n 0, 1), (1, .tableswitch 64 0 6 #[43, 46, 49, 52, 55, 58, 61], 43), (44, .ldc 73, 2), (46, .areturn, 1), (47, .ldc 75, 2), (49, .areturn, 1), (50, .ldc 77, 2), (52, .areturn, 1), (53, .ldc 79, 2), (55, .areturn, 1), (56, .ldc 81, 2), (58, .areturn, 1), (59, .ldc 83, 2), (61, .areturn, 1), (62, .ldc 85, 2), (64, .areturn, 1), (65, .ldc 87, 2), (67, .areturn, 1)]))
def mtxt_isWord : ai_M := ((⟨"FourWaters$Text", "isWord", "(Ljava/lang/String;II)Z"⟩, prog_6_method_7_code, 5, (Option.some Jvm.ClassFile.FieldType.boolean)), ("FourWaters$Text", 4, { frames := 4, cells := 0, slots := 0, locals := 85 }, [(0, .aload_n 1, 1), (1, .invokevirtual 61, 3), (4, .iload_n 3, 1), (5, .iload_n 2, 1), (6, .isub, 1), (7, .if_icmp .eq 5, 3), (10, .iconst 0, 1), (11, .ireturn, 1), (12, .iconst 0, 1), (13, .istore 4, 2), (15, .iload 4, 2), (17, .aload_n 1, 1), (18, .invokevirtual 61, 3), (21, .if_icmp .ge 29, 3), (24, .aload_n 0, 1), (25, .getfield 21, 3), (28, .iload_n 2, 1), (29, .iload 4, 2), (31, .iadd, 1), (32, .iaload, 1), (33, .aload_n 1, 1), (34, .iload 4, 2), (36, .invokevirtual 65, 3), (39, .if_icmp .eq 5, 3), (42, .iconst 0, 1), (43, .ireturn, 1), (44, .iinc 4 1, 3), (47, .goto (-32), 3), (50, .iconst 1, 1), (51, .ireturn, 1)]))
def mtxt_takeWord : ai_M := ((⟨"FourWaters$Text", "takeWord", "()I"⟩, prog_6_method_6_code, 3, (Option.some Jvm.ClassFile.FieldType.int)), ("FourWaters$Text", 4, { frames := 5, cells := 0, slots := 0, locals := 109 }, [(0, .aload_n 0, 1), (1, .getfield 28, 3), (4, .istore_n 1, 1), (5, .aload_n 0, 1), (6, .getfield 28, 3), (9, .aload_n 0, 1), (10, .getfield 9, 3), (13, .if_icmp .ge 35, 3), (16, .aload_n 0, 1), (17, .getfield 21, 3), (20, .aload_n 0, 1), (21, .getfield 28, 3), (24, .iaload, 1), (25, .bipush 97, 2), (27, .bipush 122, 2), (29, .invokestatic 31, 3), (32, .ifCond .eq 16, 3), (35, .aload_n 0, 1), (36, .dup, 1), (37, .getfield 28, 3), (40, .iconst 1, 1), (41, .iadd, 1), (42, .putfield 28, 3), (45, .goto (-40), 3), (48, .iconst 0, 1), (49, .istore_n 2, 1), (50, .iload_n 2, 1), (51, .bipush 8, 2), (53, .if_icmp .ge 27, 3), (56, .aload_n 0, 1), (57, .iload_n 2, 1), (58, .invokestatic 53, 3), (61, .iload_n 1, 1), (62, .aload_n 0, 1), (63, .getfield 28, 3), (66, .invokevirtual 57, 3), (69, .ifCond .eq 5, 3), (72, .iload_n 2, 1), (73, .ireturn, 1), (74, .iinc 2 1, 3), (77, .goto (-27), 3), (80, .iconst (-1), 1), (81, .ireturn, 1)]))
def mtxt_numbersBehind : ai_M := ((⟨"FourWaters$Text", "numbersBehind", "(I)I"⟩, prog_6_method_10_code, 1, (Option.some Jvm.ClassFile.FieldType.int)), ("FourWaters$Text", 4, { frames := 0, cells := 0, slots := 0, locals := 0 }, [(0, .iload_n 0, 1), (1, .tableswitch 51 0 7 #[47, 49, 51, 49, 51, 51, 47, 47], 47), (48, .iconst 1, 1), (49, .ireturn, 1), (50, .iconst 2, 1), (51, .ireturn, 1), (52, .iconst 3, 1), (53, .ireturn, 1)]))
def mtxt_isFigure : ai_M := ((⟨"FourWaters$Text", "isFigure", "()Z"⟩, prog_6_method_4_code, 1, (Option.some Jvm.ClassFile.FieldType.boolean)), ("FourWaters$Text", 4, { frames := 1, cells := 0, slots := 0, locals := 22 }, [(0, .aload_n 0, 1), (1, .getfield 28, 3), (4, .aload_n 0, 1), (5, .getfield 9, 3), (8, .if_icmp .ge 26, 3), (11, .aload_n 0, 1), (12, .getfield 21, 3), (15, .aload_n 0, 1), (16, .getfield 28, 3), (19, .iaload, 1), (20, .bipush 48, 2), (22, .bipush 57, 2), (24, .invokestatic 31, 3), (27, .ifCond .eq 7, 3), (30, .iconst 1, 1), (31, .goto 4, 3), (34, .iconst 0, 1), (35, .ireturn, 1)]))
def mtxt_takeNumbers : ai_M := ((⟨"FourWaters$Text", "takeNumbers", "(I)I"⟩, prog_6_method_8_code, 3, (Option.some Jvm.ClassFile.FieldType.int)), ("FourWaters$Text", 4, { frames := 2, cells := 0, slots := 0, locals := 42 }, [(0, .aload_n 0, 1), (1, .invokevirtual 35, 3), (4, .iconst 0, 1), (5, .istore_n 2, 1), (6, .iload_n 2, 1), (7, .iload_n 1, 1), (8, .if_icmp .ge 110, 3), (11, .aload_n 0, 1), (12, .invokevirtual 69, 3), (15, .ifCond .ne 8, 3), (18, .aload_n 0, 1), (19, .getfield 28, 3), (22, .ireturn, 1), (23, .aload_n 0, 1), (24, .getfield 25, 3), (27, .iload_n 2, 1), (28, .aload_n 0, 1), (29, .getfield 21, 3), (32, .aload_n 0, 1), (33, .getfield 28, 3), (36, .iaload, 1), (37, .bipush 48, 2), (39, .isub, 1), (40, .iastore, 1), (41, .aload_n 0, 1), (42, .dup, 1), (43, .getfield 28, 3), (46, .iconst 1, 1), (47, .iadd, 1), (48, .putfield 28, 3), (51, .aload_n 0, 1), (52, .invokevirtual 69, 3), (55, .ifCond .eq 41, 3), (58, .aload_n 0, 1), (59, .getfield 25, 3), (62, .iload_n 2, 1), (63, .bipush 10, 2), (65, .aload_n 0, 1), (66, .getfield 25, 3), (69, .iload_n 2, 1), (70, .iaload, 1), (71, .imul, 1), (72, .aload_n 0, 1), (73, .getfield 21, 3), (76, .aload_n 0, 1), (77, .getfield 28, 3), (80, .iaload, 1), (81, .iadd, 1), (82, .bipush 48, 2), (84, .isub, 1), (85, .iastore, 1), (86, .aload_n 0, 1), (87, .dup, 1), (88, .getfield 28, 3), (91, .iconst 1, 1), (92, .iadd, 1), (93, .putfield 28, 3), (96, .aload_n 0, 1), (97, .invokevirtual 69, 3), (100, .ifCond .eq 8, 3), (103, .aload_n 0, 1), (104, .getfield 28, 3), (107, .ireturn, 1), (108, .aload_n 0, 1), (109, .invokevirtual 35, 3), (112, .iinc 2 1, 3), (115, .goto (-109), 3), (118, .iconst (-1), 1), (119, .ireturn, 1)]))
def mtxt_tellItem : ai_M := ((⟨"FourWaters$Text", "tellItem", "(LFourWaters$Sea;I)I"⟩, prog_6_method_11_code, 3, (Option.some Jvm.ClassFile.FieldType.int)), ("FourWaters$Text", 4, { frames := 4, cells := 0, slots := 0, locals := 87 }, [(0, .iload_n 2, 1), (1, .tableswitch 171 0 6 #[43, 54, 71, 94, 111, 137, 160], 43), (44, .aload_n 1, 1), (45, .aload_n 0, 1), (46, .getfield 25, 3), (49, .iconst 0, 1), (50, .iaload, 1), (51, .invokevirtual 89, 3), (54, .ireturn, 1), (55, .aload_n 1, 1), (56, .aload_n 0, 1), (57, .getfield 25, 3), (60, .iconst 0, 1), (61, .iaload, 1), (62, .aload_n 0, 1), (63, .getfield 25, 3), (66, .iconst 1, 1), (67, .iaload, 1), (68, .invokevirtual 94, 3), (71, .ireturn, 1), (72, .aload_n 1, 1), (73, .aload_n 0, 1), (74, .getfield 25, 3), (77, .iconst 0, 1), (78, .iaload, 1), (79, .aload_n 0, 1), (80, .getfield 25, 3), (83, .iconst 1, 1), (84, .iaload, 1), (85, .aload_n 0, 1), (86, .getfield 25, 3), (89, .iconst 2, 1), (90, .iaload, 1), (91, .invokevirtual 98, 3), (94, .ireturn, 1), (95, .aload_n 1, 1), (96, .aload_n 0, 1), (97, .getfield 25, 3), (100, .iconst 0, 1), (101, .iaload, 1), (102, .aload_n 0, 1), (103, .getfield 25, 3), (106, .iconst 1, 1), (107, .iaload, 1), (108, .invokevirtual 102, 3), (111, .ireturn, 1), (112, .aload_n 1, 1), (113, .getfield 105, 3), (116, .aload_n 0, 1), (117, .getfield 25, 3), (120, .iconst 0, 1), (121, .iaload, 1), (122, .aload_n 0, 1), (123, .getfield 25, 3), (126, .iconst 1, 1), (127, .iaload, 1), (128, .aload_n 0, 1), (129, .getfield 25, 3), (132, .iconst 2, 1), (133, .iaload, 1), (134, .invokevirtual 109, 3), (137, .ireturn, 1), (138, .aload_n 1, 1), (139, .aload_n 0, 1), (140, .getfield 25, 3), (143, .iconst 0, 1), (144, .iaload, 1), (145, .aload_n 0, 1), (146, .getfield 25, 3), (149, .iconst 1, 1), (150, .iaload, 1), (151, .aload_n 0, 1), (152, .getfield 25, 3), (155, .iconst 2, 1), (156, .iaload, 1), (157, .invokevirtual 114, 3), (160, .ireturn, 1), (161, .aload_n 1, 1), (162, .aload_n 0, 1), (163, .getfield 25, 3), (166, .iconst 0, 1), (167, .iaload, 1), (168, .invokevirtual 117, 3), (171, .ireturn, 1), (172, .aload_n 1, 1), (173, .aload_n 0, 1), (174, .getfield 25, 3), (177, .iconst 0, 1), (178, .iaload, 1), (179, .iconst 1, 1), (180, .invokevirtual 120, 3), (183, .ireturn, 1)]))
def mtxt_tell : ai_M := ((⟨"FourWaters$Text", "tell", "(LFourWaters$Sea;)I"⟩, prog_6_method_3_code, 6, (Option.some Jvm.ClassFile.FieldType.int)), ("FourWaters$Text", 4, { frames := 6, cells := 0, slots := 0, locals := 131 }, [(0, .aload_n 0, 1), (1, .iconst 0, 1), (2, .putfield 28, 3), (5, .aload_n 0, 1), (6, .iconst 0, 1), (7, .putfield 15, 3), (10, .aload_n 0, 1), (11, .iconst (-1), 1), (12, .putfield 18, 3), (15, .aload_n 0, 1), (16, .invokevirtual 35, 3), (19, .aload_n 0, 1), (20, .getfield 28, 3), (23, .aload_n 0, 1), (24, .getfield 9, 3), (27, .if_icmp .lt 8, 3), (30, .aload_n 0, 1), (31, .getfield 9, 3), (34, .ireturn, 1), (35, .iconst 0, 1), (36, .istore_n 2, 1), (37, .iload_n 2, 1), (38, .sipush 150, 3), (41, .if_icmp .ge 164, 3), (44, .aload_n 0, 1), (45, .getfield 28, 3), (48, .aload_n 0, 1), (49, .getfield 9, 3), (52, .if_icmp .ge 153, 3), (55, .aload_n 0, 1), (56, .getfield 28, 3), (59, .istore_n 3, 1), (60, .aload_n 0, 1), (61, .invokevirtual 38, 3), (64, .istore 4, 2), (66, .iload 4, 2), (68, .iconst (-1), 1), (69, .if_icmp .eq 28, 3), (72, .iload 4, 2), (74, .ifCond .ne 7, 3), (77, .iconst 1, 1), (78, .goto 4, 3), (81, .iconst 0, 1), (82, .aload_n 0, 1), (83, .getfield 15, 3), (86, .ifCond .ne 7, 3), (89, .iconst 1, 1), (90, .goto 4, 3), (93, .iconst 0, 1), (94, .if_icmp .eq 5, 3), (97, .iload_n 3, 1), (98, .ireturn, 1), (99, .aload_n 0, 1), (100, .iload 4, 2), (102, .invokestatic 42, 3), (105, .invokevirtual 46, 3), (108, .istore 5, 2), (110, .iload 5, 2), (112, .iconst (-1), 1), (113, .if_icmp .eq 6, 3), (116, .iload 5, 2), (118, .ireturn, 1), (119, .aload_n 0, 1), (120, .getfield 28, 3), (123, .aload_n 0, 1), (124, .getfield 9, 3), (127, .if_icmp .ge 17, 3), (130, .aload_n 0, 1), (131, .getfield 21, 3), (134, .aload_n 0, 1), (135, .getfield 28, 3), (138, .iaload, 1), (139, .bipush 59, 2), (141, .if_icmp .eq 8, 3), (144, .aload_n 0, 1), (145, .getfield 28, 3), (148, .ireturn, 1), (149, .aload_n 0, 1), (150, .dup, 1), (151, .getfield 28, 3), (154, .iconst 1, 1), (155, .iadd, 1), (156, .putfield 28, 3), (159, .aload_n 0, 1), (160, .getfield 18, 3), (163, .iconst (-1), 1), (164, .if_icmp .ne 21, 3), (167, .aload_n 0, 1), (168, .aload_n 1, 1), (169, .iload 4, 2), (171, .invokevirtual 49, 3), (174, .ifCond .ge 11, 3), (177, .aload_n 0, 1), (178, .aload_n 0, 1), (179, .getfield 15, 3), (182, .putfield 18, 3), (185, .aload_n 0, 1), (186, .dup, 1), (187, .getfield 15, 3), (190, .iconst 1, 1), (191, .iadd, 1), (192, .putfield 15, 3), (195, .aload_n 0, 1), (196, .invokevirtual 35, 3), (199, .iinc 2 1, 3), (202, .goto (-165), 3), (205, .iconst (-1), 1), (206, .ireturn, 1)]))
def mthg_copyFrom : ai_M := ((⟨"FourWaters$Things", "copyFrom", "(LFourWaters$Things;)V"⟩, prog_7_method_4_code, 2, (Option.none : Option Jvm.ClassFile.FieldType)), ("FourWaters$Things", 5, { frames := 1, cells := 0, slots := 0, locals := 35 }, [(0, .aload_n 0, 1), (1, .aload_n 1, 1), (2, .getfield 9, 3), (5, .putfield 9, 3), (8, .aload_n 1, 1), (9, .getfield 15, 3), (12, .iconst 0, 1), (13, .aload_n 0, 1), (14, .getfield 15, 3), (17, .iconst 0, 1), (18, .bipush 6, 2), (20, .invokestatic 32, 3), (23, .aload_n 1, 1), (24, .getfield 19, 3), (27, .iconst 0, 1), (28, .aload_n 0, 1), (29, .getfield 19, 3), (32, .iconst 0, 1), (33, .bipush 6, 2), (35, .invokestatic 32, 3), (38, .aload_n 1, 1), (39, .getfield 22, 3), (42, .iconst 0, 1), (43, .aload_n 0, 1), (44, .getfield 22, 3), (47, .iconst 0, 1), (48, .bipush 6, 2), (50, .invokestatic 32, 3), (53, .aload_n 1, 1), (54, .getfield 25, 3), (57, .iconst 0, 1), (58, .aload_n 0, 1), (59, .getfield 25, 3), (62, .iconst 0, 1), (63, .bipush 6, 2), (65, .invokestatic 32, 3), (68, .return_, 1)]))
def mlift_copyFrom : ai_M := ((⟨"FourWaters$Lifts", "copyFrom", "(LFourWaters$Lifts;)V"⟩, prog_3_method_3_code, 2, (Option.none : Option Jvm.ClassFile.FieldType)), ("FourWaters$Lifts", 1, { frames := 1, cells := 0, slots := 0, locals := 35 }, [(0, .aload_n 0, 1), (1, .aload_n 1, 1), (2, .getfield 9, 3), (5, .putfield 9, 3), (8, .aload_n 1, 1), (9, .getfield 15, 3), (12, .iconst 0, 1), (13, .aload_n 0, 1), (14, .getfield 15, 3), (17, .iconst 0, 1), (18, .bipush 10, 2), (20, .invokestatic 25, 3), (23, .aload_n 1, 1), (24, .getfield 19, 3), (27, .iconst 0, 1), (28, .aload_n 0, 1), (29, .getfield 19, 3), (32, .iconst 0, 1), (33, .bipush 10, 2), (35, .invokestatic 25, 3), (38, .aload_n 1, 1), (39, .getfield 22, 3), (42, .iconst 0, 1), (43, .aload_n 0, 1), (44, .getfield 22, 3), (47, .iconst 0, 1), (48, .bipush 10, 2), (50, .invokestatic 25, 3), (53, .return_, 1)]))
def msea_copyFrom : ai_M := ((⟨"FourWaters$Sea", "copyFrom", "(LFourWaters$Sea;)V"⟩, prog_4_method_3_code, 2, (Option.none : Option Jvm.ClassFile.FieldType)), ("FourWaters$Sea", 2, { frames := 2, cells := 0, slots := 0, locals := 56 }, [(0, .aload_n 0, 1), (1, .aload_n 1, 1), (2, .getfield 9, 3), (5, .putfield 9, 3), (8, .aload_n 0, 1), (9, .aload_n 1, 1), (10, .getfield 15, 3), (13, .putfield 15, 3), (16, .aload_n 0, 1), (17, .aload_n 1, 1), (18, .getfield 18, 3), (21, .putfield 18, 3), (24, .aload_n 1, 1), (25, .getfield 21, 3), (28, .iconst 0, 1), (29, .aload_n 0, 1), (30, .getfield 21, 3), (33, .iconst 0, 1), (34, .iconst 4, 1), (35, .invokestatic 83, 3), (38, .aload_n 1, 1), (39, .getfield 25, 3), (42, .iconst 0, 1), (43, .aload_n 0, 1), (44, .getfield 25, 3), (47, .iconst 0, 1), (48, .iconst 4, 1), (49, .invokestatic 83, 3), (52, .aload_n 1, 1), (53, .getfield 28, 3), (56, .iconst 0, 1), (57, .aload_n 0, 1), (58, .getfield 28, 3), (61, .iconst 0, 1), (62, .bipush 24, 2), (64, .invokestatic 83, 3), (67, .aload_n 1, 1), (68, .getfield 31, 3), (71, .iconst 0, 1), (72, .aload_n 0, 1), (73, .getfield 31, 3), (76, .iconst 0, 1), (77, .bipush 24, 2), (79, .invokestatic 83, 3), (82, .aload_n 1, 1), (83, .getfield 34, 3), (86, .iconst 0, 1), (87, .aload_n 0, 1), (88, .getfield 34, 3), (91, .iconst 0, 1), (92, .iconst 3, 1), (93, .invokestatic 83, 3), (96, .aload_n 0, 1), (97, .getfield 40, 3), (100, .aload_n 1, 1), (101, .getfield 40, 3), (104, .invokevirtual 99, 3), (107, .aload_n 0, 1), (108, .getfield 47, 3), (111, .aload_n 1, 1), (112, .getfield 47, 3), (115, .invokevirtual 103, 3), (118, .aload_n 0, 1), (119, .aload_n 1, 1), (120, .getfield 51, 3), (123, .putfield 51, 3), (126, .aload_n 1, 1), (127, .getfield 54, 3), (130, .iconst 0, 1), (131, .aload_n 0, 1), (132, .getfield 54, 3), (135, .iconst 0, 1), (136, .bipush 6, 2), (138, .invokestatic 83, 3), (141, .aload_n 0, 1), (142, .aload_n 1, 1), (143, .getfield 57, 3), (146, .putfield 57, 3), (149, .aload_n 1, 1), (150, .getfield 60, 3), (153, .iconst 0, 1), (154, .aload_n 0, 1), (155, .getfield 60, 3), (158, .iconst 0, 1), (159, .bipush 6, 2), (161, .invokestatic 83, 3), (164, .aload_n 1, 1), (165, .getfield 63, 3), (168, .iconst 0, 1), (169, .aload_n 0, 1), (170, .getfield 63, 3), (173, .iconst 0, 1), (174, .bipush 6, 2), (176, .invokestatic 83, 3), (179, .aload_n 0, 1), (180, .aload_n 1, 1), (181, .getfield 66, 3), (184, .putfield 66, 3), (187, .aload_n 1, 1), (188, .getfield 69, 3), (191, .iconst 0, 1), (192, .aload_n 0, 1), (193, .getfield 69, 3), (196, .iconst 0, 1), (197, .bipush 10, 2), (199, .invokestatic 83, 3), (202, .return_, 1)]))
def mf_read : ai_M := ((⟨"FourWaters", "read", "()I"⟩, prog_1_method_17_code, 2, (Option.some Jvm.ClassFile.FieldType.int)), ("FourWaters", 7, { frames := 7, cells := 0, slots := 0, locals := 156 }, [(0, .aload_n 0, 1), (1, .getfield 32, 3), (4, .aload_n 0, 1), (5, .getfield 16, 3), (8, .invokevirtual 149, 3), (11, .istore_n 1, 1), (12, .iload_n 1, 1), (13, .iconst (-1), 1), (14, .if_icmp .eq 8, 3), (17, .bipush (-10), 2), (19, .iload_n 1, 1), (20, .isub, 1), (21, .ireturn, 1), (22, .aload_n 0, 1), (23, .getfield 32, 3), (26, .getfield 153, 3), (29, .iconst (-1), 1), (30, .if_icmp .eq 15, 3), (33, .sipush (-1000), 3), (36, .aload_n 0, 1), (37, .getfield 32, 3), (40, .getfield 153, 3), (43, .isub, 1), (44, .ireturn, 1), (45, .aload_n 0, 1), (46, .getfield 10, 3), (49, .aload_n 0, 1), (50, .getfield 16, 3), (53, .invokevirtual 156, 3), (56, .aload_n 0, 1), (57, .getfield 32, 3), (60, .getfield 160, 3), (63, .ireturn, 1)]))
def mm_byteAt : ai_M := ((⟨"FourWatersModel", "byteAt", "(I)I"⟩, prog_10_method_41_code, 2, (Option.some Jvm.ClassFile.FieldType.int)), ("FourWatersModel", 8, { frames := 0, cells := 0, slots := 0, locals := 0 }, [(0, .iload_n 1, 1), (1, .aload_n 0, 1), (2, .getfield 124, 3), (5, .if_icmp .ge 12, 3), (8, .aload_n 0, 1), (9, .getfield 17, 3), (12, .iload_n 1, 1), (13, .iaload, 1), (14, .goto 4, 3), (17, .iconst (-1), 1), (18, .ireturn, 1)]))
def mm_token : ai_M := ((⟨"FourWatersModel", "token", "()V"⟩, prog_10_method_42_code, 1, (Option.none : Option Jvm.ClassFile.FieldType)), ("FourWatersModel", 8, { frames := 1, cells := 0, slots := 0, locals := 25 }, [(0, .aload_n 0, 1), (1, .aload_n 0, 1), (2, .getfield 128, 3), (5, .invokevirtual 131, 3), (8, .bipush 32, 2), (10, .if_icmp .ne 16, 3), (13, .aload_n 0, 1), (14, .dup, 1), (15, .getfield 128, 3), (18, .iconst 1, 1), (19, .iadd, 1), (20, .putfield 128, 3), (23, .goto (-23), 3), (26, .aload_n 0, 1), (27, .aload_n 0, 1), (28, .getfield 128, 3), (31, .putfield 134, 3), (34, .aload_n 0, 1), (35, .aload_n 0, 1), (36, .aload_n 0, 1), (37, .getfield 128, 3), (40, .invokevirtual 131, 3), (43, .i2l, 1), (44, .ldc2_w 137, 3), (47, .ldc2_w 139, 3), (50, .invokestatic 49, 3), (53, .putfield 141, 3), (56, .aload_n 0, 1), (57, .aload_n 0, 1), (58, .aload_n 0, 1), (59, .getfield 128, 3), (62, .invokevirtual 131, 3), (65, .i2l, 1), (66, .ldc2_w 145, 3), (69, .ldc2_w 147, 3), (72, .invokestatic 49, 3), (75, .putfield 149, 3), (78, .aload_n 0, 1), (79, .dup, 1), (80, .getfield 128, 3), (83, .aload_n 0, 1), (84, .getfield 128, 3), (87, .aload_n 0, 1), (88, .getfield 124, 3), (91, .if_icmp .ge 7, 3), (94, .iconst 1, 1), (95, .goto 4, 3), (98, .iconst 0, 1), (99, .iadd, 1), (100, .putfield 128, 3), (103, .aload_n 0, 1), (104, .getfield 141, 3), (107, .ifCond .eq 24, 3), (110, .aload_n 0, 1), (111, .aload_n 0, 1), (112, .getfield 128, 3), (115, .invokevirtual 131, 3), (118, .i2l, 1), (119, .ldc2_w 137, 3), (122, .ldc2_w 139, 3), (125, .invokestatic 49, 3), (128, .ifCond .ne 31, 3), (131, .aload_n 0, 1), (132, .getfield 149, 3), (135, .ifCond .eq 37, 3), (138, .aload_n 0, 1), (139, .aload_n 0, 1), (140, .getfield 128, 3), (143, .invokevirtual 131, 3), (146, .i2l, 1), (147, .ldc2_w 145, 3), (150, .ldc2_w 147, 3), (153, .invokestatic 49, 3), (156, .ifCond .eq 16, 3), (159, .aload_n 0, 1), (160, .dup, 1), (161, .getfield 128, 3), (164, .iconst 1, 1), (165, .iadd, 1), (166, .putfield 128, 3), (169, .goto (-66), 3), (172, .return_, 1)]))
def mm_isNamed : ai_M := ((⟨"FourWatersModel", "isNamed", "(IIIII)Z"⟩, prog_10_method_43_code, 8, (Option.some Jvm.ClassFile.FieldType.boolean)), ("FourWatersModel", 8, { frames := 1, cells := 0, slots := 0, locals := 21 }, [(0, .iload 4, 2), (2, .ifCond .ne 7, 3), (5, .iconst 3, 1), (6, .goto 13, 3), (9, .iload 5, 2), (11, .ifCond .ne 7, 3), (14, .iconst 4, 1), (15, .goto 4, 3), (18, .iconst 5, 1), (19, .istore 6, 2), (21, .aload_n 0, 1), (22, .getfield 141, 3), (25, .ifCond .eq 61, 3), (28, .aload_n 0, 1), (29, .getfield 128, 3), (32, .aload_n 0, 1), (33, .getfield 134, 3), (36, .isub, 1), (37, .iload 6, 2), (39, .if_icmp .ne 47, 3), (42, .aload_n 0, 1), (43, .aload_n 0, 1), (44, .getfield 134, 3), (47, .invokevirtual 131, 3), (50, .iload_n 1, 1), (51, .if_icmp .ne 35, 3), (54, .aload_n 0, 1), (55, .aload_n 0, 1), (56, .getfield 134, 3), (59, .iconst 1, 1), (60, .iadd, 1), (61, .invokevirtual 131, 3), (64, .iload_n 2, 1), (65, .if_icmp .ne 21, 3), (68, .aload_n 0, 1), (69, .aload_n 0, 1), (70, .getfield 134, 3), (73, .iconst 2, 1), (74, .iadd, 1), (75, .invokevirtual 131, 3), (78, .iload_n 3, 1), (79, .if_icmp .ne 7, 3), (82, .iconst 1, 1), (83, .goto 4, 3), (86, .iconst 0, 1), (87, .istore 7, 2), (89, .iload 7, 2), (91, .ifCond .eq 47, 3), (94, .iload 4, 2), (96, .ifCond .eq 18, 3), (99, .aload_n 0, 1), (100, .aload_n 0, 1), (101, .getfield 134, 3), (104, .iconst 3, 1), (105, .iadd, 1), (106, .invokevirtual 131, 3), (109, .iload 4, 2), (111, .if_icmp .ne 27, 3), (114, .iload 5, 2), (116, .ifCond .eq 18, 3), (119, .aload_n 0, 1), (120, .aload_n 0, 1), (121, .getfield 134, 3), (124, .iconst 4, 1), (125, .iadd, 1), (126, .invokevirtual 131, 3), (129, .iload 5, 2), (131, .if_icmp .ne 7, 3), (134, .iconst 1, 1), (135, .goto 4, 3), (138, .iconst 0, 1), (139, .ireturn, 1)]))
def mm_wordNow : ai_M := ((⟨"FourWatersModel", "wordNow", "()I"⟩, prog_10_method_44_code, 1, (Option.some Jvm.ClassFile.FieldType.int)), ("FourWatersModel", 8, { frames := 2, cells := 0, slots := 0, locals := 48 }, [(0, .aload_n 0, 1), (1, .bipush 115, 2), (3, .bipush 101, 2), (5, .bipush 97, 2), (7, .iconst 0, 1), (8, .iconst 0, 1), (9, .invokevirtual 152, 3), (12, .ifCond .eq 5, 3), (15, .iconst 0, 1), (16, .ireturn, 1), (17, .aload_n 0, 1), (18, .bipush 119, 2), (20, .bipush 97, 2), (22, .bipush 116, 2), (24, .bipush 101, 2), (26, .bipush 114, 2), (28, .invokevirtual 152, 3), (31, .ifCond .eq 5, 3), (34, .iconst 1, 1), (35, .ireturn, 1), (36, .aload_n 0, 1), (37, .bipush 116, 2), (39, .bipush 104, 2), (41, .bipush 105, 2), (43, .bipush 99, 2), (45, .bipush 107, 2), (47, .invokevirtual 152, 3), (50, .ifCond .eq 5, 3), (53, .iconst 2, 1), (54, .ireturn, 1), (55, .aload_n 0, 1), (56, .bipush 115, 2), (58, .bipush 107, 2), (60, .bipush 105, 2), (62, .bipush 110, 2), (64, .iconst 0, 1), (65, .invokevirtual 152, 3), (68, .ifCond .eq 5, 3), (71, .iconst 3, 1), (72, .ireturn, 1), (73, .aload_n 0, 1), (74, .bipush 116, 2), (76, .bipush 104, 2), (78, .bipush 105, 2), (80, .bipush 110, 2), (82, .bipush 103, 2), (84, .invokevirtual 152, 3), (87, .ifCond .eq 5, 3), (90, .iconst 4, 1), (91, .ireturn, 1), (92, .aload_n 0, 1), (93, .bipush 108, 2), (95, .bipush 105, 2), (97, .bipush 102, 2), (99, .bipush 116, 2), (101, .iconst 0, 1), (102, .invokevirtual 152, 3), (105, .ifCond .eq 5, 3), (108, .iconst 5, 1), (109, .ireturn, 1), (110, .aload_n 0, 1), (111, .bipush 116, 2), (113, .bipush 111, 2), (115, .bipush 119, 2), (117, .bipush 110, 2), (119, .iconst 0, 1), (120, .invokevirtual 152, 3), (123, .ifCond .eq 8, 3), (126, .bipush 6, 2), (128, .goto 24, 3), (131, .aload_n 0, 1), (132, .bipush 100, 2), (134, .bipush 97, 2), (136, .bipush 109, 2), (138, .iconst 0, 1), (139, .iconst 0, 1), (140, .invokevirtual 152, 3), (143, .ifCond .eq 8, 3), (146, .bipush 7, 2), (148, .goto 4, 3), (151, .iconst (-1), 1), (152, .ireturn, 1)]))
def mm_manyOf : ai_M := ((⟨"FourWatersModel", "manyOf", "(I)I"⟩, prog_10_method_45_code, 1, (Option.some Jvm.ClassFile.FieldType.int)), ("FourWatersModel", 8, { frames := 0, cells := 0, slots := 0, locals := 0 }, [(0, .iload_n 0, 1), (1, .ifCond .eq 8, 3), (4, .iload_n 0, 1), (5, .iconst 5, 1), (6, .if_icmp .le 7, 3), (9, .iconst 1, 1), (10, .goto 18, 3), (13, .iload_n 0, 1), (14, .iconst 1, 1), (15, .if_icmp .eq 8, 3), (18, .iload_n 0, 1), (19, .iconst 3, 1), (20, .if_icmp .ne 7, 3), (23, .iconst 2, 1), (24, .goto 4, 3), (27, .iconst 3, 1), (28, .ireturn, 1)]))
def mm_takesItem : ai_M := ((⟨"FourWatersModel", "takesItem", "(I)Z"⟩, prog_10_method_46_code, 4, (Option.some Jvm.ClassFile.FieldType.boolean)), ("FourWatersModel", 8, { frames := 3, cells := 0, slots := 0, locals := 68 }, [(0, .aload_n 0, 1), (1, .aload_n 0, 1), (2, .invokevirtual 156, 3), (5, .putfield 159, 3), (8, .aload_n 0, 1), (9, .getfield 159, 3), (12, .iconst (-1), 1), (13, .if_icmp .eq 27, 3), (16, .aload_n 0, 1), (17, .getfield 159, 3), (20, .ifCond .ne 7, 3), (23, .iconst 1, 1), (24, .goto 4, 3), (27, .iconst 0, 1), (28, .iload_n 1, 1), (29, .ifCond .ne 7, 3), (32, .iconst 1, 1), (33, .goto 4, 3), (36, .iconst 0, 1), (37, .if_icmp .eq 5, 3), (40, .iconst 0, 1), (41, .ireturn, 1), (42, .iconst 0, 1), (43, .istore_n 2, 1), (44, .iload_n 2, 1), (45, .aload_n 0, 1), (46, .getfield 159, 3), (49, .invokestatic 162, 3), (52, .if_icmp .ge 85, 3), (55, .aload_n 0, 1), (56, .invokevirtual 165, 3), (59, .aload_n 0, 1), (60, .getfield 149, 3), (63, .ifCond .eq 16, 3), (66, .aload_n 0, 1), (67, .getfield 128, 3), (70, .aload_n 0, 1), (71, .getfield 134, 3), (74, .isub, 1), (75, .iconst 2, 1), (76, .if_icmp .le 5, 3), (79, .iconst 0, 1), (80, .ireturn, 1), (81, .aload_n 0, 1), (82, .getfield 27, 3), (85, .iload_n 2, 1), (86, .iconst 0, 1), (87, .iastore, 1), (88, .aload_n 0, 1), (89, .getfield 134, 3), (92, .istore_n 3, 1), (93, .iload_n 3, 1), (94, .aload_n 0, 1), (95, .getfield 128, 3), (98, .if_icmp .ge 33, 3), (101, .aload_n 0, 1), (102, .getfield 27, 3), (105, .iload_n 2, 1), (106, .bipush 10, 2), (108, .aload_n 0, 1), (109, .getfield 27, 3), (112, .iload_n 2, 1), (113, .iaload, 1), (114, .imul, 1), (115, .aload_n 0, 1), (116, .iload_n 3, 1), (117, .invokevirtual 131, 3), (120, .iadd, 1), (121, .bipush 48, 2), (123, .isub, 1), (124, .iastore, 1), (125, .iinc 3 1, 3), (128, .goto (-35), 3), (131, .iinc 2 1, 3), (134, .goto (-90), 3), (137, .aload_n 0, 1), (138, .invokevirtual 165, 3), (141, .aload_n 0, 1), (142, .aload_n 0, 1), (143, .getfield 134, 3), (146, .invokevirtual 131, 3), (149, .bipush 59, 2), (151, .if_icmp .ne 7, 3), (154, .iconst 1, 1), (155, .goto 4, 3), (158, .iconst 0, 1), (159, .ireturn, 1)]))
def mm_done : ai_M := ((⟨"FourWatersModel", "done", "()I"⟩, prog_10_method_47_code, 1, (Option.some Jvm.ClassFile.FieldType.int)), ("FourWatersModel", 8, { frames := 4, cells := 0, slots := 0, locals := 94 }, [(0, .aload_n 0, 1), (1, .getfield 159, 3), (4, .tableswitch 190 0 6 #[44, 58, 78, 104, 124, 150, 176], 44), (48, .aload_n 0, 1), (49, .sipush 447, 3), (52, .aload_n 0, 1), (53, .getfield 27, 3), (56, .iconst 0, 1), (57, .iaload, 1), (58, .invokevirtual 81, 3), (61, .ireturn, 1), (62, .aload_n 0, 1), (63, .sipush 447, 3), (66, .aload_n 0, 1), (67, .getfield 27, 3), (70, .iconst 0, 1), (71, .iaload, 1), (72, .aload_n 0, 1), (73, .getfield 27, 3), (76, .iconst 1, 1), (77, .iaload, 1), (78, .invokevirtual 84, 3), (81, .ireturn, 1), (82, .aload_n 0, 1), (83, .sipush 447, 3), (86, .aload_n 0, 1), (87, .getfield 27, 3), (90, .iconst 0, 1), (91, .iaload, 1), (92, .aload_n 0, 1), (93, .getfield 27, 3), (96, .iconst 1, 1), (97, .iaload, 1), (98, .aload_n 0, 1), (99, .getfield 27, 3), (102, .iconst 2, 1), (103, .iaload, 1), (104, .invokevirtual 88, 3), (107, .ireturn, 1), (108, .aload_n 0, 1), (109, .sipush 447, 3), (112, .aload_n 0, 1), (113, .getfield 27, 3), (116, .iconst 0, 1), (117, .iaload, 1), (118, .aload_n 0, 1), (119, .getfield 27, 3), (122, .iconst 1, 1), (123, .iaload, 1), (124, .invokevirtual 92, 3), (127, .ireturn, 1), (128, .aload_n 0, 1), (129, .sipush 447, 3), (132, .aload_n 0, 1), (133, .getfield 27, 3), (136, .iconst 0, 1), (137, .iaload, 1), (138, .aload_n 0, 1), (139, .getfield 27, 3), (142, .iconst 1, 1), (143, .iaload, 1), (144, .aload_n 0, 1), (145, .getfield 27, 3), (148, .iconst 2, 1), (149, .iaload, 1), (150, .invokevirtual 102, 3), (153, .ireturn, 1), (154, .aload_n 0, 1), (155, .sipush 447, 3), (158, .aload_n 0, 1), (159, .getfield 27, 3), (162, .iconst 0, 1), (163, .iaload, 1), (164, .aload_n 0, 1), (165, .getfield 27, 3), (168, .iconst 1, 1), (169, .iaload, 1), (170, .aload_n 0, 1), (171, .getfield 27, 3), (174, .iconst 2, 1), (175, .iaload, 1), (176, .invokevirtual 112, 3), (179, .ireturn, 1), (180, .aload_n 0, 1), (181, .sipush 447, 3), (184, .aload_n 0, 1), (185, .getfield 27, 3), (188, .iconst 0, 1), (189, .iaload, 1), (190, .invokevirtual 115, 3), (193, .ireturn, 1), (194, .aload_n 0, 1), (195, .sipush 447, 3), (198, .aload_n 0, 1), (199, .getfield 27, 3), (202, .iconst 0, 1), (203, .iaload, 1), (204, .iconst 1, 1), (205, .invokevirtual 118, 3), (208, .ireturn, 1)]))
def mm_copy : ai_M := ((⟨"FourWatersModel", "copy", "(II)V"⟩, prog_10_method_10_code, 4, (Option.none : Option Jvm.ClassFile.FieldType)), ("FourWatersModel", 8, { frames := 0, cells := 0, slots := 0, locals := 0 }, [(0, .iconst 0, 1), (1, .istore_n 3, 1), (2, .iload_n 3, 1), (3, .sipush 149, 3), (6, .if_icmp .ge 25, 3), (9, .aload_n 0, 1), (10, .getfield 7, 3), (13, .iload_n 2, 1), (14, .iload_n 3, 1), (15, .iadd, 1), (16, .aload_n 0, 1), (17, .getfield 7, 3), (20, .iload_n 1, 1), (21, .iload_n 3, 1), (22, .iadd, 1), (23, .iaload, 1), (24, .iastore, 1), (25, .iinc 3 1, 3), (28, .goto (-26), 3), (31, .return_, 1)]))
def mm_read : ai_M := ((⟨"FourWatersModel", "read", "()I"⟩, prog_10_method_48_code, 3, (Option.some Jvm.ClassFile.FieldType.int)), ("FourWatersModel", 8, { frames := 5, cells := 0, slots := 0, locals := 114 }, [(0, .aload_n 0, 1), (1, .iconst 0, 1), (2, .putfield 128, 3), (5, .iconst 0, 1), (6, .istore_n 1, 1), (7, .iconst (-1), 1), (8, .istore_n 2, 1), (9, .aload_n 0, 1), (10, .invokevirtual 165, 3), (13, .aload_n 0, 1), (14, .getfield 134, 3), (17, .aload_n 0, 1), (18, .getfield 124, 3), (21, .if_icmp .lt 7, 3), (24, .iload_n 1, 1), (25, .ifCond .ne 48, 3), (28, .aload_n 0, 1), (29, .iload_n 1, 1), (30, .invokevirtual 168, 3), (33, .ifCond .ne 11, 3), (36, .bipush (-10), 2), (38, .aload_n 0, 1), (39, .getfield 134, 3), (42, .isub, 1), (43, .ireturn, 1), (44, .iload_n 2, 1), (45, .iconst (-1), 1), (46, .if_icmp .ne 15, 3), (49, .aload_n 0, 1), (50, .invokevirtual 171, 3), (53, .iconst (-1), 1), (54, .if_icmp .ge 7, 3), (57, .iload_n 1, 1), (58, .goto 4, 3), (61, .iload_n 2, 1), (62, .istore_n 2, 1), (63, .iinc 1 1, 3), (66, .aload_n 0, 1), (67, .invokevirtual 165, 3), (70, .goto (-57), 3), (73, .iload_n 2, 1), (74, .iconst (-1), 1), (75, .if_icmp .eq 9, 3), (78, .sipush (-1000), 3), (81, .iload_n 2, 1), (82, .isub, 1), (83, .ireturn, 1), (84, .aload_n 0, 1), (85, .sipush 447, 3), (88, .iconst 0, 1), (89, .invokevirtual 174, 3), (92, .iload_n 1, 1), (93, .ireturn, 1)]))
def msea_goOn : ai_M := ((⟨"FourWaters$Sea", "goOn", "(I)I"⟩, prog_4_method_14_code, 2, (Option.some Jvm.ClassFile.FieldType.int)), ("FourWaters$Sea", 2, { frames := 1, cells := 0, slots := 0, locals := 35 }, [(0, .iload_n 1, 1), (1, .iconst 1, 1), (2, .bipush 99, 2), (4, .invokestatic 76, 3), (7, .ifCond .ne 6, 3), (10, .bipush (-2), 2), (12, .ireturn, 1), (13, .aload_n 0, 1), (14, .getfield 15, 3), (17, .iload_n 1, 1), (18, .iadd, 1), (19, .sipush 999, 3), (22, .if_icmp .le 6, 3), (25, .bipush (-3), 2), (27, .ireturn, 1), (28, .aload_n 0, 1), (29, .getfield 66, 3), (32, .bipush 10, 2), (34, .if_icmp .lt 24, 3), (37, .aload_n 0, 1), (38, .getfield 69, 3), (41, .iconst 1, 1), (42, .aload_n 0, 1), (43, .getfield 69, 3), (46, .iconst 0, 1), (47, .bipush 9, 2), (49, .invokestatic 83, 3), (52, .aload_n 0, 1), (53, .bipush 9, 2), (55, .putfield 66, 3), (58, .aload_n 0, 1), (59, .getfield 69, 3), (62, .aload_n 0, 1), (63, .getfield 66, 3), (66, .aload_n 0, 1), (67, .getfield 15, 3), (70, .iastore, 1), (71, .aload_n 0, 1), (72, .dup, 1), (73, .getfield 66, 3), (76, .iconst 1, 1), (77, .iadd, 1), (78, .putfield 66, 3), (81, .aload_n 0, 1), (82, .dup, 1), (83, .getfield 15, 3), (86, .iload_n 1, 1), (87, .iadd, 1), (88, .putfield 15, 3), (91, .aload_n 0, 1), (92, .getfield 15, 3), (95, .ireturn, 1)]))
def mf_hours : ai_M := ((⟨"FourWaters", "hours", "(I)I"⟩, prog_1_method_18_code, 2, (Option.some Jvm.ClassFile.FieldType.int)), ("FourWaters", 7, { frames := 2, cells := 0, slots := 0, locals := 56 }, [(0, .aload_n 0, 1), (1, .aload_n 0, 1), (2, .getfield 10, 3), (5, .iload_n 1, 1), (6, .invokevirtual 163, 3), (9, .invokevirtual 82, 3), (12, .ireturn, 1)]))
def mm_hours : ai_M := ((⟨"FourWatersModel", "hours", "(I)I"⟩, prog_10_method_49_code, 3, (Option.some Jvm.ClassFile.FieldType.int)), ("FourWatersModel", 8, { frames := 2, cells := 0, slots := 0, locals := 41 }, [(0, .iload_n 1, 1), (1, .i2l, 1), (2, .lconst 1, 1), (3, .ldc2_w 63, 3), (6, .invokestatic 49, 3), (9, .ifCond .ne 8, 3), (12, .aload_n 0, 1), (13, .invokevirtual 108, 3), (16, .ireturn, 1), (17, .aload_n 0, 1), (18, .getfield 7, 3), (21, .iconst 1, 1), (22, .iaload, 1), (23, .iload_n 1, 1), (24, .iadd, 1), (25, .sipush 999, 3), (28, .if_icmp .le 10, 3), (31, .aload_n 0, 1), (32, .bipush (-3), 2), (34, .invokevirtual 43, 3), (37, .ireturn, 1), (38, .aload_n 0, 1), (39, .getfield 7, 3), (42, .bipush 7, 2), (44, .iaload, 1), (45, .bipush 10, 2), (47, .if_icmp .ne 50, 3), (50, .iconst 0, 1), (51, .istore_n 2, 1), (52, .iload_n 2, 1), (53, .bipush 9, 2), (55, .if_icmp .ge 31, 3), (58, .aload_n 0, 1), (59, .getfield 7, 3), (62, .sipush 139, 3), (65, .iload_n 2, 1), (66, .iadd, 1), (67, .aload_n 0, 1), (68, .getfield 7, 3), (71, .sipush 139, 3), (74, .iload_n 2, 1), (75, .iadd, 1), (76, .iconst 1, 1), (77, .iadd, 1), (78, .iaload, 1), (79, .iastore, 1), (80, .iinc 2 1, 3), (83, .goto (-31), 3), (86, .aload_n 0, 1), (87, .getfield 7, 3), (90, .bipush 7, 2), (92, .dup2, 1), (93, .iaload, 1), (94, .iconst 1, 1), (95, .isub, 1), (96, .iastore, 1), (97, .aload_n 0, 1), (98, .getfield 7, 3), (101, .sipush 139, 3), (104, .aload_n 0, 1), (105, .getfield 7, 3), (108, .bipush 7, 2), (110, .iaload, 1), (111, .iadd, 1), (112, .aload_n 0, 1), (113, .getfield 7, 3), (116, .iconst 1, 1), (117, .iaload, 1), (118, .iastore, 1), (119, .aload_n 0, 1), (120, .getfield 7, 3), (123, .bipush 7, 2), (125, .dup2, 1), (126, .iaload, 1), (127, .iconst 1, 1), (128, .iadd, 1), (129, .iastore, 1), (130, .aload_n 0, 1), (131, .getfield 7, 3), (134, .iconst 1, 1), (135, .dup2, 1), (136, .iaload, 1), (137, .iload_n 1, 1), (138, .iadd, 1), (139, .iastore, 1), (140, .aload_n 0, 1), (141, .getfield 7, 3), (144, .iconst 1, 1), (145, .iaload, 1), (146, .ireturn, 1)]))
def msea_goBack : ai_M := ((⟨"FourWaters$Sea", "goBack", "()I"⟩, prog_4_method_15_code, 1, (Option.some Jvm.ClassFile.FieldType.int)), ("FourWaters$Sea", 2, { frames := 0, cells := 0, slots := 0, locals := 0 }, [(0, .aload_n 0, 1), (1, .getfield 66, 3), (4, .ifCond .gt 6, 3), (7, .bipush (-3), 2), (9, .ireturn, 1), (10, .aload_n 0, 1), (11, .dup, 1), (12, .getfield 66, 3), (15, .iconst 1, 1), (16, .isub, 1), (17, .putfield 66, 3), (20, .aload_n 0, 1), (21, .aload_n 0, 1), (22, .getfield 69, 3), (25, .aload_n 0, 1), (26, .getfield 66, 3), (29, .iaload, 1), (30, .putfield 15, 3), (33, .iconst 1, 1), (34, .ireturn, 1)]))
def mf_undo : ai_M := ((⟨"FourWaters", "undo", "()I"⟩, prog_1_method_19_code, 1, (Option.some Jvm.ClassFile.FieldType.int)), ("FourWaters", 7, { frames := 1, cells := 0, slots := 0, locals := 21 }, [(0, .aload_n 0, 1), (1, .aload_n 0, 1), (2, .getfield 10, 3), (5, .invokevirtual 166, 3), (8, .invokevirtual 82, 3), (11, .ireturn, 1)]))
def mm_undo : ai_M := ((⟨"FourWatersModel", "undo", "()I"⟩, prog_10_method_50_code, 1, (Option.some Jvm.ClassFile.FieldType.int)), ("FourWatersModel", 8, { frames := 1, cells := 0, slots := 0, locals := 21 }, [(0, .aload_n 0, 1), (1, .getfield 7, 3), (4, .bipush 7, 2), (6, .iaload, 1), (7, .ifCond .ne 10, 3), (10, .aload_n 0, 1), (11, .bipush (-3), 2), (13, .invokevirtual 43, 3), (16, .ireturn, 1), (17, .aload_n 0, 1), (18, .getfield 7, 3), (21, .bipush 7, 2), (23, .dup2, 1), (24, .iaload, 1), (25, .iconst 1, 1), (26, .isub, 1), (27, .iastore, 1), (28, .aload_n 0, 1), (29, .getfield 7, 3), (32, .iconst 1, 1), (33, .aload_n 0, 1), (34, .getfield 7, 3), (37, .sipush 139, 3), (40, .aload_n 0, 1), (41, .getfield 7, 3), (44, .bipush 7, 2), (46, .iaload, 1), (47, .iadd, 1), (48, .iaload, 1), (49, .iastore, 1), (50, .iconst 1, 1), (51, .ireturn, 1)]))
def mfall_weightOf : ai_M := ((⟨"FourWaters$Fall", "weightOf", "(IIII)I"⟩, prog_2_method_3_code, 4, (Option.some Jvm.ClassFile.FieldType.int)), ("FourWaters$Fall", 0, { frames := 1, cells := 0, slots := 0, locals := 21 }, [(0, .iload_n 0, 1), (1, .tableswitch 44 1 3 #[27, 27, 31], 27), (28, .iload_n 1, 1), (29, .iload_n 2, 1), (30, .iadd, 1), (31, .ireturn, 1), (32, .iload_n 1, 1), (33, .iload_n 2, 1), (34, .iadd, 1), (35, .iconst 2, 1), (36, .iload_n 3, 1), (37, .bipush 10, 2), (39, .invokestatic 49, 3), (42, .imul, 1), (43, .iadd, 1), (44, .ireturn, 1), (45, .iload_n 1, 1), (46, .ireturn, 1)]))
def mfall_roomOf : ai_M := ((⟨"FourWaters$Fall", "roomOf", "(III)I"⟩, prog_2_method_4_code, 3, (Option.some Jvm.ClassFile.FieldType.int)), ("FourWaters$Fall", 0, { frames := 1, cells := 0, slots := 0, locals := 21 }, [(0, .iload_n 0, 1), (1, .tableswitch 41 2 4 #[27, 27, 31], 27), (28, .iload_n 1, 1), (29, .iconst 1, 1), (30, .iadd, 1), (31, .ireturn, 1), (32, .iload_n 1, 1), (33, .iload_n 2, 1), (34, .iconst 4, 1), (35, .idiv, 1), (36, .iconst 5, 1), (37, .invokestatic 49, 3), (40, .iadd, 1), (41, .ireturn, 1), (42, .iload_n 1, 1), (43, .ireturn, 1)]))
def mfall_forceOf : ai_M := ((⟨"FourWaters$Fall", "forceOf", "(II)I"⟩, prog_2_method_5_code, 2, (Option.some Jvm.ClassFile.FieldType.int)), ("FourWaters$Fall", 0, { frames := 0, cells := 0, slots := 0, locals := 0 }, [(0, .iload_n 0, 1), (1, .tableswitch 40 2 5 #[31, 35, 40, 38], 31), (32, .iload_n 1, 1), (33, .iconst 2, 1), (34, .idiv, 1), (35, .ireturn, 1), (36, .bipush 100, 2), (38, .ireturn, 1), (39, .iconst 0, 1), (40, .ireturn, 1), (41, .iload_n 1, 1), (42, .ireturn, 1)]))
def mfall_shape : ai_M := ((⟨"FourWaters$Fall", "shape", "(IIIII)V"⟩, prog_2_method_2_code, 6, (Option.none : Option Jvm.ClassFile.FieldType)), ("FourWaters$Fall", 0, { frames := 2, cells := 0, slots := 0, locals := 44 }, [(0, .aload_n 0, 1), (1, .iload_n 1, 1), (2, .iload_n 2, 1), (3, .iload 4, 2), (5, .iload 5, 2), (7, .invokestatic 37, 3), (10, .putfield 9, 3), (13, .aload_n 0, 1), (14, .iload_n 1, 1), (15, .iload_n 3, 1), (16, .iload 5, 2), (18, .invokestatic 41, 3), (21, .putfield 15, 3), (24, .aload_n 0, 1), (25, .iload_n 1, 1), (26, .aload_n 0, 1), (27, .getfield 9, 3), (30, .invokestatic 45, 3), (33, .putfield 18, 3), (36, .return_, 1)]))
def mf_shapeWithBallast : ai_M := ((⟨"FourWaters", "shapeWithBallast", "(III)V"⟩, prog_1_method_52_code, 5, (Option.none : Option Jvm.ClassFile.FieldType)), ("FourWaters", 7, { frames := 3, cells := 0, slots := 0, locals := 69 }, [(0, .aload_n 0, 1), (1, .getfield 10, 3), (4, .getfield 113, 3), (7, .astore 4, 2), (9, .aload_n 0, 1), (10, .getfield 39, 3), (13, .aload 4, 2), (15, .getfield 170, 3), (18, .iload_n 1, 1), (19, .iaload, 1), (20, .aload 4, 2), (22, .getfield 333, 3), (25, .iload_n 1, 1), (26, .iaload, 1), (27, .aload 4, 2), (29, .getfield 336, 3), (32, .iload_n 1, 1), (33, .iaload, 1), (34, .iload_n 2, 1), (35, .iload_n 3, 1), (36, .invokevirtual 265, 3), (39, .return_, 1)]))
def mf_shapeNow : ai_M := ((⟨"FourWaters", "shapeNow", "(I)V"⟩, prog_1_method_51_code, 2, (Option.none : Option Jvm.ClassFile.FieldType)), ("FourWaters", 7, { frames := 4, cells := 0, slots := 0, locals := 93 }, [(0, .aload_n 0, 1), (1, .iload_n 1, 1), (2, .aload_n 0, 1), (3, .getfield 10, 3), (6, .getfield 113, 3), (9, .getfield 125, 3), (12, .iload_n 1, 1), (13, .iaload, 1), (14, .aload_n 0, 1), (15, .getfield 10, 3), (18, .getfield 186, 3), (21, .invokevirtual 330, 3), (24, .return_, 1)]))
def mf_of : ai_M := ((⟨"FourWaters", "of", "(II)I"⟩, prog_1_method_20_code, 3, (Option.some Jvm.ClassFile.FieldType.int)), ("FourWaters", 7, { frames := 5, cells := 0, slots := 0, locals := 114 }, [(0, .aload_n 0, 1), (1, .getfield 10, 3), (4, .getfield 113, 3), (7, .iload_n 1, 1), (8, .invokevirtual 122, 3), (11, .ifCond .eq 12, 3), (14, .iload_n 2, 1), (15, .iconst 0, 1), (16, .iconst 2, 1), (17, .invokestatic 100, 3), (20, .ifCond .ne 10, 3), (23, .aload_n 0, 1), (24, .bipush (-2), 2), (26, .invokevirtual 104, 3), (29, .ireturn, 1), (30, .iload_n 2, 1), (31, .ifCond .ne 16, 3), (34, .aload_n 0, 1), (35, .getfield 10, 3), (38, .getfield 113, 3), (41, .getfield 170, 3), (44, .iload_n 1, 1), (45, .iaload, 1), (46, .ireturn, 1), (47, .aload_n 0, 1), (48, .iload_n 1, 1), (49, .invokevirtual 173, 3), (52, .iload_n 2, 1), (53, .iconst 1, 1), (54, .if_icmp .ne 13, 3), (57, .aload_n 0, 1), (58, .getfield 39, 3), (61, .getfield 177, 3), (64, .goto 10, 3), (67, .aload_n 0, 1), (68, .getfield 39, 3), (71, .getfield 180, 3), (74, .ireturn, 1)]))
def mm_lay : ai_M := ((⟨"FourWatersModel", "lay", "(I)V"⟩, prog_10_method_51_code, 2, (Option.none : Option Jvm.ClassFile.FieldType)), ("FourWatersModel", 8, { frames := 0, cells := 0, slots := 0, locals := 0 }, [(0, .aload_n 0, 1), (1, .aload_n 0, 1), (2, .getfield 7, 3), (5, .bipush 67, 2), (7, .iload_n 1, 1), (8, .iadd, 1), (9, .iaload, 1), (10, .putfield 177, 3), (13, .aload_n 0, 1), (14, .aload_n 0, 1), (15, .getfield 7, 3), (18, .bipush 73, 2), (20, .iload_n 1, 1), (21, .iadd, 1), (22, .iaload, 1), (23, .putfield 180, 3), (26, .aload_n 0, 1), (27, .aload_n 0, 1), (28, .getfield 7, 3), (31, .bipush 79, 2), (33, .iload_n 1, 1), (34, .iadd, 1), (35, .iaload, 1), (36, .putfield 183, 3), (39, .aload_n 0, 1), (40, .aload_n 0, 1), (41, .getfield 7, 3), (44, .bipush 85, 2), (46, .iload_n 1, 1), (47, .iadd, 1), (48, .iaload, 1), (49, .putfield 186, 3), (52, .aload_n 0, 1), (53, .aload_n 0, 1), (54, .getfield 7, 3), (57, .iconst 1, 1), (58, .iaload, 1), (59, .putfield 189, 3), (62, .aload_n 0, 1), (63, .iconst 0, 1), (64, .putfield 192, 3), (67, .return_, 1)]))
def mm_lesser : ai_M := ((⟨"FourWatersModel", "lesser", "(II)I"⟩, prog_10_method_5_code, 2, (Option.some Jvm.ClassFile.FieldType.int)), ("FourWatersModel", 8, { frames := 0, cells := 0, slots := 0, locals := 0 }, [(0, .iload_n 0, 1), (1, .iload_n 1, 1), (2, .if_icmp .ge 7, 3), (5, .iload_n 0, 1), (6, .goto 4, 3), (9, .iload_n 1, 1), (10, .ireturn, 1)]))
def mm_weighs : ai_M := ((⟨"FourWatersModel", "weighs", "()I"⟩, prog_10_method_52_code, 2, (Option.some Jvm.ClassFile.FieldType.int)), ("FourWatersModel", 8, { frames := 1, cells := 0, slots := 0, locals := 21 }, [(0, .aload_n 0, 1), (1, .getfield 180, 3), (4, .aload_n 0, 1), (5, .getfield 177, 3), (8, .iconst 1, 1), (9, .if_icmp .eq 19, 3), (12, .aload_n 0, 1), (13, .getfield 177, 3), (16, .iconst 2, 1), (17, .if_icmp .eq 11, 3), (20, .aload_n 0, 1), (21, .getfield 177, 3), (24, .iconst 3, 1), (25, .if_icmp .ne 10, 3), (28, .aload_n 0, 1), (29, .getfield 186, 3), (32, .goto 4, 3), (35, .iconst 0, 1), (36, .iadd, 1), (37, .istore_n 1, 1), (38, .iload_n 1, 1), (39, .aload_n 0, 1), (40, .getfield 177, 3), (43, .iconst 3, 1), (44, .if_icmp .ne 17, 3), (47, .iconst 2, 1), (48, .aload_n 0, 1), (49, .getfield 189, 3), (52, .bipush 10, 2), (54, .invokestatic 195, 3), (57, .imul, 1), (58, .goto 4, 3), (61, .iconst 0, 1), (62, .iadd, 1), (63, .ireturn, 1)]))
def mm_room : ai_M := ((⟨"FourWatersModel", "room", "()I"⟩, prog_10_method_53_code, 1, (Option.some Jvm.ClassFile.FieldType.int)), ("FourWatersModel", 8, { frames := 1, cells := 0, slots := 0, locals := 21 }, [(0, .aload_n 0, 1), (1, .getfield 183, 3), (4, .aload_n 0, 1), (5, .getfield 177, 3), (8, .iconst 2, 1), (9, .if_icmp .eq 11, 3), (12, .aload_n 0, 1), (13, .getfield 177, 3), (16, .iconst 3, 1), (17, .if_icmp .ne 7, 3), (20, .iconst 1, 1), (21, .goto 25, 3), (24, .aload_n 0, 1), (25, .getfield 177, 3), (28, .iconst 4, 1), (29, .if_icmp .ne 16, 3), (32, .aload_n 0, 1), (33, .getfield 189, 3), (36, .iconst 4, 1), (37, .idiv, 1), (38, .iconst 5, 1), (39, .invokestatic 195, 3), (42, .goto 4, 3), (45, .iconst 0, 1), (46, .iadd, 1), (47, .ireturn, 1)]))
def mm_of : ai_M := ((⟨"FourWatersModel", "of", "(II)I"⟩, prog_10_method_57_code, 3, (Option.some Jvm.ClassFile.FieldType.int)), ("FourWatersModel", 8, { frames := 2, cells := 0, slots := 0, locals := 46 }, [(0, .aload_n 0, 1), (1, .iload_n 1, 1), (2, .invokevirtual 105, 3), (5, .ifCond .eq 15, 3), (8, .iload_n 2, 1), (9, .i2l, 1), (10, .lconst 0, 1), (11, .ldc2_w 71, 3), (14, .invokestatic 49, 3), (17, .ifCond .ne 8, 3), (20, .aload_n 0, 1), (21, .invokevirtual 108, 3), (24, .ireturn, 1), (25, .aload_n 0, 1), (26, .iload_n 1, 1), (27, .invokevirtual 225, 3), (30, .iload_n 2, 1), (31, .ifCond .ne 10, 3), (34, .aload_n 0, 1), (35, .getfield 177, 3), (38, .goto 19, 3), (41, .iload_n 2, 1), (42, .iconst 1, 1), (43, .if_icmp .ne 10, 3), (46, .aload_n 0, 1), (47, .invokevirtual 198, 3), (50, .goto 7, 3), (53, .aload_n 0, 1), (54, .invokevirtual 222, 3), (57, .ireturn, 1)]))
def msea_thickAt : ai_M := ((⟨"FourWaters$Sea", "thickAt", "(III)I"⟩, prog_4_method_16_code, 4, (Option.some Jvm.ClassFile.FieldType.int)), ("FourWaters$Sea", 2, { frames := 1, cells := 0, slots := 0, locals := 21 }, [(0, .iconst 0, 1), (1, .aload_n 0, 1), (2, .getfield 31, 3), (5, .iload_n 1, 1), (6, .bipush 6, 2), (8, .imul, 1), (9, .iload_n 2, 1), (10, .iadd, 1), (11, .iaload, 1), (12, .aload_n 0, 1), (13, .getfield 28, 3), (16, .iload_n 1, 1), (17, .bipush 6, 2), (19, .imul, 1), (20, .iload_n 3, 1), (21, .bipush 6, 2), (23, .irem, 1), (24, .iadd, 1), (25, .iaload, 1), (26, .iadd, 1), (27, .invokestatic 120, 3), (30, .ireturn, 1)]))
def mf_deep : ai_M := ((⟨"FourWaters", "deep", "(II)I"⟩, prog_1_method_21_code, 3, (Option.some Jvm.ClassFile.FieldType.int)), ("FourWaters", 7, { frames := 2, cells := 0, slots := 0, locals := 44 }, [(0, .iload_n 1, 1), (1, .invokestatic 96, 3), (4, .ifCond .eq 14, 3), (7, .aload_n 0, 1), (8, .getfield 10, 3), (11, .iload_n 2, 1), (12, .invokevirtual 183, 3), (15, .ifCond .ne 10, 3), (18, .aload_n 0, 1), (19, .bipush (-2), 2), (21, .invokevirtual 104, 3), (24, .ireturn, 1), (25, .aload_n 0, 1), (26, .getfield 10, 3), (29, .iload_n 1, 1), (30, .iload_n 2, 1), (31, .aload_n 0, 1), (32, .getfield 10, 3), (35, .getfield 186, 3), (38, .invokevirtual 189, 3), (41, .ireturn, 1)]))
def mm_isCell : ai_M := ((⟨"FourWatersModel", "isCell", "(I)Z"⟩, prog_10_method_14_code, 2, (Option.some Jvm.ClassFile.FieldType.boolean)), ("FourWatersModel", 8, { frames := 2, cells := 0, slots := 0, locals := 47 }, [(0, .aload_n 0, 1), (1, .iconst 0, 1), (2, .iload_n 1, 1), (3, .invokevirtual 53, 3), (6, .ireturn, 1)]))
def mm_thickIn : ai_M := ((⟨"FourWatersModel", "thickIn", "(III)I"⟩, prog_10_method_55_code, 5, (Option.some Jvm.ClassFile.FieldType.int)), ("FourWatersModel", 8, { frames := 0, cells := 0, slots := 0, locals := 0 }, [(0, .aload_n 0, 1), (1, .getfield 7, 3), (4, .bipush 40, 2), (6, .bipush 6, 2), (8, .iload_n 1, 1), (9, .imul, 1), (10, .iadd, 1), (11, .iload_n 2, 1), (12, .iadd, 1), (13, .iaload, 1), (14, .aload_n 0, 1), (15, .getfield 7, 3), (18, .bipush 16, 2), (20, .bipush 6, 2), (22, .iload_n 1, 1), (23, .imul, 1), (24, .iadd, 1), (25, .iload_n 3, 1), (26, .bipush 6, 2), (28, .irem, 1), (29, .iadd, 1), (30, .iaload, 1), (31, .iadd, 1), (32, .istore 4, 2), (34, .iload 4, 2), (36, .ifCond .ge 7, 3), (39, .iconst 0, 1), (40, .goto 5, 3), (43, .iload 4, 2), (45, .ireturn, 1)]))
def mm_deep : ai_M := ((⟨"FourWatersModel", "deep", "(II)I"⟩, prog_10_method_58_code, 3, (Option.some Jvm.ClassFile.FieldType.int)), ("FourWatersModel", 8, { frames := 3, cells := 0, slots := 0, locals := 68 }, [(0, .iload_n 1, 1), (1, .invokestatic 57, 3), (4, .ifCond .eq 26, 3), (7, .aload_n 0, 1), (8, .iload_n 2, 1), (9, .invokevirtual 229, 3), (12, .ifCond .eq 18, 3), (15, .aload_n 0, 1), (16, .iload_n 1, 1), (17, .iload_n 2, 1), (18, .aload_n 0, 1), (19, .getfield 7, 3), (22, .iconst 1, 1), (23, .iaload, 1), (24, .invokevirtual 216, 3), (27, .goto 7, 3), (30, .aload_n 0, 1), (31, .invokevirtual 108, 3), (34, .ireturn, 1)]))
def mfall_forget : ai_M := ((⟨"FourWaters$Fall", "forget", "()V"⟩, prog_2_method_7_code, 1, (Option.none : Option Jvm.ClassFile.FieldType)), ("FourWaters$Fall", 0, { frames := 1, cells := 0, slots := 0, locals := 23 }, [(0, .aload_n 0, 1), (1, .iconst 0, 1), (2, .putfield 24, 3), (5, .aload_n 0, 1), (6, .iconst 0, 1), (7, .putfield 27, 3), (10, .aload_n 0, 1), (11, .iconst (-1), 1), (12, .putfield 30, 3), (15, .aload_n 0, 1), (16, .getfield 33, 3), (19, .iconst 0, 1), (20, .invokestatic 69, 3), (23, .return_, 1)]))
def mfall_getsThrough : ai_M := ((⟨"FourWaters$Fall", "getsThrough", "(LFourWaters$Sea;II)Z"⟩, prog_2_method_8_code, 4, (Option.some Jvm.ClassFile.FieldType.boolean)), ("FourWaters$Fall", 0, { frames := 0, cells := 0, slots := 0, locals := 0 }, [(0, .iload_n 3, 1), (1, .iload_n 2, 1), (2, .ishr, 1), (3, .iconst 1, 1), (4, .iand, 1), (5, .iconst 1, 1), (6, .if_icmp .ne 5, 3), (9, .iconst 1, 1), (10, .ireturn, 1), (11, .aload_n 1, 1), (12, .getfield 75, 3), (15, .iload_n 2, 1), (16, .iaload, 1), (17, .aload_n 0, 1), (18, .getfield 18, 3), (21, .if_icmp .lt 5, 3), (24, .iconst 0, 1), (25, .ireturn, 1), (26, .aload_n 0, 1), (27, .dup, 1), (28, .getfield 27, 3), (31, .iconst 1, 1), (32, .iload_n 2, 1), (33, .ishl, 1), (34, .ior, 1), (35, .putfield 27, 3), (38, .iconst 1, 1), (39, .ireturn, 1)]))
def mfall_letGo : ai_M := ((⟨"FourWaters$Fall", "letGo", "(LFourWaters$Sea;III)V"⟩, prog_2_method_6_code, 8, (Option.none : Option Jvm.ClassFile.FieldType)), ("FourWaters$Fall", 0, { frames := 2, cells := 0, slots := 0, locals := 44 }, [(0, .aload_n 0, 1), (1, .invokevirtual 54, 3), (4, .iconst (-1), 1), (5, .istore 5, 2), (7, .iconst 0, 1), (8, .istore 6, 2), (10, .iload 6, 2), (12, .iconst 4, 1), (13, .if_icmp .ge 112, 3), (16, .aload_n 1, 1), (17, .iload 6, 2), (19, .iload_n 2, 1), (20, .iload_n 3, 1), (21, .invokevirtual 57, 3), (24, .istore 7, 2), (26, .iload 7, 2), (28, .ifCond .ne 6, 3), (31, .goto 88, 3), (34, .iload 5, 2), (36, .iconst (-1), 1), (37, .if_icmp .eq 32, 3), (40, .aload_n 0, 1), (41, .aload_n 1, 1), (42, .iload 6, 2), (44, .iconst 1, 1), (45, .isub, 1), (46, .iload 4, 2), (48, .invokevirtual 62, 3), (51, .ifCond .ne 18, 3), (54, .aload_n 0, 1), (55, .iload 6, 2), (57, .iconst 1, 1), (58, .isub, 1), (59, .putfield 30, 3), (62, .aload_n 0, 1), (63, .iload 5, 2), (65, .putfield 21, 3), (68, .return_, 1), (69, .aload_n 0, 1), (70, .getfield 9, 3), (73, .aload_n 0, 1), (74, .getfield 15, 3), (77, .aload_n 1, 1), (78, .getfield 66, 3), (81, .iload 6, 2), (83, .iaload, 1), (84, .imul, 1), (85, .if_icmp .gt 10, 3), (88, .aload_n 0, 1), (89, .iload 6, 2), (91, .putfield 21, 3), (94, .return_, 1), (95, .aload_n 0, 1), (96, .getfield 33, 3), (99, .iload 6, 2), (101, .iload 7, 2), (103, .iastore, 1), (104, .aload_n 0, 1), (105, .dup, 1), (106, .getfield 24, 3), (109, .iload 7, 2), (111, .iadd, 1), (112, .putfield 24, 3), (115, .iload 6, 2), (117, .istore 5, 2), (119, .iinc 6 1, 3), (122, .goto (-112), 3), (125, .aload_n 0, 1), (126, .iconst 4, 1), (127, .putfield 21, 3), (130, .return_, 1)]))
def mf_letGoNow : ai_M := ((⟨"FourWaters", "letGoNow", "(III)V"⟩, prog_1_method_53_code, 4, (Option.none : Option Jvm.ClassFile.FieldType)), ("FourWaters", 7, { frames := 5, cells := 0, slots := 0, locals := 114 }, [(0, .aload_n 0, 1), (1, .iload_n 1, 1), (2, .invokevirtual 173, 3), (5, .aload_n 0, 1), (6, .getfield 39, 3), (9, .aload_n 0, 1), (10, .getfield 10, 3), (13, .iload_n 2, 1), (14, .aload_n 0, 1), (15, .getfield 10, 3), (18, .getfield 186, 3), (21, .iload_n 3, 1), (22, .invokevirtual 269, 3), (25, .return_, 1)]))
def mf_rests : ai_M := ((⟨"FourWaters", "rests", "(III)I"⟩, prog_1_method_22_code, 4, (Option.some Jvm.ClassFile.FieldType.int)), ("FourWaters", 7, { frames := 6, cells := 0, slots := 0, locals := 137 }, [(0, .aload_n 0, 1), (1, .getfield 10, 3), (4, .getfield 113, 3), (7, .iload_n 1, 1), (8, .invokevirtual 122, 3), (11, .ifCond .eq 23, 3), (14, .aload_n 0, 1), (15, .getfield 10, 3), (18, .iload_n 2, 1), (19, .invokevirtual 183, 3), (22, .ifCond .eq 12, 3), (25, .iload_n 3, 1), (26, .iconst 0, 1), (27, .iconst 2, 1), (28, .invokestatic 100, 3), (31, .ifCond .ne 10, 3), (34, .aload_n 0, 1), (35, .bipush (-2), 2), (37, .invokevirtual 104, 3), (40, .ireturn, 1), (41, .aload_n 0, 1), (42, .iload_n 1, 1), (43, .iload_n 2, 1), (44, .iconst 0, 1), (45, .invokevirtual 192, 3), (48, .iload_n 3, 1), (49, .ifCond .ne 11, 3), (52, .aload_n 0, 1), (53, .getfield 39, 3), (56, .getfield 196, 3), (59, .ireturn, 1), (60, .iload_n 3, 1), (61, .iconst 1, 1), (62, .if_icmp .ne 13, 3), (65, .aload_n 0, 1), (66, .getfield 39, 3), (69, .getfield 199, 3), (72, .goto 10, 3), (75, .aload_n 0, 1), (76, .getfield 39, 3), (79, .getfield 202, 3), (82, .ireturn, 1)]))
def mm_breaks : ai_M := ((⟨"FourWatersModel", "breaks", "(I)Z"⟩, prog_10_method_54_code, 3, (Option.some Jvm.ClassFile.FieldType.boolean)), ("FourWatersModel", 8, { frames := 2, cells := 0, slots := 0, locals := 42 }, [(0, .aload_n 0, 1), (1, .getfield 192, 3), (4, .iload_n 1, 1), (5, .invokestatic 78, 3), (8, .ifCond .eq 5, 3), (11, .iconst 1, 1), (12, .ireturn, 1), (13, .aload_n 0, 1), (14, .getfield 7, 3), (17, .bipush 64, 2), (19, .iload_n 1, 1), (20, .iadd, 1), (21, .iaload, 1), (22, .istore_n 2, 1), (23, .aload_n 0, 1), (24, .getfield 177, 3), (27, .iconst 3, 1), (28, .if_icmp .eq 36, 3), (31, .aload_n 0, 1), (32, .getfield 177, 3), (35, .iconst 5, 1), (36, .if_icmp .eq 32, 3), (39, .iload_n 2, 1), (40, .aload_n 0, 1), (41, .getfield 177, 3), (44, .iconst 2, 1), (45, .if_icmp .ne 12, 3), (48, .aload_n 0, 1), (49, .invokevirtual 198, 3), (52, .iconst 2, 1), (53, .idiv, 1), (54, .goto 7, 3), (57, .aload_n 0, 1), (58, .invokevirtual 198, 3), (61, .if_icmp .ge 7, 3), (64, .iconst 1, 1), (65, .goto 4, 3), (68, .iconst 0, 1), (69, .ireturn, 1)]))
def mm_comesDown : ai_M := ((⟨"FourWatersModel", "comesDown", "(I)V"⟩, prog_10_method_56_code, 5, (Option.none : Option Jvm.ClassFile.FieldType)), ("FourWatersModel", 8, { frames := 3, cells := 0, slots := 0, locals := 64 }, [(0, .aload_n 0, 1), (1, .iconst 4, 1), (2, .putfield 201, 3), (5, .aload_n 0, 1), (6, .iconst 0, 1), (7, .putfield 204, 3), (10, .aload_n 0, 1), (11, .iconst 0, 1), (12, .putfield 207, 3), (15, .aload_n 0, 1), (16, .iconst 0, 1), (17, .putfield 210, 3), (20, .aload_n 0, 1), (21, .iconst (-1), 1), (22, .putfield 213, 3), (25, .iconst (-1), 1), (26, .istore_n 2, 1), (27, .iconst 0, 1), (28, .istore_n 3, 1), (29, .iload_n 3, 1), (30, .iconst 4, 1), (31, .if_icmp .ge 167, 3), (34, .aload_n 0, 1), (35, .getfield 201, 3), (38, .iconst 4, 1), (39, .if_icmp .ne 159, 3), (42, .aload_n 0, 1), (43, .getfield 213, 3), (46, .iconst (-1), 1), (47, .if_icmp .ne 151, 3), (50, .aload_n 0, 1), (51, .iload_n 3, 1), (52, .iload_n 1, 1), (53, .aload_n 0, 1), (54, .getfield 189, 3), (57, .invokevirtual 216, 3), (60, .istore 4, 2), (62, .iload 4, 2), (64, .ifCond .le 33, 3), (67, .iload_n 2, 1), (68, .iconst (-1), 1), (69, .if_icmp .eq 28, 3), (72, .aload_n 0, 1), (73, .iload_n 3, 1), (74, .iconst 1, 1), (75, .isub, 1), (76, .invokevirtual 219, 3), (79, .ifCond .ne 18, 3), (82, .aload_n 0, 1), (83, .iload_n 3, 1), (84, .iconst 1, 1), (85, .isub, 1), (86, .putfield 213, 3), (89, .aload_n 0, 1), (90, .iload_n 2, 1), (91, .putfield 201, 3), (94, .goto 98, 3), (97, .iload 4, 2), (99, .ifCond .le 93, 3), (102, .aload_n 0, 1), (103, .dup, 1), (104, .getfield 207, 3), (107, .iload_n 2, 1), (108, .iconst (-1), 1), (109, .if_icmp .eq 16, 3), (112, .aload_n 0, 1), (113, .getfield 192, 3), (116, .iload_n 3, 1), (117, .iconst 1, 1), (118, .isub, 1), (119, .invokestatic 78, 3), (122, .ifCond .eq 7, 3), (125, .iconst 0, 1), (126, .goto 8, 3), (129, .iconst 1, 1), (130, .iload_n 3, 1), (131, .iconst 1, 1), (132, .isub, 1), (133, .ishl, 1), (134, .ior, 1), (135, .putfield 207, 3), (138, .aload_n 0, 1), (139, .invokevirtual 198, 3), (142, .aload_n 0, 1), (143, .invokevirtual 222, 3), (146, .aload_n 0, 1), (147, .getfield 7, 3), (150, .bipush 8, 2), (152, .iload_n 3, 1), (153, .iadd, 1), (154, .iaload, 1), (155, .imul, 1), (156, .if_icmp .gt 11, 3), (159, .aload_n 0, 1), (160, .iload_n 3, 1), (161, .putfield 201, 3), (164, .goto 28, 3), (167, .aload_n 0, 1), (168, .dup, 1), (169, .getfield 210, 3), (172, .iconst 1, 1), (173, .iload_n 3, 1), (174, .ishl, 1), (175, .ior, 1), (176, .putfield 210, 3), (179, .aload_n 0, 1), (180, .dup, 1), (181, .getfield 204, 3), (184, .iload 4, 2), (186, .iadd, 1), (187, .putfield 204, 3), (190, .iload_n 3, 1), (191, .istore_n 2, 1), (192, .iinc 3 1, 3), (195, .goto (-166), 3), (198, .return_, 1)]))
def mm_rests : ai_M := ((⟨"FourWatersModel", "rests", "(III)I"⟩, prog_10_method_59_code, 4, (Option.some Jvm.ClassFile.FieldType.int)), ("FourWatersModel", 8, { frames := 4, cells := 0, slots := 0, locals := 88 }, [(0, .aload_n 0, 1), (1, .iload_n 1, 1), (2, .invokevirtual 105, 3), (5, .ifCond .eq 23, 3), (8, .aload_n 0, 1), (9, .iload_n 2, 1), (10, .invokevirtual 229, 3), (13, .ifCond .eq 15, 3), (16, .iload_n 3, 1), (17, .i2l, 1), (18, .lconst 0, 1), (19, .ldc2_w 71, 3), (22, .invokestatic 49, 3), (25, .ifCond .ne 8, 3), (28, .aload_n 0, 1), (29, .invokevirtual 108, 3), (32, .ireturn, 1), (33, .aload_n 0, 1), (34, .iload_n 1, 1), (35, .invokevirtual 225, 3), (38, .aload_n 0, 1), (39, .iload_n 2, 1), (40, .invokevirtual 232, 3), (43, .iload_n 3, 1), (44, .ifCond .ne 10, 3), (47, .aload_n 0, 1), (48, .getfield 201, 3), (51, .goto 19, 3), (54, .iload_n 3, 1), (55, .iconst 1, 1), (56, .if_icmp .ne 10, 3), (59, .aload_n 0, 1), (60, .getfield 204, 3), (63, .goto 7, 3), (66, .aload_n 0, 1), (67, .getfield 207, 3), (70, .ireturn, 1)]))
def mf_takesBallast : ai_M := ((⟨"FourWaters", "takesBallast", "(I)Z"⟩, prog_1_method_48_code, 2, (Option.some Jvm.ClassFile.FieldType.boolean)), ("FourWaters", 7, { frames := 2, cells := 0, slots := 0, locals := 43 }, [(0, .aload_n 0, 1), (1, .getfield 10, 3), (4, .getfield 113, 3), (7, .iload_n 1, 1), (8, .invokevirtual 122, 3), (11, .ifCond .eq 27, 3), (14, .aload_n 0, 1), (15, .getfield 10, 3), (18, .getfield 113, 3), (21, .getfield 170, 3), (24, .iload_n 1, 1), (25, .iaload, 1), (26, .iconst 1, 1), (27, .iconst 3, 1), (28, .invokestatic 100, 3), (31, .ifCond .eq 7, 3), (34, .iconst 1, 1), (35, .goto 4, 3), (38, .iconst 0, 1), (39, .ireturn, 1)]))
def mf_letGoWithBallast : ai_M := ((⟨"FourWaters", "letGoWithBallast", "(IIII)V"⟩, prog_1_method_54_code, 5, (Option.none : Option Jvm.ClassFile.FieldType)), ("FourWaters", 7, { frames := 4, cells := 0, slots := 0, locals := 93 }, [(0, .aload_n 0, 1), (1, .iload_n 1, 1), (2, .iload_n 3, 1), (3, .iload 4, 2), (5, .invokevirtual 330, 3), (8, .aload_n 0, 1), (9, .getfield 39, 3), (12, .aload_n 0, 1), (13, .getfield 10, 3), (16, .iload_n 2, 1), (17, .iload 4, 2), (19, .iconst 0, 1), (20, .invokevirtual 269, 3), (23, .return_, 1)]))
def mf_leastBallast : ai_M := ((⟨"FourWaters", "leastBallast", "(IIII)I"⟩, prog_1_method_55_code, 6, (Option.some Jvm.ClassFile.FieldType.int)), ("FourWaters", 7, { frames := 5, cells := 0, slots := 0, locals := 117 }, [(0, .iconst 0, 1), (1, .istore 5, 2), (3, .iload 5, 2), (5, .bipush 99, 2), (7, .if_icmp .gt 33, 3), (10, .aload_n 0, 1), (11, .iload_n 1, 1), (12, .iload_n 2, 1), (13, .iload 5, 2), (15, .iload 4, 2), (17, .invokevirtual 212, 3), (20, .aload_n 0, 1), (21, .getfield 39, 3), (24, .getfield 196, 3), (27, .iload_n 3, 1), (28, .if_icmp .ne 6, 3), (31, .iload 5, 2), (33, .ireturn, 1), (34, .iinc 5 1, 3), (37, .goto (-34), 3), (40, .iconst (-1), 1), (41, .ireturn, 1)]))
def mf_sink : ai_M := ((⟨"FourWaters", "sink", "(III)I"⟩, prog_1_method_23_code, 4, (Option.some Jvm.ClassFile.FieldType.int)), ("FourWaters", 7, { frames := 6, cells := 0, slots := 0, locals := 142 }, [(0, .aload_n 0, 1), (1, .iload_n 1, 1), (2, .invokevirtual 205, 3), (5, .ifCond .eq 23, 3), (8, .aload_n 0, 1), (9, .getfield 10, 3), (12, .iload_n 2, 1), (13, .invokevirtual 183, 3), (16, .ifCond .eq 12, 3), (19, .iload_n 3, 1), (20, .iconst 0, 1), (21, .iconst 4, 1), (22, .invokestatic 100, 3), (25, .ifCond .ne 10, 3), (28, .aload_n 0, 1), (29, .bipush (-10), 2), (31, .invokevirtual 104, 3), (34, .ireturn, 1), (35, .aload_n 0, 1), (36, .iload_n 1, 1), (37, .iload_n 2, 1), (38, .iload_n 3, 1), (39, .aload_n 0, 1), (40, .getfield 10, 3), (43, .getfield 186, 3), (46, .invokevirtual 208, 3), (49, .ireturn, 1)]))
def mm_isLoaded : ai_M := ((⟨"FourWatersModel", "isLoaded", "(I)Z"⟩, prog_10_method_60_code, 2, (Option.some Jvm.ClassFile.FieldType.boolean)), ("FourWatersModel", 8, { frames := 2, cells := 0, slots := 0, locals := 46 }, [(0, .aload_n 0, 1), (1, .iload_n 1, 1), (2, .invokevirtual 105, 3), (5, .ifCond .eq 27, 3), (8, .aload_n 0, 1), (9, .getfield 7, 3), (12, .bipush 67, 2), (14, .iload_n 1, 1), (15, .iadd, 1), (16, .iaload, 1), (17, .i2l, 1), (18, .lconst 1, 1), (19, .ldc2_w 47, 3), (22, .invokestatic 49, 3), (25, .ifCond .eq 7, 3), (28, .iconst 1, 1), (29, .goto 4, 3), (32, .iconst 0, 1), (33, .ireturn, 1)]))
def mm_leastFor : ai_M := ((⟨"FourWatersModel", "leastFor", "(II)I"⟩, prog_10_method_61_code, 5, (Option.some Jvm.ClassFile.FieldType.int)), ("FourWatersModel", 8, { frames := 4, cells := 0, slots := 0, locals := 88 }, [(0, .iconst (-1), 1), (1, .istore_n 3, 1), (2, .bipush 99, 2), (4, .istore 4, 2), (6, .iload 4, 2), (8, .ifCond .lt 35, 3), (11, .aload_n 0, 1), (12, .iload 4, 2), (14, .putfield 186, 3), (17, .aload_n 0, 1), (18, .iload_n 1, 1), (19, .invokevirtual 232, 3), (22, .aload_n 0, 1), (23, .getfield 201, 3), (26, .iload_n 2, 1), (27, .if_icmp .ne 8, 3), (30, .iload 4, 2), (32, .goto 4, 3), (35, .iload_n 3, 1), (36, .istore_n 3, 1), (37, .iinc 4 (-1), 3), (40, .goto (-34), 3), (43, .iload_n 3, 1), (44, .ireturn, 1)]))
def mm_sink : ai_M := ((⟨"FourWatersModel", "sink", "(III)I"⟩, prog_10_method_62_code, 4, (Option.some Jvm.ClassFile.FieldType.int)), ("FourWatersModel", 8, { frames := 5, cells := 0, slots := 0, locals := 112 }, [(0, .aload_n 0, 1), (1, .iload_n 1, 1), (2, .invokevirtual 235, 3), (5, .ifCond .eq 23, 3), (8, .aload_n 0, 1), (9, .iload_n 2, 1), (10, .invokevirtual 229, 3), (13, .ifCond .eq 15, 3), (16, .iload_n 3, 1), (17, .i2l, 1), (18, .lconst 0, 1), (19, .ldc2_w 238, 3), (22, .invokestatic 49, 3), (25, .ifCond .ne 10, 3), (28, .aload_n 0, 1), (29, .bipush (-10), 2), (31, .invokevirtual 97, 3), (34, .ireturn, 1), (35, .aload_n 0, 1), (36, .iload_n 1, 1), (37, .invokevirtual 225, 3), (40, .aload_n 0, 1), (41, .iload_n 2, 1), (42, .iload_n 3, 1), (43, .invokevirtual 240, 3), (46, .ireturn, 1)]))
def mf_holds : ai_M := ((⟨"FourWaters", "holds", "(II)I"⟩, prog_1_method_24_code, 3, (Option.some Jvm.ClassFile.FieldType.int)), ("FourWaters", 7, { frames := 5, cells := 0, slots := 0, locals := 117 }, [(0, .aload_n 0, 1), (1, .iload_n 1, 1), (2, .invokevirtual 205, 3), (5, .ifCond .eq 14, 3), (8, .aload_n 0, 1), (9, .getfield 10, 3), (12, .iload_n 2, 1), (13, .invokevirtual 183, 3), (16, .ifCond .ne 10, 3), (19, .aload_n 0, 1), (20, .bipush (-10), 2), (22, .invokevirtual 104, 3), (25, .ireturn, 1), (26, .aload_n 0, 1), (27, .iload_n 1, 1), (28, .iload_n 2, 1), (29, .bipush 99, 2), (31, .aload_n 0, 1), (32, .getfield 10, 3), (35, .getfield 186, 3), (38, .invokevirtual 212, 3), (41, .aload_n 0, 1), (42, .getfield 39, 3), (45, .getfield 216, 3), (48, .ireturn, 1)]))
def mm_holds : ai_M := ((⟨"FourWatersModel", "holds", "(II)I"⟩, prog_10_method_63_code, 3, (Option.some Jvm.ClassFile.FieldType.int)), ("FourWatersModel", 8, { frames := 4, cells := 0, slots := 0, locals := 88 }, [(0, .aload_n 0, 1), (1, .iload_n 1, 1), (2, .invokevirtual 235, 3), (5, .ifCond .eq 11, 3), (8, .aload_n 0, 1), (9, .iload_n 2, 1), (10, .invokevirtual 229, 3), (13, .ifCond .ne 10, 3), (16, .aload_n 0, 1), (17, .bipush (-10), 2), (19, .invokevirtual 97, 3), (22, .ireturn, 1), (23, .aload_n 0, 1), (24, .iload_n 1, 1), (25, .invokevirtual 225, 3), (28, .aload_n 0, 1), (29, .bipush 99, 2), (31, .putfield 186, 3), (34, .aload_n 0, 1), (35, .iload_n 2, 1), (36, .invokevirtual 232, 3), (39, .aload_n 0, 1), (40, .getfield 213, 3), (43, .ireturn, 1)]))
def mf_bestHour : ai_M := ((⟨"FourWaters", "bestHour", "(III)I"⟩, prog_1_method_25_code, 8, (Option.some Jvm.ClassFile.FieldType.int)), ("FourWaters", 7, { frames := 6, cells := 0, slots := 0, locals := 142 }, [(0, .aload_n 0, 1), (1, .iload_n 1, 1), (2, .invokevirtual 205, 3), (5, .ifCond .eq 23, 3), (8, .aload_n 0, 1), (9, .getfield 10, 3), (12, .iload_n 2, 1), (13, .invokevirtual 183, 3), (16, .ifCond .eq 12, 3), (19, .iload_n 3, 1), (20, .iconst 0, 1), (21, .iconst 4, 1), (22, .invokestatic 100, 3), (25, .ifCond .ne 10, 3), (28, .aload_n 0, 1), (29, .bipush (-10), 2), (31, .invokevirtual 104, 3), (34, .ireturn, 1), (35, .iconst (-1), 1), (36, .istore 4, 2), (38, .bipush 100, 2), (40, .istore 5, 2), (42, .iconst 0, 1), (43, .istore 6, 2), (45, .iload 6, 2), (47, .bipush 6, 2), (49, .if_icmp .ge 49, 3), (52, .aload_n 0, 1), (53, .iload_n 1, 1), (54, .iload_n 2, 1), (55, .iload_n 3, 1), (56, .aload_n 0, 1), (57, .getfield 10, 3), (60, .getfield 186, 3), (63, .iload 6, 2), (65, .iadd, 1), (66, .invokevirtual 208, 3), (69, .istore 7, 2), (71, .iload 7, 2), (73, .iconst (-1), 1), (74, .if_icmp .eq 18, 3), (77, .iload 7, 2), (79, .iload 5, 2), (81, .if_icmp .ge 11, 3), (84, .iload 7, 2), (86, .istore 5, 2), (88, .iload 6, 2), (90, .istore 4, 2), (92, .iinc 6 1, 3), (95, .goto (-50), 3), (98, .iload 4, 2), (100, .ireturn, 1)]))
def mm_bestHour : ai_M := ((⟨"FourWatersModel", "bestHour", "(III)I"⟩, prog_10_method_64_code, 8, (Option.some Jvm.ClassFile.FieldType.int)), ("FourWatersModel", 8, { frames := 5, cells := 0, slots := 0, locals := 112 }, [(0, .aload_n 0, 1), (1, .iload_n 1, 1), (2, .invokevirtual 235, 3), (5, .ifCond .eq 23, 3), (8, .aload_n 0, 1), (9, .iload_n 2, 1), (10, .invokevirtual 229, 3), (13, .ifCond .eq 15, 3), (16, .iload_n 3, 1), (17, .i2l, 1), (18, .lconst 0, 1), (19, .ldc2_w 238, 3), (22, .invokestatic 49, 3), (25, .ifCond .ne 10, 3), (28, .aload_n 0, 1), (29, .bipush (-10), 2), (31, .invokevirtual 97, 3), (34, .ireturn, 1), (35, .iconst (-1), 1), (36, .istore 4, 2), (38, .ldc 243, 2), (40, .istore 5, 2), (42, .aload_n 0, 1), (43, .iload_n 1, 1), (44, .invokevirtual 225, 3), (47, .iconst 0, 1), (48, .istore 6, 2), (50, .iload 6, 2), (52, .bipush 6, 2), (54, .if_icmp .ge 72, 3), (57, .aload_n 0, 1), (58, .aload_n 0, 1), (59, .getfield 7, 3), (62, .iconst 1, 1), (63, .iaload, 1), (64, .iload 6, 2), (66, .iadd, 1), (67, .putfield 189, 3), (70, .aload_n 0, 1), (71, .iload_n 2, 1), (72, .iload_n 3, 1), (73, .invokevirtual 240, 3), (76, .istore 7, 2), (78, .iload 7, 2), (80, .ifCond .lt 15, 3), (83, .iload 7, 2), (85, .iload 5, 2), (87, .if_icmp .ge 8, 3), (90, .iload 6, 2), (92, .goto 5, 3), (95, .iload 4, 2), (97, .istore 4, 2), (99, .iload 7, 2), (101, .ifCond .lt 15, 3), (104, .iload 7, 2), (106, .iload 5, 2), (108, .if_icmp .ge 8, 3), (111, .iload 7, 2), (113, .goto 5, 3), (116, .iload 5, 2), (118, .istore 5, 2), (120, .iinc 6 1, 3), (123, .goto (-73), 3), (126, .iload 4, 2), (128, .ireturn, 1)]))
def mway_numberOf : ai_M := ((⟨"FourWaters$Ways", "numberOf", "(I)I"⟩, prog_8_method_3_code, 1, (Option.some Jvm.ClassFile.FieldType.int)), ("FourWaters$Ways", 6, { frames := 0, cells := 0, slots := 0, locals := 0 }, [(0, .iload_n 0, 1), (1, .bipush 10, 2), (3, .idiv, 1), (4, .iconst 4, 1), (5, .imul, 1), (6, .iload_n 0, 1), (7, .bipush 10, 2), (9, .irem, 1), (10, .iadd, 1), (11, .ireturn, 1)]))
def mway_join : ai_M := ((⟨"FourWaters$Ways", "join", "(III)V"⟩, prog_8_method_6_code, 4, (Option.none : Option Jvm.ClassFile.FieldType)), ("FourWaters$Ways", 6, { frames := 1, cells := 0, slots := 0, locals := 21 }, [(0, .aload_n 0, 1), (1, .getfield 11, 3), (4, .iload_n 1, 1), (5, .aload_n 0, 1), (6, .getfield 11, 3), (9, .iload_n 1, 1), (10, .iaload, 1), (11, .aload_n 0, 1), (12, .getfield 11, 3), (15, .iload_n 2, 1), (16, .iaload, 1), (17, .iload_n 3, 1), (18, .iadd, 1), (19, .invokestatic 68, 3), (22, .iastore, 1), (23, .aload_n 0, 1), (24, .getfield 11, 3), (27, .iload_n 2, 1), (28, .aload_n 0, 1), (29, .getfield 11, 3), (32, .iload_n 2, 1), (33, .iaload, 1), (34, .aload_n 0, 1), (35, .getfield 11, 3), (38, .iload_n 1, 1), (39, .iaload, 1), (40, .iload_n 3, 1), (41, .iadd, 1), (42, .invokestatic 68, 3), (45, .iastore, 1), (46, .return_, 1)]))
def mway_goByLifts : ai_M := ((⟨"FourWaters$Ways", "goByLifts", "(LFourWaters$Sea;)V"⟩, prog_8_method_4_code, 3, (Option.none : Option Jvm.ClassFile.FieldType)), ("FourWaters$Ways", 6, { frames := 2, cells := 0, slots := 0, locals := 44 }, [(0, .iconst 0, 1), (1, .istore_n 2, 1), (2, .iload_n 2, 1), (3, .aload_n 1, 1), (4, .getfield 33, 3), (7, .getfield 39, 3), (10, .if_icmp .ge 46, 3), (13, .aload_n 0, 1), (14, .aload_n 1, 1), (15, .getfield 33, 3), (18, .getfield 45, 3), (21, .iload_n 2, 1), (22, .iaload, 1), (23, .invokestatic 22, 3), (26, .aload_n 1, 1), (27, .getfield 33, 3), (30, .getfield 48, 3), (33, .iload_n 2, 1), (34, .iaload, 1), (35, .invokestatic 22, 3), (38, .aload_n 1, 1), (39, .getfield 33, 3), (42, .getfield 51, 3), (45, .iload_n 2, 1), (46, .iaload, 1), (47, .invokevirtual 54, 3), (50, .iinc 2 1, 3), (53, .goto (-51), 3), (56, .return_, 1)]))
def mway_goBeside : ai_M := ((⟨"FourWaters$Ways", "goBeside", "(LFourWaters$Sea;)V"⟩, prog_8_method_5_code, 4, (Option.none : Option Jvm.ClassFile.FieldType)), ("FourWaters$Ways", 6, { frames := 2, cells := 0, slots := 0, locals := 44 }, [(0, .iconst 0, 1), (1, .istore_n 2, 1), (2, .iload_n 2, 1), (3, .aload_n 1, 1), (4, .getfield 58, 3), (7, .iconst 1, 1), (8, .isub, 1), (9, .if_icmp .ge 67, 3), (12, .iconst 0, 1), (13, .istore_n 3, 1), (14, .iload_n 3, 1), (15, .iconst 4, 1), (16, .if_icmp .ge 54, 3), (19, .aload_n 1, 1), (20, .iload_n 3, 1), (21, .iload_n 2, 1), (22, .aload_n 1, 1), (23, .getfield 61, 3), (26, .invokevirtual 64, 3), (29, .ifCond .le 35, 3), (32, .aload_n 1, 1), (33, .iload_n 3, 1), (34, .iload_n 2, 1), (35, .iconst 1, 1), (36, .iadd, 1), (37, .aload_n 1, 1), (38, .getfield 61, 3), (41, .invokevirtual 64, 3), (44, .ifCond .le 20, 3), (47, .aload_n 0, 1), (48, .iload_n 2, 1), (49, .iconst 4, 1), (50, .imul, 1), (51, .iload_n 3, 1), (52, .iadd, 1), (53, .iload_n 2, 1), (54, .iconst 1, 1), (55, .iadd, 1), (56, .iconst 4, 1), (57, .imul, 1), (58, .iload_n 3, 1), (59, .iadd, 1), (60, .iconst 3, 1), (61, .invokevirtual 54, 3), (64, .iinc 3 1, 3), (67, .goto (-53), 3), (70, .iinc 2 1, 3), (73, .goto (-71), 3), (76, .return_, 1)]))
def mway_soonestWay : ai_M := ((⟨"FourWaters$Ways", "soonestWay", "(LFourWaters$Sea;II)I"⟩, prog_8_method_2_code, 5, (Option.some Jvm.ClassFile.FieldType.int)), ("FourWaters$Ways", 6, { frames := 3, cells := 0, slots := 0, locals := 67 }, [(0, .aload_n 0, 1), (1, .getfield 11, 3), (4, .ldc 15, 2), (6, .invokestatic 16, 3), (9, .aload_n 0, 1), (10, .getfield 11, 3), (13, .iload_n 2, 1), (14, .invokestatic 22, 3), (17, .iconst 0, 1), (18, .iastore, 1), (19, .iconst 1, 1), (20, .istore 4, 2), (22, .iload 4, 2), (24, .bipush 24, 2), (26, .if_icmp .ge 19, 3), (29, .aload_n 0, 1), (30, .aload_n 1, 1), (31, .invokevirtual 26, 3), (34, .aload_n 0, 1), (35, .aload_n 1, 1), (36, .invokevirtual 30, 3), (39, .iinc 4 1, 3), (42, .goto (-20), 3), (45, .aload_n 0, 1), (46, .getfield 11, 3), (49, .iload_n 3, 1), (50, .invokestatic 22, 3), (53, .iaload, 1), (54, .istore 4, 2), (56, .iload 4, 2), (58, .ldc 15, 2), (60, .if_icmp .lt 7, 3), (63, .iconst (-1), 1), (64, .goto 5, 3), (67, .iload 4, 2), (69, .ireturn, 1)]))
def mf_soonest : ai_M := ((⟨"FourWaters", "soonest", "(II)I"⟩, prog_1_method_26_code, 3, (Option.some Jvm.ClassFile.FieldType.int)), ("FourWaters", 7, { frames := 4, cells := 0, slots := 0, locals := 91 }, [(0, .aload_n 0, 1), (1, .getfield 10, 3), (4, .iload_n 1, 1), (5, .invokevirtual 219, 3), (8, .ifCond .eq 14, 3), (11, .aload_n 0, 1), (12, .getfield 10, 3), (15, .iload_n 2, 1), (16, .invokevirtual 219, 3), (19, .ifCond .ne 10, 3), (22, .aload_n 0, 1), (23, .bipush (-2), 2), (25, .invokevirtual 104, 3), (28, .ireturn, 1), (29, .aload_n 0, 1), (30, .getfield 53, 3), (33, .aload_n 0, 1), (34, .getfield 10, 3), (37, .iload_n 1, 1), (38, .iload_n 2, 1), (39, .invokevirtual 222, 3), (42, .ireturn, 1)]))
def mm_comesTo : ai_M := ((⟨"FourWatersModel", "comesTo", "(III)Z"⟩, prog_10_method_65_code, 5, (Option.some Jvm.ClassFile.FieldType.boolean)), ("FourWatersModel", 8, { frames := 0, cells := 0, slots := 0, locals := 0 }, [(0, .aload_n 0, 1), (1, .getfield 30, 3), (4, .iload_n 1, 1), (5, .iaload, 1), (6, .ldc 243, 2), (8, .if_icmp .ge 24, 3), (11, .aload_n 0, 1), (12, .getfield 30, 3), (15, .iload_n 1, 1), (16, .iaload, 1), (17, .iload_n 3, 1), (18, .iadd, 1), (19, .aload_n 0, 1), (20, .getfield 30, 3), (23, .iload_n 2, 1), (24, .iaload, 1), (25, .if_icmp .ge 7, 3), (28, .iconst 1, 1), (29, .goto 4, 3), (32, .iconst 0, 1), (33, .istore 4, 2), (35, .aload_n 0, 1), (36, .getfield 30, 3), (39, .iload_n 2, 1), (40, .iload 4, 2), (42, .ifCond .eq 14, 3), (45, .aload_n 0, 1), (46, .getfield 30, 3), (49, .iload_n 1, 1), (50, .iaload, 1), (51, .iload_n 3, 1), (52, .iadd, 1), (53, .goto 9, 3), (56, .aload_n 0, 1), (57, .getfield 30, 3), (60, .iload_n 2, 1), (61, .iaload, 1), (62, .iastore, 1), (63, .iload 4, 2), (65, .ireturn, 1)]))
def mm_isThick : ai_M := ((⟨"FourWatersModel", "isThick", "(I)Z"⟩, prog_10_method_66_code, 2, (Option.some Jvm.ClassFile.FieldType.boolean)), ("FourWatersModel", 8, { frames := 1, cells := 0, slots := 0, locals := 24 }, [(0, .aload_n 0, 1), (1, .iload_n 1, 1), (2, .bipush 10, 2), (4, .irem, 1), (5, .iload_n 1, 1), (6, .bipush 10, 2), (8, .idiv, 1), (9, .aload_n 0, 1), (10, .getfield 7, 3), (13, .iconst 1, 1), (14, .iaload, 1), (15, .invokevirtual 216, 3), (18, .ifCond .le 7, 3), (21, .iconst 1, 1), (22, .goto 4, 3), (25, .iconst 0, 1), (26, .ireturn, 1)]))
def mm_soonest : ai_M := ((⟨"FourWatersModel", "soonest", "(II)I"⟩, prog_10_method_67_code, 5, (Option.some Jvm.ClassFile.FieldType.int)), ("FourWatersModel", 8, { frames := 3, cells := 0, slots := 0, locals := 69 }, [(0, .aload_n 0, 1), (1, .iconst 0, 1), (2, .iload_n 1, 1), (3, .invokevirtual 75, 3), (6, .ifCond .eq 12, 3), (9, .aload_n 0, 1), (10, .iconst 0, 1), (11, .iload_n 2, 1), (12, .invokevirtual 75, 3), (15, .ifCond .ne 8, 3), (18, .aload_n 0, 1), (19, .invokevirtual 108, 3), (22, .ireturn, 1), (23, .iconst 0, 1), (24, .istore_n 3, 1), (25, .iload_n 3, 1), (26, .bipush 60, 2), (28, .if_icmp .ge 26, 3), (31, .aload_n 0, 1), (32, .getfield 30, 3), (35, .iload_n 3, 1), (36, .iload_n 3, 1), (37, .iload_n 1, 1), (38, .if_icmp .ne 7, 3), (41, .iconst 0, 1), (42, .goto 5, 3), (45, .ldc 243, 2), (47, .iastore, 1), (48, .iinc 3 1, 3), (51, .goto (-26), 3), (54, .iconst 1, 1), (55, .istore_n 3, 1), (56, .iload_n 3, 1), (57, .ifCond .eq 190, 3), (60, .iconst 0, 1), (61, .istore_n 3, 1), (62, .iconst 0, 1), (63, .istore 4, 2), (65, .iload 4, 2), (67, .aload_n 0, 1), (68, .getfield 7, 3), (71, .iconst 3, 1), (72, .iaload, 1), (73, .if_icmp .ge 83, 3), (76, .iload_n 3, 1), (77, .aload_n 0, 1), (78, .aload_n 0, 1), (79, .getfield 7, 3), (82, .bipush 91, 2), (84, .iload 4, 2), (86, .iadd, 1), (87, .iaload, 1), (88, .aload_n 0, 1), (89, .getfield 7, 3), (92, .bipush 101, 2), (94, .iload 4, 2), (96, .iadd, 1), (97, .iaload, 1), (98, .aload_n 0, 1), (99, .getfield 7, 3), (102, .bipush 111, 2), (104, .iload 4, 2), (106, .iadd, 1), (107, .iaload, 1), (108, .invokevirtual 244, 3), (111, .ior, 1), (112, .istore_n 3, 1), (113, .iload_n 3, 1), (114, .aload_n 0, 1), (115, .aload_n 0, 1), (116, .getfield 7, 3), (119, .bipush 101, 2), (121, .iload 4, 2), (123, .iadd, 1), (124, .iaload, 1), (125, .aload_n 0, 1), (126, .getfield 7, 3), (129, .bipush 91, 2), (131, .iload 4, 2), (133, .iadd, 1), (134, .iaload, 1), (135, .aload_n 0, 1), (136, .getfield 7, 3), (139, .bipush 111, 2), (141, .iload 4, 2), (143, .iadd, 1), (144, .iaload, 1), (145, .invokevirtual 244, 3), (148, .ior, 1), (149, .istore_n 3, 1), (150, .iinc 4 1, 3), (153, .goto (-88), 3), (156, .iconst 0, 1), (157, .istore 4, 2), (159, .iload 4, 2), (161, .bipush 10, 2), (163, .iadd, 1), (164, .bipush 10, 2), (166, .aload_n 0, 1), (167, .getfield 7, 3), (170, .iconst 0, 1), (171, .iaload, 1), (172, .imul, 1), (173, .if_icmp .ge 71, 3), (176, .iload 4, 2), (178, .bipush 10, 2), (180, .irem, 1), (181, .invokestatic 57, 3), (184, .ifCond .eq 54, 3), (187, .aload_n 0, 1), (188, .iload 4, 2), (190, .invokevirtual 248, 3), (193, .ifCond .eq 45, 3), (196, .aload_n 0, 1), (197, .iload 4, 2), (199, .bipush 10, 2), (201, .iadd, 1), (202, .invokevirtual 248, 3), (205, .ifCond .eq 33, 3), (208, .iload_n 3, 1), (209, .aload_n 0, 1), (210, .iload 4, 2), (212, .iload 4, 2), (214, .bipush 10, 2), (216, .iadd, 1), (217, .iconst 3, 1), (218, .invokevirtual 244, 3), (221, .ior, 1), (222, .istore_n 3, 1), (223, .iload_n 3, 1), (224, .aload_n 0, 1), (225, .iload 4, 2), (227, .bipush 10, 2), (229, .iadd, 1), (230, .iload 4, 2), (232, .iconst 3, 1), (233, .invokevirtual 244, 3), (236, .ior, 1), (237, .istore_n 3, 1), (238, .iinc 4 1, 3), (241, .goto (-82), 3), (244, .goto (-188), 3), (247, .aload_n 0, 1), (248, .getfield 30, 3), (251, .iload_n 2, 1), (252, .iaload, 1), (253, .ldc 243, 2), (255, .if_icmp .ne 7, 3), (258, .iconst (-1), 1), (259, .goto 9, 3), (262, .aload_n 0, 1), (263, .getfield 30, 3), (266, .iload_n 2, 1), (267, .iaload, 1), (268, .ireturn, 1)]))
def msea_ceilingOf : ai_M := ((⟨"FourWaters$Sea", "ceilingOf", "(I)I"⟩, prog_4_method_19_code, 8, (Option.some Jvm.ClassFile.FieldType.int)), ("FourWaters$Sea", 2, { frames := 0, cells := 0, slots := 0, locals := 0 }, [(0, .aload_n 0, 1), (1, .getfield 54, 3), (4, .iload_n 1, 1), (5, .iaload, 1), (6, .istore_n 2, 1), (7, .iconst (-1), 1), (8, .istore_n 3, 1), (9, .iconst (-1), 1), (10, .istore 4, 2), (12, .iconst 0, 1), (13, .istore 5, 2), (15, .iload 5, 2), (17, .aload_n 0, 1), (18, .getfield 51, 3), (21, .if_icmp .ge 62, 3), (24, .aload_n 0, 1), (25, .getfield 54, 3), (28, .iload 5, 2), (30, .iaload, 1), (31, .istore 6, 2), (33, .iload 6, 2), (35, .bipush 10, 2), (37, .idiv, 1), (38, .iload_n 2, 1), (39, .bipush 10, 2), (41, .idiv, 1), (42, .if_icmp .ne 13, 3), (45, .iload 6, 2), (47, .iload_n 2, 1), (48, .if_icmp .ge 7, 3), (51, .iconst 1, 1), (52, .goto 4, 3), (55, .iconst 0, 1), (56, .istore 7, 2), (58, .iload 7, 2), (60, .ifCond .eq 17, 3), (63, .iload 6, 2), (65, .iload 4, 2), (67, .if_icmp .le 10, 3), (70, .iload 5, 2), (72, .istore_n 3, 1), (73, .iload 6, 2), (75, .istore 4, 2), (77, .iinc 5 1, 3), (80, .goto (-65), 3), (83, .iload_n 3, 1), (84, .ireturn, 1)]))
def msea_duesOf : ai_M := ((⟨"FourWaters$Sea", "duesOf", "(I)I"⟩, prog_4_method_20_code, 3, (Option.some Jvm.ClassFile.FieldType.int)), ("FourWaters$Sea", 2, { frames := 2, cells := 0, slots := 0, locals := 44 }, [(0, .aload_n 0, 1), (1, .getfield 54, 3), (4, .iload_n 1, 1), (5, .iaload, 1), (6, .istore_n 2, 1), (7, .aload_n 0, 1), (8, .iload_n 2, 1), (9, .bipush 10, 2), (11, .irem, 1), (12, .iload_n 2, 1), (13, .bipush 10, 2), (15, .idiv, 1), (16, .aload_n 0, 1), (17, .getfield 15, 3), (20, .invokevirtual 126, 3), (23, .ireturn, 1)]))
def mf_net : ai_M := ((⟨"FourWaters", "net", "(I)I"⟩, prog_1_method_27_code, 5, (Option.some Jvm.ClassFile.FieldType.int)), ("FourWaters", 7, { frames := 3, cells := 0, slots := 0, locals := 66 }, [(0, .iload_n 1, 1), (1, .iconst 0, 1), (2, .aload_n 0, 1), (3, .getfield 10, 3), (6, .getfield 226, 3), (9, .iconst 1, 1), (10, .isub, 1), (11, .invokestatic 100, 3), (14, .ifCond .ne 11, 3), (17, .aload_n 0, 1), (18, .sipush (-1000), 3), (21, .invokevirtual 104, 3), (24, .ireturn, 1), (25, .iconst 0, 1), (26, .istore_n 2, 1), (27, .iconst 0, 1), (28, .istore_n 3, 1), (29, .iload_n 3, 1), (30, .aload_n 0, 1), (31, .getfield 10, 3), (34, .getfield 226, 3), (37, .if_icmp .ge 61, 3), (40, .aload_n 0, 1), (41, .getfield 10, 3), (44, .iload_n 3, 1), (45, .invokevirtual 229, 3), (48, .istore 4, 2), (50, .iload 4, 2), (52, .iconst (-1), 1), (53, .if_icmp .ne 6, 3), (56, .goto 36, 3), (59, .iload 4, 2), (61, .iload_n 1, 1), (62, .if_icmp .ne 14, 3), (65, .iload_n 2, 1), (66, .aload_n 0, 1), (67, .getfield 10, 3), (70, .iload_n 3, 1), (71, .invokevirtual 232, 3), (74, .iadd, 1), (75, .istore_n 2, 1), (76, .iload_n 3, 1), (77, .iload_n 1, 1), (78, .if_icmp .ne 14, 3), (81, .iload_n 2, 1), (82, .aload_n 0, 1), (83, .getfield 10, 3), (86, .iload_n 3, 1), (87, .invokevirtual 232, 3), (90, .isub, 1), (91, .istore_n 2, 1), (92, .iinc 3 1, 3), (95, .goto (-66), 3), (98, .iload_n 2, 1), (99, .ireturn, 1)]))
def mm_ceilingOf : ai_M := ((⟨"FourWatersModel", "ceilingOf", "(I)I"⟩, prog_10_method_68_code, 7, (Option.some Jvm.ClassFile.FieldType.int)), ("FourWatersModel", 8, { frames := 0, cells := 0, slots := 0, locals := 0 }, [(0, .iconst (-1), 1), (1, .istore_n 2, 1), (2, .aload_n 0, 1), (3, .getfield 7, 3), (6, .bipush 121, 2), (8, .iload_n 1, 1), (9, .iadd, 1), (10, .iaload, 1), (11, .istore_n 3, 1), (12, .iconst 0, 1), (13, .istore 4, 2), (15, .iload 4, 2), (17, .aload_n 0, 1), (18, .getfield 7, 3), (21, .iconst 4, 1), (22, .iaload, 1), (23, .if_icmp .ge 77, 3), (26, .aload_n 0, 1), (27, .getfield 7, 3), (30, .bipush 121, 2), (32, .iload 4, 2), (34, .iadd, 1), (35, .iaload, 1), (36, .istore 5, 2), (38, .iload 5, 2), (40, .bipush 10, 2), (42, .idiv, 1), (43, .iload_n 3, 1), (44, .bipush 10, 2), (46, .idiv, 1), (47, .if_icmp .ne 13, 3), (50, .iload 5, 2), (52, .iload_n 3, 1), (53, .if_icmp .ge 7, 3), (56, .iconst 1, 1), (57, .goto 4, 3), (60, .iconst 0, 1), (61, .istore 6, 2), (63, .iload 6, 2), (65, .ifCond .eq 27, 3), (68, .iload_n 2, 1), (69, .iconst (-1), 1), (70, .if_icmp .eq 17, 3), (73, .iload 5, 2), (75, .aload_n 0, 1), (76, .getfield 7, 3), (79, .bipush 121, 2), (81, .iload_n 2, 1), (82, .iadd, 1), (83, .iaload, 1), (84, .if_icmp .le 8, 3), (87, .iload 4, 2), (89, .goto 4, 3), (92, .iload_n 2, 1), (93, .istore_n 2, 1), (94, .iinc 4 1, 3), (97, .goto (-82), 3), (100, .iload_n 2, 1), (101, .ireturn, 1)]))
def mm_duesOf : ai_M := ((⟨"FourWatersModel", "duesOf", "(I)I"⟩, prog_10_method_69_code, 3, (Option.some Jvm.ClassFile.FieldType.int)), ("FourWatersModel", 8, { frames := 1, cells := 0, slots := 0, locals := 24 }, [(0, .aload_n 0, 1), (1, .getfield 7, 3), (4, .bipush 121, 2), (6, .iload_n 1, 1), (7, .iadd, 1), (8, .iaload, 1), (9, .istore_n 2, 1), (10, .aload_n 0, 1), (11, .iload_n 2, 1), (12, .bipush 10, 2), (14, .irem, 1), (15, .iload_n 2, 1), (16, .bipush 10, 2), (18, .idiv, 1), (19, .aload_n 0, 1), (20, .getfield 7, 3), (23, .iconst 1, 1), (24, .iaload, 1), (25, .invokevirtual 216, 3), (28, .ireturn, 1)]))
def mm_net : ai_M := ((⟨"FourWatersModel", "net", "(I)I"⟩, prog_10_method_70_code, 4, (Option.some Jvm.ClassFile.FieldType.int)), ("FourWatersModel", 8, { frames := 2, cells := 0, slots := 0, locals := 46 }, [(0, .iload_n 1, 1), (1, .i2l, 1), (2, .lconst 0, 1), (3, .aload_n 0, 1), (4, .getfield 7, 3), (7, .iconst 4, 1), (8, .iaload, 1), (9, .iconst 1, 1), (10, .isub, 1), (11, .i2l, 1), (12, .invokestatic 49, 3), (15, .ifCond .ne 11, 3), (18, .aload_n 0, 1), (19, .sipush (-1000), 3), (22, .invokevirtual 97, 3), (25, .ireturn, 1), (26, .aload_n 0, 1), (27, .iload_n 1, 1), (28, .invokevirtual 251, 3), (31, .iconst (-1), 1), (32, .if_icmp .ne 7, 3), (35, .iconst 0, 1), (36, .goto 9, 3), (39, .aload_n 0, 1), (40, .iload_n 1, 1), (41, .invokevirtual 254, 3), (44, .ineg, 1), (45, .istore_n 2, 1), (46, .iconst 0, 1), (47, .istore_n 3, 1), (48, .iload_n 3, 1), (49, .aload_n 0, 1), (50, .getfield 7, 3), (53, .iconst 4, 1), (54, .iaload, 1), (55, .if_icmp .ge 30, 3), (58, .iload_n 2, 1), (59, .aload_n 0, 1), (60, .iload_n 3, 1), (61, .invokevirtual 251, 3), (64, .iload_n 1, 1), (65, .if_icmp .ne 11, 3), (68, .aload_n 0, 1), (69, .iload_n 3, 1), (70, .invokevirtual 254, 3), (73, .goto 4, 3), (76, .iconst 0, 1), (77, .iadd, 1), (78, .istore_n 2, 1), (79, .iinc 3 1, 3), (82, .goto (-34), 3), (85, .iload_n 2, 1), (86, .ireturn, 1)]))
def mf_isSpill : ai_M := ((⟨"FourWaters", "isSpill", "(III)Z"⟩, prog_1_method_47_code, 4, (Option.some Jvm.ClassFile.FieldType.boolean)), ("FourWaters", 7, { frames := 2, cells := 0, slots := 0, locals := 43 }, [(0, .aload_n 0, 1), (1, .getfield 10, 3), (4, .iload_n 1, 1), (5, .invokevirtual 183, 3), (8, .ifCond .eq 28, 3), (11, .iload_n 2, 1), (12, .iconst 0, 1), (13, .sipush 999, 3), (16, .invokestatic 100, 3), (19, .ifCond .eq 17, 3), (22, .iload_n 3, 1), (23, .iconst 0, 1), (24, .bipush 40, 2), (26, .invokestatic 100, 3), (29, .ifCond .eq 7, 3), (32, .iconst 1, 1), (33, .goto 4, 3), (36, .iconst 0, 1), (37, .ireturn, 1)]))
def mspr_start : ai_M := ((⟨"FourWaters$Spread", "start", "(II)V"⟩, prog_5_method_2_code, 3, (Option.none : Option Jvm.ClassFile.FieldType)), ("FourWaters$Spread", 3, { frames := 1, cells := 0, slots := 0, locals := 23 }, [(0, .aload_n 0, 1), (1, .getfield 9, 3), (4, .iconst 0, 1), (5, .invokestatic 18, 3), (8, .aload_n 0, 1), (9, .getfield 9, 3), (12, .iload_n 1, 1), (13, .iload_n 2, 1), (14, .iastore, 1), (15, .return_, 1)]))
def mspr_goOn : ai_M := ((⟨"FourWaters$Spread", "goOn", "(II)V"⟩, prog_5_method_3_code, 4, (Option.none : Option Jvm.ClassFile.FieldType)), ("FourWaters$Spread", 3, { frames := 0, cells := 0, slots := 0, locals := 0 }, [(0, .iconst 0, 1), (1, .istore_n 3, 1), (2, .iload_n 3, 1), (3, .iload_n 1, 1), (4, .if_icmp .ge 23, 3), (7, .aload_n 0, 1), (8, .getfield 15, 3), (11, .iload_n 3, 1), (12, .aload_n 0, 1), (13, .getfield 9, 3), (16, .iload_n 3, 1), (17, .iaload, 1), (18, .iconst 4, 1), (19, .idiv, 1), (20, .iastore, 1), (21, .iinc 3 1, 3), (24, .goto (-22), 3), (27, .iconst 0, 1), (28, .istore_n 3, 1), (29, .iload_n 3, 1), (30, .iload_n 1, 1), (31, .iconst 1, 1), (32, .isub, 1), (33, .if_icmp .ge 67, 3), (36, .iload_n 2, 1), (37, .iload_n 3, 1), (38, .ishr, 1), (39, .iconst 1, 1), (40, .iand, 1), (41, .ifCond .ne 53, 3), (44, .aload_n 0, 1), (45, .getfield 9, 3), (48, .iload_n 3, 1), (49, .dup2, 1), (50, .iaload, 1), (51, .aload_n 0, 1), (52, .getfield 15, 3), (55, .iload_n 3, 1), (56, .iconst 1, 1), (57, .iadd, 1), (58, .iaload, 1), (59, .aload_n 0, 1), (60, .getfield 15, 3), (63, .iload_n 3, 1), (64, .iaload, 1), (65, .isub, 1), (66, .iadd, 1), (67, .iastore, 1), (68, .aload_n 0, 1), (69, .getfield 9, 3), (72, .iload_n 3, 1), (73, .iconst 1, 1), (74, .iadd, 1), (75, .dup2, 1), (76, .iaload, 1), (77, .aload_n 0, 1), (78, .getfield 15, 3), (81, .iload_n 3, 1), (82, .iaload, 1), (83, .aload_n 0, 1), (84, .getfield 15, 3), (87, .iload_n 3, 1), (88, .iconst 1, 1), (89, .iadd, 1), (90, .iaload, 1), (91, .isub, 1), (92, .iadd, 1), (93, .iastore, 1), (94, .iinc 3 1, 3), (97, .goto (-68), 3), (100, .return_, 1)]))
def mf_spill : ai_M := ((⟨"FourWaters", "spill", "(IIII)I"⟩, prog_1_method_28_code, 6, (Option.some Jvm.ClassFile.FieldType.int)), ("FourWaters", 7, { frames := 3, cells := 0, slots := 0, locals := 66 }, [(0, .aload_n 0, 1), (1, .iload_n 1, 1), (2, .iload_n 2, 1), (3, .iload_n 3, 1), (4, .invokevirtual 235, 3), (7, .ifCond .eq 15, 3), (10, .aload_n 0, 1), (11, .getfield 10, 3), (14, .iload 4, 2), (16, .invokevirtual 183, 3), (19, .ifCond .ne 10, 3), (22, .aload_n 0, 1), (23, .bipush (-2), 2), (25, .invokevirtual 104, 3), (28, .ireturn, 1), (29, .aload_n 0, 1), (30, .getfield 46, 3), (33, .iload_n 1, 1), (34, .iload_n 2, 1), (35, .invokevirtual 238, 3), (38, .iconst 0, 1), (39, .istore 5, 2), (41, .iload 5, 2), (43, .iload_n 3, 1), (44, .if_icmp .ge 30, 3), (47, .aload_n 0, 1), (48, .getfield 46, 3), (51, .aload_n 0, 1), (52, .getfield 10, 3), (55, .getfield 242, 3), (58, .aload_n 0, 1), (59, .getfield 10, 3), (62, .getfield 245, 3), (65, .invokevirtual 248, 3), (68, .iinc 5 1, 3), (71, .goto (-30), 3), (74, .aload_n 0, 1), (75, .getfield 46, 3), (78, .getfield 250, 3), (81, .iload 4, 2), (83, .iaload, 1), (84, .ireturn, 1)]))
def mm_laySpill : ai_M := ((⟨"FourWatersModel", "laySpill", "(II)V"⟩, prog_10_method_72_code, 4, (Option.none : Option Jvm.ClassFile.FieldType)), ("FourWatersModel", 8, { frames := 0, cells := 0, slots := 0, locals := 0 }, [(0, .iconst 0, 1), (1, .istore_n 3, 1), (2, .iload_n 3, 1), (3, .bipush 6, 2), (5, .if_icmp .ge 25, 3), (8, .aload_n 0, 1), (9, .getfield 33, 3), (12, .iload_n 3, 1), (13, .iload_n 3, 1), (14, .iload_n 1, 1), (15, .if_icmp .ne 7, 3), (18, .iload_n 2, 1), (19, .goto 4, 3), (22, .iconst 0, 1), (23, .iastore, 1), (24, .iinc 3 1, 3), (27, .goto (-25), 3), (30, .return_, 1)]))
def mm_spills : ai_M := ((⟨"FourWatersModel", "spills", "(I)V"⟩, prog_10_method_71_code, 3, (Option.none : Option Jvm.ClassFile.FieldType)), ("FourWatersModel", 8, { frames := 1, cells := 0, slots := 0, locals := 21 }, [(0, .iconst 0, 1), (1, .istore_n 2, 1), (2, .iload_n 2, 1), (3, .aload_n 0, 1), (4, .getfield 7, 3), (7, .iconst 0, 1), (8, .iaload, 1), (9, .if_icmp .ge 23, 3), (12, .aload_n 0, 1), (13, .getfield 36, 3), (16, .iload_n 2, 1), (17, .aload_n 0, 1), (18, .getfield 33, 3), (21, .iload_n 2, 1), (22, .iaload, 1), (23, .iconst 4, 1), (24, .idiv, 1), (25, .iastore, 1), (26, .iinc 2 1, 3), (29, .goto (-27), 3), (32, .iconst 0, 1), (33, .istore_n 2, 1), (34, .iload_n 2, 1), (35, .iconst 1, 1), (36, .iadd, 1), (37, .aload_n 0, 1), (38, .getfield 7, 3), (41, .iconst 0, 1), (42, .iaload, 1), (43, .if_icmp .ge 67, 3), (46, .iload_n 1, 1), (47, .iload_n 2, 1), (48, .invokestatic 78, 3), (51, .ifCond .ne 53, 3), (54, .aload_n 0, 1), (55, .getfield 33, 3), (58, .iload_n 2, 1), (59, .dup2, 1), (60, .iaload, 1), (61, .aload_n 0, 1), (62, .getfield 36, 3), (65, .iload_n 2, 1), (66, .iconst 1, 1), (67, .iadd, 1), (68, .iaload, 1), (69, .aload_n 0, 1), (70, .getfield 36, 3), (73, .iload_n 2, 1), (74, .iaload, 1), (75, .isub, 1), (76, .iadd, 1), (77, .iastore, 1), (78, .aload_n 0, 1), (79, .getfield 33, 3), (82, .iload_n 2, 1), (83, .iconst 1, 1), (84, .iadd, 1), (85, .dup2, 1), (86, .iaload, 1), (87, .aload_n 0, 1), (88, .getfield 36, 3), (91, .iload_n 2, 1), (92, .iaload, 1), (93, .aload_n 0, 1), (94, .getfield 36, 3), (97, .iload_n 2, 1), (98, .iconst 1, 1), (99, .iadd, 1), (100, .iaload, 1), (101, .isub, 1), (102, .iadd, 1), (103, .iastore, 1), (104, .iinc 2 1, 3), (107, .goto (-73), 3), (110, .return_, 1)]))
def mm_spill : ai_M := ((⟨"FourWatersModel", "spill", "(IIII)I"⟩, prog_10_method_73_code, 6, (Option.some Jvm.ClassFile.FieldType.int)), ("FourWatersModel", 8, { frames := 3, cells := 0, slots := 0, locals := 68 }, [(0, .aload_n 0, 1), (1, .iload_n 1, 1), (2, .invokevirtual 229, 3), (5, .ifCond .eq 36, 3), (8, .iload_n 2, 1), (9, .i2l, 1), (10, .lconst 0, 1), (11, .ldc2_w 257, 3), (14, .invokestatic 49, 3), (17, .ifCond .eq 24, 3), (20, .iload_n 3, 1), (21, .i2l, 1), (22, .lconst 0, 1), (23, .ldc2_w 259, 3), (26, .invokestatic 49, 3), (29, .ifCond .eq 12, 3), (32, .aload_n 0, 1), (33, .iload 4, 2), (35, .invokevirtual 229, 3), (38, .ifCond .ne 8, 3), (41, .aload_n 0, 1), (42, .invokevirtual 108, 3), (45, .ireturn, 1), (46, .aload_n 0, 1), (47, .iload_n 1, 1), (48, .iload_n 2, 1), (49, .invokevirtual 261, 3), (52, .iconst 0, 1), (53, .istore 5, 2), (55, .iload 5, 2), (57, .iload_n 3, 1), (58, .if_icmp .ge 19, 3), (61, .aload_n 0, 1), (62, .aload_n 0, 1), (63, .getfield 7, 3), (66, .iconst 5, 1), (67, .iaload, 1), (68, .invokevirtual 264, 3), (71, .iinc 5 1, 3), (74, .goto (-19), 3), (77, .aload_n 0, 1), (78, .getfield 33, 3), (81, .iload 4, 2), (83, .iaload, 1), (84, .ireturn, 1)]))
def mint_bitCount : ai_M := ((⟨"java/lang/Integer", "bitCount", "(I)I"⟩, prog_11_method_49_code, 1, (Option.some Jvm.ClassFile.FieldType.int)), ("java/lang/Integer", 10, { frames := 0, cells := 0, slots := 0, locals := 0 }, [(0, .iload_n 0, 1), (1, .iload_n 0, 1), (2, .iconst 1, 1), (3, .iushr, 1), (4, .ldc_w 265, 3), (7, .iand, 1), (8, .isub, 1), (9, .istore_n 0, 1), (10, .iload_n 0, 1), (11, .ldc_w 266, 3), (14, .iand, 1), (15, .iload_n 0, 1), (16, .iconst 2, 1), (17, .iushr, 1), (18, .ldc_w 266, 3), (21, .iand, 1), (22, .iadd, 1), (23, .istore_n 0, 1), (24, .iload_n 0, 1), (25, .iload_n 0, 1), (26, .iconst 4, 1), (27, .iushr, 1), (28, .iadd, 1), (29, .ldc_w 267, 3), (32, .iand, 1), (33, .istore_n 0, 1), (34, .iload_n 0, 1), (35, .iload_n 0, 1), (36, .bipush 8, 2), (38, .iushr, 1), (39, .iadd, 1), (40, .istore_n 0, 1), (41, .iload_n 0, 1), (42, .iload_n 0, 1), (43, .bipush 16, 2), (45, .iushr, 1), (46, .iadd, 1), (47, .istore_n 0, 1), (48, .iload_n 0, 1), (49, .bipush 63, 2), (51, .iand, 1), (52, .ireturn, 1)]))
def mspr_isIn : ai_M := ((⟨"FourWaters$Spread", "isIn", "(I)Z"⟩, prog_5_method_4_code, 3, (Option.some Jvm.ClassFile.FieldType.boolean)), ("FourWaters$Spread", 3, { frames := 0, cells := 0, slots := 0, locals := 0 }, [(0, .iconst 0, 1), (1, .istore_n 2, 1), (2, .iload_n 2, 1), (3, .bipush 6, 2), (5, .if_icmp .ge 29, 3), (8, .iload_n 1, 1), (9, .iload_n 2, 1), (10, .ishr, 1), (11, .iconst 1, 1), (12, .iand, 1), (13, .iconst 1, 1), (14, .if_icmp .ne 14, 3), (17, .aload_n 0, 1), (18, .getfield 9, 3), (21, .iload_n 2, 1), (22, .iaload, 1), (23, .ifCond .le 5, 3), (26, .iconst 1, 1), (27, .ireturn, 1), (28, .iinc 2 1, 3), (31, .goto (-29), 3), (34, .iconst 0, 1), (35, .ireturn, 1)]))
def mf_keepsOut : ai_M := ((⟨"FourWaters", "keepsOut", "(IIIII)Z"⟩, prog_1_method_56_code, 7, (Option.some Jvm.ClassFile.FieldType.boolean)), ("FourWaters", 7, { frames := 2, cells := 0, slots := 0, locals := 45 }, [(0, .aload_n 0, 1), (1, .getfield 46, 3), (4, .iload_n 1, 1), (5, .iload_n 2, 1), (6, .invokevirtual 238, 3), (9, .iconst 0, 1), (10, .istore 6, 2), (12, .iload 6, 2), (14, .iload_n 3, 1), (15, .if_icmp .ge 39, 3), (18, .aload_n 0, 1), (19, .getfield 46, 3), (22, .iload 4, 2), (24, .invokevirtual 339, 3), (27, .ifCond .eq 5, 3), (30, .iconst 0, 1), (31, .ireturn, 1), (32, .aload_n 0, 1), (33, .getfield 46, 3), (36, .aload_n 0, 1), (37, .getfield 10, 3), (40, .getfield 242, 3), (43, .iload 5, 2), (45, .invokevirtual 248, 3), (48, .iinc 6 1, 3), (51, .goto (-39), 3), (54, .aload_n 0, 1), (55, .getfield 46, 3), (58, .iload 4, 2), (60, .invokevirtual 339, 3), (63, .ifCond .ne 7, 3), (66, .iconst 1, 1), (67, .goto 4, 3), (70, .iconst 0, 1), (71, .ireturn, 1)]))
def mf_keepOut : ai_M := ((⟨"FourWaters", "keepOut", "(IIII)I"⟩, prog_1_method_29_code, 10, (Option.some Jvm.ClassFile.FieldType.int)), ("FourWaters", 7, { frames := 3, cells := 0, slots := 0, locals := 71 }, [(0, .aload_n 0, 1), (1, .iload_n 1, 1), (2, .iload_n 2, 1), (3, .iload_n 3, 1), (4, .invokevirtual 235, 3), (7, .ifCond .eq 23, 3), (10, .iload 4, 2), (12, .iconst 0, 1), (13, .iconst 1, 1), (14, .aload_n 0, 1), (15, .getfield 10, 3), (18, .getfield 242, 3), (21, .ishl, 1), (22, .iconst 1, 1), (23, .isub, 1), (24, .invokestatic 100, 3), (27, .ifCond .ne 10, 3), (30, .aload_n 0, 1), (31, .bipush (-2), 2), (33, .invokevirtual 104, 3), (36, .ireturn, 1), (37, .iconst (-1), 1), (38, .istore 5, 2), (40, .iconst 1, 1), (41, .aload_n 0, 1), (42, .getfield 10, 3), (45, .getfield 242, 3), (48, .iconst 1, 1), (49, .isub, 1), (50, .ishl, 1), (51, .istore 6, 2), (53, .iconst 0, 1), (54, .istore 7, 2), (56, .iload 7, 2), (58, .iload 6, 2), (60, .if_icmp .ge 91, 3), (63, .iload 7, 2), (65, .aload_n 0, 1), (66, .getfield 10, 3), (69, .getfield 245, 3), (72, .iand, 1), (73, .ifCond .ne 7, 3), (76, .iconst 1, 1), (77, .goto 4, 3), (80, .iconst 0, 1), (81, .istore 8, 2), (83, .iload 5, 2), (85, .iconst (-1), 1), (86, .if_icmp .eq 16, 3), (89, .iload 7, 2), (91, .invokestatic 253, 3), (94, .iload 5, 2), (96, .invokestatic 253, 3), (99, .if_icmp .ge 7, 3), (102, .iconst 1, 1), (103, .goto 4, 3), (106, .iconst 0, 1), (107, .istore 9, 2), (109, .iload 8, 2), (111, .ifCond .eq 34, 3), (114, .iload 9, 2), (116, .ifCond .eq 29, 3), (119, .aload_n 0, 1), (120, .iload_n 1, 1), (121, .iload_n 2, 1), (122, .iload_n 3, 1), (123, .iload 4, 2), (125, .aload_n 0, 1), (126, .getfield 10, 3), (129, .getfield 245, 3), (132, .iload 7, 2), (134, .ior, 1), (135, .invokevirtual 258, 3), (138, .ifCond .eq 7, 3), (141, .iload 7, 2), (143, .istore 5, 2), (145, .iinc 7 1, 3), (148, .goto (-92), 3), (151, .iload 5, 2), (153, .ireturn, 1)]))
def mm_ones : ai_M := ((⟨"FourWatersModel", "ones", "(I)I"⟩, prog_10_method_6_code, 3, (Option.some Jvm.ClassFile.FieldType.int)), ("FourWatersModel", 8, { frames := 0, cells := 0, slots := 0, locals := 0 }, [(0, .iconst 0, 1), (1, .istore_n 1, 1), (2, .iconst 0, 1), (3, .istore_n 2, 1), (4, .iload_n 2, 1), (5, .bipush 6, 2), (7, .if_icmp .ge 17, 3), (10, .iload_n 1, 1), (11, .iload_n 0, 1), (12, .iload_n 2, 1), (13, .ishr, 1), (14, .iconst 1, 1), (15, .iand, 1), (16, .iadd, 1), (17, .istore_n 1, 1), (18, .iinc 2 1, 3), (21, .goto (-17), 3), (24, .iload_n 1, 1), (25, .ireturn, 1)]))
def mm_keepsOut : ai_M := ((⟨"FourWatersModel", "keepsOut", "(IIIII)Z"⟩, prog_10_method_74_code, 8, (Option.some Jvm.ClassFile.FieldType.boolean)), ("FourWatersModel", 8, { frames := 2, cells := 0, slots := 0, locals := 43 }, [(0, .aload_n 0, 1), (1, .iload_n 1, 1), (2, .iload_n 2, 1), (3, .invokevirtual 261, 3), (6, .iconst 0, 1), (7, .istore 6, 2), (9, .iload 6, 2), (11, .iload_n 3, 1), (12, .if_icmp .gt 57, 3), (15, .iconst 0, 1), (16, .istore 7, 2), (18, .iload 7, 2), (20, .aload_n 0, 1), (21, .getfield 7, 3), (24, .iconst 0, 1), (25, .iaload, 1), (26, .if_icmp .ge 31, 3), (29, .iload 4, 2), (31, .iload 7, 2), (33, .invokestatic 78, 3), (36, .ifCond .eq 15, 3), (39, .aload_n 0, 1), (40, .getfield 33, 3), (43, .iload 7, 2), (45, .iaload, 1), (46, .ifCond .le 5, 3), (49, .iconst 0, 1), (50, .ireturn, 1), (51, .iinc 7 1, 3), (54, .goto (-36), 3), (57, .aload_n 0, 1), (58, .iload 5, 2), (60, .invokevirtual 264, 3), (63, .iinc 6 1, 3), (66, .goto (-57), 3), (69, .iconst 1, 1), (70, .ireturn, 1)]))
def mm_keepOut : ai_M := ((⟨"FourWatersModel", "keepOut", "(IIII)I"⟩, prog_10_method_75_code, 8, (Option.some Jvm.ClassFile.FieldType.int)), ("FourWatersModel", 8, { frames := 3, cells := 0, slots := 0, locals := 70 }, [(0, .aload_n 0, 1), (1, .iload_n 1, 1), (2, .invokevirtual 229, 3), (5, .ifCond .eq 48, 3), (8, .iload_n 2, 1), (9, .i2l, 1), (10, .lconst 0, 1), (11, .ldc2_w 257, 3), (14, .invokestatic 49, 3), (17, .ifCond .eq 36, 3), (20, .iload_n 3, 1), (21, .i2l, 1), (22, .lconst 0, 1), (23, .ldc2_w 259, 3), (26, .invokestatic 49, 3), (29, .ifCond .eq 24, 3), (32, .iload 4, 2), (34, .i2l, 1), (35, .lconst 0, 1), (36, .iconst 1, 1), (37, .aload_n 0, 1), (38, .getfield 7, 3), (41, .iconst 0, 1), (42, .iaload, 1), (43, .ishl, 1), (44, .iconst 1, 1), (45, .isub, 1), (46, .i2l, 1), (47, .invokestatic 49, 3), (50, .ifCond .ne 8, 3), (53, .aload_n 0, 1), (54, .invokevirtual 108, 3), (57, .ireturn, 1), (58, .iconst (-1), 1), (59, .istore 5, 2), (61, .iconst 0, 1), (62, .istore 6, 2), (64, .iload 6, 2), (66, .iconst 1, 1), (67, .aload_n 0, 1), (68, .getfield 7, 3), (71, .iconst 0, 1), (72, .iaload, 1), (73, .iconst 1, 1), (74, .isub, 1), (75, .ishl, 1), (76, .if_icmp .ge 82, 3), (79, .iload 6, 2), (81, .aload_n 0, 1), (82, .getfield 7, 3), (85, .iconst 5, 1), (86, .iaload, 1), (87, .iand, 1), (88, .ifCond .ne 26, 3), (91, .iload 5, 2), (93, .iconst (-1), 1), (94, .if_icmp .eq 16, 3), (97, .iload 6, 2), (99, .invokestatic 267, 3), (102, .iload 5, 2), (104, .invokestatic 267, 3), (107, .if_icmp .ge 7, 3), (110, .iconst 1, 1), (111, .goto 4, 3), (114, .iconst 0, 1), (115, .istore 7, 2), (117, .iload 7, 2), (119, .ifCond .eq 29, 3), (122, .aload_n 0, 1), (123, .iload_n 1, 1), (124, .iload_n 2, 1), (125, .iload_n 3, 1), (126, .iload 4, 2), (128, .aload_n 0, 1), (129, .getfield 7, 3), (132, .iconst 5, 1), (133, .iaload, 1), (134, .iload 6, 2), (136, .ior, 1), (137, .invokevirtual 270, 3), (140, .ifCond .eq 8, 3), (143, .iload 6, 2), (145, .goto 5, 3), (148, .iload 5, 2), (150, .istore 5, 2), (152, .iinc 6 1, 3), (155, .goto (-91), 3), (158, .iload 5, 2), (160, .ireturn, 1)]))
def msea_allThick : ai_M := ((⟨"FourWaters$Sea", "allThick", "(I)I"⟩, prog_4_method_17_code, 4, (Option.some Jvm.ClassFile.FieldType.int)), ("FourWaters$Sea", 2, { frames := 2, cells := 0, slots := 0, locals := 44 }, [(0, .iconst 0, 1), (1, .istore_n 2, 1), (2, .iconst 0, 1), (3, .istore_n 3, 1), (4, .iload_n 3, 1), (5, .iconst 4, 1), (6, .if_icmp .ge 22, 3), (9, .iload_n 2, 1), (10, .aload_n 0, 1), (11, .iload_n 3, 1), (12, .iload_n 1, 1), (13, .aload_n 0, 1), (14, .getfield 15, 3), (17, .invokevirtual 126, 3), (20, .iadd, 1), (21, .istore_n 2, 1), (22, .iinc 3 1, 3), (25, .goto (-21), 3), (28, .iload_n 2, 1), (29, .ireturn, 1)]))
def mf_shaken : ai_M := ((⟨"FourWaters", "shaken", "(III)I"⟩, prog_1_method_30_code, 8, (Option.some Jvm.ClassFile.FieldType.int)), ("FourWaters", 7, { frames := 3, cells := 0, slots := 0, locals := 67 }, [(0, .iload_n 1, 1), (1, .iconst 0, 1), (2, .bipush 99, 2), (4, .invokestatic 100, 3), (7, .ifCond .eq 23, 3), (10, .aload_n 0, 1), (11, .getfield 10, 3), (14, .iload_n 2, 1), (15, .invokevirtual 183, 3), (18, .ifCond .eq 12, 3), (21, .iload_n 3, 1), (22, .iconst 0, 1), (23, .iconst 1, 1), (24, .invokestatic 100, 3), (27, .ifCond .ne 10, 3), (30, .aload_n 0, 1), (31, .bipush (-2), 2), (33, .invokevirtual 104, 3), (36, .ireturn, 1), (37, .iload_n 3, 1), (38, .ifCond .ne 7, 3), (41, .iconst 0, 1), (42, .goto 11, 3), (45, .aload_n 0, 1), (46, .getfield 10, 3), (49, .iload_n 2, 1), (50, .invokevirtual 262, 3), (53, .istore 4, 2), (55, .iconst 0, 1), (56, .istore 5, 2), (58, .iload_n 1, 1), (59, .istore 6, 2), (61, .iconst 0, 1), (62, .istore 7, 2), (64, .iload 7, 2), (66, .iload_n 1, 1), (67, .if_icmp .gt 30, 3), (70, .iload 6, 2), (72, .iload 4, 2), (74, .if_icmp .le 23, 3), (77, .iinc 5 1, 3), (80, .iload 6, 2), (82, .iload 6, 2), (84, .iconst 3, 1), (85, .iadd, 1), (86, .iconst 4, 1), (87, .idiv, 1), (88, .isub, 1), (89, .istore 6, 2), (91, .iinc 7 1, 3), (94, .goto (-30), 3), (97, .iload 5, 2), (99, .ireturn, 1)]))
def mm_shaken : ai_M := ((⟨"FourWatersModel", "shaken", "(III)I"⟩, prog_10_method_76_code, 8, (Option.some Jvm.ClassFile.FieldType.int)), ("FourWatersModel", 8, { frames := 3, cells := 0, slots := 0, locals := 68 }, [(0, .iload_n 1, 1), (1, .i2l, 1), (2, .lconst 0, 1), (3, .ldc2_w 63, 3), (6, .invokestatic 49, 3), (9, .ifCond .eq 21, 3), (12, .aload_n 0, 1), (13, .iload_n 2, 1), (14, .invokevirtual 229, 3), (17, .ifCond .eq 13, 3), (20, .iload_n 3, 1), (21, .i2l, 1), (22, .lconst 0, 1), (23, .lconst 1, 1), (24, .invokestatic 49, 3), (27, .ifCond .ne 8, 3), (30, .aload_n 0, 1), (31, .invokevirtual 108, 3), (34, .ireturn, 1), (35, .iconst 0, 1), (36, .istore 4, 2), (38, .iconst 0, 1), (39, .istore 5, 2), (41, .iload 5, 2), (43, .iconst 4, 1), (44, .if_icmp .ge 27, 3), (47, .iload 4, 2), (49, .aload_n 0, 1), (50, .iload 5, 2), (52, .iload_n 2, 1), (53, .aload_n 0, 1), (54, .getfield 7, 3), (57, .iconst 1, 1), (58, .iaload, 1), (59, .invokevirtual 216, 3), (62, .iadd, 1), (63, .istore 4, 2), (65, .iinc 5 1, 3), (68, .goto (-27), 3), (71, .iconst 0, 1), (72, .istore 5, 2), (74, .iconst 0, 1), (75, .istore 6, 2), (77, .iload_n 1, 1), (78, .istore 7, 2), (80, .iload 7, 2), (82, .ifCond .le 37, 3), (85, .iinc 5 1, 3), (88, .iload 6, 2), (90, .iload 7, 2), (92, .iload 4, 2), (94, .if_icmp .le 7, 3), (97, .iconst 1, 1), (98, .goto 4, 3), (101, .iconst 0, 1), (102, .iadd, 1), (103, .istore 6, 2), (105, .iload 7, 2), (107, .iload 7, 2), (109, .iconst 3, 1), (110, .iadd, 1), (111, .iconst 4, 1), (112, .idiv, 1), (113, .isub, 1), (114, .istore 7, 2), (116, .goto (-36), 3), (119, .iload_n 3, 1), (120, .ifCond .ne 8, 3), (123, .iload 5, 2), (125, .goto 5, 3), (128, .iload 6, 2), (130, .ireturn, 1)]))
def mf_lies : ai_M := ((⟨"FourWaters", "lies", "(IIIII)I"⟩, prog_1_method_31_code, 10, (Option.some Jvm.ClassFile.FieldType.int)), ("FourWaters", 7, { frames := 3, cells := 0, slots := 0, locals := 71 }, [(0, .iload_n 1, 1), (1, .iconst 1, 1), (2, .bipush 9, 2), (4, .invokestatic 100, 3), (7, .ifCond .eq 45, 3), (10, .aload_n 0, 1), (11, .getfield 10, 3), (14, .iload_n 2, 1), (15, .invokevirtual 183, 3), (18, .ifCond .eq 34, 3), (21, .iload_n 3, 1), (22, .iconst 0, 1), (23, .iconst 4, 1), (24, .invokestatic 100, 3), (27, .ifCond .eq 25, 3), (30, .iload 4, 2), (32, .iconst 0, 1), (33, .sipush 999, 3), (36, .invokestatic 100, 3), (39, .ifCond .eq 13, 3), (42, .iload 5, 2), (44, .iconst 0, 1), (45, .iconst 2, 1), (46, .invokestatic 100, 3), (49, .ifCond .ne 10, 3), (52, .aload_n 0, 1), (53, .bipush (-10), 2), (55, .invokevirtual 104, 3), (58, .ireturn, 1), (59, .iconst 0, 1), (60, .istore 6, 2), (62, .iconst (-1), 1), (63, .istore 7, 2), (65, .iconst (-1), 1), (66, .istore 8, 2), (68, .iconst 1, 1), (69, .istore 9, 2), (71, .iload 9, 2), (73, .bipush 99, 2), (75, .if_icmp .gt 71, 3), (78, .aload_n 0, 1), (79, .getfield 39, 3), (82, .iconst 4, 1), (83, .iload 9, 2), (85, .iload_n 1, 1), (86, .iconst 0, 1), (87, .iload 4, 2), (89, .invokevirtual 265, 3), (92, .aload_n 0, 1), (93, .getfield 39, 3), (96, .aload_n 0, 1), (97, .getfield 10, 3), (100, .iload_n 2, 1), (101, .iload 4, 2), (103, .iconst 0, 1), (104, .invokevirtual 269, 3), (107, .aload_n 0, 1), (108, .getfield 39, 3), (111, .getfield 196, 3), (114, .iload_n 3, 1), (115, .if_icmp .ne 25, 3), (118, .iinc 6 1, 3), (121, .iload 7, 2), (123, .iconst (-1), 1), (124, .if_icmp .ne 8, 3), (127, .iload 9, 2), (129, .goto 5, 3), (132, .iload 7, 2), (134, .istore 7, 2), (136, .iload 9, 2), (138, .istore 8, 2), (140, .iinc 9 1, 3), (143, .goto (-72), 3), (146, .iload 5, 2), (148, .ifCond .ne 6, 3), (151, .iload 6, 2), (153, .ireturn, 1), (154, .iload 5, 2), (156, .iconst 1, 1), (157, .if_icmp .ne 8, 3), (160, .iload 7, 2), (162, .goto 5, 3), (165, .iload 8, 2), (167, .ireturn, 1)]))
def mm_lies : ai_M := ((⟨"FourWatersModel", "lies", "(IIIII)I"⟩, prog_10_method_77_code, 10, (Option.some Jvm.ClassFile.FieldType.int)), ("FourWatersModel", 8, { frames := 4, cells := 0, slots := 0, locals := 88 }, [(0, .iload_n 1, 1), (1, .i2l, 1), (2, .lconst 1, 1), (3, .ldc2_w 69, 3), (6, .invokestatic 49, 3), (9, .ifCond .eq 49, 3), (12, .aload_n 0, 1), (13, .iload_n 2, 1), (14, .invokevirtual 229, 3), (17, .ifCond .eq 41, 3), (20, .iload_n 3, 1), (21, .i2l, 1), (22, .lconst 0, 1), (23, .ldc2_w 238, 3), (26, .invokestatic 49, 3), (29, .ifCond .eq 29, 3), (32, .iload 4, 2), (34, .i2l, 1), (35, .lconst 0, 1), (36, .ldc2_w 257, 3), (39, .invokestatic 49, 3), (42, .ifCond .eq 16, 3), (45, .iload 5, 2), (47, .i2l, 1), (48, .lconst 0, 1), (49, .ldc2_w 71, 3), (52, .invokestatic 49, 3), (55, .ifCond .ne 10, 3), (58, .aload_n 0, 1), (59, .bipush (-10), 2), (61, .invokevirtual 97, 3), (64, .ireturn, 1), (65, .aload_n 0, 1), (66, .iconst 4, 1), (67, .putfield 177, 3), (70, .aload_n 0, 1), (71, .iload_n 1, 1), (72, .putfield 183, 3), (75, .aload_n 0, 1), (76, .iconst 0, 1), (77, .putfield 186, 3), (80, .aload_n 0, 1), (81, .iload 4, 2), (83, .putfield 189, 3), (86, .aload_n 0, 1), (87, .iconst 0, 1), (88, .putfield 192, 3), (91, .iconst 0, 1), (92, .istore 6, 2), (94, .iconst (-1), 1), (95, .istore 7, 2), (97, .iconst (-1), 1), (98, .istore 8, 2), (100, .iconst 1, 1), (101, .istore 9, 2), (103, .iload 9, 2), (105, .bipush 100, 2), (107, .if_icmp .ge 50, 3), (110, .aload_n 0, 1), (111, .iload 9, 2), (113, .putfield 180, 3), (116, .aload_n 0, 1), (117, .iload_n 2, 1), (118, .invokevirtual 232, 3), (121, .aload_n 0, 1), (122, .getfield 201, 3), (125, .iload_n 3, 1), (126, .if_icmp .ne 25, 3), (129, .iinc 6 1, 3), (132, .iload 7, 2), (134, .iconst (-1), 1), (135, .if_icmp .ne 8, 3), (138, .iload 9, 2), (140, .goto 5, 3), (143, .iload 7, 2), (145, .istore 7, 2), (147, .iload 9, 2), (149, .istore 8, 2), (151, .iinc 9 1, 3), (154, .goto (-51), 3), (157, .iload 5, 2), (159, .ifCond .ne 8, 3), (162, .iload 6, 2), (164, .goto 16, 3), (167, .iload 5, 2), (169, .iconst 1, 1), (170, .if_icmp .ne 8, 3), (173, .iload 7, 2), (175, .goto 5, 3), (178, .iload 8, 2), (180, .ireturn, 1)]))
def mfall_driftFrom : ai_M := ((⟨"FourWaters$Fall", "driftFrom", "(LFourWaters$Sea;I)I"⟩, prog_2_method_9_code, 6, (Option.some Jvm.ClassFile.FieldType.int)), ("FourWaters$Fall", 0, { frames := 1, cells := 0, slots := 0, locals := 21 }, [(0, .iload_n 2, 1), (1, .istore_n 3, 1), (2, .iconst 0, 1), (3, .istore 4, 2), (5, .iload 4, 2), (7, .iconst 4, 1), (8, .if_icmp .ge 53, 3), (11, .iconst 0, 1), (12, .istore 5, 2), (14, .iload 5, 2), (16, .aload_n 0, 1), (17, .getfield 33, 3), (20, .iload 4, 2), (22, .iaload, 1), (23, .if_icmp .ge 32, 3), (26, .iconst 0, 1), (27, .aload_n 1, 1), (28, .getfield 78, 3), (31, .iconst 1, 1), (32, .isub, 1), (33, .iload_n 3, 1), (34, .aload_n 1, 1), (35, .getfield 81, 3), (38, .iload 4, 2), (40, .iaload, 1), (41, .iadd, 1), (42, .invokestatic 49, 3), (45, .invokestatic 84, 3), (48, .istore_n 3, 1), (49, .iinc 5 1, 3), (52, .goto (-38), 3), (55, .iinc 4 1, 3), (58, .goto (-53), 3), (61, .iload_n 3, 1), (62, .ireturn, 1)]))
def mf_wentIn : ai_M := ((⟨"FourWaters", "wentIn", "(II)I"⟩, prog_1_method_32_code, 5, (Option.some Jvm.ClassFile.FieldType.int)), ("FourWaters", 7, { frames := 6, cells := 0, slots := 0, locals := 137 }, [(0, .aload_n 0, 1), (1, .getfield 10, 3), (4, .getfield 113, 3), (7, .iload_n 1, 1), (8, .invokevirtual 122, 3), (11, .ifCond .eq 14, 3), (14, .aload_n 0, 1), (15, .getfield 10, 3), (18, .iload_n 2, 1), (19, .invokevirtual 183, 3), (22, .ifCond .ne 10, 3), (25, .aload_n 0, 1), (26, .bipush (-2), 2), (28, .invokevirtual 104, 3), (31, .ireturn, 1), (32, .iconst 0, 1), (33, .istore_n 3, 1), (34, .iconst 0, 1), (35, .istore 4, 2), (37, .iload 4, 2), (39, .aload_n 0, 1), (40, .getfield 10, 3), (43, .getfield 242, 3), (46, .if_icmp .ge 41, 3), (49, .aload_n 0, 1), (50, .iload_n 1, 1), (51, .iload 4, 2), (53, .iconst 0, 1), (54, .invokevirtual 192, 3), (57, .aload_n 0, 1), (58, .getfield 39, 3), (61, .aload_n 0, 1), (62, .getfield 10, 3), (65, .iload 4, 2), (67, .invokevirtual 273, 3), (70, .iload_n 2, 1), (71, .if_icmp .ne 10, 3), (74, .iload_n 3, 1), (75, .iconst 1, 1), (76, .iload 4, 2), (78, .ishl, 1), (79, .ior, 1), (80, .istore_n 3, 1), (81, .iinc 4 1, 3), (84, .goto (-47), 3), (87, .iload_n 3, 1), (88, .ireturn, 1)]))
def mm_driftsTo : ai_M := ((⟨"FourWatersModel", "driftsTo", "(I)I"⟩, prog_10_method_78_code, 6, (Option.some Jvm.ClassFile.FieldType.int)), ("FourWatersModel", 8, { frames := 4, cells := 0, slots := 0, locals := 88 }, [(0, .aload_n 0, 1), (1, .iload_n 1, 1), (2, .invokevirtual 232, 3), (5, .iload_n 1, 1), (6, .istore_n 2, 1), (7, .iconst 0, 1), (8, .istore_n 3, 1), (9, .iload_n 3, 1), (10, .iconst 4, 1), (11, .if_icmp .ge 86, 3), (14, .aload_n 0, 1), (15, .getfield 210, 3), (18, .iload_n 3, 1), (19, .invokestatic 78, 3), (22, .ifCond .eq 16, 3), (25, .aload_n 0, 1), (26, .iload_n 3, 1), (27, .iload_n 1, 1), (28, .aload_n 0, 1), (29, .getfield 189, 3), (32, .invokevirtual 216, 3), (35, .goto 4, 3), (38, .iconst 0, 1), (39, .istore 4, 2), (41, .iconst 0, 1), (42, .istore 5, 2), (44, .iload 5, 2), (46, .iload 4, 2), (48, .if_icmp .ge 43, 3), (51, .aload_n 0, 1), (52, .iload_n 2, 1), (53, .aload_n 0, 1), (54, .getfield 7, 3), (57, .bipush 12, 2), (59, .iload_n 3, 1), (60, .iadd, 1), (61, .iaload, 1), (62, .iadd, 1), (63, .invokevirtual 229, 3), (66, .ifCond .eq 17, 3), (69, .iload_n 2, 1), (70, .aload_n 0, 1), (71, .getfield 7, 3), (74, .bipush 12, 2), (76, .iload_n 3, 1), (77, .iadd, 1), (78, .iaload, 1), (79, .iadd, 1), (80, .goto 4, 3), (83, .iload_n 2, 1), (84, .istore_n 2, 1), (85, .iinc 5 1, 3), (88, .goto (-44), 3), (91, .iinc 3 1, 3), (94, .goto (-85), 3), (97, .iload_n 2, 1), (98, .ireturn, 1)]))
def mm_wentIn : ai_M := ((⟨"FourWatersModel", "wentIn", "(II)I"⟩, prog_10_method_79_code, 5, (Option.some Jvm.ClassFile.FieldType.int)), ("FourWatersModel", 8, { frames := 5, cells := 0, slots := 0, locals := 113 }, [(0, .aload_n 0, 1), (1, .iload_n 1, 1), (2, .invokevirtual 105, 3), (5, .ifCond .eq 11, 3), (8, .aload_n 0, 1), (9, .iload_n 2, 1), (10, .invokevirtual 229, 3), (13, .ifCond .ne 8, 3), (16, .aload_n 0, 1), (17, .invokevirtual 108, 3), (20, .ireturn, 1), (21, .aload_n 0, 1), (22, .iload_n 1, 1), (23, .invokevirtual 225, 3), (26, .iconst 0, 1), (27, .istore_n 3, 1), (28, .iconst 0, 1), (29, .istore 4, 2), (31, .iload 4, 2), (33, .aload_n 0, 1), (34, .getfield 7, 3), (37, .iconst 0, 1), (38, .iaload, 1), (39, .if_icmp .ge 30, 3), (42, .iload_n 3, 1), (43, .aload_n 0, 1), (44, .iload 4, 2), (46, .invokevirtual 273, 3), (49, .iload_n 2, 1), (50, .if_icmp .ne 10, 3), (53, .iconst 1, 1), (54, .iload 4, 2), (56, .ishl, 1), (57, .goto 4, 3), (60, .iconst 0, 1), (61, .ior, 1), (62, .istore_n 3, 1), (63, .iinc 4 1, 3), (66, .goto (-35), 3), (69, .iload_n 3, 1), (70, .ireturn, 1)]))
def mf_areFish : ai_M := ((⟨"FourWaters", "areFish", "(I)Z"⟩, prog_1_method_49_code, 3, (Option.some Jvm.ClassFile.FieldType.boolean)), ("FourWaters", 7, { frames := 1, cells := 0, slots := 0, locals := 22 }, [(0, .iload_n 1, 1), (1, .iconst 0, 1), (2, .iconst 1, 1), (3, .aload_n 0, 1), (4, .getfield 10, 3), (7, .getfield 113, 3), (10, .getfield 327, 3), (13, .ishl, 1), (14, .iconst 1, 1), (15, .isub, 1), (16, .invokestatic 100, 3), (19, .ifCond .ne 5, 3), (22, .iconst 0, 1), (23, .ireturn, 1), (24, .iconst 0, 1), (25, .istore_n 2, 1), (26, .iload_n 2, 1), (27, .aload_n 0, 1), (28, .getfield 10, 3), (31, .getfield 113, 3), (34, .getfield 327, 3), (37, .if_icmp .ge 36, 3), (40, .iload_n 1, 1), (41, .iload_n 2, 1), (42, .ishr, 1), (43, .iconst 1, 1), (44, .iand, 1), (45, .iconst 1, 1), (46, .if_icmp .ne 21, 3), (49, .aload_n 0, 1), (50, .getfield 10, 3), (53, .getfield 113, 3), (56, .getfield 170, 3), (59, .iload_n 2, 1), (60, .iaload, 1), (61, .iconst 5, 1), (62, .if_icmp .eq 5, 3), (65, .iconst 0, 1), (66, .ireturn, 1), (67, .iinc 2 1, 3), (70, .goto (-44), 3), (73, .iconst 1, 1), (74, .ireturn, 1)]))
def mf_fillDowns : ai_M := ((⟨"FourWaters", "fillDowns", "(I)V"⟩, prog_1_method_57_code, 3, (Option.none : Option Jvm.ClassFile.FieldType)), ("FourWaters", 7, { frames := 6, cells := 0, slots := 0, locals := 137 }, [(0, .iconst 0, 1), (1, .istore_n 2, 1), (2, .iload_n 2, 1), (3, .aload_n 0, 1), (4, .getfield 10, 3), (7, .getfield 113, 3), (10, .getfield 327, 3), (13, .if_icmp .ge 52, 3), (16, .aload_n 0, 1), (17, .getfield 57, 3), (20, .iload_n 2, 1), (21, .iconst (-1), 1), (22, .iastore, 1), (23, .aload_n 0, 1), (24, .getfield 10, 3), (27, .getfield 113, 3), (30, .getfield 170, 3), (33, .iload_n 2, 1), (34, .iaload, 1), (35, .iconst 5, 1), (36, .if_icmp .ne 23, 3), (39, .aload_n 0, 1), (40, .iload_n 2, 1), (41, .iload_n 1, 1), (42, .iconst 0, 1), (43, .invokevirtual 192, 3), (46, .aload_n 0, 1), (47, .getfield 57, 3), (50, .iload_n 2, 1), (51, .aload_n 0, 1), (52, .getfield 39, 3), (55, .getfield 199, 3), (58, .iastore, 1), (59, .iinc 2 1, 3), (62, .goto (-60), 3), (65, .return_, 1)]))
def mf_caught : ai_M := ((⟨"FourWaters", "caught", "(II)I"⟩, prog_1_method_58_code, 5, (Option.some Jvm.ClassFile.FieldType.int)), ("FourWaters", 7, { frames := 1, cells := 0, slots := 0, locals := 22 }, [(0, .iconst 0, 1), (1, .istore_n 3, 1), (2, .iconst 0, 1), (3, .istore 4, 2), (5, .iload 4, 2), (7, .aload_n 0, 1), (8, .getfield 10, 3), (11, .getfield 113, 3), (14, .getfield 327, 3), (17, .if_icmp .ge 31, 3), (20, .aload_n 0, 1), (21, .getfield 57, 3), (24, .iload 4, 2), (26, .iaload, 1), (27, .iload_n 1, 1), (28, .iload_n 2, 1), (29, .invokestatic 100, 3), (32, .ifCond .eq 10, 3), (35, .iload_n 3, 1), (36, .iconst 1, 1), (37, .iload 4, 2), (39, .ishl, 1), (40, .ior, 1), (41, .istore_n 3, 1), (42, .iinc 4 1, 3), (45, .goto (-40), 3), (48, .iload_n 3, 1), (49, .ireturn, 1)]))
def mf_nets : ai_M := ((⟨"FourWaters", "nets", "(III)I"⟩, prog_1_method_33_code, 8, (Option.some Jvm.ClassFile.FieldType.int)), ("FourWaters", 7, { frames := 7, cells := 0, slots := 0, locals := 159 }, [(0, .aload_n 0, 1), (1, .getfield 10, 3), (4, .iload_n 1, 1), (5, .invokevirtual 183, 3), (8, .ifCond .eq 20, 3), (11, .aload_n 0, 1), (12, .iload_n 2, 1), (13, .invokevirtual 277, 3), (16, .ifCond .eq 12, 3), (19, .iload_n 3, 1), (20, .iconst 0, 1), (21, .iconst 1, 1), (22, .invokestatic 100, 3), (25, .ifCond .ne 10, 3), (28, .aload_n 0, 1), (29, .bipush (-10), 2), (31, .invokevirtual 104, 3), (34, .ireturn, 1), (35, .aload_n 0, 1), (36, .iload_n 1, 1), (37, .invokevirtual 280, 3), (40, .iconst 0, 1), (41, .istore 4, 2), (43, .iconst (-1), 1), (44, .istore 5, 2), (46, .iconst 0, 1), (47, .istore 6, 2), (49, .iload 6, 2), (51, .bipush 60, 2), (53, .if_icmp .gt 62, 3), (56, .iload 6, 2), (58, .istore 7, 2), (60, .iload 7, 2), (62, .bipush 60, 2), (64, .if_icmp .gt 45, 3), (67, .aload_n 0, 1), (68, .iload 6, 2), (70, .iload 7, 2), (72, .invokevirtual 283, 3), (75, .iload_n 2, 1), (76, .if_icmp .ne 27, 3), (79, .iinc 4 1, 3), (82, .iload 5, 2), (84, .iconst (-1), 1), (85, .if_icmp .ne 14, 3), (88, .bipush 100, 2), (90, .iload 6, 2), (92, .imul, 1), (93, .iload 7, 2), (95, .iadd, 1), (96, .goto 5, 3), (99, .iload 5, 2), (101, .istore 5, 2), (103, .iinc 7 1, 3), (106, .goto (-46), 3), (109, .iinc 6 1, 3), (112, .goto (-63), 3), (115, .iload_n 3, 1), (116, .ifCond .ne 8, 3), (119, .iload 4, 2), (121, .goto 5, 3), (124, .iload 5, 2), (126, .ireturn, 1)]))
def mm_nets : ai_M := ((⟨"FourWatersModel", "nets", "(III)I"⟩, prog_10_method_80_code, 11, (Option.some Jvm.ClassFile.FieldType.int)), ("FourWatersModel", 8, { frames := 4, cells := 0, slots := 0, locals := 88 }, [(0, .aload_n 0, 1), (1, .iload_n 1, 1), (2, .invokevirtual 229, 3), (5, .ifCond .eq 33, 3), (8, .iload_n 2, 1), (9, .i2l, 1), (10, .lconst 0, 1), (11, .iconst 1, 1), (12, .aload_n 0, 1), (13, .getfield 7, 3), (16, .iconst 2, 1), (17, .iaload, 1), (18, .ishl, 1), (19, .iconst 1, 1), (20, .isub, 1), (21, .i2l, 1), (22, .invokestatic 49, 3), (25, .ifCond .eq 13, 3), (28, .iload_n 3, 1), (29, .i2l, 1), (30, .lconst 0, 1), (31, .lconst 1, 1), (32, .invokestatic 49, 3), (35, .ifCond .ne 10, 3), (38, .aload_n 0, 1), (39, .bipush (-10), 2), (41, .invokevirtual 97, 3), (44, .ireturn, 1), (45, .iconst 0, 1), (46, .istore 4, 2), (48, .iload 4, 2), (50, .aload_n 0, 1), (51, .getfield 7, 3), (54, .iconst 2, 1), (55, .iaload, 1), (56, .if_icmp .ge 39, 3), (59, .iload_n 2, 1), (60, .iload 4, 2), (62, .invokestatic 78, 3), (65, .ifCond .eq 24, 3), (68, .aload_n 0, 1), (69, .getfield 7, 3), (72, .bipush 67, 2), (74, .iload 4, 2), (76, .iadd, 1), (77, .iaload, 1), (78, .iconst 5, 1), (79, .if_icmp .eq 10, 3), (82, .aload_n 0, 1), (83, .bipush (-10), 2), (85, .invokevirtual 97, 3), (88, .ireturn, 1), (89, .iinc 4 1, 3), (92, .goto (-44), 3), (95, .iconst 0, 1), (96, .istore 4, 2), (98, .iconst (-1), 1), (99, .istore 5, 2), (101, .iconst 0, 1), (102, .istore 6, 2), (104, .iload 6, 2), (106, .sipush 3721, 3), (109, .if_icmp .ge 157, 3), (112, .iload 6, 2), (114, .bipush 61, 2), (116, .idiv, 1), (117, .istore 7, 2), (119, .iload 6, 2), (121, .bipush 61, 2), (123, .irem, 1), (124, .istore 8, 2), (126, .iload 7, 2), (128, .iload 8, 2), (130, .if_icmp .gt 7, 3), (133, .iconst 1, 1), (134, .goto 4, 3), (137, .iconst 0, 1), (138, .istore 9, 2), (140, .iconst 0, 1), (141, .istore 10, 2), (143, .iload 10, 2), (145, .aload_n 0, 1), (146, .getfield 7, 3), (149, .iconst 2, 1), (150, .iaload, 1), (151, .if_icmp .ge 69, 3), (154, .iload 9, 2), (156, .ifCond .eq 64, 3), (159, .aload_n 0, 1), (160, .getfield 7, 3), (163, .bipush 67, 2), (165, .iload 10, 2), (167, .iadd, 1), (168, .iaload, 1), (169, .iconst 5, 1), (170, .if_icmp .ne 44, 3), (173, .aload_n 0, 1), (174, .iload 10, 2), (176, .invokevirtual 225, 3), (179, .aload_n 0, 1), (180, .iload_n 1, 1), (181, .invokevirtual 232, 3), (184, .aload_n 0, 1), (185, .getfield 204, 3), (188, .i2l, 1), (189, .iload 7, 2), (191, .i2l, 1), (192, .iload 8, 2), (194, .i2l, 1), (195, .invokestatic 49, 3), (198, .iload_n 2, 1), (199, .iload 10, 2), (201, .invokestatic 78, 3), (204, .if_icmp .ne 7, 3), (207, .iconst 1, 1), (208, .goto 4, 3), (211, .iconst 0, 1), (212, .istore 9, 2), (214, .iinc 10 1, 3), (217, .goto (-74), 3), (220, .iload 9, 2), (222, .ifCond .eq 19, 3), (225, .iload 4, 2), (227, .ifCond .ne 14, 3), (230, .bipush 100, 2), (232, .iload 7, 2), (234, .imul, 1), (235, .iload 8, 2), (237, .iadd, 1), (238, .goto 5, 3), (241, .iload 5, 2), (243, .istore 5, 2), (245, .iload 4, 2), (247, .iload 9, 2), (249, .ifCond .eq 7, 3), (252, .iconst 1, 1), (253, .goto 4, 3), (256, .iconst 0, 1), (257, .iadd, 1), (258, .istore 4, 2), (260, .iinc 6 1, 3), (263, .goto (-159), 3), (266, .iload_n 3, 1), (267, .ifCond .ne 8, 3), (270, .iload 4, 2), (272, .goto 5, 3), (275, .iload 5, 2), (277, .ireturn, 1)]))
def msea_sweetInAll : ai_M := ((⟨"FourWaters$Sea", "sweetInAll", "()I"⟩, prog_4_method_18_code, 3, (Option.some Jvm.ClassFile.FieldType.int)), ("FourWaters$Sea", 2, { frames := 2, cells := 0, slots := 0, locals := 44 }, [(0, .iconst 0, 1), (1, .istore_n 1, 1), (2, .iconst 0, 1), (3, .istore_n 2, 1), (4, .iload_n 2, 1), (5, .aload_n 0, 1), (6, .getfield 9, 3), (9, .if_icmp .ge 22, 3), (12, .iload_n 1, 1), (13, .aload_n 0, 1), (14, .iconst 0, 1), (15, .iload_n 2, 1), (16, .aload_n 0, 1), (17, .getfield 15, 3), (20, .invokevirtual 126, 3), (23, .iadd, 1), (24, .istore_n 1, 1), (25, .iinc 2 1, 3), (28, .goto (-24), 3), (31, .iload_n 1, 1), (32, .ireturn, 1)]))
def mf_tapped : ai_M := ((⟨"FourWaters", "tapped", "(III)I"⟩, prog_1_method_59_code, 3, (Option.some Jvm.ClassFile.FieldType.int)), ("FourWaters", 7, { frames := 1, cells := 0, slots := 0, locals := 21 }, [(0, .iload_n 0, 1), (1, .iconst 2, 1), (2, .iconst 0, 1), (3, .iload_n 0, 1), (4, .iload_n 1, 1), (5, .iadd, 1), (6, .iload_n 2, 1), (7, .isub, 1), (8, .invokestatic 342, 3), (11, .imul, 1), (12, .isub, 1), (13, .ireturn, 1)]))
def mf_isBestTap : ai_M := ((⟨"FourWaters", "isBestTap", "(III)Z"⟩, prog_1_method_60_code, 5, (Option.some Jvm.ClassFile.FieldType.boolean)), ("FourWaters", 7, { frames := 2, cells := 0, slots := 0, locals := 43 }, [(0, .iload_n 0, 1), (1, .iload_n 1, 1), (2, .iload_n 2, 1), (3, .invokestatic 347, 3), (6, .istore_n 3, 1), (7, .iconst 0, 1), (8, .istore 4, 2), (10, .iload 4, 2), (12, .bipush 9, 2), (14, .if_icmp .gt 22, 3), (17, .iload 4, 2), (19, .iload_n 1, 1), (20, .iload_n 2, 1), (21, .invokestatic 347, 3), (24, .iload_n 3, 1), (25, .if_icmp .le 5, 3), (28, .iconst 0, 1), (29, .ireturn, 1), (30, .iinc 4 1, 3), (33, .goto (-23), 3), (36, .iconst 1, 1), (37, .ireturn, 1)]))
def mf_tap : ai_M := ((⟨"FourWaters", "tap", "(I)I"⟩, prog_1_method_34_code, 7, (Option.some Jvm.ClassFile.FieldType.int)), ("FourWaters", 7, { frames := 3, cells := 0, slots := 0, locals := 67 }, [(0, .iload_n 1, 1), (1, .iconst 0, 1), (2, .iconst 1, 1), (3, .invokestatic 100, 3), (6, .ifCond .ne 10, 3), (9, .aload_n 0, 1), (10, .bipush (-10), 2), (12, .invokevirtual 104, 3), (15, .ireturn, 1), (16, .aload_n 0, 1), (17, .getfield 10, 3), (20, .invokevirtual 286, 3), (23, .istore_n 2, 1), (24, .iconst 0, 1), (25, .istore_n 3, 1), (26, .iconst (-1), 1), (27, .istore 4, 2), (29, .iconst 0, 1), (30, .istore 5, 2), (32, .iload 5, 2), (34, .bipush 9, 2), (36, .if_icmp .gt 71, 3), (39, .iconst 0, 1), (40, .istore 6, 2), (42, .iload 6, 2), (44, .bipush 9, 2), (46, .if_icmp .gt 55, 3), (49, .iload 5, 2), (51, .iload 6, 2), (53, .iload_n 2, 1), (54, .invokestatic 289, 3), (57, .ifCond .eq 38, 3), (60, .iload 6, 2), (62, .iload 5, 2), (64, .iload_n 2, 1), (65, .invokestatic 289, 3), (68, .ifCond .eq 27, 3), (71, .iinc 3 1, 3), (74, .iload 4, 2), (76, .iconst (-1), 1), (77, .if_icmp .ne 14, 3), (80, .bipush 10, 2), (82, .iload 5, 2), (84, .imul, 1), (85, .iload 6, 2), (87, .iadd, 1), (88, .goto 5, 3), (91, .iload 4, 2), (93, .istore 4, 2), (95, .iinc 6 1, 3), (98, .goto (-56), 3), (101, .iinc 5 1, 3), (104, .goto (-72), 3), (107, .iload_n 1, 1), (108, .ifCond .ne 7, 3), (111, .iload_n 3, 1), (112, .goto 5, 3), (115, .iload 4, 2), (117, .ireturn, 1)]))
def mm_tapped : ai_M := ((⟨"FourWatersModel", "tapped", "(III)I"⟩, prog_10_method_81_code, 4, (Option.some Jvm.ClassFile.FieldType.int)), ("FourWatersModel", 8, { frames := 0, cells := 0, slots := 0, locals := 0 }, [(0, .iload_n 1, 1), (1, .iconst 2, 1), (2, .iload_n 1, 1), (3, .iload_n 2, 1), (4, .iadd, 1), (5, .iload_n 3, 1), (6, .if_icmp .le 11, 3), (9, .iload_n 1, 1), (10, .iload_n 2, 1), (11, .iadd, 1), (12, .iload_n 3, 1), (13, .isub, 1), (14, .goto 4, 3), (17, .iconst 0, 1), (18, .imul, 1), (19, .isub, 1), (20, .ireturn, 1)]))
def mm_tap : ai_M := ((⟨"FourWatersModel", "tap", "(I)I"⟩, prog_10_method_82_code, 9, (Option.some Jvm.ClassFile.FieldType.int)), ("FourWatersModel", 8, { frames := 1, cells := 0, slots := 0, locals := 25 }, [(0, .iload_n 1, 1), (1, .i2l, 1), (2, .lconst 0, 1), (3, .lconst 1, 1), (4, .invokestatic 49, 3), (7, .ifCond .ne 10, 3), (10, .aload_n 0, 1), (11, .bipush (-10), 2), (13, .invokevirtual 97, 3), (16, .ireturn, 1), (17, .iconst 0, 1), (18, .istore_n 2, 1), (19, .iconst 0, 1), (20, .istore_n 3, 1), (21, .iload_n 3, 1), (22, .aload_n 0, 1), (23, .getfield 7, 3), (26, .iconst 0, 1), (27, .iaload, 1), (28, .if_icmp .ge 24, 3), (31, .iload_n 2, 1), (32, .aload_n 0, 1), (33, .iconst 0, 1), (34, .iload_n 3, 1), (35, .aload_n 0, 1), (36, .getfield 7, 3), (39, .iconst 1, 1), (40, .iaload, 1), (41, .invokevirtual 216, 3), (44, .iadd, 1), (45, .istore_n 2, 1), (46, .iinc 3 1, 3), (49, .goto (-28), 3), (52, .iconst 0, 1), (53, .istore_n 3, 1), (54, .iconst (-1), 1), (55, .istore 4, 2), (57, .iconst 0, 1), (58, .istore 5, 2), (60, .iload 5, 2), (62, .bipush 10, 2), (64, .if_icmp .ge 135, 3), (67, .iconst 0, 1), (68, .istore 6, 2), (70, .iload 6, 2), (72, .bipush 10, 2), (74, .if_icmp .ge 119, 3), (77, .iconst 1, 1), (78, .istore 7, 2), (80, .iconst 0, 1), (81, .istore 8, 2), (83, .iload 8, 2), (85, .bipush 10, 2), (87, .if_icmp .ge 63, 3), (90, .iload 7, 2), (92, .ifCond .eq 49, 3), (95, .aload_n 0, 1), (96, .iload 8, 2), (98, .iload 6, 2), (100, .iload_n 2, 1), (101, .invokevirtual 276, 3), (104, .aload_n 0, 1), (105, .iload 5, 2), (107, .iload 6, 2), (109, .iload_n 2, 1), (110, .invokevirtual 276, 3), (113, .if_icmp .gt 28, 3), (116, .aload_n 0, 1), (117, .iload 8, 2), (119, .iload 5, 2), (121, .iload_n 2, 1), (122, .invokevirtual 276, 3), (125, .aload_n 0, 1), (126, .iload 6, 2), (128, .iload 5, 2), (130, .iload_n 2, 1), (131, .invokevirtual 276, 3), (134, .if_icmp .gt 7, 3), (137, .iconst 1, 1), (138, .goto 4, 3), (141, .iconst 0, 1), (142, .istore 7, 2), (144, .iinc 8 1, 3), (147, .goto (-64), 3), (150, .iload 7, 2), (152, .ifCond .eq 18, 3), (155, .iload_n 3, 1), (156, .ifCond .ne 14, 3), (159, .bipush 10, 2), (161, .iload 5, 2), (163, .imul, 1), (164, .iload 6, 2), (166, .iadd, 1), (167, .goto 5, 3), (170, .iload 4, 2), (172, .istore 4, 2), (174, .iload_n 3, 1), (175, .iload 7, 2), (177, .ifCond .eq 7, 3), (180, .iconst 1, 1), (181, .goto 4, 3), (184, .iconst 0, 1), (185, .iadd, 1), (186, .istore_n 3, 1), (187, .iinc 6 1, 3), (190, .goto (-120), 3), (193, .iinc 5 1, 3), (196, .goto (-136), 3), (199, .iload_n 1, 1), (200, .ifCond .ne 7, 3), (203, .iload_n 3, 1), (204, .goto 5, 3), (207, .iload 4, 2), (209, .ireturn, 1)]))
def msea_fitsDrops : ai_M := ((⟨"FourWaters$Sea", "fitsDrops", "(II)Z"⟩, prog_4_method_21_code, 5, (Option.some Jvm.ClassFile.FieldType.boolean)), ("FourWaters$Sea", 2, { frames := 0, cells := 0, slots := 0, locals := 0 }, [(0, .iconst 0, 1), (1, .istore_n 3, 1), (2, .iload_n 3, 1), (3, .aload_n 0, 1), (4, .getfield 57, 3), (7, .if_icmp .ge 55, 3), (10, .iload_n 2, 1), (11, .iload_n 1, 1), (12, .aload_n 0, 1), (13, .getfield 21, 3), (16, .aload_n 0, 1), (17, .getfield 60, 3), (20, .iload_n 3, 1), (21, .iaload, 1), (22, .iaload, 1), (23, .imul, 1), (24, .if_icmp .gt 7, 3), (27, .iconst 1, 1), (28, .goto 4, 3), (31, .iconst 0, 1), (32, .istore 4, 2), (34, .iload 4, 2), (36, .aload_n 0, 1), (37, .getfield 63, 3), (40, .iload_n 3, 1), (41, .iaload, 1), (42, .iconst 1, 1), (43, .if_icmp .ne 7, 3), (46, .iconst 1, 1), (47, .goto 4, 3), (50, .iconst 0, 1), (51, .if_icmp .eq 5, 3), (54, .iconst 0, 1), (55, .ireturn, 1), (56, .iinc 3 1, 3), (59, .goto (-57), 3), (62, .iconst 1, 1), (63, .ireturn, 1)]))
def mf_nextToTry : ai_M := ((⟨"FourWaters", "nextToTry", "(II)I"⟩, prog_1_method_61_code, 8, (Option.some Jvm.ClassFile.FieldType.int)), ("FourWaters", 7, { frames := 1, cells := 0, slots := 0, locals := 24 }, [(0, .iconst (-1), 1), (1, .istore_n 3, 1), (2, .iload_n 2, 1), (3, .iconst 1, 1), (4, .iadd, 1), (5, .istore 4, 2), (7, .iconst 0, 1), (8, .istore 5, 2), (10, .iload 5, 2), (12, .iconst 4, 1), (13, .if_icmp .ge 86, 3), (16, .iconst 0, 1), (17, .istore 6, 2), (19, .iconst 1, 1), (20, .istore 7, 2), (22, .iload 7, 2), (24, .bipush 99, 2), (26, .if_icmp .gt 42, 3), (29, .aload_n 0, 1), (30, .getfield 10, 3), (33, .iload_n 1, 1), (34, .iload 7, 2), (36, .invokevirtual 292, 3), (39, .ifCond .eq 23, 3), (42, .iload 7, 2), (44, .iload_n 1, 1), (45, .aload_n 0, 1), (46, .getfield 10, 3), (49, .getfield 350, 3), (52, .iload 5, 2), (54, .iaload, 1), (55, .imul, 1), (56, .if_icmp .gt 6, 3), (59, .iinc 6 1, 3), (62, .iinc 7 1, 3), (65, .goto (-43), 3), (68, .iload 6, 2), (70, .iload_n 2, 1), (71, .iload 6, 2), (73, .isub, 1), (74, .invokestatic 342, 3), (77, .istore 7, 2), (79, .iload 7, 2), (81, .iload 4, 2), (83, .if_icmp .ge 10, 3), (86, .iload 7, 2), (88, .istore 4, 2), (90, .iload 5, 2), (92, .istore_n 3, 1), (93, .iinc 5 1, 3), (96, .goto (-86), 3), (99, .iload_n 3, 1), (100, .ireturn, 1)]))
def mf_known : ai_M := ((⟨"FourWaters", "known", "(II)I"⟩, prog_1_method_35_code, 5, (Option.some Jvm.ClassFile.FieldType.int)), ("FourWaters", 7, { frames := 2, cells := 0, slots := 0, locals := 51 }, [(0, .iload_n 1, 1), (1, .iconst 1, 1), (2, .bipush 9, 2), (4, .invokestatic 100, 3), (7, .ifCond .eq 12, 3), (10, .iload_n 2, 1), (11, .iconst 0, 1), (12, .iconst 1, 1), (13, .invokestatic 100, 3), (16, .ifCond .ne 10, 3), (19, .aload_n 0, 1), (20, .bipush (-10), 2), (22, .invokevirtual 104, 3), (25, .ireturn, 1), (26, .iconst 0, 1), (27, .istore_n 3, 1), (28, .iconst 1, 1), (29, .istore 4, 2), (31, .iload 4, 2), (33, .bipush 99, 2), (35, .if_icmp .gt 25, 3), (38, .aload_n 0, 1), (39, .getfield 10, 3), (42, .iload_n 1, 1), (43, .iload 4, 2), (45, .invokevirtual 292, 3), (48, .ifCond .eq 6, 3), (51, .iinc 3 1, 3), (54, .iinc 4 1, 3), (57, .goto (-26), 3), (60, .iload_n 2, 1), (61, .ifCond .ne 5, 3), (64, .iload_n 3, 1), (65, .ireturn, 1), (66, .iload_n 3, 1), (67, .ifCond .ne 7, 3), (70, .iconst (-1), 1), (71, .goto 9, 3), (74, .aload_n 0, 1), (75, .iload_n 1, 1), (76, .iload_n 3, 1), (77, .invokevirtual 296, 3), (80, .ireturn, 1)]))
def mm_fits : ai_M := ((⟨"FourWatersModel", "fits", "(II)Z"⟩, prog_10_method_83_code, 5, (Option.some Jvm.ClassFile.FieldType.boolean)), ("FourWatersModel", 8, { frames := 0, cells := 0, slots := 0, locals := 0 }, [(0, .iconst 1, 1), (1, .istore_n 3, 1), (2, .iconst 0, 1), (3, .istore 4, 2), (5, .iload 4, 2), (7, .aload_n 0, 1), (8, .getfield 7, 3), (11, .bipush 6, 2), (13, .iaload, 1), (14, .if_icmp .ge 71, 3), (17, .iload_n 3, 1), (18, .ifCond .eq 59, 3), (21, .iload_n 1, 1), (22, .iload_n 2, 1), (23, .aload_n 0, 1), (24, .getfield 7, 3), (27, .bipush 8, 2), (29, .aload_n 0, 1), (30, .getfield 7, 3), (33, .bipush 127, 2), (35, .iload 4, 2), (37, .iadd, 1), (38, .iaload, 1), (39, .iadd, 1), (40, .iaload, 1), (41, .imul, 1), (42, .if_icmp .gt 7, 3), (45, .iconst 1, 1), (46, .goto 4, 3), (49, .iconst 0, 1), (50, .aload_n 0, 1), (51, .getfield 7, 3), (54, .sipush 133, 3), (57, .iload 4, 2), (59, .iadd, 1), (60, .iaload, 1), (61, .iconst 1, 1), (62, .if_icmp .ne 7, 3), (65, .iconst 1, 1), (66, .goto 4, 3), (69, .iconst 0, 1), (70, .if_icmp .ne 7, 3), (73, .iconst 1, 1), (74, .goto 4, 3), (77, .iconst 0, 1), (78, .istore_n 3, 1), (79, .iinc 4 1, 3), (82, .goto (-77), 3), (85, .iload_n 3, 1), (86, .ireturn, 1)]))
def mm_known : ai_M := ((⟨"FourWatersModel", "known", "(II)I"⟩, prog_10_method_84_code, 9, (Option.some Jvm.ClassFile.FieldType.int)), ("FourWatersModel", 8, { frames := 1, cells := 0, slots := 0, locals := 25 }, [(0, .iload_n 1, 1), (1, .i2l, 1), (2, .lconst 1, 1), (3, .ldc2_w 69, 3), (6, .invokestatic 49, 3), (9, .ifCond .eq 13, 3), (12, .iload_n 2, 1), (13, .i2l, 1), (14, .lconst 0, 1), (15, .lconst 1, 1), (16, .invokestatic 49, 3), (19, .ifCond .ne 10, 3), (22, .aload_n 0, 1), (23, .bipush (-10), 2), (25, .invokevirtual 97, 3), (28, .ireturn, 1), (29, .iconst 0, 1), (30, .istore_n 3, 1), (31, .iconst 1, 1), (32, .istore 4, 2), (34, .iload 4, 2), (36, .bipush 100, 2), (38, .if_icmp .ge 27, 3), (41, .iload_n 3, 1), (42, .aload_n 0, 1), (43, .iload 4, 2), (45, .iload_n 1, 1), (46, .invokevirtual 279, 3), (49, .ifCond .eq 7, 3), (52, .iconst 1, 1), (53, .goto 4, 3), (56, .iconst 0, 1), (57, .iadd, 1), (58, .istore_n 3, 1), (59, .iinc 4 1, 3), (62, .goto (-28), 3), (65, .iconst (-1), 1), (66, .istore 4, 2), (68, .ldc 243, 2), (70, .istore 5, 2), (72, .iconst 0, 1), (73, .istore 6, 2), (75, .iload 6, 2), (77, .iconst 4, 1), (78, .if_icmp .ge 121, 3), (81, .iload_n 3, 1), (82, .ifCond .le 117, 3), (85, .iconst 0, 1), (86, .istore 7, 2), (88, .iconst 1, 1), (89, .istore 8, 2), (91, .iload 8, 2), (93, .bipush 100, 2), (95, .if_icmp .ge 46, 3), (98, .iload 7, 2), (100, .aload_n 0, 1), (101, .iload 8, 2), (103, .iload_n 1, 1), (104, .invokevirtual 279, 3), (107, .ifCond .eq 24, 3), (110, .iload 8, 2), (112, .iload_n 1, 1), (113, .aload_n 0, 1), (114, .getfield 7, 3), (117, .bipush 8, 2), (119, .iload 6, 2), (121, .iadd, 1), (122, .iaload, 1), (123, .imul, 1), (124, .if_icmp .gt 7, 3), (127, .iconst 1, 1), (128, .goto 4, 3), (131, .iconst 0, 1), (132, .iadd, 1), (133, .istore 7, 2), (135, .iinc 8 1, 3), (138, .goto (-47), 3), (141, .iload 7, 2), (143, .iload_n 3, 1), (144, .iload 7, 2), (146, .isub, 1), (147, .if_icmp .le 8, 3), (150, .iload 7, 2), (152, .goto 7, 3), (155, .iload_n 3, 1), (156, .iload 7, 2), (158, .isub, 1), (159, .istore 8, 2), (161, .iload 8, 2), (163, .iload 5, 2), (165, .if_icmp .ge 8, 3), (168, .iload 6, 2), (170, .goto 5, 3), (173, .iload 4, 2), (175, .istore 4, 2), (177, .iload 8, 2), (179, .iload 5, 2), (181, .if_icmp .ge 8, 3), (184, .iload 8, 2), (186, .goto 5, 3), (189, .iload 5, 2), (191, .istore 5, 2), (193, .iinc 6 1, 3), (196, .goto (-121), 3), (199, .iload_n 2, 1), (200, .ifCond .ne 7, 3), (203, .iload_n 3, 1), (204, .goto 5, 3), (207, .iload 4, 2), (209, .ireturn, 1)]))
def mf_chanceOf : ai_M := ((⟨"FourWaters", "chanceOf", "(IJJ)J"⟩, prog_1_method_62_code, 8, (Option.some Jvm.ClassFile.FieldType.long)), ("FourWaters", 7, { frames := 0, cells := 0, slots := 0, locals := 0 }, [(0, .lconst 1, 1), (1, .lstore 5, 2), (3, .iconst 0, 1), (4, .istore 7, 2), (6, .iload 7, 2), (8, .iconst 3, 1), (9, .if_icmp .ge 31, 3), (12, .lload 5, 2), (14, .iload_n 0, 1), (15, .iload 7, 2), (17, .ishr, 1), (18, .iconst 1, 1), (19, .iand, 1), (20, .iconst 1, 1), (21, .if_icmp .ne 9, 3), (24, .lload_n 1, 1), (25, .lload_n 3, 1), (26, .lsub, 1), (27, .goto 4, 3), (30, .lload_n 3, 1), (31, .lmul, 1), (32, .lstore 5, 2), (34, .iinc 7 1, 3), (37, .goto (-31), 3), (40, .lload 5, 2), (42, .lreturn, 1)]))
def mf_putFraction : ai_M := ((⟨"FourWaters", "putFraction", "(JJ)V"⟩, prog_1_method_63_code, 12, (Option.none : Option Jvm.ClassFile.FieldType)), ("FourWaters", 7, { frames := 0, cells := 0, slots := 0, locals := 0 }, [(0, .lload_n 3, 1), (1, .lstore 5, 2), (3, .lload_n 1, 1), (4, .lstore 7, 2), (6, .iconst 0, 1), (7, .istore 9, 2), (9, .iload 9, 2), (11, .sipush 1000, 3), (14, .if_icmp .ge 31, 3), (17, .lload 7, 2), (19, .lconst 0, 1), (20, .lcmp, 1), (21, .ifCond .eq 24, 3), (24, .lload 5, 2), (26, .lload 7, 2), (28, .lrem, 1), (29, .lstore 10, 2), (31, .lload 7, 2), (33, .lstore 5, 2), (35, .lload 10, 2), (37, .lstore 7, 2), (39, .iinc 9 1, 3), (42, .goto (-33), 3), (45, .lload 5, 2), (47, .lconst 0, 1), (48, .lcmp, 1), (49, .ifCond .ne 7, 3), (52, .lconst 1, 1), (53, .goto 5, 3), (56, .lload 5, 2), (58, .lstore 9, 2), (60, .aload_n 0, 1), (61, .lload_n 1, 1), (62, .lload 9, 2), (64, .ldiv, 1), (65, .putfield 61, 3), (68, .aload_n 0, 1), (69, .lload_n 3, 1), (70, .lload 9, 2), (72, .ldiv, 1), (73, .putfield 65, 3), (76, .return_, 1)]))
def mf_storm : ai_M := ((⟨"FourWaters", "storm", "(IIII)I"⟩, prog_1_method_36_code, 13, (Option.some Jvm.ClassFile.FieldType.int)), ("FourWaters", 7, { frames := 6, cells := 0, slots := 0, locals := 137 }, [(0, .aload_n 0, 1), (1, .getfield 10, 3), (4, .getfield 113, 3), (7, .iload_n 1, 1), (8, .invokevirtual 122, 3), (11, .ifCond .eq 34, 3), (14, .aload_n 0, 1), (15, .getfield 10, 3), (18, .iload_n 2, 1), (19, .invokevirtual 183, 3), (22, .ifCond .eq 23, 3), (25, .iload_n 3, 1), (26, .iconst 0, 1), (27, .iconst 5, 1), (28, .invokestatic 100, 3), (31, .ifCond .eq 14, 3), (34, .iload 4, 2), (36, .iconst 0, 1), (37, .bipush 10, 2), (39, .invokestatic 100, 3), (42, .ifCond .ne 10, 3), (45, .aload_n 0, 1), (46, .bipush (-2), 2), (48, .invokevirtual 104, 3), (51, .ireturn, 1), (52, .lconst 1, 1), (53, .lstore 5, 2), (55, .lconst 1, 1), (56, .lstore 7, 2), (58, .iconst 0, 1), (59, .istore 9, 2), (61, .iload 9, 2), (63, .iload_n 3, 1), (64, .if_icmp .ge 28, 3), (67, .lload 5, 2), (69, .ldc2_w 299, 3), (72, .lmul, 1), (73, .lstore 5, 2), (75, .lload 7, 2), (77, .bipush 10, 2), (79, .iload 4, 2), (81, .isub, 1), (82, .i2l, 1), (83, .lmul, 1), (84, .lstore 7, 2), (86, .iinc 9 1, 3), (89, .goto (-28), 3), (92, .aload_n 0, 1), (93, .iload_n 1, 1), (94, .iload_n 2, 1), (95, .iconst 0, 1), (96, .invokevirtual 192, 3), (99, .aload_n 0, 1), (100, .getfield 39, 3), (103, .getfield 196, 3), (106, .istore 9, 2), (108, .lconst 0, 1), (109, .lstore 10, 2), (111, .iconst 0, 1), (112, .istore 12, 2), (114, .iload 12, 2), (116, .bipush 8, 2), (118, .if_icmp .ge 43, 3), (121, .aload_n 0, 1), (122, .iload_n 1, 1), (123, .iload_n 2, 1), (124, .iload 12, 2), (126, .invokevirtual 192, 3), (129, .aload_n 0, 1), (130, .getfield 39, 3), (133, .getfield 196, 3), (136, .iload 9, 2), (138, .if_icmp .le 17, 3), (141, .lload 10, 2), (143, .iload 12, 2), (145, .lload 5, 2), (147, .lload 7, 2), (149, .invokestatic 301, 3), (152, .ladd, 1), (153, .lstore 10, 2), (155, .iinc 12 1, 3), (158, .goto (-44), 3), (161, .aload_n 0, 1), (162, .lload 10, 2), (164, .lload 5, 2), (166, .lload 5, 2), (168, .lmul, 1), (169, .lload 5, 2), (171, .lmul, 1), (172, .invokevirtual 305, 3), (175, .iconst 1, 1), (176, .ireturn, 1)]))
def mm_tells : ai_M := ((⟨"FourWatersModel", "tells", "(JJ)V"⟩, prog_10_method_85_code, 11, (Option.none : Option Jvm.ClassFile.FieldType)), ("FourWatersModel", 8, { frames := 0, cells := 0, slots := 0, locals := 0 }, [(0, .lload_n 1, 1), (1, .lstore 5, 2), (3, .lload_n 3, 1), (4, .lstore 7, 2), (6, .lload 7, 2), (8, .lconst 0, 1), (9, .lcmp, 1), (10, .ifCond .eq 21, 3), (13, .lload 5, 2), (15, .lload 7, 2), (17, .lrem, 1), (18, .lstore 9, 2), (20, .lload 7, 2), (22, .lstore 5, 2), (24, .lload 9, 2), (26, .lstore 7, 2), (28, .goto (-22), 3), (31, .aload_n 0, 1), (32, .lload_n 1, 1), (33, .lload 5, 2), (35, .ldiv, 1), (36, .putfield 282, 3), (39, .aload_n 0, 1), (40, .lload_n 3, 1), (41, .lload 5, 2), (43, .ldiv, 1), (44, .putfield 23, 3), (47, .return_, 1)]))
def mm_storm : ai_M := ((⟨"FourWatersModel", "storm", "(IIII)I"⟩, prog_10_method_86_code, 16, (Option.some Jvm.ClassFile.FieldType.int)), ("FourWatersModel", 8, { frames := 4, cells := 0, slots := 0, locals := 88 }, [(0, .aload_n 0, 1), (1, .iload_n 1, 1), (2, .invokevirtual 105, 3), (5, .ifCond .eq 36, 3), (8, .aload_n 0, 1), (9, .iload_n 2, 1), (10, .invokevirtual 229, 3), (13, .ifCond .eq 28, 3), (16, .iload_n 3, 1), (17, .i2l, 1), (18, .lconst 0, 1), (19, .ldc2_w 73, 3), (22, .invokestatic 49, 3), (25, .ifCond .eq 16, 3), (28, .iload 4, 2), (30, .i2l, 1), (31, .lconst 0, 1), (32, .ldc2_w 285, 3), (35, .invokestatic 49, 3), (38, .ifCond .ne 8, 3), (41, .aload_n 0, 1), (42, .invokevirtual 108, 3), (45, .ireturn, 1), (46, .lconst 1, 1), (47, .lstore 5, 2), (49, .lconst 1, 1), (50, .lstore 7, 2), (52, .iconst 0, 1), (53, .istore 9, 2), (55, .iload 9, 2), (57, .iload_n 3, 1), (58, .if_icmp .ge 28, 3), (61, .lload 5, 2), (63, .ldc2_w 285, 3), (66, .lmul, 1), (67, .lstore 5, 2), (69, .lload 7, 2), (71, .bipush 10, 2), (73, .iload 4, 2), (75, .isub, 1), (76, .i2l, 1), (77, .lmul, 1), (78, .lstore 7, 2), (80, .iinc 9 1, 3), (83, .goto (-28), 3), (86, .aload_n 0, 1), (87, .iload_n 1, 1), (88, .invokevirtual 225, 3), (91, .aload_n 0, 1), (92, .iload_n 2, 1), (93, .invokevirtual 232, 3), (96, .aload_n 0, 1), (97, .getfield 201, 3), (100, .istore 9, 2), (102, .lconst 0, 1), (103, .lstore 10, 2), (105, .iconst 0, 1), (106, .istore 12, 2), (108, .iload 12, 2), (110, .bipush 8, 2), (112, .if_icmp .ge 83, 3), (115, .lconst 1, 1), (116, .lstore 13, 2), (118, .iconst 0, 1), (119, .istore 15, 2), (121, .iload 15, 2), (123, .iconst 3, 1), (124, .if_icmp .ge 34, 3), (127, .lload 13, 2), (129, .iload 12, 2), (131, .iload 15, 2), (133, .invokestatic 78, 3), (136, .ifCond .eq 11, 3), (139, .lload 5, 2), (141, .lload 7, 2), (143, .lsub, 1), (144, .goto 5, 3), (147, .lload 7, 2), (149, .lmul, 1), (150, .lstore 13, 2), (152, .iinc 15 1, 3), (155, .goto (-34), 3), (158, .aload_n 0, 1), (159, .iload 12, 2), (161, .putfield 192, 3), (164, .aload_n 0, 1), (165, .iload_n 2, 1), (166, .invokevirtual 232, 3), (169, .lload 10, 2), (171, .aload_n 0, 1), (172, .getfield 201, 3), (175, .iload 9, 2), (177, .if_icmp .le 8, 3), (180, .lload 13, 2), (182, .goto 4, 3), (185, .lconst 0, 1), (186, .ladd, 1), (187, .lstore 10, 2), (189, .iinc 12 1, 3), (192, .goto (-84), 3), (195, .aload_n 0, 1), (196, .iconst 0, 1), (197, .putfield 192, 3), (200, .aload_n 0, 1), (201, .lload 10, 2), (203, .lload 5, 2), (205, .lload 5, 2), (207, .lmul, 1), (208, .lload 5, 2), (210, .lmul, 1), (211, .invokevirtual 287, 3), (214, .iconst 1, 1), (215, .ireturn, 1)]))
def mf_part : ai_M := ((⟨"FourWaters", "part", "(I)J"⟩, prog_1_method_37_code, 2, (Option.some Jvm.ClassFile.FieldType.long)), ("FourWaters", 7, { frames := 1, cells := 0, slots := 0, locals := 22 }, [(0, .iload_n 1, 1), (1, .iconst 0, 1), (2, .iconst 1, 1), (3, .invokestatic 100, 3), (6, .ifCond .ne 11, 3), (9, .aload_n 0, 1), (10, .bipush (-2), 2), (12, .invokevirtual 104, 3), (15, .i2l, 1), (16, .lreturn, 1), (17, .iload_n 1, 1), (18, .ifCond .ne 10, 3), (21, .aload_n 0, 1), (22, .getfield 61, 3), (25, .goto 7, 3), (28, .aload_n 0, 1), (29, .getfield 65, 3), (32, .lreturn, 1)]))
def mm_part : ai_M := ((⟨"FourWatersModel", "part", "(I)J"⟩, prog_10_method_87_code, 2, (Option.some Jvm.ClassFile.FieldType.long)), ("FourWatersModel", 8, { frames := 2, cells := 0, slots := 0, locals := 41 }, [(0, .iload_n 1, 1), (1, .ifCond .ne 10, 3), (4, .aload_n 0, 1), (5, .getfield 282, 3), (8, .goto 20, 3), (11, .iload_n 1, 1), (12, .iconst 1, 1), (13, .if_icmp .ne 10, 3), (16, .aload_n 0, 1), (17, .getfield 23, 3), (20, .goto 8, 3), (23, .aload_n 0, 1), (24, .invokevirtual 108, 3), (27, .i2l, 1), (28, .lreturn, 1)]))
def mf_imageAt : ai_M := ((⟨"FourWaters", "imageAt", "(I)LFourWaters$Sea;"⟩, prog_1_method_50_code, 2, (Option.some (Jvm.ClassFile.FieldType.object "FourWaters$Sea"))), ("FourWaters", 7, { frames := 0, cells := 0, slots := 0, locals := 0 }, [(0, .iload_n 1, 1), (1, .ifCond .ne 10, 3), (4, .aload_n 0, 1), (5, .getfield 19, 3), (8, .goto 7, 3), (11, .aload_n 0, 1), (12, .getfield 22, 3), (15, .areturn, 1)]))
def mf_image : ai_M := ((⟨"FourWaters", "image", "(I)I"⟩, prog_1_method_38_code, 2, (Option.some Jvm.ClassFile.FieldType.int)), ("FourWaters", 7, { frames := 3, cells := 0, slots := 0, locals := 77 }, [(0, .iload_n 1, 1), (1, .iconst 0, 1), (2, .iconst 1, 1), (3, .invokestatic 100, 3), (6, .ifCond .ne 10, 3), (9, .aload_n 0, 1), (10, .bipush (-2), 2), (12, .invokevirtual 104, 3), (15, .ireturn, 1), (16, .aload_n 0, 1), (17, .iload_n 1, 1), (18, .invokevirtual 309, 3), (21, .aload_n 0, 1), (22, .getfield 10, 3), (25, .invokevirtual 156, 3), (28, .aload_n 0, 1), (29, .getfield 25, 3), (32, .iload_n 1, 1), (33, .iconst 1, 1), (34, .bastore, 1), (35, .iconst 1, 1), (36, .ireturn, 1)]))
def mm_image : ai_M := ((⟨"FourWatersModel", "image", "(I)I"⟩, prog_10_method_88_code, 2, (Option.some Jvm.ClassFile.FieldType.int)), ("FourWatersModel", 8, { frames := 2, cells := 0, slots := 0, locals := 41 }, [(0, .iload_n 1, 1), (1, .i2l, 1), (2, .lconst 0, 1), (3, .lconst 1, 1), (4, .invokestatic 49, 3), (7, .ifCond .ne 8, 3), (10, .aload_n 0, 1), (11, .invokevirtual 108, 3), (14, .ireturn, 1), (15, .aload_n 0, 1), (16, .iconst 0, 1), (17, .sipush 149, 3), (20, .iconst 1, 1), (21, .iload_n 1, 1), (22, .iadd, 1), (23, .imul, 1), (24, .invokevirtual 174, 3), (27, .aload_n 0, 1), (28, .getfield 13, 3), (31, .iload_n 1, 1), (32, .iconst 1, 1), (33, .bastore, 1), (34, .iconst 1, 1), (35, .ireturn, 1)]))
def mf_from : ai_M := ((⟨"FourWaters", "from", "(I)I"⟩, prog_1_method_39_code, 2, (Option.some Jvm.ClassFile.FieldType.int)), ("FourWaters", 7, { frames := 3, cells := 0, slots := 0, locals := 77 }, [(0, .iload_n 1, 1), (1, .iconst 0, 1), (2, .iconst 1, 1), (3, .invokestatic 100, 3), (6, .ifCond .ne 10, 3), (9, .aload_n 0, 1), (10, .bipush (-2), 2), (12, .invokevirtual 104, 3), (15, .ireturn, 1), (16, .aload_n 0, 1), (17, .getfield 25, 3), (20, .iload_n 1, 1), (21, .baload, 1), (22, .ifCond .ne 10, 3), (25, .aload_n 0, 1), (26, .bipush (-3), 2), (28, .invokevirtual 82, 3), (31, .ireturn, 1), (32, .aload_n 0, 1), (33, .getfield 10, 3), (36, .aload_n 0, 1), (37, .iload_n 1, 1), (38, .invokevirtual 309, 3), (41, .invokevirtual 156, 3), (44, .iconst 1, 1), (45, .ireturn, 1)]))
def mm_from : ai_M := ((⟨"FourWatersModel", "from", "(I)I"⟩, prog_10_method_89_code, 2, (Option.some Jvm.ClassFile.FieldType.int)), ("FourWatersModel", 8, { frames := 2, cells := 0, slots := 0, locals := 41 }, [(0, .iload_n 1, 1), (1, .i2l, 1), (2, .lconst 0, 1), (3, .lconst 1, 1), (4, .invokestatic 49, 3), (7, .ifCond .ne 8, 3), (10, .aload_n 0, 1), (11, .invokevirtual 108, 3), (14, .ireturn, 1), (15, .aload_n 0, 1), (16, .getfield 13, 3), (19, .iload_n 1, 1), (20, .baload, 1), (21, .ifCond .ne 10, 3), (24, .aload_n 0, 1), (25, .bipush (-3), 2), (27, .invokevirtual 43, 3), (30, .ireturn, 1), (31, .aload_n 0, 1), (32, .sipush 149, 3), (35, .iconst 1, 1), (36, .iload_n 1, 1), (37, .iadd, 1), (38, .imul, 1), (39, .iconst 0, 1), (40, .invokevirtual 174, 3), (43, .iconst 1, 1), (44, .ireturn, 1)]))
def mf_status : ai_M := ((⟨"FourWaters", "status", "(I)I"⟩, prog_1_method_40_code, 2, (Option.some Jvm.ClassFile.FieldType.int)), ("FourWaters", 7, { frames := 1, cells := 0, slots := 0, locals := 21 }, [(0, .iload_n 1, 1), (1, .tableswitch 42 0 2 #[27, 32, 37], 27), (28, .aload_n 0, 1), (29, .getfield 68, 3), (32, .ireturn, 1), (33, .aload_n 0, 1), (34, .getfield 72, 3), (37, .ireturn, 1), (38, .aload_n 0, 1), (39, .getfield 75, 3), (42, .ireturn, 1), (43, .aload_n 0, 1), (44, .iconst (-1), 1), (45, .invokevirtual 104, 3), (48, .ireturn, 1)]))
def mm_status : ai_M := ((⟨"FourWatersModel", "status", "(I)I"⟩, prog_10_method_90_code, 2, (Option.some Jvm.ClassFile.FieldType.int)), ("FourWatersModel", 8, { frames := 1, cells := 0, slots := 0, locals := 25 }, [(0, .iload_n 1, 1), (1, .i2l, 1), (2, .lconst 0, 1), (3, .ldc2_w 71, 3), (6, .invokestatic 49, 3), (9, .ifCond .eq 12, 3), (12, .aload_n 0, 1), (13, .getfield 20, 3), (16, .iload_n 1, 1), (17, .iaload, 1), (18, .goto 8, 3), (21, .aload_n 0, 1), (22, .iconst (-1), 1), (23, .invokevirtual 97, 3), (26, .ireturn, 1)]))
def msea_countOf : ai_M := ((⟨"FourWaters$Sea", "countOf", "(I)I"⟩, prog_4_method_22_code, 2, (Option.some Jvm.ClassFile.FieldType.int)), ("FourWaters$Sea", 2, { frames := 0, cells := 0, slots := 0, locals := 0 }, [(0, .iload_n 1, 1), (1, .tableswitch 84 0 6 #[43, 48, 53, 61, 69, 74, 79], 43), (44, .aload_n 0, 1), (45, .getfield 9, 3), (48, .ireturn, 1), (49, .aload_n 0, 1), (50, .getfield 15, 3), (53, .ireturn, 1), (54, .aload_n 0, 1), (55, .getfield 40, 3), (58, .getfield 95, 3), (61, .ireturn, 1), (62, .aload_n 0, 1), (63, .getfield 47, 3), (66, .getfield 98, 3), (69, .ireturn, 1), (70, .aload_n 0, 1), (71, .getfield 51, 3), (74, .ireturn, 1), (75, .aload_n 0, 1), (76, .getfield 18, 3), (79, .ireturn, 1), (80, .aload_n 0, 1), (81, .getfield 57, 3), (84, .ireturn, 1), (85, .aload_n 0, 1), (86, .getfield 66, 3), (89, .ireturn, 1)]))
def mf_count : ai_M := ((⟨"FourWaters", "count", "(I)I"⟩, prog_1_method_41_code, 2, (Option.some Jvm.ClassFile.FieldType.int)), ("FourWaters", 7, { frames := 1, cells := 0, slots := 0, locals := 22 }, [(0, .iload_n 1, 1), (1, .iconst 0, 1), (2, .bipush 8, 2), (4, .invokestatic 100, 3), (7, .ifCond .ne 10, 3), (10, .aload_n 0, 1), (11, .bipush (-2), 2), (13, .invokevirtual 104, 3), (16, .ireturn, 1), (17, .iload_n 1, 1), (18, .bipush 8, 2), (20, .if_icmp .ne 13, 3), (23, .aload_n 0, 1), (24, .getfield 32, 3), (27, .getfield 146, 3), (30, .goto 11, 3), (33, .aload_n 0, 1), (34, .getfield 10, 3), (37, .iload_n 1, 1), (38, .invokevirtual 313, 3), (41, .ireturn, 1)]))
def mm_countOf : ai_M := ((⟨"FourWatersModel", "countOf", "(I)I"⟩, prog_10_method_91_code, 2, (Option.some Jvm.ClassFile.FieldType.int)), ("FourWatersModel", 8, { frames := 0, cells := 0, slots := 0, locals := 0 }, [(0, .iload_n 1, 1), (1, .tableswitch 105 0 7 #[47, 54, 61, 68, 75, 82, 89, 97], 47), (48, .aload_n 0, 1), (49, .getfield 7, 3), (52, .iconst 0, 1), (53, .iaload, 1), (54, .ireturn, 1), (55, .aload_n 0, 1), (56, .getfield 7, 3), (59, .iconst 1, 1), (60, .iaload, 1), (61, .ireturn, 1), (62, .aload_n 0, 1), (63, .getfield 7, 3), (66, .iconst 2, 1), (67, .iaload, 1), (68, .ireturn, 1), (69, .aload_n 0, 1), (70, .getfield 7, 3), (73, .iconst 3, 1), (74, .iaload, 1), (75, .ireturn, 1), (76, .aload_n 0, 1), (77, .getfield 7, 3), (80, .iconst 4, 1), (81, .iaload, 1), (82, .ireturn, 1), (83, .aload_n 0, 1), (84, .getfield 7, 3), (87, .iconst 5, 1), (88, .iaload, 1), (89, .ireturn, 1), (90, .aload_n 0, 1), (91, .getfield 7, 3), (94, .bipush 6, 2), (96, .iaload, 1), (97, .ireturn, 1), (98, .aload_n 0, 1), (99, .getfield 7, 3), (102, .bipush 7, 2), (104, .iaload, 1), (105, .ireturn, 1), (106, .aload_n 0, 1), (107, .getfield 124, 3), (110, .ireturn, 1)]))
def mm_count : ai_M := ((⟨"FourWatersModel", "count", "(I)I"⟩, prog_10_method_92_code, 2, (Option.some Jvm.ClassFile.FieldType.int)), ("FourWatersModel", 8, { frames := 2, cells := 0, slots := 0, locals := 41 }, [(0, .iload_n 1, 1), (1, .i2l, 1), (2, .lconst 0, 1), (3, .ldc2_w 291, 3), (6, .invokestatic 49, 3), (9, .ifCond .eq 11, 3), (12, .aload_n 0, 1), (13, .iload_n 1, 1), (14, .invokevirtual 293, 3), (17, .goto 7, 3), (20, .aload_n 0, 1), (21, .invokevirtual 108, 3), (24, .ireturn, 1)]))
def msea_digestWaters : ai_M := ((⟨"FourWaters$Sea", "digestWaters", "(J)J"⟩, prog_4_method_23_code, 7, (Option.some Jvm.ClassFile.FieldType.long)), ("FourWaters$Sea", 2, { frames := 0, cells := 0, slots := 0, locals := 0 }, [(0, .lload_n 1, 1), (1, .lstore_n 3, 1), (2, .iconst 0, 1), (3, .istore 5, 2), (5, .iload 5, 2), (7, .iconst 4, 1), (8, .if_icmp .ge 115, 3), (11, .ldc2_w 129, 3), (14, .lload_n 3, 1), (15, .lmul, 1), (16, .aload_n 0, 1), (17, .getfield 21, 3), (20, .iload 5, 2), (22, .iaload, 1), (23, .i2l, 1), (24, .ladd, 1), (25, .lstore_n 3, 1), (26, .ldc2_w 129, 3), (29, .lload_n 3, 1), (30, .lmul, 1), (31, .aload_n 0, 1), (32, .getfield 25, 3), (35, .iload 5, 2), (37, .iaload, 1), (38, .i2l, 1), (39, .ladd, 1), (40, .lstore_n 3, 1), (41, .iconst 0, 1), (42, .istore 6, 2), (44, .iload 6, 2), (46, .bipush 6, 2), (48, .if_icmp .ge 30, 3), (51, .ldc2_w 129, 3), (54, .lload_n 3, 1), (55, .lmul, 1), (56, .aload_n 0, 1), (57, .getfield 28, 3), (60, .iload 5, 2), (62, .bipush 6, 2), (64, .imul, 1), (65, .iload 6, 2), (67, .iadd, 1), (68, .iaload, 1), (69, .i2l, 1), (70, .ladd, 1), (71, .lstore_n 3, 1), (72, .iinc 6 1, 3), (75, .goto (-31), 3), (78, .iconst 0, 1), (79, .istore 6, 2), (81, .iload 6, 2), (83, .aload_n 0, 1), (84, .getfield 9, 3), (87, .if_icmp .ge 30, 3), (90, .ldc2_w 129, 3), (93, .lload_n 3, 1), (94, .lmul, 1), (95, .aload_n 0, 1), (96, .getfield 31, 3), (99, .iload 5, 2), (101, .bipush 6, 2), (103, .imul, 1), (104, .iload 6, 2), (106, .iadd, 1), (107, .iaload, 1), (108, .i2l, 1), (109, .ladd, 1), (110, .lstore_n 3, 1), (111, .iinc 6 1, 3), (114, .goto (-33), 3), (117, .iinc 5 1, 3), (120, .goto (-115), 3), (123, .iconst 0, 1), (124, .istore 5, 2), (126, .iload 5, 2), (128, .iconst 3, 1), (129, .if_icmp .ge 24, 3), (132, .ldc2_w 129, 3), (135, .lload_n 3, 1), (136, .lmul, 1), (137, .aload_n 0, 1), (138, .getfield 34, 3), (141, .iload 5, 2), (143, .iaload, 1), (144, .i2l, 1), (145, .ladd, 1), (146, .lstore_n 3, 1), (147, .iinc 5 1, 3), (150, .goto (-24), 3), (153, .lload_n 3, 1), (154, .lreturn, 1)]))
def msea_digestRows : ai_M := ((⟨"FourWaters$Sea", "digestRows", "(J)J"⟩, prog_4_method_24_code, 6, (Option.some Jvm.ClassFile.FieldType.long)), ("FourWaters$Sea", 2, { frames := 0, cells := 0, slots := 0, locals := 0 }, [(0, .lload_n 1, 1), (1, .lstore_n 3, 1), (2, .iconst 0, 1), (3, .istore 5, 2), (5, .iload 5, 2), (7, .aload_n 0, 1), (8, .getfield 40, 3), (11, .getfield 95, 3), (14, .if_icmp .ge 81, 3), (17, .ldc2_w 129, 3), (20, .lload_n 3, 1), (21, .lmul, 1), (22, .aload_n 0, 1), (23, .getfield 40, 3), (26, .getfield 131, 3), (29, .iload 5, 2), (31, .iaload, 1), (32, .i2l, 1), (33, .ladd, 1), (34, .lstore_n 3, 1), (35, .ldc2_w 129, 3), (38, .lload_n 3, 1), (39, .lmul, 1), (40, .aload_n 0, 1), (41, .getfield 40, 3), (44, .getfield 134, 3), (47, .iload 5, 2), (49, .iaload, 1), (50, .i2l, 1), (51, .ladd, 1), (52, .lstore_n 3, 1), (53, .ldc2_w 129, 3), (56, .lload_n 3, 1), (57, .lmul, 1), (58, .aload_n 0, 1), (59, .getfield 40, 3), (62, .getfield 137, 3), (65, .iload 5, 2), (67, .iaload, 1), (68, .i2l, 1), (69, .ladd, 1), (70, .lstore_n 3, 1), (71, .ldc2_w 129, 3), (74, .lload_n 3, 1), (75, .lmul, 1), (76, .aload_n 0, 1), (77, .getfield 40, 3), (80, .getfield 140, 3), (83, .iload 5, 2), (85, .iaload, 1), (86, .i2l, 1), (87, .ladd, 1), (88, .lstore_n 3, 1), (89, .iinc 5 1, 3), (92, .goto (-87), 3), (95, .iconst 0, 1), (96, .istore 5, 2), (98, .iload 5, 2), (100, .aload_n 0, 1), (101, .getfield 47, 3), (104, .getfield 98, 3), (107, .if_icmp .ge 63, 3), (110, .ldc2_w 129, 3), (113, .lload_n 3, 1), (114, .lmul, 1), (115, .aload_n 0, 1), (116, .getfield 47, 3), (119, .getfield 143, 3), (122, .iload 5, 2), (124, .iaload, 1), (125, .i2l, 1), (126, .ladd, 1), (127, .lstore_n 3, 1), (128, .ldc2_w 129, 3), (131, .lload_n 3, 1), (132, .lmul, 1), (133, .aload_n 0, 1), (134, .getfield 47, 3), (137, .getfield 146, 3), (140, .iload 5, 2), (142, .iaload, 1), (143, .i2l, 1), (144, .ladd, 1), (145, .lstore_n 3, 1), (146, .ldc2_w 129, 3), (149, .lload_n 3, 1), (150, .lmul, 1), (151, .aload_n 0, 1), (152, .getfield 47, 3), (155, .getfield 149, 3), (158, .iload 5, 2), (160, .iaload, 1), (161, .i2l, 1), (162, .ladd, 1), (163, .lstore_n 3, 1), (164, .iinc 5 1, 3), (167, .goto (-69), 3), (170, .iconst 0, 1), (171, .istore 5, 2), (173, .iload 5, 2), (175, .aload_n 0, 1), (176, .getfield 51, 3), (179, .if_icmp .ge 24, 3), (182, .ldc2_w 129, 3), (185, .lload_n 3, 1), (186, .lmul, 1), (187, .aload_n 0, 1), (188, .getfield 54, 3), (191, .iload 5, 2), (193, .iaload, 1), (194, .i2l, 1), (195, .ladd, 1), (196, .lstore_n 3, 1), (197, .iinc 5 1, 3), (200, .goto (-27), 3), (203, .iconst 0, 1), (204, .istore 5, 2), (206, .iload 5, 2), (208, .aload_n 0, 1), (209, .getfield 57, 3), (212, .if_icmp .ge 39, 3), (215, .ldc2_w 129, 3), (218, .lload_n 3, 1), (219, .lmul, 1), (220, .aload_n 0, 1), (221, .getfield 60, 3), (224, .iload 5, 2), (226, .iaload, 1), (227, .i2l, 1), (228, .ladd, 1), (229, .lstore_n 3, 1), (230, .ldc2_w 129, 3), (233, .lload_n 3, 1), (234, .lmul, 1), (235, .aload_n 0, 1), (236, .getfield 63, 3), (239, .iload 5, 2), (241, .iaload, 1), (242, .i2l, 1), (243, .ladd, 1), (244, .lstore_n 3, 1), (245, .iinc 5 1, 3), (248, .goto (-42), 3), (251, .lload_n 3, 1), (252, .lreturn, 1)]))
def mf_digest : ai_M := ((⟨"FourWaters", "digest", "()J"⟩, prog_1_method_42_code, 4, (Option.some Jvm.ClassFile.FieldType.long)), ("FourWaters", 7, { frames := 1, cells := 0, slots := 0, locals := 26 }, [(0, .ldc2_w 316, 3), (3, .lstore_n 1, 1), (4, .iconst 0, 1), (5, .istore_n 3, 1), (6, .iload_n 3, 1), (7, .bipush 8, 2), (9, .if_icmp .ge 25, 3), (12, .ldc2_w 318, 3), (15, .lload_n 1, 1), (16, .lmul, 1), (17, .aload_n 0, 1), (18, .getfield 10, 3), (21, .iload_n 3, 1), (22, .invokevirtual 313, 3), (25, .i2l, 1), (26, .ladd, 1), (27, .lstore_n 1, 1), (28, .iinc 3 1, 3), (31, .goto (-25), 3), (34, .ldc2_w 318, 3), (37, .lload_n 1, 1), (38, .lmul, 1), (39, .aload_n 0, 1), (40, .getfield 32, 3), (43, .getfield 146, 3), (46, .i2l, 1), (47, .ladd, 1), (48, .lstore_n 1, 1), (49, .aload_n 0, 1), (50, .getfield 10, 3), (53, .lload_n 1, 1), (54, .invokevirtual 320, 3), (57, .lstore_n 1, 1), (58, .aload_n 0, 1), (59, .getfield 10, 3), (62, .lload_n 1, 1), (63, .invokevirtual 324, 3), (66, .lstore_n 1, 1), (67, .ldc2_w 318, 3), (70, .lload_n 1, 1), (71, .lmul, 1), (72, .aload_n 0, 1), (73, .getfield 61, 3), (76, .ladd, 1), (77, .lstore_n 1, 1), (78, .ldc2_w 318, 3), (81, .lload_n 1, 1), (82, .lmul, 1), (83, .aload_n 0, 1), (84, .getfield 65, 3), (87, .ladd, 1), (88, .lreturn, 1)]))
def mm_mix : ai_M := ((⟨"FourWatersModel", "mix", "(J)V"⟩, prog_10_method_93_code, 3, (Option.none : Option Jvm.ClassFile.FieldType)), ("FourWatersModel", 8, { frames := 0, cells := 0, slots := 0, locals := 0 }, [(0, .aload_n 0, 1), (1, .ldc2_w 296, 3), (4, .aload_n 0, 1), (5, .getfield 298, 3), (8, .lmul, 1), (9, .lload_n 1, 1), (10, .ladd, 1), (11, .putfield 298, 3), (14, .return_, 1)]))
def mm_mixSea : ai_M := ((⟨"FourWatersModel", "mixSea", "()V"⟩, prog_10_method_94_code, 3, (Option.none : Option Jvm.ClassFile.FieldType)), ("FourWatersModel", 8, { frames := 1, cells := 0, slots := 0, locals := 22 }, [(0, .iconst 0, 1), (1, .istore_n 1, 1), (2, .iload_n 1, 1), (3, .iconst 4, 1), (4, .if_icmp .ge 107, 3), (7, .aload_n 0, 1), (8, .aload_n 0, 1), (9, .getfield 7, 3), (12, .bipush 8, 2), (14, .iload_n 1, 1), (15, .iadd, 1), (16, .iaload, 1), (17, .i2l, 1), (18, .invokevirtual 301, 3), (21, .aload_n 0, 1), (22, .aload_n 0, 1), (23, .getfield 7, 3), (26, .bipush 12, 2), (28, .iload_n 1, 1), (29, .iadd, 1), (30, .iaload, 1), (31, .i2l, 1), (32, .invokevirtual 301, 3), (35, .iconst 0, 1), (36, .istore_n 2, 1), (37, .iload_n 2, 1), (38, .bipush 6, 2), (40, .if_icmp .ge 28, 3), (43, .aload_n 0, 1), (44, .aload_n 0, 1), (45, .getfield 7, 3), (48, .bipush 16, 2), (50, .bipush 6, 2), (52, .iload_n 1, 1), (53, .imul, 1), (54, .iadd, 1), (55, .iload_n 2, 1), (56, .iadd, 1), (57, .iaload, 1), (58, .i2l, 1), (59, .invokevirtual 301, 3), (62, .iinc 2 1, 3), (65, .goto (-28), 3), (68, .iconst 0, 1), (69, .istore_n 2, 1), (70, .iload_n 2, 1), (71, .aload_n 0, 1), (72, .getfield 7, 3), (75, .iconst 0, 1), (76, .iaload, 1), (77, .if_icmp .ge 28, 3), (80, .aload_n 0, 1), (81, .aload_n 0, 1), (82, .getfield 7, 3), (85, .bipush 40, 2), (87, .bipush 6, 2), (89, .iload_n 1, 1), (90, .imul, 1), (91, .iadd, 1), (92, .iload_n 2, 1), (93, .iadd, 1), (94, .iaload, 1), (95, .i2l, 1), (96, .invokevirtual 301, 3), (99, .iinc 2 1, 3), (102, .goto (-32), 3), (105, .iinc 1 1, 3), (108, .goto (-106), 3), (111, .iconst 0, 1), (112, .istore_n 1, 1), (113, .iload_n 1, 1), (114, .iconst 3, 1), (115, .if_icmp .ge 23, 3), (118, .aload_n 0, 1), (119, .aload_n 0, 1), (120, .getfield 7, 3), (123, .bipush 64, 2), (125, .iload_n 1, 1), (126, .iadd, 1), (127, .iaload, 1), (128, .i2l, 1), (129, .invokevirtual 301, 3), (132, .iinc 1 1, 3), (135, .goto (-22), 3), (138, .iconst 0, 1), (139, .istore_n 1, 1), (140, .iload_n 1, 1), (141, .aload_n 0, 1), (142, .getfield 7, 3), (145, .iconst 2, 1), (146, .iaload, 1), (147, .if_icmp .ge 41, 3), (150, .iconst 0, 1), (151, .istore_n 2, 1), (152, .iload_n 2, 1), (153, .iconst 4, 1), (154, .if_icmp .ge 28, 3), (157, .aload_n 0, 1), (158, .aload_n 0, 1), (159, .getfield 7, 3), (162, .bipush 67, 2), (164, .bipush 6, 2), (166, .iload_n 2, 1), (167, .imul, 1), (168, .iadd, 1), (169, .iload_n 1, 1), (170, .iadd, 1), (171, .iaload, 1), (172, .i2l, 1), (173, .invokevirtual 301, 3), (176, .iinc 2 1, 3), (179, .goto (-27), 3), (182, .iinc 1 1, 3), (185, .goto (-45), 3), (188, .return_, 1)]))
def mm_digest : ai_M := ((⟨"FourWatersModel", "digest", "()J"⟩, prog_10_method_95_code, 2, (Option.some Jvm.ClassFile.FieldType.long)), ("FourWatersModel", 8, { frames := 2, cells := 0, slots := 0, locals := 44 }, [(0, .aload_n 0, 1), (1, .ldc2_w 305, 3), (4, .putfield 298, 3), (7, .iconst 0, 1), (8, .istore_n 1, 1), (9, .iload_n 1, 1), (10, .bipush 9, 2), (12, .if_icmp .ge 19, 3), (15, .aload_n 0, 1), (16, .aload_n 0, 1), (17, .iload_n 1, 1), (18, .invokevirtual 293, 3), (21, .i2l, 1), (22, .invokevirtual 301, 3), (25, .iinc 1 1, 3), (28, .goto (-19), 3), (31, .aload_n 0, 1), (32, .invokevirtual 307, 3), (35, .iconst 0, 1), (36, .istore_n 1, 1), (37, .iload_n 1, 1), (38, .aload_n 0, 1), (39, .getfield 7, 3), (42, .iconst 3, 1), (43, .iaload, 1), (44, .if_icmp .ge 51, 3), (47, .aload_n 0, 1), (48, .aload_n 0, 1), (49, .getfield 7, 3), (52, .bipush 91, 2), (54, .iload_n 1, 1), (55, .iadd, 1), (56, .iaload, 1), (57, .i2l, 1), (58, .invokevirtual 301, 3), (61, .aload_n 0, 1), (62, .aload_n 0, 1), (63, .getfield 7, 3), (66, .bipush 101, 2), (68, .iload_n 1, 1), (69, .iadd, 1), (70, .iaload, 1), (71, .i2l, 1), (72, .invokevirtual 301, 3), (75, .aload_n 0, 1), (76, .aload_n 0, 1), (77, .getfield 7, 3), (80, .bipush 111, 2), (82, .iload_n 1, 1), (83, .iadd, 1), (84, .iaload, 1), (85, .i2l, 1), (86, .invokevirtual 301, 3), (89, .iinc 1 1, 3), (92, .goto (-55), 3), (95, .iconst 0, 1), (96, .istore_n 1, 1), (97, .iload_n 1, 1), (98, .aload_n 0, 1), (99, .getfield 7, 3), (102, .iconst 4, 1), (103, .iaload, 1), (104, .if_icmp .ge 23, 3), (107, .aload_n 0, 1), (108, .aload_n 0, 1), (109, .getfield 7, 3), (112, .bipush 121, 2), (114, .iload_n 1, 1), (115, .iadd, 1), (116, .iaload, 1), (117, .i2l, 1), (118, .invokevirtual 301, 3), (121, .iinc 1 1, 3), (124, .goto (-27), 3), (127, .iconst 0, 1), (128, .istore_n 1, 1), (129, .iload_n 1, 1), (130, .aload_n 0, 1), (131, .getfield 7, 3), (134, .bipush 6, 2), (136, .iaload, 1), (137, .if_icmp .ge 38, 3), (140, .aload_n 0, 1), (141, .aload_n 0, 1), (142, .getfield 7, 3), (145, .bipush 127, 2), (147, .iload_n 1, 1), (148, .iadd, 1), (149, .iaload, 1), (150, .i2l, 1), (151, .invokevirtual 301, 3), (154, .aload_n 0, 1), (155, .aload_n 0, 1), (156, .getfield 7, 3), (159, .sipush 133, 3), (162, .iload_n 1, 1), (163, .iadd, 1), (164, .iaload, 1), (165, .i2l, 1), (166, .invokevirtual 301, 3), (169, .iinc 1 1, 3), (172, .goto (-43), 3), (175, .aload_n 0, 1), (176, .aload_n 0, 1), (177, .getfield 282, 3), (180, .invokevirtual 301, 3), (183, .aload_n 0, 1), (184, .aload_n 0, 1), (185, .getfield 23, 3), (188, .invokevirtual 301, 3), (191, .aload_n 0, 1), (192, .getfield 298, 3), (195, .lreturn, 1)]))
def mlaw_0 : List (Nat × Instr × Nat) := [(0, .new 7, 3), (3, .dup, 1), (4, .invokespecial 9, 3), (7, .astore_n 1, 1), (8, .new 10, 3), (11, .dup, 1), (12, .invokespecial 12, 3), (15, .astore_n 2, 1), (16, .iconst 0, 1), (17, .istore_n 3, 1), (18, .iload_n 3, 1), (19, .aload_n 0, 1), (20, .arraylength, 1), (21, .bipush 6, 2), (23, .isub, 1), (24, .if_icmp .gt 1559, 3), (27, .aload_n 0, 1), (28, .iload_n 3, 1), (29, .iaload, 1), (30, .bipush 63, 2), (32, .iand, 1), (33, .tableswitch 1544 0 40 #[179, 202, 235, 278, 311, 354, 387, 430, 463, 506, 529, 578, 627, 650, 673, 686, 699, 722, 735, 768, 801, 844, 887, 920, 963, 996, 1019, 1072, 1125, 1168, 1231, 1264, 1307, 1330, 1363, 1416, 1439, 1462, 1485, 1508, 1531], 179), (212, .aload_n 1, 1), (213, .aload_n 0, 1), (214, .iload_n 3, 1), (215, .iconst 1, 1), (216, .iadd, 1), (217, .iaload, 1), (218, .invokevirtual 13, 3), (221, .pop, 1), (222, .aload_n 2, 1), (223, .aload_n 0, 1), (224, .iload_n 3, 1), (225, .iconst 1, 1), (226, .iadd, 1), (227, .iaload, 1), (228, .invokevirtual 17, 3), (231, .pop, 1), (232, .goto 1345, 3), (235, .aload_n 1, 1), (236, .aload_n 0, 1), (237, .iload_n 3, 1), (238, .iconst 1, 1), (239, .iadd, 1), (240, .iaload, 1), (241, .aload_n 0, 1), (242, .iload_n 3, 1), (243, .iconst 2, 1), (244, .iadd, 1), (245, .iaload, 1), (246, .invokevirtual 18, 3), (249, .pop, 1), (250, .aload_n 2, 1), (251, .aload_n 0, 1), (252, .iload_n 3, 1), (253, .iconst 1, 1), (254, .iadd, 1), (255, .iaload, 1), (256, .aload_n 0, 1), (257, .iload_n 3, 1)]
def mlaw_1 : List (Nat × Instr × Nat) := [(258, .iconst 2, 1), (259, .iadd, 1), (260, .iaload, 1), (261, .invokevirtual 22, 3), (264, .pop, 1), (265, .goto 1312, 3), (268, .aload_n 1, 1), (269, .aload_n 0, 1), (270, .iload_n 3, 1), (271, .iconst 1, 1), (272, .iadd, 1), (273, .iaload, 1), (274, .aload_n 0, 1), (275, .iload_n 3, 1), (276, .iconst 2, 1), (277, .iadd, 1), (278, .iaload, 1), (279, .aload_n 0, 1), (280, .iload_n 3, 1), (281, .iconst 3, 1), (282, .iadd, 1), (283, .iaload, 1), (284, .invokevirtual 23, 3), (287, .pop, 1), (288, .aload_n 2, 1), (289, .aload_n 0, 1), (290, .iload_n 3, 1), (291, .iconst 1, 1), (292, .iadd, 1), (293, .iaload, 1), (294, .aload_n 0, 1), (295, .iload_n 3, 1), (296, .iconst 2, 1), (297, .iadd, 1), (298, .iaload, 1), (299, .aload_n 0, 1), (300, .iload_n 3, 1), (301, .iconst 3, 1), (302, .iadd, 1), (303, .iaload, 1), (304, .invokevirtual 27, 3), (307, .pop, 1), (308, .goto 1269, 3), (311, .aload_n 1, 1), (312, .aload_n 0, 1), (313, .iload_n 3, 1), (314, .iconst 1, 1), (315, .iadd, 1), (316, .iaload, 1), (317, .aload_n 0, 1), (318, .iload_n 3, 1), (319, .iconst 2, 1), (320, .iadd, 1), (321, .iaload, 1), (322, .invokevirtual 28, 3), (325, .pop, 1), (326, .aload_n 2, 1), (327, .aload_n 0, 1), (328, .iload_n 3, 1), (329, .iconst 1, 1)]
def mlaw_2 : List (Nat × Instr × Nat) := [(330, .iadd, 1), (331, .iaload, 1), (332, .aload_n 0, 1), (333, .iload_n 3, 1), (334, .iconst 2, 1), (335, .iadd, 1), (336, .iaload, 1), (337, .invokevirtual 31, 3), (340, .pop, 1), (341, .goto 1236, 3), (344, .aload_n 1, 1), (345, .aload_n 0, 1), (346, .iload_n 3, 1), (347, .iconst 1, 1), (348, .iadd, 1), (349, .iaload, 1), (350, .aload_n 0, 1), (351, .iload_n 3, 1), (352, .iconst 2, 1), (353, .iadd, 1), (354, .iaload, 1), (355, .aload_n 0, 1), (356, .iload_n 3, 1), (357, .iconst 3, 1), (358, .iadd, 1), (359, .iaload, 1), (360, .invokevirtual 32, 3), (363, .pop, 1), (364, .aload_n 2, 1), (365, .aload_n 0, 1), (366, .iload_n 3, 1), (367, .iconst 1, 1), (368, .iadd, 1), (369, .iaload, 1), (370, .aload_n 0, 1), (371, .iload_n 3, 1), (372, .iconst 2, 1), (373, .iadd, 1), (374, .iaload, 1), (375, .aload_n 0, 1), (376, .iload_n 3, 1), (377, .iconst 3, 1), (378, .iadd, 1), (379, .iaload, 1), (380, .invokevirtual 35, 3), (383, .pop, 1), (384, .goto 1193, 3), (387, .aload_n 1, 1), (388, .aload_n 0, 1), (389, .iload_n 3, 1), (390, .iconst 1, 1), (391, .iadd, 1), (392, .iaload, 1), (393, .aload_n 0, 1), (394, .iload_n 3, 1), (395, .iconst 2, 1), (396, .iadd, 1), (397, .iaload, 1), (398, .invokevirtual 36, 3), (401, .pop, 1)]
def mlaw_3 : List (Nat × Instr × Nat) := [(402, .aload_n 2, 1), (403, .aload_n 0, 1), (404, .iload_n 3, 1), (405, .iconst 1, 1), (406, .iadd, 1), (407, .iaload, 1), (408, .aload_n 0, 1), (409, .iload_n 3, 1), (410, .iconst 2, 1), (411, .iadd, 1), (412, .iaload, 1), (413, .invokevirtual 39, 3), (416, .pop, 1), (417, .goto 1160, 3), (420, .aload_n 1, 1), (421, .aload_n 0, 1), (422, .iload_n 3, 1), (423, .iconst 1, 1), (424, .iadd, 1), (425, .iaload, 1), (426, .aload_n 0, 1), (427, .iload_n 3, 1), (428, .iconst 2, 1), (429, .iadd, 1), (430, .iaload, 1), (431, .aload_n 0, 1), (432, .iload_n 3, 1), (433, .iconst 3, 1), (434, .iadd, 1), (435, .iaload, 1), (436, .invokevirtual 40, 3), (439, .pop, 1), (440, .aload_n 2, 1), (441, .aload_n 0, 1), (442, .iload_n 3, 1), (443, .iconst 1, 1), (444, .iadd, 1), (445, .iaload, 1), (446, .aload_n 0, 1), (447, .iload_n 3, 1), (448, .iconst 2, 1), (449, .iadd, 1), (450, .iaload, 1), (451, .aload_n 0, 1), (452, .iload_n 3, 1), (453, .iconst 3, 1), (454, .iadd, 1), (455, .iaload, 1), (456, .invokevirtual 43, 3), (459, .pop, 1), (460, .goto 1117, 3), (463, .aload_n 1, 1), (464, .aload_n 0, 1), (465, .iload_n 3, 1), (466, .iconst 1, 1), (467, .iadd, 1), (468, .iaload, 1), (469, .aload_n 0, 1), (470, .iload_n 3, 1), (471, .iconst 2, 1)]
def mlaw_4 : List (Nat × Instr × Nat) := [(472, .iadd, 1), (473, .iaload, 1), (474, .invokevirtual 44, 3), (477, .pop, 1), (478, .aload_n 2, 1), (479, .aload_n 0, 1), (480, .iload_n 3, 1), (481, .iconst 1, 1), (482, .iadd, 1), (483, .iaload, 1), (484, .aload_n 0, 1), (485, .iload_n 3, 1), (486, .iconst 2, 1), (487, .iadd, 1), (488, .iaload, 1), (489, .invokevirtual 47, 3), (492, .pop, 1), (493, .goto 1084, 3), (496, .aload_n 1, 1), (497, .aload_n 0, 1), (498, .iload_n 3, 1), (499, .iconst 1, 1), (500, .iadd, 1), (501, .iaload, 1), (502, .aload_n 0, 1), (503, .iload_n 3, 1), (504, .iconst 2, 1), (505, .iadd, 1), (506, .iaload, 1), (507, .aload_n 0, 1), (508, .iload_n 3, 1), (509, .iconst 3, 1), (510, .iadd, 1), (511, .iaload, 1), (512, .invokevirtual 48, 3), (515, .pop, 1), (516, .aload_n 2, 1), (517, .aload_n 0, 1), (518, .iload_n 3, 1), (519, .iconst 1, 1), (520, .iadd, 1), (521, .iaload, 1), (522, .aload_n 0, 1), (523, .iload_n 3, 1), (524, .iconst 2, 1), (525, .iadd, 1), (526, .iaload, 1), (527, .aload_n 0, 1), (528, .iload_n 3, 1), (529, .iconst 3, 1), (530, .iadd, 1), (531, .iaload, 1), (532, .invokevirtual 51, 3), (535, .pop, 1), (536, .goto 1041, 3), (539, .aload_n 1, 1), (540, .aload_n 0, 1), (541, .iload_n 3, 1), (542, .iconst 1, 1), (543, .iadd, 1)]
def mlaw_5 : List (Nat × Instr × Nat) := [(544, .iaload, 1), (545, .invokevirtual 52, 3), (548, .pop, 1), (549, .aload_n 2, 1), (550, .aload_n 0, 1), (551, .iload_n 3, 1), (552, .iconst 1, 1), (553, .iadd, 1), (554, .iaload, 1), (555, .invokevirtual 55, 3), (558, .pop, 1), (559, .goto 1018, 3), (562, .aload_n 1, 1), (563, .aload_n 0, 1), (564, .iload_n 3, 1), (565, .iconst 1, 1), (566, .iadd, 1), (567, .iaload, 1), (568, .aload_n 0, 1), (569, .iload_n 3, 1), (570, .iconst 2, 1), (571, .iadd, 1), (572, .iaload, 1), (573, .ifCond .eq 7, 3), (576, .iconst 1, 1), (577, .goto 4, 3), (580, .iconst 0, 1), (581, .invokevirtual 56, 3), (584, .pop, 1), (585, .aload_n 2, 1), (586, .aload_n 0, 1), (587, .iload_n 3, 1), (588, .iconst 1, 1), (589, .iadd, 1), (590, .iaload, 1), (591, .aload_n 0, 1), (592, .iload_n 3, 1), (593, .iconst 2, 1), (594, .iadd, 1), (595, .iaload, 1), (596, .ifCond .eq 7, 3), (599, .iconst 1, 1), (600, .goto 4, 3), (603, .iconst 0, 1), (604, .invokevirtual 60, 3), (607, .pop, 1), (608, .goto 969, 3), (611, .aload_n 1, 1), (612, .aload_n 0, 1), (613, .iload_n 3, 1), (614, .iconst 1, 1), (615, .iadd, 1), (616, .iaload, 1), (617, .aload_n 0, 1), (618, .iload_n 3, 1), (619, .iconst 2, 1), (620, .iadd, 1), (621, .iaload, 1), (622, .ifCond .eq 7, 3), (625, .iconst 1, 1)]
def mlaw_6 : List (Nat × Instr × Nat) := [(626, .goto 4, 3), (629, .iconst 0, 1), (630, .invokevirtual 61, 3), (633, .pop, 1), (634, .aload_n 2, 1), (635, .aload_n 0, 1), (636, .iload_n 3, 1), (637, .iconst 1, 1), (638, .iadd, 1), (639, .iaload, 1), (640, .aload_n 0, 1), (641, .iload_n 3, 1), (642, .iconst 2, 1), (643, .iadd, 1), (644, .iaload, 1), (645, .ifCond .eq 7, 3), (648, .iconst 1, 1), (649, .goto 4, 3), (652, .iconst 0, 1), (653, .invokevirtual 64, 3), (656, .pop, 1), (657, .goto 920, 3), (660, .aload_n 1, 1), (661, .aload_n 0, 1), (662, .iload_n 3, 1), (663, .iconst 1, 1), (664, .iadd, 1), (665, .iaload, 1), (666, .invokevirtual 65, 3), (669, .pop, 1), (670, .aload_n 2, 1), (671, .aload_n 0, 1), (672, .iload_n 3, 1), (673, .iconst 1, 1), (674, .iadd, 1), (675, .iaload, 1), (676, .invokevirtual 68, 3), (679, .pop, 1), (680, .goto 897, 3), (683, .aload_n 1, 1), (684, .aload_n 0, 1), (685, .iload_n 3, 1), (686, .iconst 1, 1), (687, .iadd, 1), (688, .iaload, 1), (689, .invokevirtual 69, 3), (692, .pop, 1), (693, .aload_n 2, 1), (694, .aload_n 0, 1), (695, .iload_n 3, 1), (696, .iconst 1, 1), (697, .iadd, 1), (698, .iaload, 1), (699, .invokevirtual 72, 3), (702, .pop, 1), (703, .goto 874, 3), (706, .aload_n 1, 1), (707, .invokevirtual 73, 3), (710, .aload_n 2, 1), (711, .invokevirtual 77, 3)]
def mlaw_7 : List (Nat × Instr × Nat) := [(714, .if_icmp .eq 863, 3), (717, .iconst 0, 1), (718, .ireturn, 1), (719, .aload_n 1, 1), (720, .invokevirtual 78, 3), (723, .pop, 1), (724, .aload_n 2, 1), (725, .invokevirtual 81, 3), (728, .pop, 1), (729, .goto 848, 3), (732, .aload_n 1, 1), (733, .aload_n 0, 1), (734, .iload_n 3, 1), (735, .iconst 1, 1), (736, .iadd, 1), (737, .iaload, 1), (738, .invokevirtual 82, 3), (741, .pop, 1), (742, .aload_n 2, 1), (743, .aload_n 0, 1), (744, .iload_n 3, 1), (745, .iconst 1, 1), (746, .iadd, 1), (747, .iaload, 1), (748, .invokevirtual 85, 3), (751, .pop, 1), (752, .goto 825, 3), (755, .aload_n 1, 1), (756, .invokevirtual 86, 3), (759, .pop, 1), (760, .aload_n 2, 1), (761, .invokevirtual 89, 3), (764, .pop, 1), (765, .goto 812, 3), (768, .aload_n 1, 1), (769, .aload_n 0, 1), (770, .iload_n 3, 1), (771, .iconst 1, 1), (772, .iadd, 1), (773, .iaload, 1), (774, .aload_n 0, 1), (775, .iload_n 3, 1), (776, .iconst 2, 1), (777, .iadd, 1), (778, .iaload, 1), (779, .invokevirtual 90, 3), (782, .pop, 1), (783, .aload_n 2, 1), (784, .aload_n 0, 1), (785, .iload_n 3, 1), (786, .iconst 1, 1), (787, .iadd, 1), (788, .iaload, 1), (789, .aload_n 0, 1), (790, .iload_n 3, 1), (791, .iconst 2, 1), (792, .iadd, 1), (793, .iaload, 1), (794, .invokevirtual 93, 3), (797, .pop, 1)]
def mlaw_8 : List (Nat × Instr × Nat) := [(798, .goto 779, 3), (801, .aload_n 1, 1), (802, .aload_n 0, 1), (803, .iload_n 3, 1), (804, .iconst 1, 1), (805, .iadd, 1), (806, .iaload, 1), (807, .aload_n 0, 1), (808, .iload_n 3, 1), (809, .iconst 2, 1), (810, .iadd, 1), (811, .iaload, 1), (812, .invokevirtual 94, 3), (815, .pop, 1), (816, .aload_n 2, 1), (817, .aload_n 0, 1), (818, .iload_n 3, 1), (819, .iconst 1, 1), (820, .iadd, 1), (821, .iaload, 1), (822, .aload_n 0, 1), (823, .iload_n 3, 1), (824, .iconst 2, 1), (825, .iadd, 1), (826, .iaload, 1), (827, .invokevirtual 97, 3), (830, .pop, 1), (831, .goto 746, 3), (834, .aload_n 1, 1), (835, .aload_n 0, 1), (836, .iload_n 3, 1), (837, .iconst 1, 1), (838, .iadd, 1), (839, .iaload, 1), (840, .aload_n 0, 1), (841, .iload_n 3, 1), (842, .iconst 2, 1), (843, .iadd, 1), (844, .iaload, 1), (845, .aload_n 0, 1), (846, .iload_n 3, 1), (847, .iconst 3, 1), (848, .iadd, 1), (849, .iaload, 1), (850, .invokevirtual 98, 3), (853, .pop, 1), (854, .aload_n 2, 1), (855, .aload_n 0, 1), (856, .iload_n 3, 1), (857, .iconst 1, 1), (858, .iadd, 1), (859, .iaload, 1), (860, .aload_n 0, 1), (861, .iload_n 3, 1), (862, .iconst 2, 1), (863, .iadd, 1), (864, .iaload, 1), (865, .aload_n 0, 1), (866, .iload_n 3, 1), (867, .iconst 3, 1)]
def mlaw_9 : List (Nat × Instr × Nat) := [(868, .iadd, 1), (869, .iaload, 1), (870, .invokevirtual 101, 3), (873, .pop, 1), (874, .goto 703, 3), (877, .aload_n 1, 1), (878, .aload_n 0, 1), (879, .iload_n 3, 1), (880, .iconst 1, 1), (881, .iadd, 1), (882, .iaload, 1), (883, .aload_n 0, 1), (884, .iload_n 3, 1), (885, .iconst 2, 1), (886, .iadd, 1), (887, .iaload, 1), (888, .aload_n 0, 1), (889, .iload_n 3, 1), (890, .iconst 3, 1), (891, .iadd, 1), (892, .iaload, 1), (893, .invokevirtual 102, 3), (896, .pop, 1), (897, .aload_n 2, 1), (898, .aload_n 0, 1), (899, .iload_n 3, 1), (900, .iconst 1, 1), (901, .iadd, 1), (902, .iaload, 1), (903, .aload_n 0, 1), (904, .iload_n 3, 1), (905, .iconst 2, 1), (906, .iadd, 1), (907, .iaload, 1), (908, .aload_n 0, 1), (909, .iload_n 3, 1), (910, .iconst 3, 1), (911, .iadd, 1), (912, .iaload, 1), (913, .invokevirtual 105, 3), (916, .pop, 1), (917, .goto 660, 3), (920, .aload_n 1, 1), (921, .aload_n 0, 1), (922, .iload_n 3, 1), (923, .iconst 1, 1), (924, .iadd, 1), (925, .iaload, 1), (926, .aload_n 0, 1), (927, .iload_n 3, 1), (928, .iconst 2, 1), (929, .iadd, 1), (930, .iaload, 1), (931, .invokevirtual 106, 3), (934, .pop, 1), (935, .aload_n 2, 1), (936, .aload_n 0, 1), (937, .iload_n 3, 1), (938, .iconst 1, 1), (939, .iadd, 1)]
def mlaw_10 : List (Nat × Instr × Nat) := [(940, .iaload, 1), (941, .aload_n 0, 1), (942, .iload_n 3, 1), (943, .iconst 2, 1), (944, .iadd, 1), (945, .iaload, 1), (946, .invokevirtual 109, 3), (949, .pop, 1), (950, .goto 627, 3), (953, .aload_n 1, 1), (954, .aload_n 0, 1), (955, .iload_n 3, 1), (956, .iconst 1, 1), (957, .iadd, 1), (958, .iaload, 1), (959, .aload_n 0, 1), (960, .iload_n 3, 1), (961, .iconst 2, 1), (962, .iadd, 1), (963, .iaload, 1), (964, .aload_n 0, 1), (965, .iload_n 3, 1), (966, .iconst 3, 1), (967, .iadd, 1), (968, .iaload, 1), (969, .invokevirtual 110, 3), (972, .pop, 1), (973, .aload_n 2, 1), (974, .aload_n 0, 1), (975, .iload_n 3, 1), (976, .iconst 1, 1), (977, .iadd, 1), (978, .iaload, 1), (979, .aload_n 0, 1), (980, .iload_n 3, 1), (981, .iconst 2, 1), (982, .iadd, 1), (983, .iaload, 1), (984, .aload_n 0, 1), (985, .iload_n 3, 1), (986, .iconst 3, 1), (987, .iadd, 1), (988, .iaload, 1), (989, .invokevirtual 113, 3), (992, .pop, 1), (993, .goto 584, 3), (996, .aload_n 1, 1), (997, .aload_n 0, 1), (998, .iload_n 3, 1), (999, .iconst 1, 1), (1000, .iadd, 1), (1001, .iaload, 1), (1002, .aload_n 0, 1), (1003, .iload_n 3, 1), (1004, .iconst 2, 1), (1005, .iadd, 1), (1006, .iaload, 1), (1007, .invokevirtual 114, 3), (1010, .pop, 1), (1011, .aload_n 2, 1)]
def mlaw_11 : List (Nat × Instr × Nat) := [(1012, .aload_n 0, 1), (1013, .iload_n 3, 1), (1014, .iconst 1, 1), (1015, .iadd, 1), (1016, .iaload, 1), (1017, .aload_n 0, 1), (1018, .iload_n 3, 1), (1019, .iconst 2, 1), (1020, .iadd, 1), (1021, .iaload, 1), (1022, .invokevirtual 117, 3), (1025, .pop, 1), (1026, .goto 551, 3), (1029, .aload_n 1, 1), (1030, .aload_n 0, 1), (1031, .iload_n 3, 1), (1032, .iconst 1, 1), (1033, .iadd, 1), (1034, .iaload, 1), (1035, .invokevirtual 118, 3), (1038, .pop, 1), (1039, .aload_n 2, 1), (1040, .aload_n 0, 1), (1041, .iload_n 3, 1), (1042, .iconst 1, 1), (1043, .iadd, 1), (1044, .iaload, 1), (1045, .invokevirtual 121, 3), (1048, .pop, 1), (1049, .goto 528, 3), (1052, .aload_n 1, 1), (1053, .aload_n 0, 1), (1054, .iload_n 3, 1), (1055, .iconst 1, 1), (1056, .iadd, 1), (1057, .iaload, 1), (1058, .aload_n 0, 1), (1059, .iload_n 3, 1), (1060, .iconst 2, 1), (1061, .iadd, 1), (1062, .iaload, 1), (1063, .aload_n 0, 1), (1064, .iload_n 3, 1), (1065, .iconst 3, 1), (1066, .iadd, 1), (1067, .iaload, 1), (1068, .aload_n 0, 1), (1069, .iload_n 3, 1), (1070, .iconst 4, 1), (1071, .iadd, 1), (1072, .iaload, 1), (1073, .invokevirtual 122, 3), (1076, .pop, 1), (1077, .aload_n 2, 1), (1078, .aload_n 0, 1), (1079, .iload_n 3, 1), (1080, .iconst 1, 1), (1081, .iadd, 1), (1082, .iaload, 1), (1083, .aload_n 0, 1)]
def mlaw_12 : List (Nat × Instr × Nat) := [(1084, .iload_n 3, 1), (1085, .iconst 2, 1), (1086, .iadd, 1), (1087, .iaload, 1), (1088, .aload_n 0, 1), (1089, .iload_n 3, 1), (1090, .iconst 3, 1), (1091, .iadd, 1), (1092, .iaload, 1), (1093, .aload_n 0, 1), (1094, .iload_n 3, 1), (1095, .iconst 4, 1), (1096, .iadd, 1), (1097, .iaload, 1), (1098, .invokevirtual 126, 3), (1101, .pop, 1), (1102, .goto 475, 3), (1105, .aload_n 1, 1), (1106, .aload_n 0, 1), (1107, .iload_n 3, 1), (1108, .iconst 1, 1), (1109, .iadd, 1), (1110, .iaload, 1), (1111, .aload_n 0, 1), (1112, .iload_n 3, 1), (1113, .iconst 2, 1), (1114, .iadd, 1), (1115, .iaload, 1), (1116, .aload_n 0, 1), (1117, .iload_n 3, 1), (1118, .iconst 3, 1), (1119, .iadd, 1), (1120, .iaload, 1), (1121, .aload_n 0, 1), (1122, .iload_n 3, 1), (1123, .iconst 4, 1), (1124, .iadd, 1), (1125, .iaload, 1), (1126, .invokevirtual 127, 3), (1129, .pop, 1), (1130, .aload_n 2, 1), (1131, .aload_n 0, 1), (1132, .iload_n 3, 1), (1133, .iconst 1, 1), (1134, .iadd, 1), (1135, .iaload, 1), (1136, .aload_n 0, 1), (1137, .iload_n 3, 1), (1138, .iconst 2, 1), (1139, .iadd, 1), (1140, .iaload, 1), (1141, .aload_n 0, 1), (1142, .iload_n 3, 1), (1143, .iconst 3, 1), (1144, .iadd, 1), (1145, .iaload, 1), (1146, .aload_n 0, 1), (1147, .iload_n 3, 1), (1148, .iconst 4, 1), (1149, .iadd, 1)]
def mlaw_13 : List (Nat × Instr × Nat) := [(1150, .iaload, 1), (1151, .invokevirtual 130, 3), (1154, .pop, 1), (1155, .goto 422, 3), (1158, .aload_n 1, 1), (1159, .aload_n 0, 1), (1160, .iload_n 3, 1), (1161, .iconst 1, 1), (1162, .iadd, 1), (1163, .iaload, 1), (1164, .aload_n 0, 1), (1165, .iload_n 3, 1), (1166, .iconst 2, 1), (1167, .iadd, 1), (1168, .iaload, 1), (1169, .aload_n 0, 1), (1170, .iload_n 3, 1), (1171, .iconst 3, 1), (1172, .iadd, 1), (1173, .iaload, 1), (1174, .invokevirtual 131, 3), (1177, .pop, 1), (1178, .aload_n 2, 1), (1179, .aload_n 0, 1), (1180, .iload_n 3, 1), (1181, .iconst 1, 1), (1182, .iadd, 1), (1183, .iaload, 1), (1184, .aload_n 0, 1), (1185, .iload_n 3, 1), (1186, .iconst 2, 1), (1187, .iadd, 1), (1188, .iaload, 1), (1189, .aload_n 0, 1), (1190, .iload_n 3, 1), (1191, .iconst 3, 1), (1192, .iadd, 1), (1193, .iaload, 1), (1194, .invokevirtual 134, 3), (1197, .pop, 1), (1198, .goto 379, 3), (1201, .aload_n 1, 1), (1202, .aload_n 0, 1), (1203, .iload_n 3, 1), (1204, .iconst 1, 1), (1205, .iadd, 1), (1206, .iaload, 1), (1207, .aload_n 0, 1), (1208, .iload_n 3, 1), (1209, .iconst 2, 1), (1210, .iadd, 1), (1211, .iaload, 1), (1212, .aload_n 0, 1), (1213, .iload_n 3, 1), (1214, .iconst 3, 1), (1215, .iadd, 1), (1216, .iaload, 1), (1217, .aload_n 0, 1), (1218, .iload_n 3, 1), (1219, .iconst 4, 1)]
def mlaw_14 : List (Nat × Instr × Nat) := [(1220, .iadd, 1), (1221, .iaload, 1), (1222, .aload_n 0, 1), (1223, .iload_n 3, 1), (1224, .iconst 5, 1), (1225, .iadd, 1), (1226, .iaload, 1), (1227, .invokevirtual 135, 3), (1230, .pop, 1), (1231, .aload_n 2, 1), (1232, .aload_n 0, 1), (1233, .iload_n 3, 1), (1234, .iconst 1, 1), (1235, .iadd, 1), (1236, .iaload, 1), (1237, .aload_n 0, 1), (1238, .iload_n 3, 1), (1239, .iconst 2, 1), (1240, .iadd, 1), (1241, .iaload, 1), (1242, .aload_n 0, 1), (1243, .iload_n 3, 1), (1244, .iconst 3, 1), (1245, .iadd, 1), (1246, .iaload, 1), (1247, .aload_n 0, 1), (1248, .iload_n 3, 1), (1249, .iconst 4, 1), (1250, .iadd, 1), (1251, .iaload, 1), (1252, .aload_n 0, 1), (1253, .iload_n 3, 1), (1254, .iconst 5, 1), (1255, .iadd, 1), (1256, .iaload, 1), (1257, .invokevirtual 139, 3), (1260, .pop, 1), (1261, .goto 316, 3), (1264, .aload_n 1, 1), (1265, .aload_n 0, 1), (1266, .iload_n 3, 1), (1267, .iconst 1, 1), (1268, .iadd, 1), (1269, .iaload, 1), (1270, .aload_n 0, 1), (1271, .iload_n 3, 1), (1272, .iconst 2, 1), (1273, .iadd, 1), (1274, .iaload, 1), (1275, .invokevirtual 140, 3), (1278, .pop, 1), (1279, .aload_n 2, 1), (1280, .aload_n 0, 1), (1281, .iload_n 3, 1), (1282, .iconst 1, 1), (1283, .iadd, 1), (1284, .iaload, 1), (1285, .aload_n 0, 1), (1286, .iload_n 3, 1), (1287, .iconst 2, 1)]
def mlaw_15 : List (Nat × Instr × Nat) := [(1288, .iadd, 1), (1289, .iaload, 1), (1290, .invokevirtual 143, 3), (1293, .pop, 1), (1294, .goto 283, 3), (1297, .aload_n 1, 1), (1298, .aload_n 0, 1), (1299, .iload_n 3, 1), (1300, .iconst 1, 1), (1301, .iadd, 1), (1302, .iaload, 1), (1303, .aload_n 0, 1), (1304, .iload_n 3, 1), (1305, .iconst 2, 1), (1306, .iadd, 1), (1307, .iaload, 1), (1308, .aload_n 0, 1), (1309, .iload_n 3, 1), (1310, .iconst 3, 1), (1311, .iadd, 1), (1312, .iaload, 1), (1313, .invokevirtual 144, 3), (1316, .pop, 1), (1317, .aload_n 2, 1), (1318, .aload_n 0, 1), (1319, .iload_n 3, 1), (1320, .iconst 1, 1), (1321, .iadd, 1), (1322, .iaload, 1), (1323, .aload_n 0, 1), (1324, .iload_n 3, 1), (1325, .iconst 2, 1), (1326, .iadd, 1), (1327, .iaload, 1), (1328, .aload_n 0, 1), (1329, .iload_n 3, 1), (1330, .iconst 3, 1), (1331, .iadd, 1), (1332, .iaload, 1), (1333, .invokevirtual 147, 3), (1336, .pop, 1), (1337, .goto 240, 3), (1340, .aload_n 1, 1), (1341, .aload_n 0, 1), (1342, .iload_n 3, 1), (1343, .iconst 1, 1), (1344, .iadd, 1), (1345, .iaload, 1), (1346, .invokevirtual 148, 3), (1349, .pop, 1), (1350, .aload_n 2, 1), (1351, .aload_n 0, 1), (1352, .iload_n 3, 1), (1353, .iconst 1, 1), (1354, .iadd, 1), (1355, .iaload, 1), (1356, .invokevirtual 151, 3), (1359, .pop, 1), (1360, .goto 217, 3), (1363, .aload_n 1, 1)]
def mlaw_16 : List (Nat × Instr × Nat) := [(1364, .aload_n 0, 1), (1365, .iload_n 3, 1), (1366, .iconst 1, 1), (1367, .iadd, 1), (1368, .iaload, 1), (1369, .aload_n 0, 1), (1370, .iload_n 3, 1), (1371, .iconst 2, 1), (1372, .iadd, 1), (1373, .iaload, 1), (1374, .invokevirtual 152, 3), (1377, .pop, 1), (1378, .aload_n 2, 1), (1379, .aload_n 0, 1), (1380, .iload_n 3, 1), (1381, .iconst 1, 1), (1382, .iadd, 1), (1383, .iaload, 1), (1384, .aload_n 0, 1), (1385, .iload_n 3, 1), (1386, .iconst 2, 1), (1387, .iadd, 1), (1388, .iaload, 1), (1389, .invokevirtual 155, 3), (1392, .pop, 1), (1393, .goto 184, 3), (1396, .aload_n 1, 1), (1397, .aload_n 0, 1), (1398, .iload_n 3, 1), (1399, .iconst 1, 1), (1400, .iadd, 1), (1401, .iaload, 1), (1402, .aload_n 0, 1), (1403, .iload_n 3, 1), (1404, .iconst 2, 1), (1405, .iadd, 1), (1406, .iaload, 1), (1407, .aload_n 0, 1), (1408, .iload_n 3, 1), (1409, .iconst 3, 1), (1410, .iadd, 1), (1411, .iaload, 1), (1412, .aload_n 0, 1), (1413, .iload_n 3, 1), (1414, .iconst 4, 1), (1415, .iadd, 1), (1416, .iaload, 1), (1417, .invokevirtual 156, 3), (1420, .pop, 1), (1421, .aload_n 2, 1), (1422, .aload_n 0, 1), (1423, .iload_n 3, 1), (1424, .iconst 1, 1), (1425, .iadd, 1), (1426, .iaload, 1), (1427, .aload_n 0, 1), (1428, .iload_n 3, 1), (1429, .iconst 2, 1), (1430, .iadd, 1), (1431, .iaload, 1)]
def mlaw_17 : List (Nat × Instr × Nat) := [(1432, .aload_n 0, 1), (1433, .iload_n 3, 1), (1434, .iconst 3, 1), (1435, .iadd, 1), (1436, .iaload, 1), (1437, .aload_n 0, 1), (1438, .iload_n 3, 1), (1439, .iconst 4, 1), (1440, .iadd, 1), (1441, .iaload, 1), (1442, .invokevirtual 159, 3), (1445, .pop, 1), (1446, .goto 131, 3), (1449, .aload_n 1, 1), (1450, .aload_n 0, 1), (1451, .iload_n 3, 1), (1452, .iconst 1, 1), (1453, .iadd, 1), (1454, .iaload, 1), (1455, .invokevirtual 160, 3), (1458, .pop2, 1), (1459, .aload_n 2, 1), (1460, .aload_n 0, 1), (1461, .iload_n 3, 1), (1462, .iconst 1, 1), (1463, .iadd, 1), (1464, .iaload, 1), (1465, .invokevirtual 164, 3), (1468, .pop2, 1), (1469, .goto 108, 3), (1472, .aload_n 1, 1), (1473, .aload_n 0, 1), (1474, .iload_n 3, 1), (1475, .iconst 1, 1), (1476, .iadd, 1), (1477, .iaload, 1), (1478, .invokevirtual 165, 3), (1481, .pop, 1), (1482, .aload_n 2, 1), (1483, .aload_n 0, 1), (1484, .iload_n 3, 1), (1485, .iconst 1, 1), (1486, .iadd, 1), (1487, .iaload, 1), (1488, .invokevirtual 168, 3), (1491, .pop, 1), (1492, .goto 85, 3), (1495, .aload_n 1, 1), (1496, .aload_n 0, 1), (1497, .iload_n 3, 1), (1498, .iconst 1, 1), (1499, .iadd, 1), (1500, .iaload, 1), (1501, .invokevirtual 169, 3), (1504, .pop, 1), (1505, .aload_n 2, 1), (1506, .aload_n 0, 1), (1507, .iload_n 3, 1), (1508, .iconst 1, 1), (1509, .iadd, 1)]
def mlaw_18 : List (Nat × Instr × Nat) := [(1510, .iaload, 1), (1511, .invokevirtual 172, 3), (1514, .pop, 1), (1515, .goto 62, 3), (1518, .aload_n 1, 1), (1519, .aload_n 0, 1), (1520, .iload_n 3, 1), (1521, .iconst 1, 1), (1522, .iadd, 1), (1523, .iaload, 1), (1524, .invokevirtual 173, 3), (1527, .pop, 1), (1528, .aload_n 2, 1), (1529, .aload_n 0, 1), (1530, .iload_n 3, 1), (1531, .iconst 1, 1), (1532, .iadd, 1), (1533, .iaload, 1), (1534, .invokevirtual 176, 3), (1537, .pop, 1), (1538, .goto 39, 3), (1541, .aload_n 1, 1), (1542, .aload_n 0, 1), (1543, .iload_n 3, 1), (1544, .iconst 1, 1), (1545, .iadd, 1), (1546, .iaload, 1), (1547, .invokevirtual 177, 3), (1550, .pop, 1), (1551, .aload_n 2, 1), (1552, .aload_n 0, 1), (1553, .iload_n 3, 1), (1554, .iconst 1, 1), (1555, .iadd, 1), (1556, .iaload, 1), (1557, .invokevirtual 180, 3), (1560, .pop, 1), (1561, .goto 16, 3), (1564, .aload_n 1, 1), (1565, .invokevirtual 181, 3), (1568, .pop2, 1), (1569, .aload_n 2, 1), (1570, .invokevirtual 185, 3), (1573, .pop2, 1), (1574, .goto 3, 3), (1577, .iinc 3 6, 3), (1580, .goto (-1562), 3), (1583, .iconst 1, 1), (1584, .ireturn, 1)]
def mlaw : ai_M := ((⟨"FourWatersLaw", "law", "([I)Z"⟩, code, 4, (Option.some Jvm.ClassFile.FieldType.boolean : Option Jvm.ClassFile.FieldType)), ("FourWatersLaw", 9, { frames := 11, cells := 98, slots := 1755, locals := 396 }, mlaw_0 ++ (mlaw_1 ++ (mlaw_2 ++ (mlaw_3 ++ (mlaw_4 ++ (mlaw_5 ++ (mlaw_6 ++ (mlaw_7 ++ (mlaw_8 ++ (mlaw_9 ++ (mlaw_10 ++ (mlaw_11 ++ (mlaw_12 ++ (mlaw_13 ++ (mlaw_14 ++ (mlaw_15 ++ (mlaw_16 ++ (mlaw_17 ++ (mlaw_18))))))))))))))))))))
end
section
def ai_cn : Nat → String
  | 0 => "FourWaters$Fall"
  | 1 => "FourWaters$Lifts"
  | 2 => "FourWaters$Sea"
  | 3 => "FourWaters$Spread"
  | 4 => "FourWaters$Text"
  | 5 => "FourWaters$Things"
  | 6 => "FourWaters$Ways"
  | 7 => "FourWaters"
  | 8 => "FourWatersModel"
  | 9 => "FourWatersLaw"
  | 10 => "java/lang/Integer"
  | 11 => "java/util/Arrays"
  | _ => "java/lang/Math"
/-- instance fields by class and pool number: (number, class, place, final, kind of value, word) -/
def ai_flT : Nat → List (Nat × Nat × Nat × Bool × Nat × Nat)
  | 0 => [(9, 0, 0, false, 0, 283), (15, 0, 1, false, 0, 285), (18, 0, 2, false, 0, 287), (21, 0, 3, false, 0, 288), (24, 0, 4, false, 0, 290), (27, 0, 5, false, 0, 292), (30, 0, 6, false, 0, 294), (33, 0, 7, true, 3, 296), (66, 2, 3, true, 3, 190), (75, 2, 7, true, 3, 199), (78, 2, 0, false, 0, 182), (81, 2, 4, true, 3, 194)]
  | 1 => [(9, 1, 0, false, 0, 144), (15, 1, 1, true, 3, 147), (19, 1, 2, true, 3, 150), (22, 1, 3, true, 3, 153)]
  | 2 => [(9, 2, 0, false, 0, 180), (15, 2, 1, false, 0, 184), (18, 2, 2, false, 0, 187), (21, 2, 3, true, 3, 189), (25, 2, 4, true, 3, 192), (28, 2, 5, true, 3, 195), (31, 2, 6, true, 3, 197), (34, 2, 7, true, 3, 198), (40, 2, 8, true, 3, 200), (47, 2, 9, true, 3, 203), (51, 2, 10, false, 0, 205), (54, 2, 11, true, 3, 207), (57, 2, 12, false, 0, 208), (60, 2, 13, true, 3, 209), (63, 2, 14, true, 3, 210), (66, 2, 15, false, 0, 211), (69, 2, 16, true, 3, 212), (95, 5, 0, false, 0, 112), (98, 1, 0, false, 0, 145), (131, 5, 1, true, 3, 116), (134, 5, 2, true, 3, 118), (137, 5, 3, true, 3, 121), (140, 5, 4, true, 3, 125), (143, 1, 1, true, 3, 149), (146, 1, 2, true, 3, 152), (149, 1, 3, true, 3, 155)]
  | 3 => [(9, 3, 0, true, 3, 320), (15, 3, 1, true, 3, 322)]
  | 4 => [(9, 4, 0, false, 0, 254), (15, 4, 1, false, 0, 256), (18, 4, 2, false, 0, 258), (21, 4, 3, true, 3, 260), (25, 4, 4, true, 3, 261), (28, 4, 5, false, 0, 262), (105, 2, 8, true, 3, 202)]
  | 5 => [(9, 5, 0, false, 0, 111), (15, 5, 1, true, 3, 114), (19, 5, 2, true, 3, 117), (22, 5, 3, true, 3, 120), (25, 5, 4, true, 3, 123)]
  | 6 => [(11, 6, 0, true, 3, 334), (33, 2, 9, true, 3, 204), (39, 1, 0, false, 0, 146), (45, 1, 1, true, 3, 148), (48, 1, 2, true, 3, 151), (51, 1, 3, true, 3, 154), (58, 2, 0, false, 0, 181), (61, 2, 1, false, 0, 185)]
  | 7 => [(10, 7, 0, true, 3, 338), (16, 7, 1, true, 3, 339), (19, 7, 2, true, 3, 340), (22, 7, 3, true, 3, 341), (25, 7, 4, true, 3, 342), (32, 7, 5, true, 3, 343), (39, 7, 6, true, 3, 344), (46, 7, 7, true, 3, 345), (53, 7, 8, true, 3, 346), (57, 7, 9, true, 3, 347), (61, 7, 10, false, 2, 348), (65, 7, 11, false, 2, 349), (68, 7, 12, false, 0, 350), (72, 7, 13, false, 0, 351), (75, 7, 14, false, 0, 352), (107, 2, 5, true, 3, 196), (110, 2, 4, true, 3, 193), (113, 2, 8, true, 3, 201), (125, 5, 4, true, 3, 124), (146, 4, 0, false, 0, 255), (153, 4, 2, false, 0, 259), (160, 4, 1, false, 0, 257), (170, 5, 1, true, 3, 115), (177, 0, 0, false, 0, 284), (180, 0, 1, false, 0, 286), (186, 2, 1, false, 0, 186), (196, 0, 3, false, 0, 289), (199, 0, 4, false, 0, 291), (202, 0, 5, false, 0, 293), (216, 0, 6, false, 0, 295), (226, 2, 10, false, 0, 206), (242, 2, 0, false, 0, 183), (245, 2, 2, false, 0, 188), (250, 3, 0, true, 3, 321), (327, 5, 0, false, 0, 113), (333, 5, 2, true, 3, 119), (336, 5, 3, true, 3, 122), (350, 2, 3, true, 3, 191)]
  | 8 => [(7, 8, 0, true, 3, 940), (13, 8, 1, true, 3, 941), (17, 8, 2, true, 3, 942), (20, 8, 4, true, 3, 944), (23, 8, 6, false, 2, 946), (27, 8, 11, true, 3, 951), (30, 8, 24, true, 3, 964), (33, 8, 25, true, 3, 965), (36, 8, 26, true, 3, 966), (124, 8, 3, false, 0, 943), (128, 8, 7, false, 0, 947), (134, 8, 8, false, 0, 948), (141, 8, 9, false, 1, 949), (149, 8, 10, false, 1, 950), (159, 8, 12, false, 0, 952), (177, 8, 13, false, 0, 953), (180, 8, 14, false, 0, 954), (183, 8, 15, false, 0, 955), (186, 8, 16, false, 0, 956), (189, 8, 17, false, 0, 957), (192, 8, 18, false, 0, 958), (201, 8, 19, false, 0, 959), (204, 8, 20, false, 0, 960), (207, 8, 21, false, 0, 961), (210, 8, 22, false, 0, 962), (213, 8, 23, false, 0, 963), (282, 8, 5, false, 2, 945), (298, 8, 27, false, 2, 967)]
  | _ => []
/-- objects made: (number, class, word of the link) -/
def ai_neT : Nat → List (Nat × Nat × Nat)
  | 2 => [(37, 5, 105), (44, 1, 138)]
  | 7 => [(7, 2, 99), (29, 4, 248), (36, 0, 277), (43, 3, 314), (50, 6, 328)]
  | 9 => [(7, 7, 91), (10, 8, 930)]
  | _ => []
/-- int constants -/
def ai_ciT : Nat → List (Nat × Int32 × Nat)
  | 6 => [(15, 1000000, 744)]
  | 8 => [(243, 1000000, 1274)]
  | 10 => [(265, 1431655765, 800), (266, 858993459, 801), (267, 252645135, 802)]
  | _ => []
/-- string constants: (number, which) -/
def ai_stT : Nat → List (Nat × Nat)
  | 4 => [(73, 0), (75, 1), (77, 2), (79, 3), (81, 4), (83, 5), (85, 6), (87, 7)]
  | _ => []
def ai_stO : String := "FourWaters$Text"
def ai_stN : List Nat := [73, 75, 77, 79, 81, 83, 85, 87]
def ai_stx : List String := ["sea", "water", "thick", "skin", "thing", "lift", "town", "dam"]
def ai_str : List (List Int32) := [[115, 101, 97], [119, 97, 116, 101, 114], [116, 104, 105, 99, 107], [115, 107, 105, 110], [116, 104, 105, 110, 103], [108, 105, 102, 116], [116, 111, 119, 110], [100, 97, 109]]
def ai_stL : List Nat := [3, 5, 5, 4, 5, 4, 4, 3]
/-- long constants -/
def ai_clT : Nat → List (Nat × Int64 × Nat)
  | 2 => [(129, 31, 925)]
  | 7 => [(299, 10, 879), (316, 887, 919), (318, 31, 920)]
  | 8 => [(47, 3, 1052), (61, 6, 1033), (63, 99, 1053), (69, 9, 1070), (71, 2, 1079), (73, 5, 1084), (95, -2, 1085), (100, -1, 1094), (122, 127, 1158), (137, 97, 1175), (139, 122, 1176), (145, 48, 1177), (147, 57, 1178), (238, 4, 1261), (257, 999, 1303), (259, 40, 1304), (285, 10, 1364), (291, 8, 1389), (296, 31, 1403), (305, 887, 1398)]
  | _ => []
/-- native calls: (number, which, word) -/
def ai_naT : Nat → List (Nat × Nat × Nat)
  | 0 => [(3, 0, 282), (49, 5, 668), (84, 4, 831)]
  | 1 => [(3, 0, 143), (25, 1, 631)]
  | 2 => [(3, 0, 104), (83, 1, 174), (120, 4, 686)]
  | 3 => [(3, 0, 319)]
  | 4 => [(3, 0, 253), (61, 2, 547), (65, 3, 557)]
  | 5 => [(3, 0, 110), (32, 1, 626)]
  | 6 => [(3, 0, 333), (68, 5, 757)]
  | 7 => [(1, 0, 96), (342, 4, 862)]
  | 8 => [(1, 0, 935)]
  | _ => []
/-- calls: (number, kind, arguments, method, words) -/
def ai_caT : Nat → List (Nat × Nat × Nat × ai_M × List Nat)
  | 0 => [(37, 1, 4, mfall_weightOf, [665, 666, 81]), (41, 1, 3, mfall_roomOf, [671, 672, 81]), (45, 1, 2, mfall_forceOf, [674, 675, 81]), (54, 0, 0, mfall_forget, [701, 703, 11, 81]), (57, 0, 3, msea_thickAt, [706, 683, 684, 75]), (62, 0, 3, mfall_getsThrough, [707, 709, 12, 81]), (69, 1, 2, marr_fill, [705, 178, 79])]
  | 2 => [(39, 5, 0, mthg_init, [107, 108, 76]), (46, 5, 0, mlift_init, [140, 141, 77]), (72, 0, 1, msea_startAnew, [165, 166, 167, 75]), (76, 4, 3, mf_within, [169, 170, 74]), (89, 1, 2, marr_fill, [177, 178, 79]), (99, 0, 1, mthg_copyFrom, [622, 623, 624, 76]), (103, 0, 1, mlift_copyFrom, [627, 628, 629, 77]), (106, 0, 1, msea_hasCell, [413, 414, 415, 75]), (110, 4, 1, mf_isLayer, [401, 402, 74]), (113, 0, 1, msea_hasPlace, [463, 464, 465, 75]), (116, 0, 3, mlift_add, [467, 468, 469, 77]), (126, 0, 3, msea_thickAt, [775, 683, 684, 75])]
  | 3 => [(18, 1, 2, marr_fill, [788, 178, 79])]
  | 4 => [(31, 4, 3, mf_within, [511, 170, 74]), (35, 0, 0, mtxt_skipBlanks, [524, 526, 2, 80]), (38, 0, 0, mtxt_takeWord, [528, 530, 3, 80]), (42, 1, 1, mtxt_numbersBehind, [595, 596, 80]), (46, 0, 1, mtxt_takeNumbers, [598, 600, 5, 80]), (49, 0, 2, mtxt_tellItem, [606, 608, 7, 80]), (53, 1, 1, mtxt_nameOf, [532, 533, 80]), (57, 0, 3, mtxt_isWord, [543, 545, 4, 80]), (69, 0, 0, mtxt_isFigure, [602, 604, 6, 80]), (89, 0, 1, msea_startAnew, [610, 166, 167, 75]), (94, 0, 2, msea_putDensity, [611, 398, 399, 75]), (98, 0, 3, msea_putThick, [612, 410, 411, 75]), (102, 0, 2, msea_putSkin, [613, 422, 423, 75]), (109, 0, 3, mthg_add, [614, 443, 444, 76]), (114, 0, 3, msea_addLift, [615, 460, 461, 75]), (117, 0, 1, msea_addTown, [616, 476, 477, 75]), (120, 0, 2, msea_putDam, [617, 484, 485, 75])]
  | 5 => [(28, 4, 3, mf_within, [446, 170, 74])]
  | 6 => [(16, 1, 2, marr_fill, [745, 178, 79]), (22, 1, 1, mway_numberOf, [746, 747, 83]), (26, 0, 1, mway_goByLifts, [749, 751, 16, 83]), (30, 0, 1, mway_goBeside, [758, 760, 18, 83]), (54, 0, 3, mway_join, [753, 755, 17, 83]), (64, 0, 3, msea_thickAt, [762, 683, 684, 75])]
  | 7 => [(9, 2, 0, msea_init, [101, 102, 75]), (31, 5, 0, mtxt_init, [250, 251, 80]), (38, 5, 0, mfall_init, [279, 280, 81]), (45, 5, 0, mspr_init, [316, 317, 82]), (52, 5, 0, mway_init, [330, 331, 83]), (78, 0, 1, msea_startAnew, [388, 166, 167, 75]), (82, 0, 1, mf_counted, [389, 391, 0, 74]), (85, 0, 2, msea_putDensity, [397, 398, 399, 75]), (89, 0, 3, msea_putThick, [409, 410, 411, 75]), (93, 0, 2, msea_putSkin, [421, 422, 423, 75]), (96, 1, 1, mf_isLayer, [429, 402, 74]), (100, 1, 3, mf_within, [404, 170, 74]), (104, 0, 1, mf_bad, [430, 432, 1, 74]), (117, 0, 3, mthg_add, [442, 443, 444, 76]), (122, 0, 1, mthg_has, [451, 452, 453, 76]), (128, 0, 3, msea_addLift, [459, 460, 461, 75]), (131, 0, 1, msea_addTown, [475, 476, 477, 75]), (134, 0, 2, msea_putDam, [483, 484, 485, 75]), (138, 0, 2, msea_addDrop, [491, 492, 493, 75]), (141, 0, 1, msea_empty, [499, 500, 501, 75]), (144, 0, 1, mtxt_add, [507, 508, 509, 80]), (149, 0, 1, mtxt_tell, [520, 521, 522, 80]), (156, 0, 1, msea_copyFrom, [618, 619, 620, 75]), (163, 0, 1, msea_goOn, [637, 638, 639, 75]), (166, 0, 0, msea_goBack, [645, 646, 647, 75]), (173, 0, 1, mf_shapeNow, [653, 655, 8, 74]), (183, 0, 1, msea_hasCell, [681, 414, 415, 75]), (189, 0, 3, msea_thickAt, [682, 683, 684, 75]), (192, 0, 3, mf_letGoNow, [693, 695, 10, 74]), (205, 0, 1, mf_takesBallast, [715, 717, 13, 74]), (208, 0, 4, mf_leastBallast, [719, 721, 14, 74]), (212, 0, 4, mf_letGoWithBallast, [723, 725, 15, 74]), (219, 0, 1, msea_hasPlace, [739, 464, 465, 75]), (222, 0, 3, mway_soonestWay, [740, 741, 742, 83]), (229, 0, 1, msea_ceilingOf, [767, 768, 769, 75]), (232, 0, 1, msea_duesOf, [771, 772, 773, 75]), (235, 0, 3, mf_isSpill, [780, 782, 19, 74]), (238, 0, 2, mspr_start, [784, 785, 786, 82]), (248, 0, 2, mspr_goOn, [789, 790, 791, 82]), (253, 1, 1, mint_bitCount, [797, 798, 90]), (258, 0, 5, mf_keepsOut, [803, 805, 20, 74]), (262, 0, 1, msea_allThick, [815, 816, 817, 75]), (265, 0, 5, mfall_shape, [661, 662, 663, 81]), (269, 0, 4, mfall_letGo, [697, 698, 699, 81]), (273, 0, 2, mfall_driftFrom, [827, 828, 829, 81]), (277, 0, 1, mf_areFish, [836, 838, 21, 74]), (280, 0, 1, mf_fillDowns, [840, 842, 22, 74]), (283, 0, 2, mf_caught, [844, 846, 23, 74]), (286, 0, 0, msea_sweetInAll, [852, 853, 854, 75]), (289, 1, 3, mf_isBestTap, [856, 857, 74]), (292, 0, 2, msea_fitsDrops, [867, 868, 869, 75]), (296, 0, 2, mf_nextToTry, [871, 873, 24, 74]), (301, 1, 3, mf_chanceOf, [880, 881, 74]), (305, 0, 2, mf_putFraction, [883, 885, 25, 74]), (309, 0, 1, mf_imageAt, [895, 897, 26, 74]), (313, 0, 1, msea_countOf, [911, 912, 913, 75]), (320, 0, 1, msea_digestWaters, [921, 922, 923, 75]), (324, 0, 1, msea_digestRows, [926, 927, 928, 75]), (330, 0, 3, mf_shapeWithBallast, [657, 659, 9, 74]), (339, 0, 1, mspr_isIn, [807, 808, 809, 82]), (347, 1, 3, mf_tapped, [859, 860, 74])]
  | 8 => [(39, 0, 2, mm_begins, [936, 938, 27, 84]), (43, 0, 1, mm_met, [1037, 1039, 29, 84]), (49, 1, 3, mm_in, [1034, 1035, 84]), (53, 0, 2, mm_isCellOf, [1066, 1068, 33, 84]), (57, 1, 1, mm_isLayer, [1049, 1050, 84]), (65, 0, 2, mm_becomes, [1054, 1056, 31, 84]), (75, 0, 2, mm_isPlaceOf, [1123, 1125, 40, 84]), (78, 1, 2, mm_has, [1143, 1144, 84]), (81, 0, 2, mm_seaTo, [1029, 1031, 28, 84]), (84, 0, 3, mm_waterTo, [1045, 1047, 30, 84]), (88, 0, 4, mm_thickTo, [1062, 1064, 32, 84]), (92, 0, 3, mm_skinTo, [1075, 1077, 34, 84]), (97, 0, 1, mm_badAs, [1086, 1088, 35, 84]), (102, 0, 4, mm_thingTo, [1099, 1101, 36, 84]), (105, 0, 1, mm_isThing, [1107, 1109, 37, 84]), (108, 0, 0, mm_bad, [1111, 1113, 38, 84]), (112, 0, 4, mm_liftTo, [1119, 1121, 39, 84]), (115, 0, 2, mm_townTo, [1131, 1133, 41, 84]), (118, 0, 3, mm_damTo, [1139, 1141, 42, 84]), (131, 0, 1, mm_byteAt, [1171, 1173, 44, 84]), (152, 0, 5, mm_isNamed, [1187, 1189, 47, 84]), (156, 0, 0, mm_wordNow, [1183, 1185, 46, 84]), (162, 1, 1, mm_manyOf, [1191, 1192, 84]), (165, 0, 0, mm_token, [1167, 1169, 43, 84]), (168, 0, 1, mm_takesItem, [1179, 1181, 45, 84]), (171, 0, 0, mm_done, [1194, 1196, 48, 84]), (174, 0, 2, mm_copy, [1198, 1200, 49, 84]), (195, 1, 2, mm_lesser, [1222, 1223, 84]), (198, 0, 0, mm_weighs, [1218, 1220, 51, 84]), (216, 0, 3, mm_thickIn, [1237, 1239, 54, 84]), (219, 0, 1, mm_breaks, [1249, 1251, 56, 84]), (222, 0, 0, mm_room, [1225, 1227, 52, 84]), (225, 0, 1, mm_lay, [1214, 1216, 50, 84]), (229, 0, 1, mm_isCell, [1233, 1235, 53, 84]), (232, 0, 1, mm_comesDown, [1245, 1247, 55, 84]), (235, 0, 1, mm_isLoaded, [1257, 1259, 57, 84]), (240, 0, 2, mm_leastFor, [1262, 1264, 58, 84]), (244, 0, 3, mm_comesTo, [1279, 1281, 59, 84]), (248, 0, 1, mm_isThick, [1283, 1285, 60, 84]), (251, 0, 1, mm_ceilingOf, [1291, 1293, 61, 84]), (254, 0, 1, mm_duesOf, [1295, 1297, 62, 84]), (261, 0, 2, mm_laySpill, [1305, 1307, 63, 84]), (264, 0, 1, mm_spills, [1309, 1311, 64, 84]), (267, 1, 1, mm_ones, [1317, 1318, 84]), (270, 0, 5, mm_keepsOut, [1320, 1322, 65, 84]), (273, 0, 1, mm_driftsTo, [1336, 1338, 66, 84]), (276, 0, 3, mm_tapped, [1348, 1350, 67, 84]), (279, 0, 2, mm_fits, [1356, 1358, 68, 84]), (287, 0, 2, mm_tells, [1365, 1367, 69, 84]), (293, 0, 1, mm_countOf, [1390, 1392, 70, 84]), (301, 0, 1, mm_mix, [1399, 1401, 71, 84]), (307, 0, 0, mm_mixSea, [1404, 1406, 72, 84])]
  | 9 => [(9, 2, 0, mf_init, [93, 94, 74]), (12, 2, 0, mm_init, [932, 933, 84]), (13, 0, 1, mf_sea, [384, 385, 386, 74]), (17, 0, 1, mm_sea, [1025, 1026, 1027, 84]), (18, 0, 2, mf_water, [393, 394, 395, 74]), (22, 0, 2, mm_water, [1041, 1042, 1043, 84]), (23, 0, 3, mf_thick, [405, 406, 407, 74]), (27, 0, 3, mm_thick, [1058, 1059, 1060, 84]), (28, 0, 2, mf_skin, [417, 418, 419, 74]), (31, 0, 2, mm_skin, [1071, 1072, 1073, 84]), (32, 0, 3, mf_tide, [425, 426, 427, 74]), (35, 0, 3, mm_tide, [1080, 1081, 1082, 84]), (36, 0, 2, mf_current, [434, 435, 436, 74]), (39, 0, 2, mm_current, [1090, 1091, 1092, 84]), (40, 0, 3, mf_thing, [438, 439, 440, 74]), (43, 0, 3, mm_thing, [1095, 1096, 1097, 84]), (44, 0, 2, mf_ballast, [447, 448, 449, 74]), (47, 0, 2, mm_ballast, [1103, 1104, 1105, 84]), (48, 0, 3, mf_lift, [455, 456, 457, 74]), (51, 0, 3, mm_lift, [1115, 1116, 1117, 84]), (52, 0, 1, mf_town, [471, 472, 473, 74]), (55, 0, 1, mm_town, [1127, 1128, 1129, 84]), (56, 0, 2, mf_dam, [479, 480, 481, 74]), (60, 0, 2, mm_dam, [1135, 1136, 1137, 84]), (61, 0, 2, mf_drop, [487, 488, 489, 74]), (64, 0, 2, mm_drop, [1146, 1147, 1148, 84]), (65, 0, 1, mf_clean, [495, 496, 497, 74]), (68, 0, 1, mm_clean, [1150, 1151, 1152, 84]), (69, 0, 1, mf_type, [503, 504, 505, 74]), (72, 0, 1, mm_type, [1154, 1155, 1156, 84]), (73, 0, 0, mf_clear, [512, 513, 514, 74]), (77, 0, 0, mm_clear, [1159, 1160, 1161, 84]), (78, 0, 0, mf_read, [516, 517, 518, 74]), (81, 0, 0, mm_read, [1163, 1164, 1165, 84]), (82, 0, 1, mf_hours, [633, 634, 635, 74]), (85, 0, 1, mm_hours, [1202, 1203, 1204, 84]), (86, 0, 0, mf_undo, [641, 642, 643, 74]), (89, 0, 0, mm_undo, [1206, 1207, 1208, 84]), (90, 0, 2, mf_of, [649, 650, 651, 74]), (93, 0, 2, mm_of, [1210, 1211, 1212, 84]), (94, 0, 2, mf_deep, [677, 678, 679, 74]), (97, 0, 2, mm_deep, [1229, 1230, 1231, 84]), (98, 0, 3, mf_rests, [689, 690, 691, 74]), (101, 0, 3, mm_rests, [1241, 1242, 1243, 84]), (102, 0, 3, mf_sink, [711, 712, 713, 74]), (105, 0, 3, mm_sink, [1253, 1254, 1255, 84]), (106, 0, 2, mf_holds, [727, 728, 729, 74]), (109, 0, 2, mm_holds, [1266, 1267, 1268, 84]), (110, 0, 3, mf_bestHour, [731, 732, 733, 74]), (113, 0, 3, mm_bestHour, [1270, 1271, 1272, 84]), (114, 0, 2, mf_soonest, [735, 736, 737, 74]), (117, 0, 2, mm_soonest, [1275, 1276, 1277, 84]), (118, 0, 1, mf_net, [763, 764, 765, 74]), (121, 0, 1, mm_net, [1287, 1288, 1289, 84]), (122, 0, 4, mf_spill, [776, 777, 778, 74]), (126, 0, 4, mm_spill, [1299, 1300, 1301, 84]), (127, 0, 4, mf_keepOut, [793, 794, 795, 74]), (130, 0, 4, mm_keepOut, [1313, 1314, 1315, 84]), (131, 0, 3, mf_shaken, [811, 812, 813, 74]), (134, 0, 3, mm_shaken, [1324, 1325, 1326, 84]), (135, 0, 5, mf_lies, [819, 820, 821, 74]), (139, 0, 5, mm_lies, [1328, 1329, 1330, 84]), (140, 0, 2, mf_wentIn, [823, 824, 825, 74]), (143, 0, 2, mm_wentIn, [1332, 1333, 1334, 84]), (144, 0, 3, mf_nets, [832, 833, 834, 74]), (147, 0, 3, mm_nets, [1340, 1341, 1342, 84]), (148, 0, 1, mf_tap, [848, 849, 850, 74]), (151, 0, 1, mm_tap, [1344, 1345, 1346, 84]), (152, 0, 2, mf_known, [863, 864, 865, 74]), (155, 0, 2, mm_known, [1352, 1353, 1354, 84]), (156, 0, 4, mf_storm, [875, 876, 877, 74]), (159, 0, 4, mm_storm, [1360, 1361, 1362, 84]), (160, 0, 1, mf_part, [887, 888, 889, 74]), (164, 0, 1, mm_part, [1369, 1370, 1371, 84]), (165, 0, 1, mf_image, [891, 892, 893, 74]), (168, 0, 1, mm_image, [1373, 1374, 1375, 84]), (169, 0, 1, mf_from, [899, 900, 901, 74]), (172, 0, 1, mm_from, [1377, 1378, 1379, 84]), (173, 0, 1, mf_status, [903, 904, 905, 74]), (176, 0, 1, mm_status, [1381, 1382, 1383, 84]), (177, 0, 1, mf_count, [907, 908, 909, 74]), (180, 0, 1, mm_count, [1385, 1386, 1387, 84]), (181, 0, 0, mf_digest, [915, 916, 917, 74]), (185, 0, 0, mm_digest, [1394, 1395, 1396, 84])]
  | _ => []
/-- the words that speak of nest mates -/
def ai_nwI : List Nat := [107, 140, 169, 172, 250, 279, 316, 330, 401, 446, 511]
def ai_df : Nat → List Value
  | 0 => [.int 0, .int 0, .int 0, .int 0, .int 0, .int 0, .int 0, .null]
  | 1 => [.int 0, .null, .null, .null]
  | 2 => [.int 0, .int 0, .int 0, .null, .null, .null, .null, .null, .null, .null, .int 0, .null, .int 0, .null, .null, .int 0, .null]
  | 3 => [.null, .null]
  | 4 => [.int 0, .int 0, .int 0, .null, .null, .int 0]
  | 5 => [.int 0, .null, .null, .null, .null]
  | 6 => [.null]
  | 7 => [.null, .null, .null, .null, .null, .null, .null, .null, .null, .null, .long 0, .long 0, .int 0, .int 0, .int 0]
  | 8 => [.null, .null, .null, .int 0, .null, .long 0, .long 0, .int 0, .int 0, .int 0, .int 0, .null, .int 0, .int 0, .int 0, .int 0, .int 0, .int 0, .int 0, .int 0, .int 0, .int 0, .int 0, .int 0, .null, .null, .null, .long 0]
  | _ => []
def ai_dfN : Nat → Nat
  | 0 => 8
  | 1 => 4
  | 2 => 17
  | 3 => 2
  | 4 => 6
  | 5 => 5
  | 6 => 1
  | 7 => 15
  | 8 => 28
  | _ => 0
end
section
/-! an interpreter over abstract cells: refs are places of a list, retAddr k is the k-th thing outside -/
abbrev ai_E : Type := (Bool × List Int32) ⊕ (Nat × List Value)
abbrev ai_H : Type := List ai_E
abbrev ai_L : Type := List (Option Value)
def ai_fd : List (Nat × Instr × Nat) → Nat → Option Instr
  | [], _ => none
  | q :: t, pc => match Nat.beq q.1 pc with
    | true => some q.2.1
    | false => ai_fd t pc
def ai_by {α : Type} : List (Nat × α) → Nat → Option α
  | [], _ => none
  | q :: t, k => match Nat.beq q.1 k with
    | true => some q.2
    | false => ai_by t k
def ai_nth {α : Type} : List α → Nat → Option α
  | [], _ => none
  | a :: _, 0 => some a
  | _ :: t, k + 1 => ai_nth t k
def ai_lo (L : ai_L) (i : Nat) : Option Value := match ai_nth L i with
  | some (some v) => some v
  | _ => none
/-- a long just ahead of place i is lost -/
def ai_cu (L : ai_L) : Nat → ai_L
  | 0 => L
  | j + 1 => match ai_lo L j with
    | some w => match w.category with
      | 2 => L.set j none
      | _ => L
    | none => L
def ai_s1 (L : ai_L) (i : Nat) (v : Value) : ai_L := (ai_cu L i).set i (some v)
def ai_s2 (L : ai_L) (i : Nat) (v : Value) : ai_L := ((ai_cu L i).set i (some v)).set (i + 1) none
def ai_jp (pc : Nat) (off : Int) : Option Nat := match (pc : Int) + off with
  | .ofNat t => some t
  | .negSucc _ => none
def ai_br {α : Type} (c : Jvm.ClassFile.Cond) (x y : Int32) (a b : α) : α := match c with
  | .eq => if x = y then a else b
  | .ne => if x = y then b else a
  | .lt => if x < y then a else b
  | .ge => if y ≤ x then a else b
  | .gt => if y < x then a else b
  | .le => if x ≤ y then a else b
def ai_ix (l : List Int32) (i : Int32) : Option Int32 := if i < 0 then none else ai_nth l i.toNatClampNeg
def ai_up (l : List Int32) (i x : Int32) : Option (List Int32) := if i < 0 then none else match Nat.blt i.toNatClampNeg l.length with
  | true => some (l.set i.toNatClampNeg x)
  | false => none
def ai_fv (k : Nat) (v : Value) : Bool := match v with
  | .int x => match k with
    | 0 => true
    | 1 => decide (x = 0 ∨ x = 1)
    | _ => false
  | .long _ => Nat.beq k 2
  | .ref _ => Nat.beq k 3
  | .null => Nat.beq k 3
  | _ => false
def ai_cat (st : List Value) : Nat := (st.map fun v => v.category).sum
abbrev ai_S : Type := Nat × ai_L × List Value × ai_H × Nat × Nat
def ai_step (X : List (List Int32)) (M : ai_M) (i : Instr) (pc : Nat) (L : ai_L) (st : List Value) (h : ai_H) (cs sl : Nat) : Option ai_S :=
  match i with
  | .iconst k => some (pc + 1, L, .int (Int32.ofInt k) :: st, h, cs, sl)
  | .bipush k => some (pc + 2, L, .int (Int8.ofInt k).toInt32 :: st, h, cs, sl)
  | .sipush k => some (pc + 3, L, .int (Int16.ofInt k).toInt32 :: st, h, cs, sl)
  | .lconst k => some (pc + 1, L, .long (Int64.ofNat k.val) :: st, h, cs, sl)
  | .iload_n k => match ai_lo L k.val with
    | some (.int x) => some (pc + 1, L, .int x :: st, h, cs, sl)
    | _ => none
  | .iload k => match ai_lo L k with
    | some (.int x) => some (pc + 2, L, .int x :: st, h, cs, sl)
    | _ => none
  | .lload_n k => match ai_lo L k.val with
    | some (.long x) => some (pc + 1, L, .long x :: st, h, cs, sl)
    | _ => none
  | .lload k => match ai_lo L k with
    | some (.long x) => some (pc + 2, L, .long x :: st, h, cs, sl)
    | _ => none
  | .aload_n k => match ai_lo L k.val with
    | some (.ref x) => some (pc + 1, L, .ref x :: st, h, cs, sl)
    | some (.retAddr x) => some (pc + 1, L, .retAddr x :: st, h, cs, sl)
    | _ => none
  | .aload k => match ai_lo L k with
    | some (.ref x) => some (pc + 2, L, .ref x :: st, h, cs, sl)
    | some (.retAddr x) => some (pc + 2, L, .retAddr x :: st, h, cs, sl)
    | _ => none
  | .istore_n k => match st with
    | .int x :: r => match Nat.blt k.val L.length with
      | true => some (pc + 1, ai_s1 L k.val (.int x), r, h, cs, sl)
      | false => none
    | _ => none
  | .istore k => match st with
    | .int x :: r => match Nat.blt k L.length with
      | true => some (pc + 2, ai_s1 L k (.int x), r, h, cs, sl)
      | false => none
    | _ => none
  | .astore_n k => match st with
    | .ref x :: r => match Nat.blt k.val L.length with
      | true => some (pc + 1, ai_s1 L k.val (.ref x), r, h, cs, sl)
      | false => none
    | _ => none
  | .astore k => match st with
    | .ref x :: r => match Nat.blt k L.length with
      | true => some (pc + 2, ai_s1 L k (.ref x), r, h, cs, sl)
      | false => none
    | _ => none
  | .lstore_n k => match st with
    | .long x :: r => match Nat.blt (k.val + 1) L.length with
      | true => some (pc + 1, ai_s2 L k.val (.long x), r, h, cs, sl)
      | false => none
    | _ => none
  | .lstore k => match st with
    | .long x :: r => match Nat.blt (k + 1) L.length with
      | true => some (pc + 2, ai_s2 L k (.long x), r, h, cs, sl)
      | false => none
    | _ => none
  | .iinc k d => match ai_lo L k with
    | some (.int x) => match Nat.blt k L.length with
      | true => some (pc + 3, ai_s1 L k (.int (x + Int32.ofInt d)), st, h, cs, sl)
      | false => none
    | _ => none
  | .iadd => match st with
    | .int y :: .int x :: r => some (pc + 1, L, .int (x + y) :: r, h, cs, sl)
    | _ => none
  | .isub => match st with
    | .int y :: .int x :: r => some (pc + 1, L, .int (x - y) :: r, h, cs, sl)
    | _ => none
  | .imul => match st with
    | .int y :: .int x :: r => some (pc + 1, L, .int (x * y) :: r, h, cs, sl)
    | _ => none
  | .iand => match st with
    | .int y :: .int x :: r => some (pc + 1, L, .int (x &&& y) :: r, h, cs, sl)
    | _ => none
  | .ior => match st with
    | .int y :: .int x :: r => some (pc + 1, L, .int (x ||| y) :: r, h, cs, sl)
    | _ => none
  | .ixor => match st with
    | .int y :: .int x :: r => some (pc + 1, L, .int (x ^^^ y) :: r, h, cs, sl)
    | _ => none
  | .ishl => match st with
    | .int y :: .int x :: r => some (pc + 1, L, .int (x <<< (y &&& 31)) :: r, h, cs, sl)
    | _ => none
  | .ishr => match st with
    | .int y :: .int x :: r => some (pc + 1, L, .int (x >>> (y &&& 31)) :: r, h, cs, sl)
    | _ => none
  | .iushr => match st with
    | .int y :: .int x :: r => some (pc + 1, L, .int (x.toUInt32 >>> (y.toUInt32 &&& Int32.toUInt32 31)).toInt32 :: r, h, cs, sl)
    | _ => none
  | .idiv => match st with
    | .int y :: .int x :: r => if y = 0 then none else some (pc + 1, L, .int (x / y) :: r, h, cs, sl)
    | _ => none
  | .irem => match st with
    | .int y :: .int x :: r => if y = 0 then none else some (pc + 1, L, .int (x - x / y * y) :: r, h, cs, sl)
    | _ => none
  | .ineg => match st with
    | .int x :: r => some (pc + 1, L, .int (-x) :: r, h, cs, sl)
    | _ => none
  | .ladd => match st with
    | .long y :: .long x :: r => some (pc + 1, L, .long (x + y) :: r, h, cs, sl)
    | _ => none
  | .lsub => match st with
    | .long y :: .long x :: r => some (pc + 1, L, .long (x - y) :: r, h, cs, sl)
    | _ => none
  | .lmul => match st with
    | .long y :: .long x :: r => some (pc + 1, L, .long (x * y) :: r, h, cs, sl)
    | _ => none
  | .ldiv => match st with
    | .long y :: .long x :: r => if y = 0 then none else some (pc + 1, L, .long (x / y) :: r, h, cs, sl)
    | _ => none
  | .lrem => match st with
    | .long y :: .long x :: r => if y = 0 then none else some (pc + 1, L, .long (x - x / y * y) :: r, h, cs, sl)
    | _ => none
  | .i2l => match st with
    | .int x :: r => some (pc + 1, L, .long x.toInt64 :: r, h, cs, sl)
    | _ => none
  | .lcmp => match st with
    | .long y :: .long x :: r => some (pc + 1, L, .int (lg_cmp x y) :: r, h, cs, sl)
    | _ => none
  | .dup => match st with
    | v :: r => match v.category with
      | 1 => some (pc + 1, L, v :: v :: r, h, cs, sl)
      | _ => none
    | _ => none
  | .pop => match st with
    | v :: r => match v.category with
      | 1 => some (pc + 1, L, r, h, cs, sl)
      | _ => none
    | _ => none
  | .pop2 => match st with
    | v :: r => match v.category with
      | 2 => some (pc + 1, L, r, h, cs, sl)
      | _ => none
    | _ => none
  | .dup_x1 => match st with
    | v :: w :: r => match v.category with
      | 1 => match w.category with
        | 1 => some (pc + 1, L, v :: w :: v :: r, h, cs, sl)
        | _ => none
      | _ => none
    | _ => none
  | .dup2 => match st with
    | v :: w :: r => match v.category with
      | 1 => match w.category with
        | 1 => some (pc + 1, L, v :: w :: v :: w :: r, h, cs, sl)
        | _ => none
      | _ => none
    | _ => none
  | .goto off => match ai_jp pc off with
    | some t => some (t, L, st, h, cs, sl)
    | none => none
  | .ifCond c off => match st with
    | .int x :: r => match ai_jp pc off with
      | some t => ai_br c x 0 (some (t, L, r, h, cs, sl)) (some (pc + 3, L, r, h, cs, sl))
      | none => none
    | _ => none
  | .if_icmp c off => match st with
    | .int y :: .int x :: r => match ai_jp pc off with
      | some t => ai_br c x y (some (t, L, r, h, cs, sl)) (some (pc + 3, L, r, h, cs, sl))
      | none => none
    | _ => none
  | .tableswitch d lo hi offs => match st with
    | .int x :: r => if x.toInt < lo ∨ hi < x.toInt then (match ai_jp pc d with
        | some t => some (t, L, r, h, cs, sl)
        | none => none)
      else match offs[(x.toInt - lo).toNat]? with
        | some off => match ai_jp pc off with
          | some t => some (t, L, r, h, cs, sl)
          | none => none
        | none => none
    | _ => none
  | .ldc k => match ai_by (ai_ciT (ai_cl M)) k with
    | some q => some (pc + 2, L, .int q.1 :: st, h, cs, sl)
    | none => match ai_by (ai_stT (ai_cl M)) k with
      | some j => some (pc + 2, L, .retAddr (j + 2) :: st, h, cs, sl)
      | none => none
  | .ldc_w k => match ai_by (ai_ciT (ai_cl M)) k with
    | some q => some (pc + 3, L, .int q.1 :: st, h, cs, sl)
    | none => none
  | .ldc2_w k => match ai_by (ai_clT (ai_cl M)) k with
    | some q => some (pc + 3, L, .long q.1 :: st, h, cs, sl)
    | none => none
  | .getfield k => match st with
    | .ref a :: r => match ai_by (ai_flT (ai_cl M)) k with
      | some q => match ai_nth h a with
        | some (.inr o) => match Nat.beq o.1 q.1 with
          | true => match ai_nth o.2 q.2.1 with
            | some v => some (pc + 3, L, v :: r, h, cs, sl)
            | none => none
          | false => none
        | _ => none
      | none => none
    | _ => none
  | .putfield k => match st with
    | v :: .ref a :: r => match ai_by (ai_flT (ai_cl M)) k with
      | some q => match ai_nth h a with
        | some (.inr o) => match Nat.beq o.1 q.1 && ai_fv q.2.2.2.1 v && Nat.blt q.2.1 o.2.length && (!q.2.2.1 || (Nat.beq (ai_cl M) q.1 && decide ((ai_y M).name = "<init>"))) with
          | true => some (pc + 3, L, r, h.set a (.inr (o.1, o.2.set q.2.1 v)), cs, sl)
          | false => none
        | _ => none
      | none => none
    | _ => none
  | .getstatic k => match Nat.beq k 80 && Nat.beq (ai_cl M) 2 with
    | true => some (pc + 3, L, .retAddr 0 :: st, h, cs, sl)
    | false => none
  | .iaload => match st with
    | .int j :: .ref a :: r => match ai_nth h a with
      | some (.inl o) => match o.1 with
        | false => match ai_ix o.2 j with
          | some x => some (pc + 1, L, .int x :: r, h, cs, sl)
          | none => none
        | true => none
      | _ => none
    | .int j :: .retAddr a :: r => match ai_nth X a with
      | some o => match ai_ix o j with
        | some x => some (pc + 1, L, .int x :: r, h, cs, sl)
        | none => none
      | none => none
    | _ => none
  | .baload => match st with
    | .int j :: .ref a :: r => match ai_nth h a with
      | some (.inl o) => match o.1 with
        | true => match ai_ix o.2 j with
          | some x => some (pc + 1, L, .int x :: r, h, cs, sl)
          | none => none
        | false => none
      | _ => none
    | _ => none
  | .iastore => match st with
    | .int x :: .int j :: .ref a :: r => match ai_nth h a with
      | some (.inl o) => match o.1 with
        | false => match ai_up o.2 j x with
          | some q => some (pc + 1, L, r, h.set a (.inl (false, q)), cs, sl)
          | none => none
        | true => none
      | _ => none
    | _ => none
  | .bastore => match st with
    | .int x :: .int j :: .ref a :: r => match ai_nth h a with
      | some (.inl o) => match o.1 with
        | true => match ai_up o.2 j (vp_nar .boolean x) with
          | some q => some (pc + 1, L, r, h.set a (.inl (true, q)), cs, sl)
          | none => none
        | false => none
      | _ => none
    | _ => none
  | .arraylength => match st with
    | .ref a :: r => match ai_nth h a with
      | some (.inl o) => some (pc + 1, L, .int (Int32.ofNat o.2.length) :: r, h, cs, sl)
      | _ => none
    | .retAddr a :: r => match ai_nth X a with
      | some o => some (pc + 1, L, .int (Int32.ofNat o.length) :: r, h, cs, sl)
      | none => none
    | _ => none
  | .newarray t => match st with
    | .int n :: r => if n < 0 then none else match Nat.blt cs (ai_rm M).cells && Nat.ble (sl + n.toNatClampNeg) (ai_rm M).slots && Nat.ble n.toNatClampNeg 65536 with
      | true => match t with
        | .int => some (pc + 2, L, .ref h.length :: r, h ++ [.inl (false, List.replicate n.toNatClampNeg 0)], cs + 1, sl + n.toNatClampNeg)
        | .boolean => some (pc + 2, L, .ref h.length :: r, h ++ [.inl (true, List.replicate n.toNatClampNeg 0)], cs + 1, sl + n.toNatClampNeg)
        | _ => none
      | false => none
    | _ => none
  | .new k => match ai_by (ai_neT (ai_cl M)) k with
    | some q => match Nat.blt cs (ai_rm M).cells && Nat.ble (sl + ai_dfN q.1) (ai_rm M).slots with
      | true => some (pc + 3, L, .ref h.length :: st, h ++ [.inr (q.1, ai_df q.1)], cs + 1, sl + ai_dfN q.1)
      | false => none
    | none => none
  | _ => none
def ai_rk : Instr → Bool
  | .return_ => true
  | .ireturn => true
  | .lreturn => true
  | .areturn => true
  | _ => false
def ai_ret (M : ai_M) (i : Instr) (st : List Value) (h : ai_H) (cs sl : Nat) : Option (Option Value × ai_H) :=
  match Nat.beq cs (ai_rm M).cells && Nat.ble sl (ai_rm M).slots with
  | false => none
  | true => match i with
    | .return_ => match st with
      | [] => match ai_rt M with
        | none => some (none, h)
        | some _ => none
      | _ => none
    | .ireturn => match st with
      | [.int v] => match ai_rt M with
        | some .int => some (some (.int v), h)
        | some .boolean => if v = 0 ∨ v = 1 then some (some (.int v), h) else none
        | _ => none
      | _ => none
    | .lreturn => match st with
      | [.long v] => match ai_rt M with
        | some .long => some (some (.long v), h)
        | _ => none
      | _ => none
    | .areturn => match st with
      | [.ref k] => match ai_rt M with
        | some (.object _) => some (some (.ref k), h)
        | _ => none
      | [.retAddr k] => match ai_rt M with
        | some (.object _) => some (some (.retAddr k), h)
        | _ => none
      | _ => none
    | _ => none
def ai_ci : Instr → Option (Nat × Nat)
  | .invokevirtual k => some (0, k)
  | .invokestatic k => some (1, k)
  | .invokespecial k => some (2, k)
  | _ => none
/-- a copy of n ints out of f at sp into g at dp -/
def ai_cp (f g : List Int32) (sp dp n : Nat) : List Int32 := g.take dp ++ ((f.drop sp).take n ++ g.drop (dp + n))
def ai_cpy (f g : List Int32) (sp dp n : Int32) : Option (List Int32) :=
  if sp < 0 ∨ dp < 0 ∨ n < 0 then none else match Nat.ble (sp.toNatClampNeg + n.toNatClampNeg) f.length && Nat.ble (dp.toNatClampNeg + n.toNatClampNeg) g.length with
  | true => some (ai_cp f g sp.toNatClampNeg dp.toNatClampNeg n.toNatClampNeg)
  | false => none
/-- a string's length and its signs -/
def ai_sln (k : Nat) : Option Int32 := match k with
  | j + 2 => match ai_nth ai_str j with
    | some l => some (Int32.ofNat l.length)
    | none => none
  | _ => none
def ai_sch (k : Nat) (i : Int32) : Option Int32 := match k with
  | j + 2 => match ai_nth ai_str j with
    | some l => ai_ix l i
    | none => none
  | _ => none
/-- calls that are rows of the kit: 0 Object's maker, 1 arraycopy, 2 a string's length, 3 its sign at a place, 4 max, 5 min -/
def ai_nat (X : List (List Int32)) (M : ai_M) (kb w : Nat) (st : List Value) (h : ai_H) (cs sl : Nat) : Option (List Value × ai_H) :=
  match Nat.ble 1 (ai_rm M).frames && Nat.ble cs (ai_rm M).cells && Nat.ble sl (ai_rm M).slots with
  | false => none
  | true => match w with
    | 0 => match st with
      | .ref _ :: r => match Nat.beq kb 2 && Nat.ble (ai_cat r + 12) (ai_rm M).locals with
        | true => some (r, h)
        | false => none
      | _ => none
    | 1 => match st with
      | .int n :: .int dp :: .ref a :: .int sp :: q :: r => match Nat.beq kb 1 && Nat.ble (ai_cat r + (nativeFrameWords "java/lang/System" "arraycopy" 5 + 11)) (ai_rm M).locals with
        | true => match ai_nth h a with
          | some (.inl o) => match o.1 with
            | false => match q with
              | .ref b => match ai_nth h b with
                | some (.inl f) => match f.1 with
                  | false => match ai_cpy f.2 o.2 sp dp n with
                    | some z => some (r, h.set a (.inl (false, z)))
                    | none => none
                  | true => none
                | _ => none
              | .retAddr b => match ai_nth X b with
                | some f => match ai_cpy f o.2 sp dp n with
                  | some z => some (r, h.set a (.inl (false, z)))
                  | none => none
                | none => none
              | _ => none
            | true => none
          | _ => none
        | false => none
      | _ => none
    | 2 => match st with
      | .retAddr k :: r => match Nat.beq kb 0 && Nat.ble 4 (ai_rm M).frames && Nat.ble 85 (ai_rm M).locals && Nat.ble (ai_cat r) 8 with
        | true => match ai_sln k with
          | some x => some (.int x :: r, h)
          | none => none
        | false => none
      | _ => none
    | 3 => match st with
      | .int i :: .retAddr k :: r => match Nat.beq kb 0 && Nat.ble 4 (ai_rm M).frames && Nat.ble 85 (ai_rm M).locals && Nat.ble (ai_cat r) 8 with
        | true => match ai_sch k i with
          | some x => some (.int x :: r, h)
          | none => none
        | false => none
      | _ => none
    | 4 => match st with
      | .int y :: .int x :: r => match Nat.beq kb 1 && Nat.ble (ai_cat r + 13) (ai_rm M).locals with
        | true => some (.int (if x < y then y else x) :: r, h)
        | false => none
      | _ => none
    | 5 => match st with
      | .int y :: .int x :: r => match Nat.beq kb 1 && Nat.ble (ai_cat r + 13) (ai_rm M).locals with
        | true => some (.int (if y < x then y else x) :: r, h)
        | false => none
      | _ => none
    | _ => none
def ai_tk : Nat → List Value → List Value → Option (List Value × List Value)
  | 0, st, acc => some (acc, st)
  | n + 1, v :: st, acc => ai_tk n st (v :: acc)
  | _ + 1, [], _ => none
def ai_en : List Value → ai_L
  | [] => []
  | v :: t => match v.category with
    | 2 => some v :: none :: ai_en t
    | _ => some v :: ai_en t
def ai_pad : Nat → ai_L → ai_L
  | 0, L => L
  | n + 1, [] => none :: ai_pad n []
  | n + 1, x :: t => x :: ai_pad n t
/-- room of a call: the callee's in the caller's -/
def ai_fit (R R' : Room) (mL cs sl : Nat) (rest : List Value) : Bool :=
  Nat.ble (R'.frames + 1) R.frames && Nat.ble (8 + (mL + 11) + R'.locals) R.locals && Nat.ble (cs + R'.cells) R.cells && Nat.ble (sl + R'.slots) R.slots && Nat.ble (ai_cat rest) 8
/-- a call's arguments: those off the stack; for a method of an object its cell must be of the method's class -/
def ai_arg (M : ai_M) (kb k n : Nat) (M' : ai_M) (st : List Value) (h : ai_H) (cs sl : Nat) : Option (List Value × List Value) :=
  match k with
  | 0 => match ai_tk n st [] with
    | some (as, .ref a :: rest) => match ai_nth h a with
      | some (.inr o) => match Nat.beq kb 0 && Nat.beq o.1 (ai_cl M') && ai_fit (ai_rm M) (ai_rm M') (ai_mL M') cs sl rest && Nat.ble (ai_en (.ref a :: as)).length (ai_mL M') with
        | true => some (.ref a :: as, rest)
        | false => none
      | _ => none
    | _ => none
  | 1 => match ai_tk n st [] with
    | some (as, rest) => match Nat.beq kb 1 && ai_fit (ai_rm M) (ai_rm M') (ai_mL M') cs sl rest && Nat.ble (ai_en as).length (ai_mL M') with
      | true => some (as, rest)
      | false => none
    | none => none
  | 4 => match ai_tk n st [] with
    | some (as, rest) => match Nat.beq kb 1 && ai_fit (ai_rm M) (ai_rm M') (ai_mL M') cs sl rest && Nat.ble (ai_en as).length (ai_mL M') with
      | true => some (as, rest)
      | false => none
    | none => none
  | 2 => match ai_tk n st [] with
    | some (as, .ref a :: rest) => match Nat.beq kb 2 && ai_fit (ai_rm M) (ai_rm M') (ai_mL M') cs sl rest && Nat.ble (ai_en (.ref a :: as)).length (ai_mL M') with
      | true => some (.ref a :: as, rest)
      | false => none
    | _ => none
  | 5 => match ai_tk n st [] with
    | some (as, .ref a :: rest) => match Nat.beq kb 2 && ai_fit (ai_rm M) (ai_rm M') (ai_mL M') cs sl rest && Nat.ble (ai_en (.ref a :: as)).length (ai_mL M') with
      | true => some (.ref a :: as, rest)
      | false => none
    | _ => none
  | _ => none
def ai_run (X : List (List Int32)) : Nat → ai_M → Nat → ai_L → List Value → ai_H → Nat → Nat → Option (Option Value × ai_H)
  | 0, _, _, _, _, _, _, _ => none
  | n + 1, M, pc, L, st, h, cs, sl => match ai_fd (ai_cd M) pc with
    | none => none
    | some i => match ai_ci i with
      | none => match ai_rk i with
        | true => ai_ret M i st h cs sl
        | false => match ai_step X M i pc L st h cs sl with
          | none => none
          | some q => ai_run X n M q.1 q.2.1 q.2.2.1 q.2.2.2.1 q.2.2.2.2.1 q.2.2.2.2.2
      | some k => match ai_by (ai_naT (ai_cl M)) k.2 with
        | some w => match ai_nat X M k.1 w.1 st h cs sl with
          | none => none
          | some q => ai_run X n M (pc + 3) L q.1 q.2 cs sl
        | none => match ai_by (ai_caT (ai_cl M)) k.2 with
          | none => none
          | some w => match ai_arg M k.1 w.1 w.2.1 w.2.2.1 st h cs sl with
            | none => none
            | some q => match ai_run X n w.2.2.1 0 (ai_pad (ai_mL w.2.2.1) (ai_en q.1)) [] h 0 0 with
              | none => none
              | some z => ai_run X n M (pc + 3) L (z.1.toList ++ q.2) z.2 (cs + (ai_rm w.2.2.1).cells) (sl + (ai_rm w.2.2.1).slots)
end
section
/-! the interpreter's cells and values in the machine -/
theorem ai_nth_eq {α : Type} : ∀ (l : List α) (k : Nat), ai_nth l k = l[k]?
  | [], _ => by simp [ai_nth]
  | _ :: _, 0 => by simp [ai_nth]
  | _ :: t, k + 1 => by simp [ai_nth, ai_nth_eq t k]
theorem ai_by_mem {α : Type} {k : Nat} {v : α} : ∀ {l : List (Nat × α)}, ai_by l k = some v → (k, v) ∈ l
  | [], h => by simp [ai_by] at h
  | q :: t, h => by
    unfold ai_by at h
    split at h
    · rename_i hb
      have e : q.1 = k := Nat.eq_of_beq_eq_true hb
      have e2 : q.2 = v := Option.some.inj h
      rw [← e, ← e2]
      exact List.mem_cons_self
    · exact List.mem_cons_of_mem _ (ai_by_mem h)
theorem ai_fd_mem {pc : Nat} {i : Instr} : ∀ {l : List (Nat × Instr × Nat)}, ai_fd l pc = some i → ∃ n, (pc, i, n) ∈ l
  | [], h => by simp [ai_fd] at h
  | q :: t, h => by
    unfold ai_fd at h
    split at h
    · rename_i hb
      have e : q.1 = pc := Nat.eq_of_beq_eq_true hb
      have e2 : q.2.1 = i := Option.some.inj h
      exact ⟨q.2.2, by rw [← e, ← e2]; exact List.mem_cons_self⟩
    · obtain ⟨n, hn⟩ := ai_fd_mem h
      exact ⟨n, List.mem_cons_of_mem _ hn⟩
theorem ai_dec {M : ai_M} (ok : ai_okC M = true) {pc : Nat} {i : Instr} (h : ai_fd (ai_cd M) pc = some i) : ∃ n, decode (ai_cc M) pc = .ok (i, n) ∧ (ai_sw i = true ∨ n = ai_len i) := by
  obtain ⟨n, hn⟩ := ai_fd_mem h
  have h1 := List.all_eq_true.mp ok _ hn
  unfold ai_okI at h1
  rw [Bool.and_eq_true, Bool.or_eq_true, decide_eq_true_eq] at h1
  exact ⟨n, h1.1, h1.2.imp id Nat.eq_of_beq_eq_true⟩
theorem ai_decN {M : ai_M} (ok : ai_okC M = true) {pc : Nat} {i : Instr} (h : ai_fd (ai_cd M) pc = some i) (hs : ai_sw i = false) : decode (ai_cc M) pc = .ok (i, ai_len i) := by
  obtain ⟨n, h1, h2⟩ := ai_dec ok h
  rcases h2 with h2 | h2
  · rw [hs] at h2; cases h2
  · rw [h1, h2]
theorem ai_jp_ok {pc t : Nat} {off : Int} (h : ai_jp pc off = some t) : (pc : Int) + off = (t : Int) := by
  unfold ai_jp at h
  split at h
  · rename_i k hk
    rw [hk, ← Option.some.inj h]
    rfl
  · cases h
abbrev ai_G : Type := Nat × (Nat → Nat) × ClassId × ClassId × va_G
abbrev ai_D (G : ai_G) : va_G := G.2.2.2.2
def ai_v (G : ai_G) : Value → Value
  | .ref k => .ref (G.1 + k)
  | .retAddr k => .ref (G.2.1 k)
  | .int x => .int x
  | .long x => .long x
  | .float x => .float x
  | .double x => .double x
  | .null => .null
theorem ai_v_cat (G : ai_G) (v : Value) : (ai_v G v).category = v.category := by cases v <;> rfl
theorem ai_cat_map (G : ai_G) (st : List Value) : ((st.map (ai_v G)).map fun v => v.category).sum = ai_cat st := by
  unfold ai_cat
  rw [List.map_map]
  congr 1
  exact List.map_congr_left (fun v _ => ai_v_cat G v)
def ai_ca (G : ai_G) : Bool → ClassId
  | false => G.2.2.1
  | true => G.2.2.2.1
def ai_c (G : ai_G) : ai_E → va_E
  | .inl q => .inl (ai_ca G q.1, q.2.length, .inl (fun j => q.2.getD j 0))
  | .inr q => .inr (q.1, q.2.map (ai_v G))
def ai_ws (G : ai_G) : Nat → ai_H → va_W
  | _, [] => []
  | a, x :: t => (a, ai_c G x) :: ai_ws G (a + 1) t
theorem ai_ws_get (G : ai_G) : ∀ (h : ai_H) (a k : Nat), (ai_ws G a h)[k]? = (ai_nth h k).map (fun x => (a + k, ai_c G x))
  | [], _, _ => by simp [ai_ws, ai_nth]
  | _ :: _, _, 0 => by simp [ai_ws, ai_nth]
  | _ :: t, a, k + 1 => by
    have := ai_ws_get G t (a + 1) k
    simp only [ai_ws, ai_nth, List.getElem?_cons_succ]
    rw [this]
    congr 1
    funext x
    rw [Nat.add_assoc, Nat.add_comm 1 k]
theorem ai_ws_at {G : ai_G} {h : ai_H} {k : Nat} {x : ai_E} (a : Nat) (hk : ai_nth h k = some x) : (ai_ws G a h)[k]? = some (a + k, ai_c G x) := by rw [ai_ws_get, hk]; rfl
theorem ai_ws_set (G : ai_G) (x : ai_E) : ∀ (h : ai_H) (a k : Nat), (ai_ws G a h).set k (a + k, ai_c G x) = ai_ws G a (h.set k x)
  | [], _, _ => by simp [ai_ws]
  | _ :: _, _, 0 => by simp [ai_ws]
  | _ :: t, a, k + 1 => by
    have := ai_ws_set G x t (a + 1) k
    simp only [ai_ws, List.set_cons_succ]
    rw [← this, Nat.add_assoc, Nat.add_comm 1 k]
theorem ai_ws_app (G : ai_G) (x : ai_E) : ∀ (h : ai_H) (a : Nat), ai_ws G a (h ++ [x]) = ai_ws G a h ++ [(a + h.length, ai_c G x)]
  | [], _ => by simp [ai_ws]
  | _ :: t, a => by
    have := ai_ws_app G x t (a + 1)
    simp only [List.cons_append, ai_ws, List.length_cons]
    rw [this, Nat.add_assoc, Nat.add_comm 1 t.length]
theorem ai_ws_D (G : ai_G) (h : ai_H) : va_D (fun q => G.1 ≤ q) (ai_ws G G.1 h) := by
  have key : ∀ (k : Nat) (q : Nat × va_E), (ai_ws G G.1 h)[k]? = some q → q.1 = G.1 + k := by
    intro k q hq
    rw [ai_ws_get] at hq
    cases hx : ai_nth h k with
    | none => rw [hx] at hq; cases hq
    | some x => rw [hx] at hq; cases hq; rfl
  refine ⟨fun i j p q h1 h2 h3 => ?_, fun k q h1 => ?_⟩
  · have e1 := key i p h1
    have e2 := key j q h2
    omega
  · have e1 := key k q h1
    show G.1 ≤ q.1
    omega
def ai_ty (G : ai_G) : List (ClassId × FieldType) := [(G.2.2.1, .int), (G.2.2.2.1, .boolean)]
/-- the heap from G.1 on is the list h -/
def ai_P (G : ai_G) (h : ai_H) (H : Heap) : Prop := H.size = G.1 + h.length ∧ va_P (ai_D G) vwCl (ai_ws G G.1 h) H
def ai_nw : List Jvm.Cond := ai_nwI.filterMap (fun i => lw_tbl[i]?)
/-- the string constants: their cells, their links, and what String and Preconditions hold -/
def ai_St (G : ai_G) (U : State) : Prop := (∃ adV : Nat → Nat, vk_S 8 ai_stL ai_str (fun i => G.2.1 (i + 2)) adV (fun q => G.1 ≤ q) U U.heap) ∧ (∀ i : Nat, i < 8 → vk_R ai_stO (ai_stN.getD i 0) (ai_stx.getD i "") (G.2.1 (i + 2)) U) ∧ va_Z "java/lang/String" "COMPACT_STRINGS" "Z" (.int 1) (fun q => G.1 ≤ q) U U.heap ∧ va_Zq "jdk/internal/util/Preconditions" "SIOOBE_FORMATTER" "Ljava/util/function/BiFunction;" (fun q => G.1 ≤ q) U U.heap
/-- what holds outside: tables, words of nest mates, the one static row, the rows outside -/
def ai_En (G : ai_G) (X : List (List Int32)) (U : State) : Prop := va_K (ai_D G) vwCl (ai_ty G) U ∧ (∀ w ∈ ai_nw, va_Nw w U) ∧ (va_Z "FourWaters" "FIRST_DENSITY" "[I" (.ref (G.2.1 0)) (fun q => G.1 ≤ q) U U.heap ∧ ai_St G U) ∧ ∀ (k : Nat) (o : List Int32), ai_nth X k = some o → va_X (G.2.1 k) o.length (fun j => o.getD j 0) U U.heap ∧ G.2.1 k < G.1
theorem ai_St_to {G : ai_G} {s U : State} {H : Heap} {locs : List Loc} (h : ai_St G s) (hS : va_S (fun q => G.1 ≤ q) s.heap H locs) (hU : U.heap = H) (hW : s.WarmedH U.vm) : ai_St G U := by
  obtain ⟨⟨adV, h1⟩, h2, h3, h4⟩ := h
  have hq : ∀ a : Nat, a < s.heap.size → ¬ (G.1 ≤ a) → U.heap[a]? = s.heap[a]? := fun a x y => by rw [hU]; exact hS.2.1 a x y
  exact ⟨⟨adV, (vk_S.moved hW.alike h1).kept hq⟩, fun i hi => vk_R.warm hW (h2 i hi), (h3.moved hW.alike).kept hq, (h4.moved hW.alike).kept hq⟩
theorem ai_St_eq {G : ai_G} {s U : State} (h : ai_St G s) (hh : U.heap = s.heap) (hv : s.vm = U.vm) : ai_St G U := by
  obtain ⟨⟨adV, h1⟩, h2, h3, h4⟩ := h
  have ha : s.vm.Alike U.vm := by rw [hv]; exact Vm.Alike.refl U.vm
  exact ⟨⟨adV, by rw [hh]; exact vk_S.moved ha h1⟩, fun i hi => vk_R.same hv.symm (h2 i hi), by rw [hh]; exact h3.moved ha, by rw [hh]; exact h4.moved ha⟩
def ai_gt : List Jvm.Cond := lw_tbl.filter goodWord
theorem ai_gt_at {i : Nat} {w : Jvm.Cond} (h : lw_tbl[i]? = some w) (g : goodWord w = true) : w ∈ ai_gt := List.mem_filter.mpr ⟨List.mem_of_getElem? h, g⟩
def ai_w (M : ai_M) : List Jvm.Cond := .code (ai_y M) (ai_cc M) (ai_mL M) (ai_rt M) :: ai_gt
def ai_C (p : Program) (s : State) (m : MethodId) (args : Array Value) (meth : Method) (c : Code) (M : ai_M) (G : ai_G) (X : List (List Int32)) : Prop :=
  p.tables.exec = Jvm.exec ∧ c.code = ai_cc M ∧ meth.sig.returnType = ai_rt M ∧ c.maxLocals = ai_mL M ∧ s.vm.findClass (ai_own M) = some m.cls ∧ (∀ w ∈ ai_gt, w.before args s = true) ∧ meth.locks = false ∧ ((ai_y M).name = "<init>" → meth.name = "<init>") ∧ ai_En G X s ∧ G.1 ≤ s.heap.size ∧ ai_okC M = true ∧ ai_cn (ai_cl M) = ai_own M
def ai_lv (G : ai_G) : Nat → ai_L → List (Nat × Value)
  | _, [] => []
  | k, none :: t => ai_lv G (k + 1) t
  | k, some v :: t => (k, ai_v G v) :: ai_lv G (k + 1) t
theorem ai_lv_mem (G : ai_G) : ∀ (L : ai_L) (k : Nat) (q : Nat × Value), q ∈ ai_lv G k L ↔ ∃ (j : Nat) (v : Value), L[j]? = some (some v) ∧ q = (k + j, ai_v G v)
  | [], k, q => by simp [ai_lv]
  | none :: t, k, q => by
    rw [ai_lv, ai_lv_mem G t (k + 1) q]
    constructor
    · rintro ⟨j, v, h, e⟩
      exact ⟨j + 1, v, by simpa using h, by rw [e, Nat.add_assoc, Nat.add_comm 1 j]⟩
    · rintro ⟨j, v, h, e⟩
      cases j with
      | zero => simp at h
      | succ j => exact ⟨j, v, by simpa using h, by rw [e, Nat.add_assoc, Nat.add_comm 1 j]⟩
  | some w :: t, k, q => by
    rw [ai_lv, List.mem_cons, ai_lv_mem G t (k + 1) q]
    constructor
    · rintro (h | ⟨j, v, h, e⟩)
      · exact ⟨0, w, by simp, by rw [h]; rfl⟩
      · exact ⟨j + 1, v, by simpa using h, by rw [e, Nat.add_assoc, Nat.add_comm 1 j]⟩
    · rintro ⟨j, v, h, e⟩
      cases j with
      | zero =>
        simp at h
        left
        rw [e, h]; rfl
      | succ j =>
        right
        exact ⟨j, v, by simpa using h, by rw [e, Nat.add_assoc, Nat.add_comm 1 j]⟩
def ai_I (G : ai_G) (nL : Nat) (L : ai_L) (ls : Array Slot) : Prop := L.length = nL ∧ lv_has ls nL (ai_lv G 0 L)
theorem ai_lo_get {L : ai_L} {i : Nat} {v : Value} (h : ai_lo L i = some v) : L[i]? = some (some v) := by
  unfold ai_lo at h
  rw [ai_nth_eq] at h
  split at h
  · rename_i w hw
    rw [hw, Option.some.inj h]
  · cases h
theorem ai_lo_mem {G : ai_G} {L : ai_L} {i : Nat} {v : Value} (h : ai_lo L i = some v) : (i, ai_v G v) ∈ ai_lv G 0 L := (ai_lv_mem G L 0 _).mpr ⟨i, v, ai_lo_get h, by rw [Nat.zero_add]⟩
theorem ai_lo_at {G : ai_G} {nL : Nat} {L : ai_L} {ls : Array Slot} {i : Nat} {v : Value} (hL : ai_I G nL L ls) (h : ai_lo L i = some v) : ls[i]? = some (.val (ai_v G v)) := hL.2.2.2 _ (ai_lo_mem h)
theorem ai_cu_len (L : ai_L) (i : Nat) : (ai_cu L i).length = L.length := by
  cases i with
  | zero => rfl
  | succ j =>
    simp only [ai_cu]
    split
    · split <;> simp
    · rfl
theorem ai_cu_get {L : ai_L} {i j : Nat} {v : Value} (h : (ai_cu L i)[j]? = some (some v)) : L[j]? = some (some v) ∧ ¬ (j + 1 = i ∧ v.category = 2) := by
  cases i with
  | zero => exact ⟨h, fun q => by omega⟩
  | succ i =>
    simp only [ai_cu] at h
    split at h
    · rename_i w hw
      have hg := ai_lo_get hw
      split at h
      · rename_i hc
        by_cases e : j = i
        · subst e
          rw [List.getElem?_set] at h
          simp at h
        · rw [List.getElem?_set_ne (fun q => e q.symm)] at h
          exact ⟨h, fun q => e (by omega)⟩
      · rename_i hc
        refine ⟨h, fun q => ?_⟩
        have e : j = i := by omega
        subst e
        rw [h] at hg
        cases hg
        exact hc q.2
    · rename_i hn
      refine ⟨h, fun q => ?_⟩
      have e : j = i := by omega
      subst e
      have hz : ai_lo L j = some v := by
        unfold ai_lo
        rw [ai_nth_eq, h]
      rw [hn] at hz
      cases hz
theorem ai_I_s1 {G : ai_G} {nL : Nat} {L : ai_L} {ls' : Array Slot} {i : Nat} {v : Value} (hl : L.length = nL) (h : lv_has ls' nL ((i, ai_v G v) :: (ai_lv G 0 L).filter (fun q => !(q.1 == i) && !(q.1 + 1 == i && q.2.category == 2)))) : ai_I G nL (ai_s1 L i v) ls' := by
  refine ⟨by rw [ai_s1, List.length_set, ai_cu_len, hl], h.1, h.2.1, fun q hq => h.2.2 q ?_⟩
  obtain ⟨j, w, hj, rfl⟩ := (ai_lv_mem G _ 0 q).mp hq
  rw [Nat.zero_add]
  unfold ai_s1 at hj
  by_cases e : j = i
  · subst e
    rw [List.getElem?_set] at hj
    simp at hj
    rw [hj.2]
    exact List.mem_cons_self
  · rw [List.getElem?_set_ne (fun q => e q.symm)] at hj
    obtain ⟨h1, h2⟩ := ai_cu_get hj
    refine List.mem_cons_of_mem _ (List.mem_filter.mpr ⟨(ai_lv_mem G L 0 _).mpr ⟨j, w, h1, by rw [Nat.zero_add]⟩, ?_⟩)
    simp only [ai_v_cat, Bool.and_eq_true, Bool.not_eq_true', beq_eq_false_iff_ne, ne_eq, Bool.and_eq_false_imp, beq_iff_eq]
    exact ⟨e, fun q1 q2 => h2 ⟨q1, q2⟩⟩
theorem ai_I_s2 {G : ai_G} {nL : Nat} {L : ai_L} {ls' : Array Slot} {i : Nat} {v : Value} (hl : L.length = nL) (h : lv_has ls' nL ((i, ai_v G v) :: (ai_lv G 0 L).filter (fun q => !(q.1 == i) && (!(q.1 == i + 1) && !(q.1 + 1 == i && q.2.category == 2))))) : ai_I G nL (ai_s2 L i v) ls' := by
  refine ⟨by rw [ai_s2, List.length_set, List.length_set, ai_cu_len, hl], h.1, h.2.1, fun q hq => h.2.2 q ?_⟩
  obtain ⟨j, w, hj, rfl⟩ := (ai_lv_mem G _ 0 q).mp hq
  rw [Nat.zero_add]
  unfold ai_s2 at hj
  by_cases e1 : j = i + 1
  · subst e1
    rw [List.getElem?_set] at hj
    simp at hj
  rw [List.getElem?_set_ne (fun q => e1 q.symm)] at hj
  by_cases e : j = i
  · subst e
    rw [List.getElem?_set] at hj
    simp at hj
    rw [hj.2]
    exact List.mem_cons_self
  · rw [List.getElem?_set_ne (fun q => e q.symm)] at hj
    obtain ⟨h1, h2⟩ := ai_cu_get hj
    refine List.mem_cons_of_mem _ (List.mem_filter.mpr ⟨(ai_lv_mem G L 0 _).mpr ⟨j, w, h1, by rw [Nat.zero_add]⟩, ?_⟩)
    simp only [ai_v_cat, Bool.and_eq_true, Bool.not_eq_true', beq_eq_false_iff_ne, ne_eq, Bool.and_eq_false_imp, beq_iff_eq]
    exact ⟨e, e1, fun q1 q2 => h2 ⟨q1, q2⟩⟩
theorem ai_pad_len : ∀ (n : Nat) (L : ai_L), L.length ≤ n → (ai_pad n L).length = n
  | 0, L, h => by simp at h; rw [h]; rfl
  | n + 1, [], _ => by rw [ai_pad, List.length_cons, ai_pad_len n [] (Nat.zero_le _)]
  | n + 1, x :: t, h => by rw [ai_pad, List.length_cons, ai_pad_len n t (by simpa using h)]
theorem ai_pad_get : ∀ (n : Nat) (L : ai_L) (j : Nat) (v : Value), (ai_pad n L)[j]? = some (some v) → L[j]? = some (some v)
  | 0, L, j, v, h => h
  | n + 1, [], 0, v, h => by simp [ai_pad] at h
  | n + 1, [], j + 1, v, h => by
    rw [ai_pad] at h
    have := ai_pad_get n [] j v (by simpa using h)
    simp at this
  | n + 1, x :: t, 0, v, h => by simpa [ai_pad] using h
  | n + 1, x :: t, j + 1, v, h => by
    rw [ai_pad] at h
    have := ai_pad_get n t j v (by simpa using h)
    simpa using this
theorem ai_en_args (G : ai_G) : ∀ (as : List Value) (k j : Nat) (v : Value), (ai_en as)[j]? = some (some v) → (k + j, ai_v G v) ∈ lv_args k (as.map (ai_v G))
  | [], _, _, _, h => by simp [ai_en] at h
  | w :: t, k, j, v, h => by
    rw [List.map_cons, lv_args, ai_v_cat]
    unfold ai_en at h
    split at h
    · rename_i hc
      rw [if_pos hc]
      match j, h with
      | 0, h =>
        simp at h
        rw [h]
        exact List.mem_cons_self
      | 1, h => simp at h
      | j + 2, h =>
        have := ai_en_args G t (k + 2) j v (by simpa using h)
        refine List.mem_cons_of_mem _ ?_
        rw [show k + (j + 2) = k + 2 + j by omega]
        exact this
    · rename_i hc
      rw [if_neg hc]
      match j, h with
      | 0, h =>
        simp at h
        rw [h]
        exact List.mem_cons_self
      | j + 1, h =>
        have := ai_en_args G t (k + 1) j v (by simpa using h)
        refine List.mem_cons_of_mem _ ?_
        rw [show k + (j + 1) = k + 1 + j by omega]
        exact this
theorem ai_en_len (G : ai_G) : ∀ (as : List Value), (lg_sl (as.map (ai_v G))).length = (ai_en as).length
  | [] => by simp [lg_sl, ai_en]
  | w :: t => by
    have ih := ai_en_len G t
    unfold lg_sl at ih ⊢
    rw [List.map_cons, List.flatMap_cons, ai_v_cat, List.length_append, ih]
    have e : ai_en (w :: t) = if w.category = 2 then some w :: none :: ai_en t else some w :: ai_en t := by
      simp only [ai_en]
      split
      · rename_i hc
        rw [if_pos hc]
      · rename_i hc
        rw [if_neg hc]
    rw [e]
    split
    · simp; omega
    · simp; omega
theorem ai_I_entry (G : ai_G) (as : List Value) {n : Nat} (h : (ai_en as).length ≤ n) : ai_I G n (ai_pad n (ai_en as)) ((lg_sl (as.map (ai_v G)) ++ List.replicate (n - (lg_sl (as.map (ai_v G))).length) Slot.unset).toArray) := by
  have e := lv_entry (as.map (ai_v G)) (n := n) (by rw [ai_en_len]; exact h)
  refine ⟨ai_pad_len n _ h, e.1, e.2.1, fun q hq => e.2.2 q ?_⟩
  obtain ⟨j, v, hj, rfl⟩ := (ai_lv_mem G _ 0 q).mp hq
  exact ai_en_args G as 0 j v (ai_pad_get n _ j v hj)
end
section
/-! the pools' tables are what the words say -/
def ai_tk2 (ty : Option FieldType) (k : Nat) : Bool := match ty with
  | some .int => Nat.beq k 0
  | some .boolean => Nat.beq k 1
  | some .long => Nat.beq k 2
  | some (.object _) => Nat.beq k 3
  | some (.array _) => Nat.beq k 3
  | _ => false
def ai_okF (c : Nat) (q : Nat × Nat × Nat × Bool × Nat × Nat) : Bool := match ai_nth vwCl q.2.1 with
  | some t => Nat.blt q.2.2.1 t.2.2 && decide (lw_tbl[q.2.2.2.2.2]? = some (Jvm.Cond.fieldLink (ai_cn c) q.1 t.1 (t.2.1 q.2.2.1).2.1 (t.2.1 q.2.2.1).2.2.1)) && decide ((t.2.1 q.2.2.1).1 = t.1) && decide ((t.2.1 q.2.2.1).2.2.2 = q.2.2.2.1) && ai_tk2 (parseFieldDescriptor (t.2.1 q.2.2.1).2.2.1) q.2.2.2.2.1
  | none => false
theorem ai_flO : ∀ c, (ai_flT c).all (ai_okF c) = true
  | 0 => by decide +kernel
  | 1 => by decide +kernel
  | 2 => by decide +kernel
  | 3 => by decide +kernel
  | 4 => by decide +kernel
  | 5 => by decide +kernel
  | 6 => by decide +kernel
  | 7 => by decide +kernel
  | 8 => by decide +kernel
  | 9 => by decide +kernel
  | 10 => by decide +kernel
  | 11 => by decide +kernel
  | 12 => by decide +kernel
  | _ + 13 => rfl
def ai_okE (c : Nat) (q : Nat × Nat × Nat) : Bool := match ai_nth vwCl q.2.1 with
  | some t => decide (lw_tbl[q.2.2]? = some (Jvm.Cond.classLink (ai_cn c) q.1 t.1))
  | none => false
theorem ai_neO : ∀ c, (ai_neT c).all (ai_okE c) = true
  | 0 => by decide +kernel
  | 1 => by decide +kernel
  | 2 => by decide +kernel
  | 3 => by decide +kernel
  | 4 => by decide +kernel
  | 5 => by decide +kernel
  | 6 => by decide +kernel
  | 7 => by decide +kernel
  | 8 => by decide +kernel
  | 9 => by decide +kernel
  | 10 => by decide +kernel
  | 11 => by decide +kernel
  | 12 => by decide +kernel
  | _ + 13 => rfl
def ai_okJ (c : Nat) (q : Nat × Int32 × Nat) : Bool := decide (lw_tbl[q.2.2]? = some (Jvm.Cond.constant (ai_cn c) q.1 q.2.1))
theorem ai_ciO : ∀ c, (ai_ciT c).all (ai_okJ c) = true
  | 0 => by decide +kernel
  | 1 => by decide +kernel
  | 2 => by decide +kernel
  | 3 => by decide +kernel
  | 4 => by decide +kernel
  | 5 => by decide +kernel
  | 6 => by decide +kernel
  | 7 => by decide +kernel
  | 8 => by decide +kernel
  | 9 => by decide +kernel
  | 10 => by decide +kernel
  | 11 => by decide +kernel
  | 12 => by decide +kernel
  | _ + 13 => rfl
def ai_okL (c : Nat) (q : Nat × Int64 × Nat) : Bool := decide (lw_tbl[q.2.2]? = some (Jvm.Cond.constantLong (ai_cn c) q.1 q.2.1))
theorem ai_clO : ∀ c, (ai_clT c).all (ai_okL c) = true
  | 0 => by decide +kernel
  | 1 => by decide +kernel
  | 2 => by decide +kernel
  | 3 => by decide +kernel
  | 4 => by decide +kernel
  | 5 => by decide +kernel
  | 6 => by decide +kernel
  | 7 => by decide +kernel
  | 8 => by decide +kernel
  | 9 => by decide +kernel
  | 10 => by decide +kernel
  | 11 => by decide +kernel
  | 12 => by decide +kernel
  | _ + 13 => rfl
def ai_nn : Nat → Option MethodName
  | 0 => some Lib.objectInit
  | 1 => some arraycopyName
  | 2 => some ⟨"java/lang/String", "length", "()I"⟩
  | 3 => some ⟨"java/lang/String", "charAt", "(I)C"⟩
  | 4 => some Lib.Math.max.name
  | 5 => some Lib.Math.min.name
  | _ => none
def ai_okA (c : Nat) (q : Nat × Nat × Nat) : Bool := match ai_nn q.2.1 with
  | some y => decide (lw_tbl[q.2.2]? = some (Jvm.Cond.methodLink (ai_cn c) q.1 y))
  | none => true
theorem ai_naO : ∀ c, (ai_naT c).all (ai_okA c) = true
  | 0 => by decide +kernel
  | 1 => by decide +kernel
  | 2 => by decide +kernel
  | 3 => by decide +kernel
  | 4 => by decide +kernel
  | 5 => by decide +kernel
  | 6 => by decide +kernel
  | 7 => by decide +kernel
  | 8 => by decide +kernel
  | 9 => by decide +kernel
  | 10 => by decide +kernel
  | 11 => by decide +kernel
  | 12 => by decide +kernel
  | _ + 13 => rfl
def ai_okK (c : Nat) (q : Nat × Nat × Nat × ai_M × List Nat) : Bool :=
  let y := ai_y q.2.2.2.1
  decide (y.cls ≠ "java/lang/invoke/MethodHandle") && decide (y.cls ≠ "java/lang/invoke/VarHandle") && decide ((parseMethodDescriptor y.desc).map (fun d => d.parameters.length) = some q.2.2.1) && decide (ai_cn (ai_cl q.2.2.2.1) = ai_own q.2.2.2.1) && decide (y.cls = ai_own q.2.2.2.1) &&
  (match q.2.1 with
  | 0 => decide (lw_tbl[q.2.2.2.2.getD 0 0]? = some (Jvm.Cond.methodLink (ai_cn c) q.1 y)) && decide (lw_tbl[q.2.2.2.2.getD 1 0]? = some (Jvm.Cond.instanceMethod y)) && decide (lw_tbl[q.2.2.2.2.getD 2 0]? = some (Jvm.Cond.selects y.cls y y)) && decide (lw_tbl[q.2.2.2.2.getD 3 0]? = some (Jvm.Cond.initialized y.cls)) && (match ai_nth vwCl (ai_cl q.2.2.2.1) with | some t => decide (t.1 = y.cls) | none => false)
  | 1 => decide (lw_tbl[q.2.2.2.2.getD 0 0]? = some (Jvm.Cond.methodLink (ai_cn c) q.1 y)) && decide (lw_tbl[q.2.2.2.2.getD 1 0]? = some (Jvm.Cond.static y)) && decide (lw_tbl[q.2.2.2.2.getD 2 0]? = some (Jvm.Cond.initialized y.cls))
  | 2 => decide (lw_tbl[q.2.2.2.2.getD 0 0]? = some (Jvm.Cond.methodLink (ai_cn c) q.1 y)) && decide (lw_tbl[q.2.2.2.2.getD 1 0]? = some (Jvm.Cond.instanceMethod y)) && decide (lw_tbl[q.2.2.2.2.getD 2 0]? = some (Jvm.Cond.initialized y.cls)) && decide (y.name = "<init>") && decide (ai_rt q.2.2.2.1 = none)
  | 4 => decide (lw_tbl[q.2.2.2.2.getD 0 0]? = some (Jvm.Cond.methodLinkNest (ai_cn c) q.1 y "FourWaters")) && (ai_nwI.contains (q.2.2.2.2.getD 0 0)) && decide (lw_tbl[q.2.2.2.2.getD 1 0]? = some (Jvm.Cond.static y)) && decide (lw_tbl[q.2.2.2.2.getD 2 0]? = some (Jvm.Cond.initialized y.cls))
  | 5 => decide (lw_tbl[q.2.2.2.2.getD 0 0]? = some (Jvm.Cond.methodLinkNest (ai_cn c) q.1 y "FourWaters")) && (ai_nwI.contains (q.2.2.2.2.getD 0 0)) && decide (lw_tbl[q.2.2.2.2.getD 1 0]? = some (Jvm.Cond.instanceMethod y)) && decide (lw_tbl[q.2.2.2.2.getD 2 0]? = some (Jvm.Cond.initialized y.cls)) && decide (y.name = "<init>") && decide (ai_rt q.2.2.2.1 = none)
  | _ => false)
theorem ai_caK : ∀ c, (ai_caT c).all (ai_okK c) = true
  | 0 => by decide +kernel
  | 1 => by decide +kernel
  | 2 => by decide +kernel
  | 3 => by decide +kernel
  | 4 => by decide +kernel
  | 5 => by decide +kernel
  | 6 => by decide +kernel
  | 7 => by decide +kernel
  | 8 => by decide +kernel
  | 9 => by decide +kernel
  | 10 => by decide +kernel
  | 11 => by decide +kernel
  | 12 => by decide +kernel
  | _ + 13 => rfl
def ai_okS (c : Nat) (q : Nat × Nat) : Bool := decide (q.2 < 8) && decide (ai_stN.getD q.2 0 = q.1) && decide (ai_cn c = ai_stO)
theorem ai_stK : ∀ c, (ai_stT c).all (ai_okS c) = true
  | 4 => by decide +kernel
  | 0 => rfl
  | 1 => rfl
  | 2 => rfl
  | 3 => rfl
  | _ + 5 => rfl
end
section
/-! the classes of the world -/
def ai_okX (ci : Nat) (t : vw_C) : Prop := (∀ w ∈ u_ws t.1 t.2.1 t.2.2, w ∈ ai_gt) ∧ (∃ ty : Nat → FieldType, (∀ k, k < t.2.2 → parseFieldDescriptor (t.2.1 k).2.2.1 = some (ty k)) ∧ ∀ k, k < t.2.2 → defaultValue (ty k) = vp_V (ai_df ci) k) ∧ (∀ a, a < t.2.2 → ∀ b, b < t.2.2 → a ≠ b → (t.2.1 a).2.1 ≠ (t.2.1 b).2.1) ∧ Jvm.Cond.instantiable t.1 t.2.2 ∈ ai_gt ∧ Jvm.Cond.initialized t.1 ∈ ai_gt ∧ ai_cn ci = t.1 ∧ (ai_df ci).length = t.2.2 ∧ ai_dfN ci = t.2.2
theorem ai_inG {ws : List Jvm.Cond} (h : ∀ w ∈ ws, w ∈ lw_tbl) (g : ∀ w ∈ ws, goodWord w = true) : ∀ w ∈ ws, w ∈ ai_gt := fun w hw => List.mem_filter.mpr ⟨h w hw, g w hw⟩
theorem ai_xO0 : ai_okX 0 (RX0, TX0, 8) := ⟨ai_inG (by decide +kernel) (by decide +kernel), ⟨tyX0, tyX0_ok, by decide +kernel⟩, nmX0, List.mem_filter.mpr ⟨by decide +kernel, by decide +kernel⟩, List.mem_filter.mpr ⟨by decide +kernel, by decide +kernel⟩, rfl, rfl, rfl⟩
theorem ai_xO1 : ai_okX 1 (RX1, TX1, 4) := ⟨ai_inG (by decide +kernel) (by decide +kernel), ⟨tyX1, tyX1_ok, by decide +kernel⟩, nmX1, List.mem_filter.mpr ⟨by decide +kernel, by decide +kernel⟩, List.mem_filter.mpr ⟨by decide +kernel, by decide +kernel⟩, rfl, rfl, rfl⟩
theorem ai_xO2 : ai_okX 2 (RX2, TX2, 17) := ⟨ai_inG (by decide +kernel) (by decide +kernel), ⟨tyX2, tyX2_ok, by decide +kernel⟩, nmX2, List.mem_filter.mpr ⟨by decide +kernel, by decide +kernel⟩, List.mem_filter.mpr ⟨by decide +kernel, by decide +kernel⟩, rfl, rfl, rfl⟩
theorem ai_xO3 : ai_okX 3 (RX3, TX3, 2) := ⟨ai_inG (by decide +kernel) (by decide +kernel), ⟨tyX3, tyX3_ok, by decide +kernel⟩, nmX3, List.mem_filter.mpr ⟨by decide +kernel, by decide +kernel⟩, List.mem_filter.mpr ⟨by decide +kernel, by decide +kernel⟩, rfl, rfl, rfl⟩
theorem ai_xO4 : ai_okX 4 (RX4, TX4, 6) := ⟨ai_inG (by decide +kernel) (by decide +kernel), ⟨tyX4, tyX4_ok, by decide +kernel⟩, nmX4, List.mem_filter.mpr ⟨by decide +kernel, by decide +kernel⟩, List.mem_filter.mpr ⟨by decide +kernel, by decide +kernel⟩, rfl, rfl, rfl⟩
theorem ai_xO5 : ai_okX 5 (RX5, TX5, 5) := ⟨ai_inG (by decide +kernel) (by decide +kernel), ⟨tyX5, tyX5_ok, by decide +kernel⟩, nmX5, List.mem_filter.mpr ⟨by decide +kernel, by decide +kernel⟩, List.mem_filter.mpr ⟨by decide +kernel, by decide +kernel⟩, rfl, rfl, rfl⟩
theorem ai_xO6 : ai_okX 6 (RX6, TX6, 1) := ⟨ai_inG (by decide +kernel) (by decide +kernel), ⟨tyX6, tyX6_ok, by decide +kernel⟩, nmX6, List.mem_filter.mpr ⟨by decide +kernel, by decide +kernel⟩, List.mem_filter.mpr ⟨by decide +kernel, by decide +kernel⟩, rfl, rfl, rfl⟩
theorem ai_xO7 : ai_okX 7 (RX7, TX7, 15) := ⟨ai_inG (by decide +kernel) (by decide +kernel), ⟨tyX7, tyX7_ok, by decide +kernel⟩, nmX7, List.mem_filter.mpr ⟨by decide +kernel, by decide +kernel⟩, List.mem_filter.mpr ⟨by decide +kernel, by decide +kernel⟩, rfl, rfl, rfl⟩
theorem ai_xO8 : ai_okX 8 (RX8, TX8, 28) := ⟨ai_inG (by decide +kernel) (by decide +kernel), ⟨tyX8, tyX8_ok, by decide +kernel⟩, nmX8, List.mem_filter.mpr ⟨by decide +kernel, by decide +kernel⟩, List.mem_filter.mpr ⟨by decide +kernel, by decide +kernel⟩, rfl, rfl, rfl⟩
theorem ai_xO : ∀ (ci : Nat) (t : vw_C), ai_nth vwCl ci = some t → ai_okX ci t
  | 0, _, h => by cases h; exact ai_xO0
  | 1, _, h => by cases h; exact ai_xO1
  | 2, _, h => by cases h; exact ai_xO2
  | 3, _, h => by cases h; exact ai_xO3
  | 4, _, h => by cases h; exact ai_xO4
  | 5, _, h => by cases h; exact ai_xO5
  | 6, _, h => by cases h; exact ai_xO6
  | 7, _, h => by cases h; exact ai_xO7
  | 8, _, h => by cases h; exact ai_xO8
  | _ + 9, _, h => by cases h
end
section
/-! one instruction of the interpreter is one of the machine's -/
def ai_K (p : Program) (l : Launch) (e : Env) (s : State) (m : MethodId) (args : Array Value) (below : List Frame) (meth : Method) (c : Code) (Q : State → Prop) (M : ai_M) (G : ai_G) (pc : Nat) (L : ai_L) (st : List Value) (h : ai_H) (cs sl : Nat) : Prop :=
  ∀ (ls : Array Slot) (H : Heap) (locs : List Loc), s.heap.size + cs = G.1 + h.length → ai_P G h H → va_S (fun q => G.1 ≤ q) s.heap H locs → ai_I G (ai_mL M) L ls → W p l e (ai_rm M) s m args below meth c H locs cs sl Q (F0 m pc ls (st.map (ai_v G)))
section AIS
variable {p : Program} {l : Launch} {e : Env} {s : State} {m : MethodId} {args : Array Value} {below : List Frame} {meth : Method} {c : Code} {Q : State → Prop} {M : ai_M} {G : ai_G} {X : List (List Int32)} {H : Heap} {locs : List Loc} {ls : Array Slot} {pc pc' : Nat} {L L' : ai_L} {st st' r : List Value} {h h' : ai_H} {cs sl cs' sl' : Nat}

theorem ai_sz {g : JFrame} (hb : G.1 ≤ s.heap.size) (hN : s.heap.size + cs = G.1 + h.length) (hP : va_P (ai_D G) vwCl (ai_ws G G.1 h) H) (hS : va_S (fun q => G.1 ≤ q) s.heap H locs) (kk : ai_P G h H → W p l e (ai_rm M) s m args below meth c H locs cs sl Q g) : W p l e (ai_rm M) s m args below meth c H locs cs sl Q g := by
  intro T hT Y
  have up : H.size ≤ s.heap.size + cs := by rw [← hT]; exact Y.same.2.2.1
  have lo : G.1 + h.length ≤ H.size := by
    cases hl : h.length with
    | zero => have := hS.1; omega
    | succ n =>
      have hx : ai_nth h n = some h[n] := by rw [ai_nth_eq]; exact List.getElem?_eq_getElem (by omega)
      have := (hP n _ (ai_ws_at G.1 hx)).lt
      show G.1 + (n + 1) ≤ H.size
      have h2 : G.1 + n < H.size := this
      omega
  exact kk ⟨by omega, hP⟩ T hT Y
theorem ai_fvn {ty : FieldType} {k : Nat} {v : Value} (h1 : ai_tk2 (some ty) k = true) (h2 : ai_fv k v = true) : narrow ty (ai_v G v) = ai_v G v ∧ fits ty (ai_v G v) = true := by
  cases ty <;> simp only [ai_tk2] at h1 <;> (try cases h1) <;> have hk := Nat.eq_of_beq_eq_true h1 <;> subst hk <;> cases v <;> simp only [ai_fv] at h2 <;> (try cases h2)
  all_goals first | exact ⟨rfl, rfl⟩ | (rcases h2 with rfl | rfl <;> exact ⟨rfl, rfl⟩) | (simp at h2; rcases h2 with rfl | rfl <;> exact ⟨rfl, rfl⟩) | (simp at h2)
theorem ai_setm (G : ai_G) (fs : List Value) (j : Nat) (v : Value) : (fs.map (ai_v G)).set j (ai_v G v) = (fs.set j v).map (ai_v G) := by rw [List.map_set]
theorem ai_ixin {o : List Int32} {j x : Int32} (h : ai_ix o j = some x) : vp_in j o.length ∧ o.getD j.toNatClampNeg 0 = x := by
  unfold ai_ix at h
  split at h
  · cases h
  · rename_i hn
    rw [ai_nth_eq] at h
    have hl : j.toNatClampNeg < o.length := (List.getElem?_eq_some_iff.mp h).1
    refine ⟨fun q => ?_, ?_⟩
    · rcases q with q | q
      · exact hn q
      · omega
    · rw [List.getD_eq_getElem?_getD, h]; rfl
theorem ai_upin {o o2 : List Int32} {j x : Int32} (h : ai_up o j x = some o2) : vp_in j o.length ∧ o2 = o.set j.toNatClampNeg x ∧ o2.length = o.length ∧ upd (fun k => o.getD k 0) j.toNatClampNeg x = fun k => o2.getD k 0 := by
  unfold ai_up at h
  split at h
  · cases h
  · rename_i hn
    split at h
    · rename_i hb
      have hl : j.toNatClampNeg < o.length := Nat.le_of_ble_eq_true hb
      have e : o2 = o.set j.toNatClampNeg x := (Option.some.inj h).symm
      refine ⟨fun q => ?_, e, by rw [e, List.length_set], ?_⟩
      · rcases q with q | q
        · exact hn q
        · omega
      · funext k
        rw [e]
        unfold upd
        by_cases hk : k = j.toNatClampNeg
        · rw [if_pos hk, hk, List.getD_eq_getElem?_getD, List.getElem?_set]
          simp [hl]
        · rw [if_neg hk]
          show o.getD k 0 = _
          rw [List.getD_eq_getElem?_getD, List.getD_eq_getElem?_getD, List.getElem?_set_ne (fun q => hk q.symm)]
    · cases h
theorem ai_R_get (C : ai_C p s m args meth c M G X) {k a : Nat} {q : Nat × Nat × Bool × Nat × Nat} {o : Nat × List Value} {v : Value} (hd : decode (ai_cc M) pc = .ok (.getfield k, 3)) (hq : ai_by (ai_flT (ai_cl M)) k = some q) (ho : ai_nth h a = some (.inr o)) (hc : Nat.beq o.1 q.1 = true) (hv : ai_nth o.2 q.2.1 = some v) (hP : ai_P G h H)
    (kk : W p l e (ai_rm M) s m args below meth c H locs cs sl Q (F0 m (pc + 3) ls ((v :: r).map (ai_v G)))) : W p l e (ai_rm M) s m args below meth c H locs cs sl Q (F0 m pc ls ((.ref a :: r).map (ai_v G))) := by
  obtain ⟨hx, hb, hr, hml, hown, hts, hlk, hini, ⟨hK, hnw, hZ, hXs⟩, hbs, hok, hcn⟩ := C
  have hf := List.all_eq_true.mp (ai_flO (ai_cl M)) _ (ai_by_mem hq)
  unfold ai_okF at hf
  split at hf
  · rename_i t ht
    simp only [Bool.and_eq_true, decide_eq_true_eq] at hf
    obtain ⟨⟨⟨⟨f1, f2⟩, f3⟩, f4⟩, f5⟩ := hf
    obtain ⟨x1, ⟨ty, x2, x2'⟩, x3, x4, x5, x6, x7, x8⟩ := ai_xO _ _ ht
    have hci : o.1 = q.1 := Nat.eq_of_beq_eq_true hc
    have hcl : vwCl[o.1]? = some t := by rw [← ai_nth_eq, hci]; exact ht
    have hlt : q.2.1 < t.2.2 := Nat.le_of_ble_eq_true f1
    refine va_get (D := ai_D G) (ci := o.1) (v := ai_v G v) (C := t.1) (T := t.2.1) (N := t.2.2) (own := ai_own M) (ref := t.1) (fs := o.2.map (ai_v G)) hx hb hts x1 hown hK hP.2 a (ai_ws_at G.1 ho) hcl q.2.1 hlt (hts _ (ai_gt_at (by rw [← hcn]; exact f2) rfl)) (fun x hx => by rw [f3] at hx; exact hx) ?_ hd kk
    rw [List.getElem?_map, ← ai_nth_eq, hv]; rfl
  · cases hf
theorem ai_R_put (C : ai_C p s m args meth c M G X) {k a : Nat} {q : Nat × Nat × Bool × Nat × Nat} {o : Nat × List Value} {v : Value} (hd : decode (ai_cc M) pc = .ok (.putfield k, 3)) (hq : ai_by (ai_flT (ai_cl M)) k = some q) (ho : ai_nth h a = some (.inr o)) (hc : (Nat.beq o.1 q.1 && ai_fv q.2.2.2.1 v && Nat.blt q.2.1 o.2.length && (!q.2.2.1 || (Nat.beq (ai_cl M) q.1 && decide ((ai_y M).name = "<init>")))) = true) (hN : s.heap.size + cs = G.1 + h.length) (hP : ai_P G h H) (hS : va_S (fun q => G.1 ≤ q) s.heap H locs)
    (kk : ∀ (H : Heap) (locs : List Loc), ai_P G (h.set a (.inr (o.1, o.2.set q.2.1 v))) H → va_S (fun q => G.1 ≤ q) s.heap H locs → W p l e (ai_rm M) s m args below meth c H locs cs sl Q (F0 m (pc + 3) ls (r.map (ai_v G)))) : W p l e (ai_rm M) s m args below meth c H locs cs sl Q (F0 m pc ls ((v :: .ref a :: r).map (ai_v G))) := by
  obtain ⟨hx, hb, hr, hml, hown, hts, hlk, hini, ⟨hK, hnw, hZ, hXs⟩, hbs, hok, hcn⟩ := C
  have hf := List.all_eq_true.mp (ai_flO (ai_cl M)) _ (ai_by_mem hq)
  unfold ai_okF at hf
  split at hf
  · rename_i t ht
    simp only [Bool.and_eq_true, decide_eq_true_eq] at hf
    obtain ⟨⟨⟨⟨f1, f2⟩, f3⟩, f4⟩, f5⟩ := hf
    obtain ⟨x1, ⟨ty, x2, x2'⟩, x3, x4, x5, x6, x7, x8⟩ := ai_xO _ _ ht
    rw [Bool.and_eq_true, Bool.and_eq_true, Bool.and_eq_true] at hc
    obtain ⟨⟨⟨hc1, hc2⟩, hc3⟩, hc4⟩ := hc
    have hci : o.1 = q.1 := Nat.eq_of_beq_eq_true hc1
    have hcl : vwCl[o.1]? = some t := by rw [← ai_nth_eq, hci]; exact ht
    have hlt : q.2.1 < t.2.2 := Nat.le_of_ble_eq_true f1
    have hlen : q.2.1 < (o.2.map (ai_v G)).length := by rw [List.length_map]; exact Nat.le_of_ble_eq_true hc3
    have hpd := x2 _ hlt
    have f5' : ai_tk2 (some (ty q.2.1)) q.2.2.2.1 = true := by rw [← hpd]; exact f5
    obtain ⟨n1, n2⟩ := ai_fvn (G := G) f5' hc2
    have fin : ∀ (H1 : Heap) (locs1 : List Loc), va_P (ai_D G) vwCl ((ai_ws G G.1 h).set a (G.1 + a, .inr (o.1, (o.2.map (ai_v G)).set q.2.1 (ai_v G v)))) H1 → va_D (fun q => G.1 ≤ q) ((ai_ws G G.1 h).set a (G.1 + a, .inr (o.1, (o.2.map (ai_v G)).set q.2.1 (ai_v G v)))) → va_S (fun q => G.1 ≤ q) s.heap H1 locs1 → W p l e (ai_rm M) s m args below meth c H1 locs1 cs sl Q (F0 m (pc + 3) ls (r.map (ai_v G))) := by
      intro H1 locs1 hP1 _ hS1
      have e1 : (ai_ws G G.1 h).set a (G.1 + a, .inr (o.1, (o.2.map (ai_v G)).set q.2.1 (ai_v G v))) = ai_ws G G.1 (h.set a (.inr (o.1, o.2.set q.2.1 v))) := by
        rw [ai_setm]
        exact ai_ws_set G (.inr (o.1, o.2.set q.2.1 v)) h G.1 a
      rw [e1] at hP1
      exact ai_sz hbs (by rw [List.length_set]; exact hN) hP1 hS1 (fun hP2 => kk H1 locs1 hP2 hS1)
    cases hfin : q.2.2.1 with
    | false =>
      exact va_put (D := ai_D G) (ci := o.1) (v := ai_v G v) (C := t.1) (T := t.2.1) (N := t.2.2) (own := ai_own M) (ref := t.1) (fs := o.2.map (ai_v G)) hx hb hts x1 ty x2 x3 hown hK hP.2 (ai_ws_D G h) hS a (ai_ws_at G.1 ho) hcl q.2.1 hlt (hts _ (ai_gt_at (by rw [← hcn]; exact f2) rfl)) (fun x hx => by rw [f3] at hx; exact hx) (by rw [f4]; exact hfin) hpd n1 n2 hlen hd fin
    | true =>
      rw [hfin] at hc4
      simp only [Bool.not_true, Bool.false_or, Bool.and_eq_true, decide_eq_true_eq] at hc4
      have hcm : ai_cl M = q.1 := Nat.eq_of_beq_eq_true hc4.1
      exact va_putF (D := ai_D G) (ci := o.1) (v := ai_v G v) (C := t.1) (T := t.2.1) (N := t.2.2) (own := ai_own M) (ref := t.1) (fs := o.2.map (ai_v G)) hx hb hts x1 ty x2 x3 hown hK hP.2 (ai_ws_D G h) hS a (ai_ws_at G.1 ho) hcl q.2.1 hlt (hts _ (ai_gt_at (by rw [← hcn]; exact f2) rfl)) (fun x hx => by rw [f3] at hx; exact hx) (by rw [f4]; exact hfin) (hini hc4.2) (by rw [f3, ← hcn, hcm]; exact x6.symm) hpd n1 n2 hlen hd fin
  · cases hf
theorem ai_R_new (C : ai_C p s m args meth c M G X) {k : Nat} {q : Nat × Nat} (hd : decode (ai_cc M) pc = .ok (.new k, 3)) (hq : ai_by (ai_neT (ai_cl M)) k = some q) (hc : (Nat.blt cs (ai_rm M).cells && Nat.ble (sl + ai_dfN q.1) (ai_rm M).slots) = true) (hP : ai_P G h H) (hS : va_S (fun q => G.1 ≤ q) s.heap H locs)
    (kk : ∀ (H : Heap), ai_P G (h ++ [.inr (q.1, ai_df q.1)]) H → va_S (fun q => G.1 ≤ q) s.heap H locs → W p l e (ai_rm M) s m args below meth c H locs (cs + 1) (sl + ai_dfN q.1) Q (F0 m (pc + 3) ls ((.ref h.length :: r).map (ai_v G)))) : W p l e (ai_rm M) s m args below meth c H locs cs sl Q (F0 m pc ls (r.map (ai_v G))) := by
  obtain ⟨hx, hb, hr, hml, hown, hts, hlk, hini, ⟨hK, hnw, hZ, hXs⟩, hbs, hok, hcn⟩ := C
  have hf := List.all_eq_true.mp (ai_neO (ai_cl M)) _ (ai_by_mem hq)
  unfold ai_okE at hf
  split at hf
  · rename_i t ht
    rw [decide_eq_true_eq] at hf
    obtain ⟨x1, ⟨ty, x2, x2'⟩, x3, x4, x5, x6, x7, x8⟩ := ai_xO _ _ ht
    rw [Bool.and_eq_true] at hc
    have hcl : vwCl[q.1]? = some t := by rw [← ai_nth_eq]; exact ht
    have hKn := hK.1 q.1 t hcl
    have c1 : cs + 1 ≤ (ai_rm M).cells := Nat.le_of_ble_eq_true hc.1
    have c2 : sl + t.2.2 ≤ (ai_rm M).slots := by rw [← x8]; exact Nat.le_of_ble_eq_true hc.2
    rw [x8] at kk
    refine W.newcK (C := t.1) (n := t.2.2) hx hb hown (hts _ (ai_gt_at (by rw [← hcn]; exact hf) rfl)) (hts _ x4) (hts _ x5) rfl hd c1 c2 hKn.2.1 rfl fun H1 kC hkC e1 z1 o1 => ?_
    have hk : ∀ (k : Nat) (x : Nat × va_E), (ai_ws G G.1 h)[k]? = some x → H1[x.1]? = H[x.1]? := fun k x hx => o1 x.1 ((hP.2 k x hx).lt)
    have hsz : H.size = G.1 + h.length := hP.1
    have hP1 : va_P (ai_D G) vwCl (ai_ws G G.1 (h ++ [.inr (q.1, ai_df q.1)])) H1 := by
      rw [ai_ws_app]
      refine (hP.2.kept hk).app (fun k x hx => ?_)
      have hz : k < 1 := (List.getElem?_eq_some_iff.mp hx).1
      rw [show k = 0 by omega] at hx
      cases hx
      refine ⟨t, hcl, (u_born ty hts x1 hKn hkC (by rw [hsz] at e1; exact e1) x2).to (fun j hj => ?_)⟩
      rw [x2' j hj]
      unfold vp_V
      have hdf : ∀ v ∈ ai_df q.1, ai_v G v = v := by
        have : ∀ ci : Nat, ∀ v ∈ ai_df ci, ai_v G v = v := by
          intro ci
          unfold ai_df
          split <;> intro v hv <;> simp only [List.mem_cons, List.not_mem_nil, or_false] at hv <;> (try (rcases hv with hv | hv | hv | hv | hv | hv | hv | hv | hv | hv | hv | hv | hv | hv | hv | hv | hv | hv | hv | hv | hv | hv | hv | hv | hv | hv | hv | hv <;> subst hv <;> rfl)) <;> (try (rcases hv with hv | hv | hv | hv | hv | hv | hv | hv | hv | hv | hv | hv | hv | hv | hv | hv | hv <;> subst hv <;> rfl)) <;> (try (rcases hv with hv | hv | hv | hv | hv | hv | hv | hv | hv | hv | hv | hv | hv | hv | hv <;> subst hv <;> rfl)) <;> (try (rcases hv with hv | hv | hv | hv | hv | hv | hv | hv <;> subst hv <;> rfl)) <;> (try (rcases hv with hv | hv | hv | hv | hv | hv <;> subst hv <;> rfl)) <;> (try (rcases hv with hv | hv | hv | hv | hv <;> subst hv <;> rfl)) <;> (try (rcases hv with hv | hv | hv | hv <;> subst hv <;> rfl)) <;> (try (rcases hv with hv | hv <;> subst hv <;> rfl)) <;> (try (subst hv; rfl))
        exact this q.1
      rw [List.map_congr_left hdf, List.map_id']
    have e2 : ({ F0 m pc ls (r.map (ai_v G)) with pc := (F0 m pc ls (r.map (ai_v G))).pc + 3, stack := .ref H.size :: (F0 m pc ls (r.map (ai_v G))).stack } : JFrame) = F0 m (pc + 3) ls ((.ref h.length :: r).map (ai_v G)) := by
      rw [hsz]; rfl
    rw [e2]
    exact kk H1 ⟨by rw [z1, hsz, List.length_append]; rfl, hP1⟩ ⟨by have := hS.1; omega, fun x h1 h2 => (o1 x (Nat.lt_of_lt_of_le h1 hS.1)).trans (hS.2.1 x h1 h2), hS.2.2⟩
  · cases hf
end AIS
end
section
/-! rows of ints, made, read, written -/
theorem ai_wI : Jvm.Cond.arrayClass .int ∈ ai_gt := List.mem_filter.mpr ⟨by decide +kernel, rfl⟩
theorem ai_wZ : Jvm.Cond.arrayClass .boolean ∈ ai_gt := List.mem_filter.mpr ⟨by decide +kernel, rfl⟩
section AIS
variable {p : Program} {l : Launch} {e : Env} {s : State} {m : MethodId} {args : Array Value} {below : List Frame} {meth : Method} {c : Code} {Q : State → Prop} {M : ai_M} {G : ai_G} {X : List (List Int32)} {H : Heap} {locs : List Loc} {ls : Array Slot} {pc pc' : Nat} {L L' : ai_L} {st st' r : List Value} {h h' : ai_H} {cs sl cs' sl' : Nat}

theorem ai_R_newa (C : ai_C p s m args meth c M G X) {t : ArrayType} {z : Bool} (hz : (t = .int ∧ z = false) ∨ (t = .boolean ∧ z = true)) {n : Int32} (hd : decode (ai_cc M) pc = .ok (.newarray t, 2)) (hn : ¬ n < 0) (hc : (Nat.blt cs (ai_rm M).cells && Nat.ble (sl + n.toNatClampNeg) (ai_rm M).slots && Nat.ble n.toNatClampNeg 65536) = true) (hP : ai_P G h H) (hS : va_S (fun q => G.1 ≤ q) s.heap H locs)
    (kk : ∀ (H : Heap), ai_P G (h ++ [.inl (z, List.replicate n.toNatClampNeg 0)]) H → va_S (fun q => G.1 ≤ q) s.heap H locs → W p l e (ai_rm M) s m args below meth c H locs (cs + 1) (sl + n.toNatClampNeg) Q (F0 m (pc + 2) ls ((.ref h.length :: r).map (ai_v G)))) : W p l e (ai_rm M) s m args below meth c H locs cs sl Q (F0 m pc ls ((.int n :: r).map (ai_v G))) := by
  obtain ⟨hx, hb, hr, hml, hown, hts, hlk, hini, ⟨hK, hnw, hZ, hXs⟩, hbs, hok, hcn⟩ := C
  rw [Bool.and_eq_true, Bool.and_eq_true] at hc
  have c1 : cs + 1 ≤ (ai_rm M).cells := Nat.le_of_ble_eq_true hc.1.1
  have c2 : sl + n.toNatClampNeg ≤ (ai_rm M).slots := Nat.le_of_ble_eq_true hc.1.2
  have c3 : n.toNatClampNeg ≤ 65536 := Nat.le_of_ble_eq_true hc.2
  have harr : (Cond.arrayClass (newarray.typeOf t)).before args s = true := by
    rcases hz with ⟨rfl, rfl⟩ | ⟨rfl, rfl⟩
    · exact hts _ ai_wI
    · exact hts _ ai_wZ
  have hby : n.toNatClampNeg * componentBytes (newarray.typeOf t) ≤ 536870912 := by
    rcases hz with ⟨rfl, rfl⟩ | ⟨rfl, rfl⟩
    · show n.toNatClampNeg * 4 ≤ _
      omega
    · show n.toNatClampNeg * 1 ≤ _
      omega
  refine va_newaK hx hb harr rfl hd (N := n.toNatClampNeg) rfl hn rfl hby c1 c2 rfl fun H1 cA e1 z1 o1 hAr hNm => ?_
  have hcA : cA = ai_ca G z := by
    rcases hz with ⟨rfl, rfl⟩ | ⟨rfl, rfl⟩
    · have h2 := (hK.2 0 (G.2.2.1, .int) rfl).2
      exact Option.some.inj (hNm.symm.trans h2)
    · have h2 := (hK.2 1 (G.2.2.2.1, .boolean) rfl).2
      exact Option.some.inj (hNm.symm.trans h2)
  have hk : ∀ (k : Nat) (x : Nat × va_E), (ai_ws G G.1 h)[k]? = some x → H1[x.1]? = H[x.1]? := fun k x hx => o1 x.1 ((hP.2 k x hx).lt)
  have hsz : H.size = G.1 + h.length := hP.1
  have hP1 : va_P (ai_D G) vwCl (ai_ws G G.1 (h ++ [.inl (z, List.replicate n.toNatClampNeg 0)])) H1 := by
    rw [ai_ws_app]
    refine (hP.2.kept hk).app (fun k x hx => ?_)
    have hz1 : k < 1 := (List.getElem?_eq_some_iff.mp hx).1
    rw [show k = 0 by omega] at hx
    cases hx
    show H1[G.1 + h.length]? = some (vp_cell (ai_ca G z) ((List.replicate n.toNatClampNeg (0 : Int32)).length, .inl (fun j => (List.replicate n.toNatClampNeg (0 : Int32)).getD j 0)))
    rw [← hsz, e1, hcA, vp_cell_i, List.length_replicate]
    have hf : (fun j => Value.int ((List.replicate n.toNatClampNeg (0 : Int32)).getD j 0)) = fun _ => defaultValue (newarray.typeOf t) := by
      funext j
      have : (List.replicate n.toNatClampNeg (0 : Int32)).getD j 0 = 0 := by
        rw [List.getD_eq_getElem?_getD, List.getElem?_replicate]
        split <;> rfl
      rw [this]
      rcases hz with ⟨rfl, rfl⟩ | ⟨rfl, rfl⟩ <;> rfl
    rw [hf]
  have e2 : ({ F0 m pc ls ((.int n :: r).map (ai_v G)) with pc := (F0 m pc ls ((.int n :: r).map (ai_v G))).pc + 2, stack := .ref H.size :: r.map (ai_v G) } : JFrame) = F0 m (pc + 2) ls ((.ref h.length :: r).map (ai_v G)) := by
    rw [hsz]; rfl
  rw [e2]
  exact kk H1 ⟨by rw [z1, hsz, List.length_append]; rfl, hP1⟩ ⟨by have := hS.1; omega, fun x h1 h2 => (o1 x (Nat.lt_of_lt_of_le h1 hS.1)).trans (hS.2.1 x h1 h2), hS.2.2⟩
theorem ai_R_iald (C : ai_C p s m args meth c M G X) {a : Nat} {o : List Int32} {j x : Int32} (hd : decode (ai_cc M) pc = .ok (.iaload, 1)) (ho : ai_nth h a = some (.inl (false, o))) (hj : ai_ix o j = some x) (hP : ai_P G h H)
    (kk : W p l e (ai_rm M) s m args below meth c H locs cs sl Q (F0 m (pc + 1) ls ((.int x :: r).map (ai_v G)))) : W p l e (ai_rm M) s m args below meth c H locs cs sl Q (F0 m pc ls ((.int j :: .ref a :: r).map (ai_v G))) := by
  obtain ⟨hx, hb, hr, hml, hown, hts, hlk, hini, ⟨hK, hnw, hZ, hXs⟩, hbs, hok, hcn⟩ := C
  obtain ⟨h1, h2⟩ := ai_ixin hj
  subst h2
  exact va_iald hx hb hK hP.2 a 0 (ai_ws_at G.1 ho) rfl h1 hd kk
theorem ai_R_zald (C : ai_C p s m args meth c M G X) {a : Nat} {o : List Int32} {j x : Int32} (hd : decode (ai_cc M) pc = .ok (.baload, 1)) (ho : ai_nth h a = some (.inl (true, o))) (hj : ai_ix o j = some x) (hP : ai_P G h H)
    (kk : W p l e (ai_rm M) s m args below meth c H locs cs sl Q (F0 m (pc + 1) ls ((.int x :: r).map (ai_v G)))) : W p l e (ai_rm M) s m args below meth c H locs cs sl Q (F0 m pc ls ((.int j :: .ref a :: r).map (ai_v G))) := by
  obtain ⟨hx, hb, hr, hml, hown, hts, hlk, hini, ⟨hK, hnw, hZ, hXs⟩, hbs, hok, hcn⟩ := C
  obtain ⟨h1, h2⟩ := ai_ixin hj
  subst h2
  exact va_zald hx hb hK hP.2 a 1 (ai_ws_at G.1 ho) rfl h1 hd kk
theorem ai_R_xald (C : ai_C p s m args meth c M G X) {a : Nat} {o : List Int32} {j x : Int32} (hd : decode (ai_cc M) pc = .ok (.iaload, 1)) (ho : ai_nth X a = some o) (hj : ai_ix o j = some x) (hS : va_S (fun q => G.1 ≤ q) s.heap H locs)
    (kk : W p l e (ai_rm M) s m args below meth c H locs cs sl Q (F0 m (pc + 1) ls ((.int x :: r).map (ai_v G)))) : W p l e (ai_rm M) s m args below meth c H locs cs sl Q (F0 m pc ls ((.int j :: .retAddr a :: r).map (ai_v G))) := by
  obtain ⟨hx, hb, hr, hml, hown, hts, hlk, hini, ⟨hK, hnw, hZ, hXs⟩, hbs, hok, hcn⟩ := C
  obtain ⟨h1, h2⟩ := ai_ixin hj
  obtain ⟨x1, x2⟩ := hXs a o ho
  subst h2
  exact va_sld hx hb x1 (by omega) (by show ¬ G.1 ≤ G.2.1 a; omega) hS h1 hd kk
theorem ai_R_alen (C : ai_C p s m args meth c M G X) {a : Nat} {o : Bool × List Int32} (hd : decode (ai_cc M) pc = .ok (.arraylength, 1)) (ho : ai_nth h a = some (.inl o)) (hP : ai_P G h H)
    (kk : W p l e (ai_rm M) s m args below meth c H locs cs sl Q (F0 m (pc + 1) ls ((.int (Int32.ofNat o.2.length) :: r).map (ai_v G)))) : W p l e (ai_rm M) s m args below meth c H locs cs sl Q (F0 m pc ls ((.ref a :: r).map (ai_v G))) := by
  obtain ⟨hx, hb, hr, hml, hown, hts, hlk, hini, ⟨hK, hnw, hZ, hXs⟩, hbs, hok, hcn⟩ := C
  obtain ⟨z, o⟩ := o
  cases z with
  | false => exact va_alen (ty := .int) hx hb hK hP.2 a 0 (ai_ws_at G.1 ho) rfl rfl hd kk
  | true => exact va_alen (ty := .boolean) hx hb hK hP.2 a 1 (ai_ws_at G.1 ho) rfl rfl hd kk
theorem ai_R_xlen (C : ai_C p s m args meth c M G X) {a : Nat} {o : List Int32} (hd : decode (ai_cc M) pc = .ok (.arraylength, 1)) (ho : ai_nth X a = some o) (hS : va_S (fun q => G.1 ≤ q) s.heap H locs)
    (kk : W p l e (ai_rm M) s m args below meth c H locs cs sl Q (F0 m (pc + 1) ls ((.int (Int32.ofNat o.length) :: r).map (ai_v G)))) : W p l e (ai_rm M) s m args below meth c H locs cs sl Q (F0 m pc ls ((.retAddr a :: r).map (ai_v G))) := by
  obtain ⟨hx, hb, hr, hml, hown, hts, hlk, hini, ⟨hK, hnw, hZ, hXs⟩, hbs, hok, hcn⟩ := C
  obtain ⟨x1, x2⟩ := hXs a o ho
  exact va_slen hx hb x1 (by omega) (by show ¬ G.1 ≤ G.2.1 a; omega) hS hd kk
theorem ai_R_iast (C : ai_C p s m args meth c M G X) {a : Nat} {o o2 : List Int32} {j x : Int32} (hd : decode (ai_cc M) pc = .ok (.iastore, 1)) (ho : ai_nth h a = some (.inl (false, o))) (hj : ai_up o j x = some o2) (hN : s.heap.size + cs = G.1 + h.length) (hP : ai_P G h H) (hS : va_S (fun q => G.1 ≤ q) s.heap H locs)
    (kk : ∀ (H : Heap) (locs : List Loc), ai_P G (h.set a (.inl (false, o2))) H → va_S (fun q => G.1 ≤ q) s.heap H locs → W p l e (ai_rm M) s m args below meth c H locs cs sl Q (F0 m (pc + 1) ls (r.map (ai_v G)))) : W p l e (ai_rm M) s m args below meth c H locs cs sl Q (F0 m pc ls ((.int x :: .int j :: .ref a :: r).map (ai_v G))) := by
  obtain ⟨hx, hb, hr, hml, hown, hts, hlk, hini, ⟨hK, hnw, hZ, hXs⟩, hbs, hok, hcn⟩ := C
  obtain ⟨h1, h2, h3, h4⟩ := ai_upin hj
  refine va_iast hx hb hK hP.2 (ai_ws_D G h) hS a 0 (ai_ws_at G.1 ho) rfl h1 hd (fun H1 locs1 hP1 _ hS1 => ?_)
  have e1 : (ai_ws G G.1 h).set a (G.1 + a, .inl (ai_ca G false, o.length, .inl (upd (fun k => o.getD k 0) j.toNatClampNeg x))) = ai_ws G G.1 (h.set a (.inl (false, o2))) := by
    rw [h4, ← h3]
    exact ai_ws_set G (.inl (false, o2)) h G.1 a
  have hP2 := e1 ▸ hP1
  exact ai_sz hbs (by rw [List.length_set]; exact hN) hP2 hS1 (fun hP2 => kk H1 locs1 hP2 hS1)
theorem ai_R_zast (C : ai_C p s m args meth c M G X) {a : Nat} {o o2 : List Int32} {j x : Int32} (hd : decode (ai_cc M) pc = .ok (.bastore, 1)) (ho : ai_nth h a = some (.inl (true, o))) (hj : ai_up o j (vp_nar .boolean x) = some o2) (hN : s.heap.size + cs = G.1 + h.length) (hP : ai_P G h H) (hS : va_S (fun q => G.1 ≤ q) s.heap H locs)
    (kk : ∀ (H : Heap) (locs : List Loc), ai_P G (h.set a (.inl (true, o2))) H → va_S (fun q => G.1 ≤ q) s.heap H locs → W p l e (ai_rm M) s m args below meth c H locs cs sl Q (F0 m (pc + 1) ls (r.map (ai_v G)))) : W p l e (ai_rm M) s m args below meth c H locs cs sl Q (F0 m pc ls ((.int x :: .int j :: .ref a :: r).map (ai_v G))) := by
  obtain ⟨hx, hb, hr, hml, hown, hts, hlk, hini, ⟨hK, hnw, hZ, hXs⟩, hbs, hok, hcn⟩ := C
  obtain ⟨h1, h2, h3, h4⟩ := ai_upin hj
  refine va_zast hx hb hK hP.2 (ai_ws_D G h) hS a 1 (ai_ws_at G.1 ho) rfl h1 hd (fun H1 locs1 hP1 _ hS1 => ?_)
  have e1 : (ai_ws G G.1 h).set a (G.1 + a, .inl (ai_ca G true, o.length, .inl (upd (fun k => o.getD k 0) j.toNatClampNeg (vp_nar .boolean x)))) = ai_ws G G.1 (h.set a (.inl (true, o2))) := by
    rw [h4, ← h3]
    exact ai_ws_set G (.inl (true, o2)) h G.1 a
  have hP2 := e1 ▸ hP1
  exact ai_sz hbs (by rw [List.length_set]; exact hN) hP2 hS1 (fun hP2 => kk H1 locs1 hP2 hS1)
theorem ai_nwF : Jvm.Cond.fieldLinkNest "FourWaters$Sea" 80 "FourWaters" "FIRST_DENSITY" "[I" "FourWaters" ∈ ai_nw := by decide +kernel
theorem ai_R_gets (C : ai_C p s m args meth c M G X) {k : Nat} (hd : decode (ai_cc M) pc = .ok (.getstatic k, 3)) (hk : (Nat.beq k 80 && Nat.beq (ai_cl M) 2) = true) (hS : va_S (fun q => G.1 ≤ q) s.heap H locs)
    (kk : W p l e (ai_rm M) s m args below meth c H locs cs sl Q (F0 m (pc + 3) ls ((.retAddr 0 :: r).map (ai_v G)))) : W p l e (ai_rm M) s m args below meth c H locs cs sl Q (F0 m pc ls (r.map (ai_v G))) := by
  obtain ⟨hx, hb, hr, hml, hown, hts, hlk, hini, ⟨hK, hnw, hZ, hXs⟩, hbs, hok, hcn⟩ := C
  rw [Bool.and_eq_true] at hk
  have e1 : k = 80 := Nat.eq_of_beq_eq_true hk.1
  have e2 : ai_cl M = 2 := Nat.eq_of_beq_eq_true hk.2
  subst e1
  rw [e2] at hcn
  have hown2 : s.vm.findClass "FourWaters$Sea" = some m.cls := by rw [← hown, ← hcn]; rfl
  exact va_getsN hx hb hZ.1 hS hown2 (va_Nw.use rfl (hnw _ ai_nwF)) (fun x hx => hx) hd kk
end AIS
end
section
/-! one step -/
section AIS
variable {p : Program} {l : Launch} {e : Env} {s : State} {m : MethodId} {args : Array Value} {below : List Frame} {meth : Method} {c : Code} {Q : State → Prop} {M : ai_M} {G : ai_G} {X : List (List Int32)} {H : Heap} {locs : List Loc} {ls : Array Slot} {pc pc' : Nat} {L L' : ai_L} {st st' r : List Value} {h h' : ai_H} {cs sl cs' sl' : Nat}

set_option maxHeartbeats 4000000 in
theorem ai_step_ok (C : ai_C p s m args meth c M G X) {i : Instr} (hi : ai_fd (ai_cd M) pc = some i) (hs : ai_step X M i pc L st h cs sl = some (pc', L', st', h', cs', sl')) (kk : ai_K p l e s m args below meth c Q M G pc' L' st' h' cs' sl') : ai_K p l e s m args below meth c Q M G pc L st h cs sl := by
  intro ls H locs hN hP hS hL
  obtain ⟨hx, hb, hr, hml, hown, hts, hlk, hini, hE, hbs, hok, hcn⟩ := id C
  obtain ⟨n0, hd0, -⟩ := ai_dec hok hi
  have hd := ai_decN hok hi
  cases i with
  | iconst k =>
    simp only [ai_step] at hs
    simp only [Option.some.injEq, Prod.mk.injEq] at hs
    obtain ⟨rfl, rfl, rfl, rfl, rfl, rfl⟩ := hs
    exact lv_iconst hx hb (hd rfl) rfl (kk ls H locs hN hP hS hL)
  | bipush k =>
    simp only [ai_step] at hs
    simp only [Option.some.injEq, Prod.mk.injEq] at hs
    obtain ⟨rfl, rfl, rfl, rfl, rfl, rfl⟩ := hs
    exact lv_bipush hx hb (hd rfl) rfl (kk ls H locs hN hP hS hL)
  | sipush k =>
    simp only [ai_step] at hs
    simp only [Option.some.injEq, Prod.mk.injEq] at hs
    obtain ⟨rfl, rfl, rfl, rfl, rfl, rfl⟩ := hs
    exact lv_sipush hx hb (hd rfl) rfl (kk ls H locs hN hP hS hL)
  | lconst k =>
    simp only [ai_step] at hs
    simp only [Option.some.injEq, Prod.mk.injEq] at hs
    obtain ⟨rfl, rfl, rfl, rfl, rfl, rfl⟩ := hs
    exact lv_lconst hx hb (hd rfl) rfl (kk ls H locs hN hP hS hL)
  | iload_n k =>
    simp only [ai_step] at hs
    split at hs
    · rename_i x hq
      simp only [Option.some.injEq, Prod.mk.injEq] at hs
      obtain ⟨rfl, rfl, rfl, rfl, rfl, rfl⟩ := hs
      exact lv_iload_n hx hb (hd rfl) rfl (ai_lo_at hL hq) (kk ls H locs hN hP hS hL)
    · cases hs
  | iload k =>
    simp only [ai_step] at hs
    split at hs
    · rename_i x hq
      simp only [Option.some.injEq, Prod.mk.injEq] at hs
      obtain ⟨rfl, rfl, rfl, rfl, rfl, rfl⟩ := hs
      exact lv_iload hx hb (hd rfl) (ai_lo_at hL hq) (kk ls H locs hN hP hS hL)
    · cases hs
  | lload_n k =>
    simp only [ai_step] at hs
    split at hs
    · rename_i x hq
      simp only [Option.some.injEq, Prod.mk.injEq] at hs
      obtain ⟨rfl, rfl, rfl, rfl, rfl, rfl⟩ := hs
      exact lv_lload_n hx hb (hd rfl) rfl (ai_lo_at hL hq) (kk ls H locs hN hP hS hL)
    · cases hs
  | lload k =>
    simp only [ai_step] at hs
    split at hs
    · rename_i x hq
      simp only [Option.some.injEq, Prod.mk.injEq] at hs
      obtain ⟨rfl, rfl, rfl, rfl, rfl, rfl⟩ := hs
      exact lv_lload hx hb (hd rfl) (ai_lo_at hL hq) (kk ls H locs hN hP hS hL)
    · cases hs
  | aload_n k =>
    simp only [ai_step] at hs
    split at hs
    · rename_i x hq
      simp only [Option.some.injEq, Prod.mk.injEq] at hs
      obtain ⟨rfl, rfl, rfl, rfl, rfl, rfl⟩ := hs
      exact lv_aload_n hx hb (hd rfl) rfl (ai_lo_at hL hq) (kk ls H locs hN hP hS hL)
    · rename_i x hq
      simp only [Option.some.injEq, Prod.mk.injEq] at hs
      obtain ⟨rfl, rfl, rfl, rfl, rfl, rfl⟩ := hs
      exact lv_aload_n hx hb (hd rfl) rfl (ai_lo_at hL hq) (kk ls H locs hN hP hS hL)
    · cases hs
  | aload k =>
    simp only [ai_step] at hs
    split at hs
    · rename_i x hq
      simp only [Option.some.injEq, Prod.mk.injEq] at hs
      obtain ⟨rfl, rfl, rfl, rfl, rfl, rfl⟩ := hs
      exact lv_aload hx hb (hd rfl) (ai_lo_at hL hq) (kk ls H locs hN hP hS hL)
    · rename_i x hq
      simp only [Option.some.injEq, Prod.mk.injEq] at hs
      obtain ⟨rfl, rfl, rfl, rfl, rfl, rfl⟩ := hs
      exact lv_aload hx hb (hd rfl) (ai_lo_at hL hq) (kk ls H locs hN hP hS hL)
    · cases hs
  | istore_n k =>
    simp only [ai_step] at hs
    split at hs
    · rename_i x r
      split at hs
      · rename_i hq
        simp only [Option.some.injEq, Prod.mk.injEq] at hs
        obtain ⟨rfl, rfl, rfl, rfl, rfl, rfl⟩ := hs
        exact lv_istore_n hx hb (hd rfl) rfl hL.2 (by rw [← hL.1]; exact Nat.le_of_ble_eq_true hq) rfl (fun ls2 hl2 => kk ls2 H locs hN hP hS (ai_I_s1 hL.1 hl2))
      · cases hs
    · cases hs
  | istore k =>
    simp only [ai_step] at hs
    split at hs
    · rename_i x r
      split at hs
      · rename_i hq
        simp only [Option.some.injEq, Prod.mk.injEq] at hs
        obtain ⟨rfl, rfl, rfl, rfl, rfl, rfl⟩ := hs
        exact lv_istore hx hb (hd rfl) hL.2 (by rw [← hL.1]; exact Nat.le_of_ble_eq_true hq) rfl (fun ls2 hl2 => kk ls2 H locs hN hP hS (ai_I_s1 hL.1 hl2))
      · cases hs
    · cases hs
  | astore_n k =>
    simp only [ai_step] at hs
    split at hs
    · rename_i x r
      split at hs
      · rename_i hq
        simp only [Option.some.injEq, Prod.mk.injEq] at hs
        obtain ⟨rfl, rfl, rfl, rfl, rfl, rfl⟩ := hs
        exact lv_astore_n hx hb (hd rfl) rfl hL.2 (by rw [← hL.1]; exact Nat.le_of_ble_eq_true hq) rfl (fun ls2 hl2 => kk ls2 H locs hN hP hS (ai_I_s1 hL.1 hl2))
      · cases hs
    · cases hs
  | astore k =>
    simp only [ai_step] at hs
    split at hs
    · rename_i x r
      split at hs
      · rename_i hq
        simp only [Option.some.injEq, Prod.mk.injEq] at hs
        obtain ⟨rfl, rfl, rfl, rfl, rfl, rfl⟩ := hs
        exact lv_astore hx hb (hd rfl) hL.2 (by rw [← hL.1]; exact Nat.le_of_ble_eq_true hq) rfl (fun ls2 hl2 => kk ls2 H locs hN hP hS (ai_I_s1 hL.1 hl2))
      · cases hs
    · cases hs
  | lstore_n k =>
    simp only [ai_step] at hs
    split at hs
    · rename_i x r
      split at hs
      · rename_i hq
        simp only [Option.some.injEq, Prod.mk.injEq] at hs
        obtain ⟨rfl, rfl, rfl, rfl, rfl, rfl⟩ := hs
        exact lv_lstore_n hx hb (hd rfl) rfl hL.2 (by rw [← hL.1]; exact Nat.le_of_ble_eq_true hq) rfl (fun ls2 hl2 => kk ls2 H locs hN hP hS (ai_I_s2 hL.1 hl2))
      · cases hs
    · cases hs
  | lstore k =>
    simp only [ai_step] at hs
    split at hs
    · rename_i x r
      split at hs
      · rename_i hq
        simp only [Option.some.injEq, Prod.mk.injEq] at hs
        obtain ⟨rfl, rfl, rfl, rfl, rfl, rfl⟩ := hs
        exact lv_lstore hx hb (hd rfl) hL.2 (by rw [← hL.1]; exact Nat.le_of_ble_eq_true hq) rfl (fun ls2 hl2 => kk ls2 H locs hN hP hS (ai_I_s2 hL.1 hl2))
      · cases hs
    · cases hs
  | iinc k d =>
    simp only [ai_step] at hs
    split at hs
    · rename_i x hq
      split at hs
      · rename_i hq2
        obtain ⟨k9, hk9⟩ := List.getElem?_of_mem (ai_lo_mem (G := G) hq)
        simp only [Option.some.injEq, Prod.mk.injEq] at hs
        obtain ⟨rfl, rfl, rfl, rfl, rfl, rfl⟩ := hs
        exact lv_iinc hx hb (hd rfl) hL.2 hk9 rfl (by rw [← hL.1]; exact Nat.le_of_ble_eq_true hq2) rfl (fun ls2 hl2 => kk ls2 H locs hN hP hS (ai_I_s1 hL.1 hl2))
      · cases hs
    · cases hs
  | iadd =>
    simp only [ai_step] at hs
    split at hs
    · rename_i y x r
      simp only [Option.some.injEq, Prod.mk.injEq] at hs
      obtain ⟨rfl, rfl, rfl, rfl, rfl, rfl⟩ := hs
      exact lv_iadd hx hb (hd rfl) (kk ls H locs hN hP hS hL)
    · cases hs
  | isub =>
    simp only [ai_step] at hs
    split at hs
    · rename_i y x r
      simp only [Option.some.injEq, Prod.mk.injEq] at hs
      obtain ⟨rfl, rfl, rfl, rfl, rfl, rfl⟩ := hs
      exact lv_isub hx hb (hd rfl) (kk ls H locs hN hP hS hL)
    · cases hs
  | imul =>
    simp only [ai_step] at hs
    split at hs
    · rename_i y x r
      simp only [Option.some.injEq, Prod.mk.injEq] at hs
      obtain ⟨rfl, rfl, rfl, rfl, rfl, rfl⟩ := hs
      exact lv_imul hx hb (hd rfl) (kk ls H locs hN hP hS hL)
    · cases hs
  | iand =>
    simp only [ai_step] at hs
    split at hs
    · rename_i y x r
      simp only [Option.some.injEq, Prod.mk.injEq] at hs
      obtain ⟨rfl, rfl, rfl, rfl, rfl, rfl⟩ := hs
      exact lv_iand hx hb (hd rfl) (kk ls H locs hN hP hS hL)
    · cases hs
  | ior =>
    simp only [ai_step] at hs
    split at hs
    · rename_i y x r
      simp only [Option.some.injEq, Prod.mk.injEq] at hs
      obtain ⟨rfl, rfl, rfl, rfl, rfl, rfl⟩ := hs
      exact lv_ior hx hb (hd rfl) (kk ls H locs hN hP hS hL)
    · cases hs
  | ixor =>
    simp only [ai_step] at hs
    split at hs
    · rename_i y x r
      simp only [Option.some.injEq, Prod.mk.injEq] at hs
      obtain ⟨rfl, rfl, rfl, rfl, rfl, rfl⟩ := hs
      exact lv_ixor hx hb (hd rfl) (kk ls H locs hN hP hS hL)
    · cases hs
  | ishl =>
    simp only [ai_step] at hs
    split at hs
    · rename_i y x r
      simp only [Option.some.injEq, Prod.mk.injEq] at hs
      obtain ⟨rfl, rfl, rfl, rfl, rfl, rfl⟩ := hs
      exact lv_ishl hx hb (hd rfl) (kk ls H locs hN hP hS hL)
    · cases hs
  | ishr =>
    simp only [ai_step] at hs
    split at hs
    · rename_i y x r
      simp only [Option.some.injEq, Prod.mk.injEq] at hs
      obtain ⟨rfl, rfl, rfl, rfl, rfl, rfl⟩ := hs
      exact lv_ishr hx hb (hd rfl) (kk ls H locs hN hP hS hL)
    · cases hs
  | iushr =>
    simp only [ai_step] at hs
    split at hs
    · rename_i y x r
      simp only [Option.some.injEq, Prod.mk.injEq] at hs
      obtain ⟨rfl, rfl, rfl, rfl, rfl, rfl⟩ := hs
      exact lv_iushr hx hb (hd rfl) rfl (kk ls H locs hN hP hS hL)
    · cases hs
  | ladd =>
    simp only [ai_step] at hs
    split at hs
    · rename_i y x r
      simp only [Option.some.injEq, Prod.mk.injEq] at hs
      obtain ⟨rfl, rfl, rfl, rfl, rfl, rfl⟩ := hs
      exact lv_ladd hx hb (hd rfl) (kk ls H locs hN hP hS hL)
    · cases hs
  | lsub =>
    simp only [ai_step] at hs
    split at hs
    · rename_i y x r
      simp only [Option.some.injEq, Prod.mk.injEq] at hs
      obtain ⟨rfl, rfl, rfl, rfl, rfl, rfl⟩ := hs
      exact lv_lsub hx hb (hd rfl) (kk ls H locs hN hP hS hL)
    · cases hs
  | lmul =>
    simp only [ai_step] at hs
    split at hs
    · rename_i y x r
      simp only [Option.some.injEq, Prod.mk.injEq] at hs
      obtain ⟨rfl, rfl, rfl, rfl, rfl, rfl⟩ := hs
      exact lv_lmul hx hb (hd rfl) (kk ls H locs hN hP hS hL)
    · cases hs
  | idiv =>
    simp only [ai_step] at hs
    split at hs
    · rename_i y x r
      split at hs
      · cases hs
      · rename_i hne
        simp only [Option.some.injEq, Prod.mk.injEq] at hs
        obtain ⟨rfl, rfl, rfl, rfl, rfl, rfl⟩ := hs
        exact lv_idiv hx hb (hd rfl) hne (kk ls H locs hN hP hS hL)
    · cases hs
  | irem =>
    simp only [ai_step] at hs
    split at hs
    · rename_i y x r
      split at hs
      · cases hs
      · rename_i hne
        simp only [Option.some.injEq, Prod.mk.injEq] at hs
        obtain ⟨rfl, rfl, rfl, rfl, rfl, rfl⟩ := hs
        exact lv_irem hx hb (hd rfl) hne (kk ls H locs hN hP hS hL)
    · cases hs
  | ldiv =>
    simp only [ai_step] at hs
    split at hs
    · rename_i y x r
      split at hs
      · cases hs
      · rename_i hne
        simp only [Option.some.injEq, Prod.mk.injEq] at hs
        obtain ⟨rfl, rfl, rfl, rfl, rfl, rfl⟩ := hs
        exact lv_ldiv hx hb (hd rfl) hne (kk ls H locs hN hP hS hL)
    · cases hs
  | lrem =>
    simp only [ai_step] at hs
    split at hs
    · rename_i y x r
      split at hs
      · cases hs
      · rename_i hne
        simp only [Option.some.injEq, Prod.mk.injEq] at hs
        obtain ⟨rfl, rfl, rfl, rfl, rfl, rfl⟩ := hs
        exact lv_lrem hx hb (hd rfl) hne (kk ls H locs hN hP hS hL)
    · cases hs
  | ineg =>
    simp only [ai_step] at hs
    split at hs
    · rename_i x r
      simp only [Option.some.injEq, Prod.mk.injEq] at hs
      obtain ⟨rfl, rfl, rfl, rfl, rfl, rfl⟩ := hs
      exact lv_ineg hx hb (hd rfl) (kk ls H locs hN hP hS hL)
    · cases hs
  | i2l =>
    simp only [ai_step] at hs
    split at hs
    · rename_i x r
      simp only [Option.some.injEq, Prod.mk.injEq] at hs
      obtain ⟨rfl, rfl, rfl, rfl, rfl, rfl⟩ := hs
      exact lv_i2l hx hb (hd rfl) rfl (kk ls H locs hN hP hS hL)
    · cases hs
  | lcmp =>
    simp only [ai_step] at hs
    split at hs
    · rename_i y x r
      simp only [Option.some.injEq, Prod.mk.injEq] at hs
      obtain ⟨rfl, rfl, rfl, rfl, rfl, rfl⟩ := hs
      exact W.lcmp hx hb (hd rfl) (kk ls H locs hN hP hS hL)
    · cases hs
  | dup =>
    simp only [ai_step] at hs
    split at hs
    · rename_i v r
      split at hs
      · rename_i hc
        simp only [Option.some.injEq, Prod.mk.injEq] at hs
        obtain ⟨rfl, rfl, rfl, rfl, rfl, rfl⟩ := hs
        exact lv_dup hx hb (hd rfl) (by rw [ai_v_cat]; exact hc) (kk ls H locs hN hP hS hL)
      · cases hs
    · cases hs
  | pop =>
    simp only [ai_step] at hs
    split at hs
    · rename_i v r
      split at hs
      · rename_i hc
        simp only [Option.some.injEq, Prod.mk.injEq] at hs
        obtain ⟨rfl, rfl, rfl, rfl, rfl, rfl⟩ := hs
        exact lv_pop hx hb (hd rfl) (by rw [ai_v_cat]; exact hc) (kk ls H locs hN hP hS hL)
      · cases hs
    · cases hs
  | pop2 =>
    simp only [ai_step] at hs
    split at hs
    · rename_i v r
      split at hs
      · rename_i hc
        simp only [Option.some.injEq, Prod.mk.injEq] at hs
        obtain ⟨rfl, rfl, rfl, rfl, rfl, rfl⟩ := hs
        exact lv_pop2_2 hx hb (hd rfl) (by rw [ai_v_cat]; exact hc) (kk ls H locs hN hP hS hL)
      · cases hs
    · cases hs
  | dup_x1 =>
    simp only [ai_step] at hs
    split at hs
    · rename_i v w r
      split at hs
      · rename_i hc
        split at hs
        · rename_i hc2
          simp only [Option.some.injEq, Prod.mk.injEq] at hs
          obtain ⟨rfl, rfl, rfl, rfl, rfl, rfl⟩ := hs
          exact lv_dup_x1 hx hb (hd rfl) (by rw [ai_v_cat]; exact hc) (by rw [ai_v_cat]; exact hc2) (kk ls H locs hN hP hS hL)
        · cases hs
      · cases hs
    · cases hs
  | dup2 =>
    simp only [ai_step] at hs
    split at hs
    · rename_i v w r
      split at hs
      · rename_i hc
        split at hs
        · rename_i hc2
          simp only [Option.some.injEq, Prod.mk.injEq] at hs
          obtain ⟨rfl, rfl, rfl, rfl, rfl, rfl⟩ := hs
          exact lv_dup2_11 hx hb (hd rfl) (by rw [ai_v_cat]; exact hc) (by rw [ai_v_cat]; exact hc2) (kk ls H locs hN hP hS hL)
        · cases hs
      · cases hs
    · cases hs
  | goto off =>
    simp only [ai_step] at hs
    split at hs
    · rename_i t ht
      simp only [Option.some.injEq, Prod.mk.injEq] at hs
      obtain ⟨rfl, rfl, rfl, rfl, rfl, rfl⟩ := hs
      exact lv_goto hx hb (hd rfl) (ai_jp_ok ht) (kk ls H locs hN hP hS hL)
    · cases hs
  | ifCond cnd off =>
    simp only [ai_step] at hs
    split at hs
    · rename_i x r
      split at hs
      · rename_i t ht
        have ht := ai_jp_ok ht
        cases cnd
        · simp only [ai_br] at hs
          split at hs
          · rename_i hq
            simp only [Option.some.injEq, Prod.mk.injEq] at hs
            obtain ⟨rfl, rfl, rfl, rfl, rfl, rfl⟩ := hs
            exact lv_if_eq hx hb (hd rfl) ht (fun _ => kk ls H locs hN hP hS hL) (fun c9 => absurd hq c9)
          · rename_i hq
            simp only [Option.some.injEq, Prod.mk.injEq] at hs
            obtain ⟨rfl, rfl, rfl, rfl, rfl, rfl⟩ := hs
            exact lv_if_eq hx hb (hd rfl) ht (fun c9 => absurd c9 hq) (fun _ => kk ls H locs hN hP hS hL)
        · simp only [ai_br] at hs
          split at hs
          · rename_i hq
            simp only [Option.some.injEq, Prod.mk.injEq] at hs
            obtain ⟨rfl, rfl, rfl, rfl, rfl, rfl⟩ := hs
            exact lv_if_ne hx hb (hd rfl) ht (fun c9 => absurd hq c9) (fun _ => kk ls H locs hN hP hS hL)
          · rename_i hq
            simp only [Option.some.injEq, Prod.mk.injEq] at hs
            obtain ⟨rfl, rfl, rfl, rfl, rfl, rfl⟩ := hs
            exact lv_if_ne hx hb (hd rfl) ht (fun _ => kk ls H locs hN hP hS hL) (fun c9 => absurd c9 hq)
        · simp only [ai_br] at hs
          split at hs
          · rename_i hq
            simp only [Option.some.injEq, Prod.mk.injEq] at hs
            obtain ⟨rfl, rfl, rfl, rfl, rfl, rfl⟩ := hs
            exact lv_if_lt hx hb (hd rfl) ht (fun _ => kk ls H locs hN hP hS hL) (fun c9 => absurd hq c9)
          · rename_i hq
            simp only [Option.some.injEq, Prod.mk.injEq] at hs
            obtain ⟨rfl, rfl, rfl, rfl, rfl, rfl⟩ := hs
            exact lv_if_lt hx hb (hd rfl) ht (fun c9 => absurd c9 hq) (fun _ => kk ls H locs hN hP hS hL)
        · simp only [ai_br] at hs
          split at hs
          · rename_i hq
            simp only [Option.some.injEq, Prod.mk.injEq] at hs
            obtain ⟨rfl, rfl, rfl, rfl, rfl, rfl⟩ := hs
            exact lv_if_ge hx hb (hd rfl) ht (fun _ => kk ls H locs hN hP hS hL) (fun c9 => absurd hq c9)
          · rename_i hq
            simp only [Option.some.injEq, Prod.mk.injEq] at hs
            obtain ⟨rfl, rfl, rfl, rfl, rfl, rfl⟩ := hs
            exact lv_if_ge hx hb (hd rfl) ht (fun c9 => absurd c9 hq) (fun _ => kk ls H locs hN hP hS hL)
        · simp only [ai_br] at hs
          split at hs
          · rename_i hq
            simp only [Option.some.injEq, Prod.mk.injEq] at hs
            obtain ⟨rfl, rfl, rfl, rfl, rfl, rfl⟩ := hs
            exact lv_if_gt hx hb (hd rfl) ht (fun _ => kk ls H locs hN hP hS hL) (fun c9 => absurd hq c9)
          · rename_i hq
            simp only [Option.some.injEq, Prod.mk.injEq] at hs
            obtain ⟨rfl, rfl, rfl, rfl, rfl, rfl⟩ := hs
            exact lv_if_gt hx hb (hd rfl) ht (fun c9 => absurd c9 hq) (fun _ => kk ls H locs hN hP hS hL)
        · simp only [ai_br] at hs
          split at hs
          · rename_i hq
            simp only [Option.some.injEq, Prod.mk.injEq] at hs
            obtain ⟨rfl, rfl, rfl, rfl, rfl, rfl⟩ := hs
            exact lv_if_le hx hb (hd rfl) ht (fun _ => kk ls H locs hN hP hS hL) (fun c9 => absurd hq c9)
          · rename_i hq
            simp only [Option.some.injEq, Prod.mk.injEq] at hs
            obtain ⟨rfl, rfl, rfl, rfl, rfl, rfl⟩ := hs
            exact lv_if_le hx hb (hd rfl) ht (fun c9 => absurd c9 hq) (fun _ => kk ls H locs hN hP hS hL)
      · cases hs
    · cases hs
  | if_icmp cnd off =>
    simp only [ai_step] at hs
    split at hs
    · rename_i y x r
      split at hs
      · rename_i t ht
        have ht := ai_jp_ok ht
        cases cnd
        · simp only [ai_br] at hs
          split at hs
          · rename_i hq
            simp only [Option.some.injEq, Prod.mk.injEq] at hs
            obtain ⟨rfl, rfl, rfl, rfl, rfl, rfl⟩ := hs
            exact lv_icmp_eq hx hb (hd rfl) ht (fun _ => kk ls H locs hN hP hS hL) (fun c9 => absurd hq c9)
          · rename_i hq
            simp only [Option.some.injEq, Prod.mk.injEq] at hs
            obtain ⟨rfl, rfl, rfl, rfl, rfl, rfl⟩ := hs
            exact lv_icmp_eq hx hb (hd rfl) ht (fun c9 => absurd c9 hq) (fun _ => kk ls H locs hN hP hS hL)
        · simp only [ai_br] at hs
          split at hs
          · rename_i hq
            simp only [Option.some.injEq, Prod.mk.injEq] at hs
            obtain ⟨rfl, rfl, rfl, rfl, rfl, rfl⟩ := hs
            exact lv_icmp_ne hx hb (hd rfl) ht (fun c9 => absurd hq c9) (fun _ => kk ls H locs hN hP hS hL)
          · rename_i hq
            simp only [Option.some.injEq, Prod.mk.injEq] at hs
            obtain ⟨rfl, rfl, rfl, rfl, rfl, rfl⟩ := hs
            exact lv_icmp_ne hx hb (hd rfl) ht (fun _ => kk ls H locs hN hP hS hL) (fun c9 => absurd c9 hq)
        · simp only [ai_br] at hs
          split at hs
          · rename_i hq
            simp only [Option.some.injEq, Prod.mk.injEq] at hs
            obtain ⟨rfl, rfl, rfl, rfl, rfl, rfl⟩ := hs
            exact lv_icmp_lt hx hb (hd rfl) ht (fun _ => kk ls H locs hN hP hS hL) (fun c9 => absurd hq c9)
          · rename_i hq
            simp only [Option.some.injEq, Prod.mk.injEq] at hs
            obtain ⟨rfl, rfl, rfl, rfl, rfl, rfl⟩ := hs
            exact lv_icmp_lt hx hb (hd rfl) ht (fun c9 => absurd c9 hq) (fun _ => kk ls H locs hN hP hS hL)
        · simp only [ai_br] at hs
          split at hs
          · rename_i hq
            simp only [Option.some.injEq, Prod.mk.injEq] at hs
            obtain ⟨rfl, rfl, rfl, rfl, rfl, rfl⟩ := hs
            exact lv_icmp_ge hx hb (hd rfl) ht (fun _ => kk ls H locs hN hP hS hL) (fun c9 => absurd hq c9)
          · rename_i hq
            simp only [Option.some.injEq, Prod.mk.injEq] at hs
            obtain ⟨rfl, rfl, rfl, rfl, rfl, rfl⟩ := hs
            exact lv_icmp_ge hx hb (hd rfl) ht (fun c9 => absurd c9 hq) (fun _ => kk ls H locs hN hP hS hL)
        · simp only [ai_br] at hs
          split at hs
          · rename_i hq
            simp only [Option.some.injEq, Prod.mk.injEq] at hs
            obtain ⟨rfl, rfl, rfl, rfl, rfl, rfl⟩ := hs
            exact lv_icmp_gt hx hb (hd rfl) ht (fun _ => kk ls H locs hN hP hS hL) (fun c9 => absurd hq c9)
          · rename_i hq
            simp only [Option.some.injEq, Prod.mk.injEq] at hs
            obtain ⟨rfl, rfl, rfl, rfl, rfl, rfl⟩ := hs
            exact lv_icmp_gt hx hb (hd rfl) ht (fun c9 => absurd c9 hq) (fun _ => kk ls H locs hN hP hS hL)
        · simp only [ai_br] at hs
          split at hs
          · rename_i hq
            simp only [Option.some.injEq, Prod.mk.injEq] at hs
            obtain ⟨rfl, rfl, rfl, rfl, rfl, rfl⟩ := hs
            exact lv_icmp_le hx hb (hd rfl) ht (fun _ => kk ls H locs hN hP hS hL) (fun c9 => absurd hq c9)
          · rename_i hq
            simp only [Option.some.injEq, Prod.mk.injEq] at hs
            obtain ⟨rfl, rfl, rfl, rfl, rfl, rfl⟩ := hs
            exact lv_icmp_le hx hb (hd rfl) ht (fun c9 => absurd c9 hq) (fun _ => kk ls H locs hN hP hS hL)
      · cases hs
    · cases hs
  | tableswitch d lo hi offs =>
    simp only [ai_step] at hs
    split at hs
    · rename_i x r
      split at hs
      · rename_i hq
        split at hs
        · rename_i t ht
          simp only [Option.some.injEq, Prod.mk.injEq] at hs
          obtain ⟨rfl, rfl, rfl, rfl, rfl, rfl⟩ := hs
          exact lv_tableOut hx hb hd0 hq (ai_jp_ok ht) (kk ls H locs hN hP hS hL)
        · cases hs
      · rename_i hq
        split at hs
        · rename_i off ho
          split at hs
          · rename_i t ht
            simp only [Option.some.injEq, Prod.mk.injEq] at hs
            obtain ⟨rfl, rfl, rfl, rfl, rfl, rfl⟩ := hs
            exact lv_tableIn hx hb hd0 (fun q => hq (Or.inl q)) (fun q => hq (Or.inr q)) ho (ai_jp_ok ht) (kk ls H locs hN hP hS hL)
          · cases hs
        · cases hs
    · cases hs
  | ldc k =>
    simp only [ai_step] at hs
    split at hs
    · rename_i q hq
      have hf := List.all_eq_true.mp (ai_ciO (ai_cl M)) _ (ai_by_mem hq)
      unfold ai_okJ at hf
      rw [decide_eq_true_eq] at hf
      simp only [Option.some.injEq, Prod.mk.injEq] at hs
      obtain ⟨rfl, rfl, rfl, rfl, rfl, rfl⟩ := hs
      exact lv_ldc hx hb hown (hts _ (ai_gt_at (by rw [← hcn]; exact hf) rfl)) (hd rfl) (kk ls H locs hN hP hS hL)
    · split at hs
      · rename_i j hj
        simp only [Option.some.injEq, Prod.mk.injEq] at hs
        obtain ⟨rfl, rfl, rfl, rfl, rfl, rfl⟩ := hs
        have hf := List.all_eq_true.mp (ai_stK (ai_cl M)) _ (ai_by_mem hj)
        unfold ai_okS at hf
        simp only [Bool.and_eq_true, decide_eq_true_eq] at hf
        have hR := hE.2.2.1.2.2.1 j hf.1.1
        rw [hf.1.2] at hR
        exact va_ldcS hx hb (by rw [← hcn, hf.2] at hown; exact hown) hR (hd rfl) (kk ls H locs hN hP hS hL)
      · cases hs
  | ldc_w k =>
    simp only [ai_step] at hs
    split at hs
    · rename_i q hq
      have hf := List.all_eq_true.mp (ai_ciO (ai_cl M)) _ (ai_by_mem hq)
      unfold ai_okJ at hf
      rw [decide_eq_true_eq] at hf
      simp only [Option.some.injEq, Prod.mk.injEq] at hs
      obtain ⟨rfl, rfl, rfl, rfl, rfl, rfl⟩ := hs
      exact lv_ldcw hx hb hown (hts _ (ai_gt_at (by rw [← hcn]; exact hf) rfl)) (hd rfl) (kk ls H locs hN hP hS hL)
    · cases hs
  | ldc2_w k =>
    simp only [ai_step] at hs
    split at hs
    · rename_i q hq
      have hf := List.all_eq_true.mp (ai_clO (ai_cl M)) _ (ai_by_mem hq)
      unfold ai_okL at hf
      rw [decide_eq_true_eq] at hf
      simp only [Option.some.injEq, Prod.mk.injEq] at hs
      obtain ⟨rfl, rfl, rfl, rfl, rfl, rfl⟩ := hs
      exact lv_ldc2 hx hb hown (hts _ (ai_gt_at (by rw [← hcn]; exact hf) rfl)) (hd rfl) (kk ls H locs hN hP hS hL)
    · cases hs
  | getfield k =>
    simp only [ai_step] at hs
    split at hs
    · rename_i a r
      split at hs
      · rename_i q hq
        split at hs
        · rename_i o ho
          split at hs
          · rename_i hc
            split at hs
            · rename_i v hv
              simp only [Option.some.injEq, Prod.mk.injEq] at hs
              obtain ⟨rfl, rfl, rfl, rfl, rfl, rfl⟩ := hs
              exact ai_R_get C (hd rfl) hq ho hc hv hP (kk ls H locs hN hP hS hL)
            · cases hs
          · cases hs
        · cases hs
      · cases hs
    · cases hs
  | putfield k =>
    simp only [ai_step] at hs
    split at hs
    · rename_i v a r
      split at hs
      · rename_i q hq
        split at hs
        · rename_i o ho
          split at hs
          · rename_i hc
            simp only [Option.some.injEq, Prod.mk.injEq] at hs
            obtain ⟨rfl, rfl, rfl, rfl, rfl, rfl⟩ := hs
            exact ai_R_put C (hd rfl) hq ho hc hN hP hS (fun H2 locs2 hP2 hS2 => kk ls H2 locs2 (by rw [List.length_set]; exact hN) hP2 hS2 hL)
          · cases hs
        · cases hs
      · cases hs
    · cases hs
  | getstatic k =>
    simp only [ai_step] at hs
    split at hs
    · rename_i hq
      simp only [Option.some.injEq, Prod.mk.injEq] at hs
      obtain ⟨rfl, rfl, rfl, rfl, rfl, rfl⟩ := hs
      exact ai_R_gets C (hd rfl) hq hS (kk ls H locs hN hP hS hL)
    · cases hs
  | iaload =>
    simp only [ai_step] at hs
    split at hs
    · rename_i j a r
      split at hs
      · rename_i o ho
        obtain ⟨z, o⟩ := o
        cases z with
        | true => cases hs
        | false =>
          simp only at hs
          split at hs
          · rename_i x hq
            simp only [Option.some.injEq, Prod.mk.injEq] at hs
            obtain ⟨rfl, rfl, rfl, rfl, rfl, rfl⟩ := hs
            exact ai_R_iald C (hd rfl) ho hq hP (kk ls H locs hN hP hS hL)
          · cases hs
      · cases hs
    · rename_i j a r
      split at hs
      · rename_i o ho
        split at hs
        · rename_i x hq
          simp only [Option.some.injEq, Prod.mk.injEq] at hs
          obtain ⟨rfl, rfl, rfl, rfl, rfl, rfl⟩ := hs
          exact ai_R_xald C (hd rfl) ho hq hS (kk ls H locs hN hP hS hL)
        · cases hs
      · cases hs
    · cases hs
  | baload =>
    simp only [ai_step] at hs
    split at hs
    · rename_i j a r
      split at hs
      · rename_i o ho
        obtain ⟨z, o⟩ := o
        cases z with
        | false => cases hs
        | true =>
          simp only at hs
          split at hs
          · rename_i x hq
            simp only [Option.some.injEq, Prod.mk.injEq] at hs
            obtain ⟨rfl, rfl, rfl, rfl, rfl, rfl⟩ := hs
            exact ai_R_zald C (hd rfl) ho hq hP (kk ls H locs hN hP hS hL)
          · cases hs
      · cases hs
    · cases hs
  | iastore =>
    simp only [ai_step] at hs
    split at hs
    · rename_i x j a r
      split at hs
      · rename_i o ho
        obtain ⟨z, o⟩ := o
        cases z with
        | true => cases hs
        | false =>
          simp only at hs
          split at hs
          · rename_i q hq
            simp only [Option.some.injEq, Prod.mk.injEq] at hs
            obtain ⟨rfl, rfl, rfl, rfl, rfl, rfl⟩ := hs
            exact ai_R_iast C (hd rfl) ho hq hN hP hS (fun H2 locs2 hP2 hS2 => kk ls H2 locs2 (by rw [List.length_set]; exact hN) hP2 hS2 hL)
          · cases hs
      · cases hs
    · cases hs
  | bastore =>
    simp only [ai_step] at hs
    split at hs
    · rename_i x j a r
      split at hs
      · rename_i o ho
        obtain ⟨z, o⟩ := o
        cases z with
        | false => cases hs
        | true =>
          simp only at hs
          split at hs
          · rename_i q hq
            simp only [Option.some.injEq, Prod.mk.injEq] at hs
            obtain ⟨rfl, rfl, rfl, rfl, rfl, rfl⟩ := hs
            exact ai_R_zast C (hd rfl) ho hq hN hP hS (fun H2 locs2 hP2 hS2 => kk ls H2 locs2 (by rw [List.length_set]; exact hN) hP2 hS2 hL)
          · cases hs
      · cases hs
    · cases hs
  | arraylength =>
    simp only [ai_step] at hs
    split at hs
    · rename_i a r
      split at hs
      · rename_i o ho
        simp only [Option.some.injEq, Prod.mk.injEq] at hs
        obtain ⟨rfl, rfl, rfl, rfl, rfl, rfl⟩ := hs
        exact ai_R_alen C (hd rfl) ho hP (kk ls H locs hN hP hS hL)
      · cases hs
    · rename_i a r
      split at hs
      · rename_i o ho
        simp only [Option.some.injEq, Prod.mk.injEq] at hs
        obtain ⟨rfl, rfl, rfl, rfl, rfl, rfl⟩ := hs
        exact ai_R_xlen C (hd rfl) ho hS (kk ls H locs hN hP hS hL)
      · cases hs
    · cases hs
  | newarray t =>
    simp only [ai_step] at hs
    split at hs
    · rename_i n r
      split at hs
      · cases hs
      · rename_i hn
        split at hs
        · rename_i hc
          split at hs
          · simp only [Option.some.injEq, Prod.mk.injEq] at hs
            obtain ⟨rfl, rfl, rfl, rfl, rfl, rfl⟩ := hs
            exact ai_R_newa C (Or.inl ⟨rfl, rfl⟩) (hd rfl) hn hc hP hS (fun H2 hP2 hS2 => kk ls H2 locs (by rw [List.length_append, List.length_singleton]; omega) hP2 hS2 hL)
          · simp only [Option.some.injEq, Prod.mk.injEq] at hs
            obtain ⟨rfl, rfl, rfl, rfl, rfl, rfl⟩ := hs
            exact ai_R_newa C (Or.inr ⟨rfl, rfl⟩) (hd rfl) hn hc hP hS (fun H2 hP2 hS2 => kk ls H2 locs (by rw [List.length_append, List.length_singleton]; omega) hP2 hS2 hL)
          · cases hs
        · cases hs
    · cases hs
  | new k =>
    simp only [ai_step] at hs
    split at hs
    · rename_i q hq
      split at hs
      · rename_i hc
        simp only [Option.some.injEq, Prod.mk.injEq] at hs
        obtain ⟨rfl, rfl, rfl, rfl, rfl, rfl⟩ := hs
        exact ai_R_new C (hd rfl) hq hc hP hS (fun H2 hP2 hS2 => kk ls H2 locs (by rw [List.length_append, List.length_singleton]; omega) hP2 hS2 hL)
      · cases hs
    · cases hs
  | _ => simp [ai_step] at hs
end AIS
end
section
/-! a string's length and its signs: the JDK's own methods, over the string constants -/
def jy_len : MethodName := ⟨"java/lang/String", "length", "()I"⟩
def jy_cod : MethodName := ⟨"java/lang/String", "coder", "()B"⟩
def jy_cha : MethodName := ⟨"java/lang/String", "charAt", "(I)C"⟩
def jy_lat : MethodName := ⟨"java/lang/String", "isLatin1", "()Z"⟩
def jy_chl : MethodName := ⟨"java/lang/StringLatin1", "charAt", "([BI)C"⟩
def jy_chk : MethodName := ⟨"java/lang/String", "checkIndex", "(II)V"⟩
def jy_pre : MethodName := ⟨"jdk/internal/util/Preconditions", "checkIndex", "(IILjava/util/function/BiFunction;)I"⟩
abbrev js_w (y : MethodName) (b : ByteArray) (n : Nat) (r : Option FieldType) : List Jvm.Cond := .code y b n r :: ai_gt
def js_P (G : ai_G) (as : List Value) : Array Value → State → Prop := va_Pc as (fun U => ai_St G U)
def js_Q (v : Option Value) : Array Value → State → Outcome → State → Prop := fun _ st oc t => oc = .returned v ∧ t.heap = st.heap
theorem js_blind (G : ai_G) (as : List Value) : FrameBlind (js_P G as) := by
  intro a U g mk q
  obtain ⟨h1, h2⟩ := q
  exact ⟨h1, ai_St_eq h2 rfl rfl⟩
theorem js_good {ws : List Jvm.Cond} (h : ∀ w ∈ ws, w ∈ ai_gt) : GoodIn ai_gt ws := fun w hw => ⟨h w hw, good_of_word (List.mem_filter.mp (h w hw)).2⟩
theorem js_inV {own C : String} {k : Nat} {y : MethodName} {b : ByteArray} {n : Nat} {r : Option FieldType} (h1 : Jvm.Cond.methodLink own k y ∈ ai_gt) (h2 : Jvm.Cond.instanceMethod y ∈ ai_gt) (h3 : Jvm.Cond.selects C y y ∈ ai_gt) (h4 : Jvm.Cond.initialized C ∈ ai_gt) (h5 : Jvm.Cond.code y b n r ∈ ai_gt) : ∀ w ∈ wsV own k C y (js_w y b n r), w ∈ ai_gt := by
  intro w hw9
  unfold wsV at hw9
  rcases List.mem_append.mp hw9 with q | q
  · simp only [List.mem_cons, List.not_mem_nil, or_false] at q
    rcases q with rfl | rfl | rfl | rfl
    · exact h1
    · exact h2
    · exact h3
    · exact h4
  · rcases List.mem_cons.mp q with rfl | q
    · exact h5
    · exact q
theorem js_inS {own : String} {k : Nat} {y : MethodName} {b : ByteArray} {n : Nat} {r : Option FieldType} (h1 : Jvm.Cond.methodLink own k y ∈ ai_gt) (h2 : Jvm.Cond.static y ∈ ai_gt) (h4 : Jvm.Cond.initialized y.cls ∈ ai_gt) (h5 : Jvm.Cond.code y b n r ∈ ai_gt) : ∀ w ∈ va_wsS own k y (js_w y b n r), w ∈ ai_gt := by
  intro w hw9
  unfold va_wsS at hw9
  rcases List.mem_append.mp hw9 with q | q
  · simp only [List.mem_cons, List.not_mem_nil, or_false] at q
    rcases q with rfl | rfl | rfl
    · exact h1
    · exact h2
    · exact h4
  · rcases List.mem_cons.mp q with rfl | q
    · exact h5
    · exact q
theorem js_iS : Jvm.Cond.initialized "java/lang/String" ∈ ai_gt := List.mem_filter.mpr ⟨by decide +kernel, by decide +kernel⟩
theorem js_iL : Jvm.Cond.initialized "java/lang/StringLatin1" ∈ ai_gt := List.mem_filter.mpr ⟨by decide +kernel, by decide +kernel⟩
theorem js_iP : Jvm.Cond.initialized "jdk/internal/util/Preconditions" ∈ ai_gt := List.mem_filter.mpr ⟨by decide +kernel, by decide +kernel⟩
theorem js_V1 : ∀ w ∈ wsV "java/lang/String" 335 "java/lang/String" jy_cod (js_w jy_cod prog_13_method_152_code 1 (some .byte)), w ∈ ai_gt := js_inV (List.mem_filter.mpr ⟨by decide +kernel, by decide +kernel⟩) (List.mem_filter.mpr ⟨by decide +kernel, by decide +kernel⟩) (List.mem_filter.mpr ⟨by decide +kernel, by decide +kernel⟩) js_iS (List.mem_filter.mpr ⟨by decide +kernel, by decide +kernel⟩)
theorem js_V2 : ∀ w ∈ wsV "java/lang/String" 492 "java/lang/String" jy_lat (js_w jy_lat prog_13_method_154_code 1 (some .boolean)), w ∈ ai_gt := js_inV (List.mem_filter.mpr ⟨by decide +kernel, by decide +kernel⟩) (List.mem_filter.mpr ⟨by decide +kernel, by decide +kernel⟩) (List.mem_filter.mpr ⟨by decide +kernel, by decide +kernel⟩) js_iS (List.mem_filter.mpr ⟨by decide +kernel, by decide +kernel⟩)
theorem js_V3 : ∀ w ∈ wsV "FourWaters$Text" 61 "java/lang/String" jy_len (js_w jy_len prog_13_method_54_code 1 (some .int)), w ∈ ai_gt := js_inV (List.mem_filter.mpr ⟨by decide +kernel, by decide +kernel⟩) (List.mem_filter.mpr ⟨by decide +kernel, by decide +kernel⟩) (List.mem_filter.mpr ⟨by decide +kernel, by decide +kernel⟩) js_iS (List.mem_filter.mpr ⟨by decide +kernel, by decide +kernel⟩)
theorem js_V4 : ∀ w ∈ wsV "FourWaters$Text" 65 "java/lang/String" jy_cha (js_w jy_cha prog_13_method_56_code 2 (some .char)), w ∈ ai_gt := js_inV (List.mem_filter.mpr ⟨by decide +kernel, by decide +kernel⟩) (List.mem_filter.mpr ⟨by decide +kernel, by decide +kernel⟩) (List.mem_filter.mpr ⟨by decide +kernel, by decide +kernel⟩) js_iS (List.mem_filter.mpr ⟨by decide +kernel, by decide +kernel⟩)
theorem js_S1 : ∀ w ∈ va_wsS "java/lang/String" 495 jy_chl (js_w jy_chl prog_14_method_2_code 2 (some .char)), w ∈ ai_gt := js_inS (List.mem_filter.mpr ⟨by decide +kernel, by decide +kernel⟩) (List.mem_filter.mpr ⟨by decide +kernel, by decide +kernel⟩) js_iL (List.mem_filter.mpr ⟨by decide +kernel, by decide +kernel⟩)
theorem js_S2 : ∀ w ∈ va_wsS "java/lang/StringLatin1" 9 jy_chk (js_w jy_chk prog_13_method_155_code 2 none), w ∈ ai_gt := js_inS (List.mem_filter.mpr ⟨by decide +kernel, by decide +kernel⟩) (List.mem_filter.mpr ⟨by decide +kernel, by decide +kernel⟩) js_iS (List.mem_filter.mpr ⟨by decide +kernel, by decide +kernel⟩)
theorem js_S3 : ∀ w ∈ va_wsS "java/lang/String" 1059 jy_pre (js_w jy_pre prog_18_method_11_code 3 (some .int)), w ∈ ai_gt := js_inS (List.mem_filter.mpr ⟨by decide +kernel, by decide +kernel⟩) (List.mem_filter.mpr ⟨by decide +kernel, by decide +kernel⟩) js_iP (List.mem_filter.mpr ⟨by decide +kernel, by decide +kernel⟩)
theorem js_F1 : Jvm.Cond.fieldLink "java/lang/String" 38 "java/lang/String" "COMPACT_STRINGS" "Z" ∈ ai_gt := List.mem_filter.mpr ⟨by decide +kernel, by decide +kernel⟩
theorem js_F2 : Jvm.Cond.fieldLink "java/lang/String" 9 "java/lang/String" "value" "[B" ∈ ai_gt := List.mem_filter.mpr ⟨by decide +kernel, by decide +kernel⟩
theorem js_F3 : Jvm.Cond.fieldLink "java/lang/String" 15 "java/lang/String" "coder" "B" ∈ ai_gt := List.mem_filter.mpr ⟨by decide +kernel, by decide +kernel⟩
theorem js_F4 : Jvm.Cond.fieldLink "java/lang/String" 1053 "jdk/internal/util/Preconditions" "SIOOBE_FORMATTER" "Ljava/util/function/BiFunction;" ∈ ai_gt := List.mem_filter.mpr ⟨by decide +kernel, by decide +kernel⟩
section JSS
variable {p : Program} {l : Launch} {e : Env} {R : Room} {s : State} {m : MethodId} {args : Array Value} {below : List Frame} {meth : Method} {c : Code} {H : Heap} {locs : List Loc} {cells slots : Nat} {Q : State → Prop} {ls : Array Slot} {pc : Nat} {rest st0 : List Value} {a0 : Array Value}

theorem js_after {rv : Option Value} (hr : va_Run p l e R s m args below meth c H locs cells slots 0 0 (F0 m pc ls st0) rest (js_Q rv a0) (fun _ => False))
    (kk : W p l e R s m args below meth c H locs cells slots Q (F0 m (pc + 3) ls (rv.toList ++ rest))) : W p l e R s m args below meth c H locs cells slots Q (F0 m pc ls st0) := by
  intro T hT Y
  obtain ⟨v, st₀, t, T', L1, h0, Y', hL1, e1, e2, ⟨hv, hh⟩, stp⟩ := hr T hT Y
  have hv2 : v = rv := by cases hv; rfl
  subst hv2
  have hn : L1 = [] := by
    cases L1 with
    | nil => rfl
    | cons q t => exact (hL1 q List.mem_cons_self).elim
  subst hn
  rw [List.append_nil] at Y'
  obtain ⟨t2, a1, b1⟩ := kk T' (by rw [e1, hh, h0]) Y'
  exact ⟨t2, stp t2 a1, b1⟩
end JSS
theorem js_d0 : decode prog_13_method_152_code 0 = .ok (.getstatic 38, 3) := by decide +kernel
theorem js_d1 : decode prog_13_method_152_code 3 = .ok (.ifCond .eq 10, 3) := by decide +kernel
theorem js_d2 : decode prog_13_method_152_code 6 = .ok (.aload_n 0, 1) := by decide +kernel
theorem js_d3 : decode prog_13_method_152_code 7 = .ok (.getfield 15, 3) := by decide +kernel
theorem js_d4 : decode prog_13_method_152_code 10 = .ok (.goto 4, 3) := by decide +kernel
theorem js_d5 : decode prog_13_method_152_code 14 = .ok (.ireturn, 1) := by decide +kernel
set_option maxHeartbeats 4000000 in
theorem js_coder (l : Launch) (G : ai_G) (i : Nat) (hi : i < 8) : Met l jy_cod (js_w jy_cod prog_13_method_152_code 1 (some .byte)) { frames := 0, cells := 0, slots := 0, locals := 0 } (js_P G [.ref (G.2.1 (i + 2))]) (js_Q (some (.int 0))) 0 0 (fun _ => False) := by
  refine Met.ofW (cc := prog_13_method_152_code) (maxL := 1) (ret := some .byte) (by decide) rfl ?_
  intro p e s m args below meth c s₁ B hml hv
  obtain ⟨rfl, hSt⟩ := hv
  have hx := B.exec
  have hb := B.bytes
  have hr := B.returns
  have hts := atoms_spec (ws := js_w jy_cod prog_13_method_152_code 1 (some .byte)) B.pre
  have hts : ∀ w ∈ ai_gt, w.before _ s = true := fun w hw => hts w (List.mem_cons_of_mem _ hw)
  have hown : s.vm.findClass "java/lang/String" = some m.cls := findClass_of_methodNamed B.named
  have hlocks := B.notSynchronized
  obtain ⟨⟨adV, hS8⟩, -, hZ, -⟩ := hSt
  have hS : va_S (fun q => G.1 ≤ q) s.heap s.heap [] := va_S.rf
  have hl := lv_entry ([.ref (G.2.1 (i + 2))]) (n := 1) (Nat.le_of_ble_eq_true rfl)
  rw [lg_entry_eq]
  generalize (lg_sl ([.ref (G.2.1 (i + 2))]) ++ List.replicate (1 - (lg_sl ([.ref (G.2.1 (i + 2))])).length) Slot.unset).toArray = ls at hl ⊢
  have hl : lv_has ls 1 [(0, .ref (G.2.1 (i + 2)))] := hl
  refine va_gets hx hb hZ hS hown (hts _ js_F1) (fun _ h => h) js_d0 ?_
  refine lv_if_eq (tgt := 13) hx hb js_d1 rfl (fun h => absurd h (by decide)) (fun _ => ?_)
  refine lv_aload_n hx hb js_d2 rfl (lv_at hl 0 rfl) ?_
  refine vk_getf hx hb (hS8.1 i hi).2.1 hS hown (hts _ js_F3) (fun _ h => h) js_d3 ?_
  refine lv_goto (tgt := 14) hx hb js_d4 rfl ?_
  exact W.zret (v := 0) (ty := .byte) hx hb hr rfl (fun t ht hW => ⟨rfl, ht⟩) (fun q hq => by cases hq) js_d5
theorem js_d6 : decode prog_13_method_154_code 0 = .ok (.getstatic 38, 3) := by decide +kernel
theorem js_d7 : decode prog_13_method_154_code 3 = .ok (.ifCond .eq 14, 3) := by decide +kernel
theorem js_d8 : decode prog_13_method_154_code 6 = .ok (.aload_n 0, 1) := by decide +kernel
theorem js_d9 : decode prog_13_method_154_code 7 = .ok (.getfield 15, 3) := by decide +kernel
theorem js_da : decode prog_13_method_154_code 10 = .ok (.ifCond .ne 7, 3) := by decide +kernel
theorem js_db : decode prog_13_method_154_code 13 = .ok (.iconst 1, 1) := by decide +kernel
theorem js_dc : decode prog_13_method_154_code 14 = .ok (.goto 4, 3) := by decide +kernel
theorem js_dd : decode prog_13_method_154_code 18 = .ok (.ireturn, 1) := by decide +kernel
set_option maxHeartbeats 4000000 in
theorem js_latin (l : Launch) (G : ai_G) (i : Nat) (hi : i < 8) : Met l jy_lat (js_w jy_lat prog_13_method_154_code 1 (some .boolean)) { frames := 0, cells := 0, slots := 0, locals := 0 } (js_P G [.ref (G.2.1 (i + 2))]) (js_Q (some (.int 1))) 0 0 (fun _ => False) := by
  refine Met.ofW (cc := prog_13_method_154_code) (maxL := 1) (ret := some .boolean) (by decide) rfl ?_
  intro p e s m args below meth c s₁ B hml hv
  obtain ⟨rfl, hSt⟩ := hv
  have hx := B.exec
  have hb := B.bytes
  have hr := B.returns
  have hts := atoms_spec (ws := js_w jy_lat prog_13_method_154_code 1 (some .boolean)) B.pre
  have hts : ∀ w ∈ ai_gt, w.before _ s = true := fun w hw => hts w (List.mem_cons_of_mem _ hw)
  have hown : s.vm.findClass "java/lang/String" = some m.cls := findClass_of_methodNamed B.named
  have hlocks := B.notSynchronized
  obtain ⟨⟨adV, hS8⟩, -, hZ, -⟩ := hSt
  have hS : va_S (fun q => G.1 ≤ q) s.heap s.heap [] := va_S.rf
  have hl := lv_entry ([.ref (G.2.1 (i + 2))]) (n := 1) (Nat.le_of_ble_eq_true rfl)
  rw [lg_entry_eq]
  generalize (lg_sl ([.ref (G.2.1 (i + 2))]) ++ List.replicate (1 - (lg_sl ([.ref (G.2.1 (i + 2))])).length) Slot.unset).toArray = ls at hl ⊢
  have hl : lv_has ls 1 [(0, .ref (G.2.1 (i + 2)))] := hl
  refine va_gets hx hb hZ hS hown (hts _ js_F1) (fun _ h => h) js_d6 ?_
  refine lv_if_eq (tgt := 17) hx hb js_d7 rfl (fun h => absurd h (by decide)) (fun _ => ?_)
  refine lv_aload_n hx hb js_d8 rfl (lv_at hl 0 rfl) ?_
  refine vk_getf hx hb (hS8.1 i hi).2.1 hS hown (hts _ js_F3) (fun _ h => h) js_d9 ?_
  refine lv_if_ne (tgt := 17) hx hb js_da rfl (fun h => absurd rfl h) (fun _ => ?_)
  refine lv_iconst (v := 1) hx hb js_db rfl ?_
  refine lv_goto (tgt := 18) hx hb js_dc rfl ?_
  exact W.zret (v := 1) (ty := .boolean) hx hb hr rfl (fun t ht hW => ⟨rfl, ht⟩) (fun q hq => by cases hq) js_dd
theorem js_de : decode prog_18_method_11_code 0 = .ok (.iload_n 0, 1) := by decide +kernel
theorem js_df : decode prog_18_method_11_code 1 = .ok (.ifCond .lt 8, 3) := by decide +kernel
theorem js_dg : decode prog_18_method_11_code 4 = .ok (.iload_n 0, 1) := by decide +kernel
theorem js_dh : decode prog_18_method_11_code 5 = .ok (.iload_n 1, 1) := by decide +kernel
theorem js_di : decode prog_18_method_11_code 6 = .ok (.if_icmp .lt 10, 3) := by decide +kernel
theorem js_dj : decode prog_18_method_11_code 16 = .ok (.iload_n 0, 1) := by decide +kernel
theorem js_dk : decode prog_18_method_11_code 17 = .ok (.ireturn, 1) := by decide +kernel
set_option maxHeartbeats 4000000 in
theorem js_pre (l : Launch) (G : ai_G) (x y : Int32) (v : Value) (hv1 : v.category = 1) (h1 : ¬ x < 0) (h2 : x < y) : Met l jy_pre (js_w jy_pre prog_18_method_11_code 3 (some .int)) { frames := 0, cells := 0, slots := 0, locals := 0 } (js_P G [.int x, .int y, v]) (js_Q (some (.int x))) 0 0 (fun _ => False) := by
  refine Met.ofW (cc := prog_18_method_11_code) (maxL := 3) (ret := some .int) (by decide) rfl ?_
  intro p e s m args below meth c s₁ B hml hv
  obtain ⟨rfl, hSt⟩ := hv
  have hx := B.exec
  have hb := B.bytes
  have hr := B.returns
  have hlocks := B.notSynchronized
  have hn : (lg_sl ([.int x, .int y, v])).length ≤ 3 := by
    cases v <;> first | exact Nat.le_of_ble_eq_true rfl | exact absurd hv1 (by simp [Value.category])
  have hl := lv_entry ([.int x, .int y, v]) (n := 3) hn
  rw [lg_entry_eq]
  generalize (lg_sl ([.int x, .int y, v]) ++ List.replicate (3 - (lg_sl ([.int x, .int y, v])).length) Slot.unset).toArray = ls at hl ⊢
  have hl0 : ls[0]? = some (.val (.int x)) := lv_at hl 0 rfl
  have hl1 : ls[1]? = some (.val (.int y)) := lv_at hl 1 rfl
  refine lv_iload_n hx hb js_de rfl hl0 ?_
  refine lv_if_lt (tgt := 9) hx hb js_df rfl (fun h => absurd h h1) (fun _ => ?_)
  refine lv_iload_n hx hb js_dg rfl hl0 ?_
  refine lv_iload_n hx hb js_dh rfl hl1 ?_
  refine lv_icmp_lt (tgt := 16) hx hb js_di rfl (fun _ => ?_) (fun h => absurd h2 h)
  refine lv_iload_n hx hb js_dj rfl hl0 ?_
  exact W.iret (v := x) hx hb hr (fun t ht hW => ⟨rfl, ht⟩) (fun q hq => by cases hq) js_dk
theorem js_dl : decode prog_13_method_155_code 0 = .ok (.iload_n 0, 1) := by decide +kernel
theorem js_dm : decode prog_13_method_155_code 1 = .ok (.iload_n 1, 1) := by decide +kernel
theorem js_dn : decode prog_13_method_155_code 2 = .ok (.getstatic 1053, 3) := by decide +kernel
theorem js_do : decode prog_13_method_155_code 5 = .ok (.invokestatic 1059, 3) := by decide +kernel
theorem js_dp : decode prog_13_method_155_code 8 = .ok (.pop, 1) := by decide +kernel
theorem js_dq : decode prog_13_method_155_code 9 = .ok (.return_, 1) := by decide +kernel
set_option maxHeartbeats 4000000 in
theorem js_check (l : Launch) (G : ai_G) (x y : Int32) (h1 : ¬ x < 0) (h2 : x < y) : Met l jy_chk (js_w jy_chk prog_13_method_155_code 2 none) { frames := 1, cells := 0, slots := 0, locals := 22 } (js_P G [.int x, .int y]) (js_Q none) 0 0 (fun _ => False) := by
  refine Met.ofW (cc := prog_13_method_155_code) (maxL := 2) (ret := none) (by decide) rfl ?_
  intro p e s m args below meth c s₁ B hml hv
  obtain ⟨rfl, hSt⟩ := hv
  have hx := B.exec
  have hb := B.bytes
  have hr := B.returns
  have hts := atoms_spec (ws := js_w jy_chk prog_13_method_155_code 2 none) B.pre
  have hts : ∀ w ∈ ai_gt, w.before _ s = true := fun w hw => hts w (List.mem_cons_of_mem _ hw)
  have hown : s.vm.findClass "java/lang/String" = some m.cls := findClass_of_methodNamed B.named
  have hlocks := B.notSynchronized
  have hS : va_S (fun q => G.1 ≤ q) s.heap s.heap [] := va_S.rf
  have hl := lv_entry ([.int x, .int y]) (n := 2) (Nat.le_of_ble_eq_true rfl)
  rw [lg_entry_eq]
  generalize (lg_sl ([.int x, .int y]) ++ List.replicate (2 - (lg_sl ([.int x, .int y])).length) Slot.unset).toArray = ls at hl ⊢
  have hl : lv_has ls 2 [(0, .int x), (1, .int y)] := hl
  have key : ∀ v : Value, v.category = 1 → va_Z "jdk/internal/util/Preconditions" "SIOOBE_FORMATTER" "Ljava/util/function/BiFunction;" v (fun q => G.1 ≤ q) s s.heap → W p l e { frames := 1, cells := 0, slots := 0, locals := 22 } s m #[Value.int x, Value.int y] below meth c s.heap [] 0 0 (MQ below (js_Q none) #[Value.int x, Value.int y] s 0 0 (fun _ => False)) (F0 m 0 ls []) := by
    intro v hv1 hZ
    refine lv_iload_n hx hb js_dl rfl (lv_at hl 0 rfl) ?_
    refine lv_iload_n hx hb js_dm rfl (lv_at hl 1 rfl) ?_
    refine va_gets hx hb hZ hS hown (hts _ js_F4) (fun _ h => h) js_dn ?_
    refine js_after (rv := some (.int x)) (rest := []) (va_runS (own := "java/lang/String") (As := [.int x, .int y, v]) (rest := []) ⟨hx, hb, hml, hown, hts⟩ (js_pre l G x y v hv1 h1 h2) (va_cwS 3 hts (js_good js_S3) rfl rfl rfl ⟨by decide, by decide, by decide⟩ ⟨by decide, by decide⟩) ⟨js_blind G _, fun U hU hW => ⟨rfl, ai_St_to hSt hS hU hW⟩⟩ rfl rfl hl.1 rfl (Nat.le_of_ble_eq_true rfl) js_do ⟨by decide, by decide⟩) ?_
    refine lv_pop hx hb js_dp rfl ?_
    exact W.vret hx hb hr (fun t ht hW => ⟨rfl, ht⟩) (fun q hq => by cases hq) js_dq
  rcases hSt.2.2.2 with hZ | ⟨t, hZ⟩
  · exact key .null rfl hZ
  · exact key (.ref t) rfl hZ
theorem js_dr : decode prog_13_method_54_code 0 = .ok (.aload_n 0, 1) := by decide +kernel
theorem js_ds : decode prog_13_method_54_code 1 = .ok (.getfield 9, 3) := by decide +kernel
theorem js_dt : decode prog_13_method_54_code 4 = .ok (.arraylength, 1) := by decide +kernel
theorem js_du : decode prog_13_method_54_code 5 = .ok (.aload_n 0, 1) := by decide +kernel
theorem js_dv : decode prog_13_method_54_code 6 = .ok (.invokevirtual 335, 3) := by decide +kernel
theorem js_dw : decode prog_13_method_54_code 9 = .ok (.ishr, 1) := by decide +kernel
theorem js_dx : decode prog_13_method_54_code 10 = .ok (.ireturn, 1) := by decide +kernel
theorem js_shr0 : ∀ i : Nat, i < 8 → Int32.ofNat (ai_stL.getD i 0) >>> ((0 : Int32) &&& 31) = Int32.ofNat (ai_stL.getD i 0) := by decide +kernel
set_option maxHeartbeats 4000000 in
theorem js_length (l : Launch) (G : ai_G) (i : Nat) (hi : i < 8) : Met l jy_len (js_w jy_len prog_13_method_54_code 1 (some .int)) { frames := 3, cells := 0, slots := 0, locals := 64 } (js_P G [.ref (G.2.1 (i + 2))]) (js_Q (some (.int (Int32.ofNat (ai_stL.getD i 0))))) 0 0 (fun _ => False) := by
  refine Met.ofW (cc := prog_13_method_54_code) (maxL := 1) (ret := some .int) (by decide) rfl ?_
  intro p e s m args below meth c s₁ B hml hv
  obtain ⟨rfl, hSt⟩ := hv
  have hx := B.exec
  have hb := B.bytes
  have hr := B.returns
  have hts := atoms_spec (ws := js_w jy_len prog_13_method_54_code 1 (some .int)) B.pre
  have hts : ∀ w ∈ ai_gt, w.before _ s = true := fun w hw => hts w (List.mem_cons_of_mem _ hw)
  have hown : s.vm.findClass "java/lang/String" = some m.cls := findClass_of_methodNamed B.named
  have hlocks := B.notSynchronized
  obtain ⟨⟨adV, hS8⟩, -, hZ, -⟩ := id hSt
  have hS : va_S (fun q => G.1 ≤ q) s.heap s.heap [] := va_S.rf
  have hl := lv_entry ([.ref (G.2.1 (i + 2))]) (n := 1) (Nat.le_of_ble_eq_true rfl)
  rw [lg_entry_eq]
  generalize (lg_sl ([.ref (G.2.1 (i + 2))]) ++ List.replicate (1 - (lg_sl ([.ref (G.2.1 (i + 2))])).length) Slot.unset).toArray = ls at hl ⊢
  have hl : lv_has ls 1 [(0, .ref (G.2.1 (i + 2)))] := hl
  refine lv_aload_n hx hb js_dr rfl (lv_at hl 0 rfl) ?_
  refine vk_getf hx hb (hS8.1 i hi).2.2.1 hS hown (hts _ js_F2) (fun _ h => h) js_ds ?_
  refine va_tlen hx hb (hS8.1 i hi).2.2.2 hS rfl js_dt ?_
  refine lv_aload_n hx hb js_du rfl (lv_at hl 0 rfl) ?_
  refine js_after (rv := some (.int 0)) (rest := [.int (Int32.ofNat (ai_stL.getD i 0))]) (va_runV (own := "java/lang/String") (C := "java/lang/String") (As := []) (rest := [.int (Int32.ofNat (ai_stL.getD i 0))]) ⟨hx, hb, hml, hown, hts⟩ (js_coder l G i hi) (cwV 0 hts (js_good js_V1) rfl rfl rfl ⟨rfl, by decide, by decide, by decide⟩ ⟨by decide, by decide⟩) ⟨js_blind G _, vk_recv hS8 hi hS, fun U hU hW => ⟨rfl, ai_St_to hSt hS hU hW⟩⟩ rfl rfl hl.1 rfl (by show 2 * 0 + _ ≤ 8; simp [Value.category]) js_dv ⟨by decide, by decide⟩) ?_
  refine lv_ishr hx hb js_dw ?_
  rw [js_shr0 i hi]
  exact W.iret hx hb hr (fun t ht hW => ⟨rfl, ht⟩) (fun q hq => by cases hq) js_dx
theorem js_e0 : decode prog_14_method_2_code 0 = .ok (.iload_n 1, 1) := by decide +kernel
theorem js_e1 : decode prog_14_method_2_code 1 = .ok (.aload_n 0, 1) := by decide +kernel
theorem js_e2 : decode prog_14_method_2_code 2 = .ok (.arraylength, 1) := by decide +kernel
theorem js_e3 : decode prog_14_method_2_code 3 = .ok (.invokestatic 9, 3) := by decide +kernel
theorem js_e4 : decode prog_14_method_2_code 6 = .ok (.aload_n 0, 1) := by decide +kernel
theorem js_e5 : decode prog_14_method_2_code 7 = .ok (.iload_n 1, 1) := by decide +kernel
theorem js_e6 : decode prog_14_method_2_code 8 = .ok (.baload, 1) := by decide +kernel
theorem js_e7 : decode prog_14_method_2_code 9 = .ok (.sipush 255, 3) := by decide +kernel
theorem js_e8 : decode prog_14_method_2_code 12 = .ok (.iand, 1) := by decide +kernel
theorem js_e9 : decode prog_14_method_2_code 13 = .ok (.i2c, 1) := by decide +kernel
theorem js_ea : decode prog_14_method_2_code 14 = .ok (.ireturn, 1) := by decide +kernel
theorem js_chb : ∀ i : Nat, i < 8 → ∀ k : Nat, k < 6 → ((((ai_str.getD i []).getD k 0) &&& 255).toUInt32 % 65536).toInt32 = (ai_str.getD i []).getD k 0 := by decide +kernel
theorem js_chn : ∀ i : Nat, i < 8 → ∀ k : Nat, k < 6 → narrow .char (.int ((ai_str.getD i []).getD k 0)) = .int ((ai_str.getD i []).getD k 0) := by decide +kernel
theorem js_le5 : ∀ i : Nat, i < 8 → ai_stL.getD i 0 < 6 := by decide +kernel
theorem js_in {x : Int32} {n : Nat} (hn : n < 6) (h : ¬ x < 0) (h2 : x.toNatClampNeg < n) : x < Int32.ofNat n := by
  rw [Int32.lt_iff_toInt_lt, Int32.toInt_ofNat_of_lt (by omega)]
  have h0 : (0 : Int) ≤ x.toInt := by
    have := Int32.not_lt.mp h
    simpa using Int32.le_iff_toInt_le.mp this
  have h3 : x.toInt.toNat < n := h2
  omega
set_option maxHeartbeats 4000000 in
theorem js_chl (l : Launch) (G : ai_G) (i t : Nat) (hi : i < 8) (x : Int32) (h1 : ¬ x < 0) (h2 : x.toNatClampNeg < ai_stL.getD i 0) : Met l jy_chl (js_w jy_chl prog_14_method_2_code 2 (some .char)) { frames := 2, cells := 0, slots := 0, locals := 43 } (fun v U => js_P G [.ref t, .int x] v U ∧ va_T .byte t (ai_stL.getD i 0) (fun j => .int ((ai_str.getD i []).getD j 0)) (fun q => G.1 ≤ q) U U.heap) (js_Q (some (.int ((ai_str.getD i []).getD x.toNatClampNeg 0)))) 0 0 (fun _ => False) := by
  refine Met.ofW (cc := prog_14_method_2_code) (maxL := 2) (ret := some .char) (by decide) rfl ?_
  intro p e s m args below meth c s₁ B hml hv
  obtain ⟨⟨rfl, hSt⟩, hT⟩ := hv
  have hx := B.exec
  have hb := B.bytes
  have hr := B.returns
  have hts := atoms_spec (ws := js_w jy_chl prog_14_method_2_code 2 (some .char)) B.pre
  have hts : ∀ w ∈ ai_gt, w.before _ s = true := fun w hw => hts w (List.mem_cons_of_mem _ hw)
  have hown : s.vm.findClass "java/lang/StringLatin1" = some m.cls := findClass_of_methodNamed B.named
  have hlocks := B.notSynchronized
  have hS : va_S (fun q => G.1 ≤ q) s.heap s.heap [] := va_S.rf
  have hl := lv_entry ([.ref t, .int x]) (n := 2) (Nat.le_of_ble_eq_true rfl)
  rw [lg_entry_eq]
  generalize (lg_sl ([.ref t, .int x]) ++ List.replicate (2 - (lg_sl ([.ref t, .int x])).length) Slot.unset).toArray = ls at hl ⊢
  have hl : lv_has ls 2 [(0, .ref t), (1, .int x)] := hl
  have h5 := js_le5 i hi
  refine lv_iload_n hx hb js_e0 rfl (lv_at hl 1 rfl) ?_
  refine lv_aload_n hx hb js_e1 rfl (lv_at hl 0 rfl) ?_
  refine va_tlen hx hb hT hS rfl js_e2 ?_
  refine js_after (rv := none) (rest := []) (va_runS (own := "java/lang/StringLatin1") (As := [.int x, .int (Int32.ofNat (ai_stL.getD i 0))]) (rest := []) ⟨hx, hb, hml, hown, hts⟩ (js_check l G x _ h1 (js_in h5 h1 h2)) (va_cwS 2 hts (js_good js_S2) rfl rfl rfl ⟨by decide, by decide, by decide⟩ ⟨by decide, by decide⟩) ⟨js_blind G _, fun U hU hW => ⟨rfl, ai_St_to hSt hS hU hW⟩⟩ rfl rfl hl.1 rfl (Nat.le_of_ble_eq_true rfl) js_e3 ⟨by decide, by decide⟩) ?_
  refine lv_aload_n hx hb js_e4 rfl (lv_at hl 0 rfl) ?_
  refine lv_iload_n hx hb js_e5 rfl (lv_at hl 1 rfl) ?_
  refine va_tb hx hb hT hS (fun q => ?_) rfl js_e6 ?_
  · rcases q with q | q
    · exact h1 q
    · omega
  refine lv_sipush (v := 255) hx hb js_e7 rfl ?_
  refine lv_iand hx hb js_e8 ?_
  refine lv_i2c hx hb js_e9 (js_chb i hi _ (by omega)) ?_
  exact W.zret (ty := .char) hx hb hr (js_chn i hi _ (by omega)) (fun t ht hW => ⟨rfl, ht⟩) (fun q hq => by cases hq) js_ea
theorem js_f0 : decode prog_13_method_56_code 0 = .ok (.aload_n 0, 1) := by decide +kernel
theorem js_f1 : decode prog_13_method_56_code 1 = .ok (.invokevirtual 492, 3) := by decide +kernel
theorem js_f2 : decode prog_13_method_56_code 4 = .ok (.ifCond .eq 12, 3) := by decide +kernel
theorem js_f3 : decode prog_13_method_56_code 7 = .ok (.aload_n 0, 1) := by decide +kernel
theorem js_f4 : decode prog_13_method_56_code 8 = .ok (.getfield 9, 3) := by decide +kernel
theorem js_f5 : decode prog_13_method_56_code 11 = .ok (.iload_n 1, 1) := by decide +kernel
theorem js_f6 : decode prog_13_method_56_code 12 = .ok (.invokestatic 495, 3) := by decide +kernel
theorem js_f7 : decode prog_13_method_56_code 15 = .ok (.ireturn, 1) := by decide +kernel
set_option maxHeartbeats 4000000 in
theorem js_charAt (l : Launch) (G : ai_G) (i : Nat) (hi : i < 8) (x : Int32) (h1 : ¬ x < 0) (h2 : x.toNatClampNeg < ai_stL.getD i 0) : Met l jy_cha (js_w jy_cha prog_13_method_56_code 2 (some .char)) { frames := 3, cells := 0, slots := 0, locals := 64 } (js_P G [.ref (G.2.1 (i + 2)), .int x]) (js_Q (some (.int ((ai_str.getD i []).getD x.toNatClampNeg 0)))) 0 0 (fun _ => False) := by
  refine Met.ofW (cc := prog_13_method_56_code) (maxL := 2) (ret := some .char) (by decide) rfl ?_
  intro p e s m args below meth c s₁ B hml hv
  obtain ⟨rfl, hSt⟩ := hv
  have hx := B.exec
  have hb := B.bytes
  have hr := B.returns
  have hts := atoms_spec (ws := js_w jy_cha prog_13_method_56_code 2 (some .char)) B.pre
  have hts : ∀ w ∈ ai_gt, w.before _ s = true := fun w hw => hts w (List.mem_cons_of_mem _ hw)
  have hown : s.vm.findClass "java/lang/String" = some m.cls := findClass_of_methodNamed B.named
  have hlocks := B.notSynchronized
  obtain ⟨⟨adV, hS8⟩, -, hZ, -⟩ := id hSt
  have hS : va_S (fun q => G.1 ≤ q) s.heap s.heap [] := va_S.rf
  have hl := lv_entry ([.ref (G.2.1 (i + 2)), .int x]) (n := 2) (Nat.le_of_ble_eq_true rfl)
  rw [lg_entry_eq]
  generalize (lg_sl ([.ref (G.2.1 (i + 2)), .int x]) ++ List.replicate (2 - (lg_sl ([.ref (G.2.1 (i + 2)), .int x])).length) Slot.unset).toArray = ls at hl ⊢
  have hl : lv_has ls 2 [(0, .ref (G.2.1 (i + 2))), (1, .int x)] := hl
  have h5 := js_le5 i hi
  refine lv_aload_n hx hb js_f0 rfl (lv_at hl 0 rfl) ?_
  refine js_after (rv := some (.int 1)) (rest := []) (va_runV (own := "java/lang/String") (C := "java/lang/String") (As := []) (rest := []) ⟨hx, hb, hml, hown, hts⟩ (js_latin l G i hi) (cwV 0 hts (js_good js_V2) rfl rfl rfl ⟨rfl, by decide, by decide, by decide⟩ ⟨by decide, by decide⟩) ⟨js_blind G _, vk_recv hS8 hi hS, fun U hU hW => ⟨rfl, ai_St_to hSt hS hU hW⟩⟩ rfl rfl hl.1 rfl (Nat.le_of_ble_eq_true rfl) js_f1 ⟨by decide, by decide⟩) ?_
  refine lv_if_eq (tgt := 16) hx hb js_f2 rfl (fun h => absurd h (by decide)) (fun _ => ?_)
  refine lv_aload_n hx hb js_f3 rfl (lv_at hl 0 rfl) ?_
  refine vk_getf hx hb (hS8.1 i hi).2.2.1 hS hown (hts _ js_F2) (fun _ h => h) js_f4 ?_
  refine lv_iload_n hx hb js_f5 rfl (lv_at hl 1 rfl) ?_
  refine js_after (rv := some (.int ((ai_str.getD i []).getD x.toNatClampNeg 0))) (rest := []) (va_runS (own := "java/lang/String") (As := [.ref (adV i), .int x]) (rest := []) ⟨hx, hb, hml, hown, hts⟩ (js_chl l G i (adV i) hi x h1 h2) (va_cwS 2 hts (js_good js_S1) rfl rfl rfl ⟨by decide, by decide, by decide⟩ ⟨by decide, by decide⟩) ⟨fun a U g mk q => ⟨js_blind G _ a U g mk q.1, va_T.moved (Vm.Alike.refl _) q.2⟩, fun U hU hW => ⟨⟨rfl, ai_St_to hSt hS hU hW⟩, ((hS8.1 i hi).2.2.2.moved hW.alike).kept (fun a _ _ => by rw [hU])⟩⟩ rfl rfl hl.1 rfl (Nat.le_of_ble_eq_true rfl) js_f6 ⟨by decide, by decide⟩) ?_
  exact W.zret (ty := .char) hx hb hr (js_chn i hi _ (by omega)) (fun t ht hW => ⟨rfl, ht⟩) (fun q hq => by cases hq) js_f7
end
section
/-! native rows, returns, calls -/
theorem ai_w0a : Jvm.Cond.instanceMethod Lib.objectInit ∈ ai_gt := List.mem_filter.mpr ⟨by decide +kernel, by decide +kernel⟩
theorem ai_w0b : Jvm.Cond.code Lib.objectInit ⟨#[0xb1]⟩ 1 none ∈ ai_gt := List.mem_filter.mpr ⟨by decide +kernel, by decide +kernel⟩
theorem ai_w1a : Jvm.Cond.native arraycopyName ∈ ai_gt := List.mem_filter.mpr ⟨by decide +kernel, by decide +kernel⟩
theorem ai_w1b : Jvm.Cond.static arraycopyName ∈ ai_gt := List.mem_filter.mpr ⟨by decide +kernel, by decide +kernel⟩
theorem ai_w1c : Jvm.Cond.initialized "java/lang/System" ∈ ai_gt := List.mem_filter.mpr ⟨by decide +kernel, by decide +kernel⟩
theorem ai_w4a : Jvm.Cond.static Lib.Math.max.name ∈ ai_gt := List.mem_filter.mpr ⟨by decide +kernel, by decide +kernel⟩
theorem ai_w4b : Jvm.Cond.initialized "java/lang/Math" ∈ ai_gt := List.mem_filter.mpr ⟨by decide +kernel, by decide +kernel⟩
theorem ai_w4c : Jvm.Cond.code Lib.Math.max.name Lib.Math.max.code 2 (some .int) ∈ ai_gt := List.mem_filter.mpr ⟨by decide +kernel, by decide +kernel⟩
theorem ai_w5a : Jvm.Cond.static Lib.Math.min.name ∈ ai_gt := List.mem_filter.mpr ⟨by decide +kernel, by decide +kernel⟩
theorem ai_w5c : Jvm.Cond.code Lib.Math.min.name Lib.Math.min.code 2 (some .int) ∈ ai_gt := List.mem_filter.mpr ⟨by decide +kernel, by decide +kernel⟩
theorem ai_cpyin {f g z : List Int32} {sp dp n : Int32} (h : ai_cpy f g sp dp n = some z) : ¬ sp < 0 ∧ ¬ dp < 0 ∧ ¬ n < 0 ∧ sp.toNatClampNeg + n.toNatClampNeg ≤ f.length ∧ dp.toNatClampNeg + n.toNatClampNeg ≤ g.length ∧ z.length = g.length ∧ va_cpy (fun k => f.getD k 0) (fun k => g.getD k 0) sp.toNatClampNeg dp.toNatClampNeg n.toNatClampNeg = fun k => z.getD k 0 := by
  unfold ai_cpy at h
  split at h
  · cases h
  · rename_i hn
    split at h
    · rename_i hb
      rw [Bool.and_eq_true] at hb
      have h1 := Nat.le_of_ble_eq_true hb.1
      have h2 := Nat.le_of_ble_eq_true hb.2
      have e : z = ai_cp f g sp.toNatClampNeg dp.toNatClampNeg n.toNatClampNeg := (Option.some.inj h).symm
      generalize sp.toNatClampNeg = a at *
      generalize dp.toNatClampNeg = b at *
      generalize n.toNatClampNeg = k at *
      refine ⟨fun q => hn (Or.inl q), fun q => hn (Or.inr (Or.inl q)), fun q => hn (Or.inr (Or.inr q)), h1, h2, ?_, ?_⟩
      · rw [e]
        simp only [ai_cp, List.length_append, List.length_take, List.length_drop]
        omega
      · funext j
        rw [e]
        unfold va_cpy ai_cp
        rw [List.getD_eq_getElem?_getD (l := _ ++ _)]
        by_cases c1 : j < b
        · rw [if_neg (by omega), List.getElem?_append_left (by rw [List.length_take]; omega), List.getElem?_take, if_pos c1]
          simp only [List.getD_eq_getElem?_getD]
        · rw [List.getElem?_append_right (by rw [List.length_take]; omega)]
          have hl : (g.take b).length = b := by rw [List.length_take]; omega
          rw [hl]
          by_cases c2 : j < b + k
          · rw [if_pos (by omega), List.getElem?_append_left (by rw [List.length_take, List.length_drop]; omega), List.getElem?_take, if_pos (by omega), List.getElem?_drop]
            simp only [List.getD_eq_getElem?_getD]
          · have hl2 : ((f.drop a).take k).length = k := by rw [List.length_take, List.length_drop]; omega
            rw [if_neg (by omega), List.getElem?_append_right (by omega), hl2, List.getElem?_drop, show b + k + (j - b - k) = j by omega]
            simp only [List.getD_eq_getElem?_getD]
    · cases h
theorem ai_slnE {k : Nat} {x : Int32} (h : ai_sln k = some x) : ∃ j, j < 8 ∧ k = j + 2 ∧ Int32.ofNat (ai_stL.getD j 0) = x := by
  match k, h with
  | 0, h => cases h
  | 1, h => cases h
  | 2, h => exact ⟨0, by decide, rfl, Option.some.inj h⟩
  | 3, h => exact ⟨1, by decide, rfl, Option.some.inj h⟩
  | 4, h => exact ⟨2, by decide, rfl, Option.some.inj h⟩
  | 5, h => exact ⟨3, by decide, rfl, Option.some.inj h⟩
  | 6, h => exact ⟨4, by decide, rfl, Option.some.inj h⟩
  | 7, h => exact ⟨5, by decide, rfl, Option.some.inj h⟩
  | 8, h => exact ⟨6, by decide, rfl, Option.some.inj h⟩
  | 9, h => exact ⟨7, by decide, rfl, Option.some.inj h⟩
  | k + 10, h => simp [ai_sln, ai_str, ai_nth] at h
theorem ai_schL : ∀ j : Nat, j < 8 → (ai_str.getD j []).length = ai_stL.getD j 0 := by decide
theorem ai_schN : ∀ j : Nat, j < 8 → ai_nth ai_str j = some (ai_str.getD j []) := by decide
theorem ai_schE {k : Nat} {y x : Int32} (h : ai_sch k y = some x) : ∃ j, j < 8 ∧ k = j + 2 ∧ ¬ y < 0 ∧ y.toNatClampNeg < ai_stL.getD j 0 ∧ (ai_str.getD j []).getD y.toNatClampNeg 0 = x := by
  match k, h with
  | 0, h => cases h
  | 1, h => cases h
  | k + 2, h =>
    by_cases hk : k < 8
    · simp only [ai_sch, ai_schN k hk] at h
      obtain ⟨h1, h2⟩ := ai_ixin h
      refine ⟨k, hk, rfl, fun q => h1 (Or.inl q), ?_, ?_⟩
      · rw [← ai_schL k hk]
        exact Nat.not_le.mp fun q => h1 (Or.inr q)
      · exact h2
    · exfalso
      have : ai_nth ai_str k = none := by
        rw [ai_nth_eq]
        exact List.getElem?_eq_none (by show 8 ≤ k; omega)
      simp only [ai_sch, this] at h
      cases h
def ai_naC (c : Nat) (q : Nat × Nat × Nat) : Bool := match q.2.1 with
  | 2 => decide (q.1 = 61) && decide (ai_cn c = "FourWaters$Text")
  | 3 => decide (q.1 = 65) && decide (ai_cn c = "FourWaters$Text")
  | _ => true
theorem ai_naCO : ∀ c, (ai_naT c).all (ai_naC c) = true
  | 0 => by decide +kernel
  | 1 => by decide +kernel
  | 2 => by decide +kernel
  | 3 => by decide +kernel
  | 4 => by decide +kernel
  | 5 => by decide +kernel
  | 6 => by decide +kernel
  | 7 => by decide +kernel
  | 8 => by decide +kernel
  | 9 => by decide +kernel
  | 10 => by decide +kernel
  | 11 => by decide +kernel
  | 12 => by decide +kernel
  | _ + 13 => rfl
theorem ai_na2 (c : Nat) (q : Nat × Nat × Nat) (h : q ∈ ai_naT c) (h2 : q.2.1 = 2) : q.1 = 61 ∧ ai_cn c = "FourWaters$Text" := by
  have h1 := List.all_eq_true.mp (ai_naCO c) q h
  unfold ai_naC at h1
  rw [h2] at h1
  simpa using h1
theorem ai_na3 (c : Nat) (q : Nat × Nat × Nat) (h : q ∈ ai_naT c) (h2 : q.2.1 = 3) : q.1 = 65 ∧ ai_cn c = "FourWaters$Text" := by
  have h1 := List.all_eq_true.mp (ai_naCO c) q h
  unfold ai_naC at h1
  rw [h2] at h1
  simpa using h1
section AIS
variable {p : Program} {l : Launch} {e : Env} {s : State} {m : MethodId} {args : Array Value} {below : List Frame} {meth : Method} {c : Code} {Q : State → Prop} {M : ai_M} {G : ai_G} {X : List (List Int32)} {H : Heap} {locs : List Loc} {ls : Array Slot} {pc pc' : Nat} {L L' : ai_L} {st st' r : List Value} {h h' : ai_H} {cs sl cs' sl' : Nat}

theorem ai_nat_ok (C : ai_C p s m args meth c M G X) {i : Instr} {kb k w wi : Nat} (hi : ai_fd (ai_cd M) pc = some i) (hci : ai_ci i = some (kb, k)) (hw : ai_by (ai_naT (ai_cl M)) k = some (w, wi)) (hs : ai_nat X M kb w st h cs sl = some (st', h')) (kk : ai_K p l e s m args below meth c Q M G (pc + 3) L st' h' cs sl) : ai_K p l e s m args below meth c Q M G pc L st h cs sl := by
  intro ls H locs hN hP hS hL
  obtain ⟨hx, hb, hr, hml, hown, hts, hlk, hini, hE, hbs, hok, hcn⟩ := id C
  have hf := List.all_eq_true.mp (ai_naO (ai_cl M)) _ (ai_by_mem hw)
  unfold ai_okA at hf
  have hmls : c.maxLocals = ls.size := by rw [hml, hL.2.1]
  unfold ai_nat at hs
  split at hs
  · cases hs
  · rename_i hg
    rw [Bool.and_eq_true, Bool.and_eq_true] at hg
    have g1 := Nat.le_of_ble_eq_true hg.1.1
    have g2 := Nat.le_of_ble_eq_true hg.1.2
    have g3 := Nat.le_of_ble_eq_true hg.2
    split at hs
    · simp only [ai_nn, decide_eq_true_eq] at hf
      split at hs
      · rename_i a r
        split at hs
        · rename_i hq
          rw [Bool.and_eq_true] at hq
          have e1 : kb = 2 := Nat.eq_of_beq_eq_true hq.1
          have e2 := Nat.le_of_ble_eq_true hq.2
          subst e1
          have hi2 : i = .invokespecial k := by cases i <;> simp [ai_ci] at hci; rw [hci]
          subst hi2
          have hd := ai_decN hok hi rfl
          simp only [Option.some.injEq, Prod.mk.injEq] at hs
          obtain ⟨rfl, rfl⟩ := hs
          exact W.objInit hx hb hown (hts _ (ai_gt_at (by rw [← hcn]; exact hf) rfl)) (hts _ ai_w0a) (hts _ ai_w0b) rfl (by show ls.size = _; exact hmls.symm) rfl hd g1 (by show 2 * 0 + ((r.map (ai_v G)).map fun v => v.category).sum + 12 ≤ _; rw [ai_cat_map]; omega) (kk ls H locs hN hP hS hL)
        · cases hs
      · cases hs
    · simp only [ai_nn, decide_eq_true_eq] at hf
      split at hs
      · rename_i n dp a sp q r
        split at hs
        · rename_i hq
          rw [Bool.and_eq_true] at hq
          have e1 : kb = 1 := Nat.eq_of_beq_eq_true hq.1
          have e2 := Nat.le_of_ble_eq_true hq.2
          have e3 : ((r.map (ai_v G)).map fun v => v.category).sum + (nativeFrameWords "java/lang/System" "arraycopy" 5 + 11) ≤ (ai_rm M).locals := by rw [ai_cat_map]; exact e2
          subst e1
          have hi2 : i = .invokestatic k := by cases i <;> simp [ai_ci] at hci; rw [hci]
          subst hi2
          have hd := ai_decN hok hi rfl
          split at hs
          · rename_i o ho
            obtain ⟨z0, o⟩ := o
            cases z0 with
            | true => cases hs
            | false =>
              simp only at hs
              split at hs
              · rename_i b
                split at hs
                · rename_i f hf1
                  obtain ⟨z1, f⟩ := f
                  cases z1 with
                  | true => cases hs
                  | false =>
                    simp only at hs
                    split at hs
                    · rename_i z hz
                      simp only [Option.some.injEq, Prod.mk.injEq] at hs
                      obtain ⟨rfl, rfl⟩ := hs
                      obtain ⟨q1, q2, q3, q4, q5, q6, q7⟩ := ai_cpyin hz
                      refine va_copyi (ty := .int) hx hb hmls hown (hts _ (ai_gt_at (by rw [← hcn]; exact hf) rfl)) (hts _ ai_w1a) (hts _ ai_w1b) (hts _ ai_w1c) hE.1 hP.2 (ai_ws_D G h) hS b a 0 0 (ai_ws_at G.1 hf1) (ai_ws_at G.1 ho) rfl rfl rfl q1 q2 q3 q4 q5 (fun _ _ => rfl) g1 e3 hd (fun H1 locs1 hP1 _ hS1 => ?_)
                      have e4 : (ai_ws G G.1 h).set a (G.1 + a, .inl (ai_ca G false, o.length, .inl (va_cpy (fun k => f.getD k 0) (fun k => o.getD k 0) sp.toNatClampNeg dp.toNatClampNeg n.toNatClampNeg))) = ai_ws G G.1 (h.set a (.inl (false, z))) := by
                        rw [q7, ← q6]
                        exact ai_ws_set G (.inl (false, z)) h G.1 a
                      have hP2 := e4 ▸ hP1
                      exact ai_sz hbs (by rw [List.length_set]; exact hN) hP2 hS1 (fun hP2 => kk ls H1 locs1 (by rw [List.length_set]; exact hN) hP2 hS1 hL)
                    · cases hs
                · cases hs
              · rename_i b
                split at hs
                · rename_i f hf1
                  split at hs
                  · rename_i z hz
                    simp only [Option.some.injEq, Prod.mk.injEq] at hs
                    obtain ⟨rfl, rfl⟩ := hs
                    obtain ⟨q1, q2, q3, q4, q5, q6, q7⟩ := ai_cpyin hz
                    obtain ⟨x1, x2⟩ := hE.2.2.2 b f hf1
                    refine va_copyx hx hb hmls hown (hts _ (ai_gt_at (by rw [← hcn]; exact hf) rfl)) (hts _ ai_w1a) (hts _ ai_w1b) (hts _ ai_w1c) hE.1 hP.2 (ai_ws_D G h) hS x1 (by omega) (by show ¬ G.1 ≤ G.2.1 b; omega) a 0 (ai_ws_at G.1 ho) rfl q1 q2 q3 q4 q5 g1 e3 hd (fun H1 locs1 hP1 _ hS1 => ?_)
                    have e4 : (ai_ws G G.1 h).set a (G.1 + a, .inl (ai_ca G false, o.length, .inl (va_cpy (fun k => f.getD k 0) (fun k => o.getD k 0) sp.toNatClampNeg dp.toNatClampNeg n.toNatClampNeg))) = ai_ws G G.1 (h.set a (.inl (false, z))) := by
                      rw [q7, ← q6]
                      exact ai_ws_set G (.inl (false, z)) h G.1 a
                    have hP2 := e4 ▸ hP1
                    exact ai_sz hbs (by rw [List.length_set]; exact hN) hP2 hS1 (fun hP2 => kk ls H1 locs1 (by rw [List.length_set]; exact hN) hP2 hS1 hL)
                  · cases hs
                · cases hs
              · cases hs
          · cases hs
        · cases hs
      · cases hs
    · simp only [ai_nn, decide_eq_true_eq] at hf
      split at hs
      · rename_i j r
        split at hs
        · rename_i hq
          rw [Bool.and_eq_true, Bool.and_eq_true, Bool.and_eq_true] at hq
          obtain ⟨⟨⟨q1, q2⟩, q3⟩, q4⟩ := hq
          have e1 : kb = 0 := Nat.eq_of_beq_eq_true q1
          have q2 := Nat.le_of_ble_eq_true q2
          have q3 := Nat.le_of_ble_eq_true q3
          have q4 := Nat.le_of_ble_eq_true q4
          subst e1
          have hi2 : i = .invokevirtual k := by cases i <;> simp [ai_ci] at hci; rw [hci]
          subst hi2
          have hd := ai_decN hok hi rfl
          split at hs
          · rename_i x hx1
            simp only [Option.some.injEq, Prod.mk.injEq] at hs
            obtain ⟨rfl, rfl⟩ := hs
            obtain ⟨j', hj8, rfl, hjx⟩ := ai_slnE hx1
            have hk : k = 61 ∧ ai_own M = "FourWaters$Text" := by
              have h9 := ai_na2 _ _ (ai_by_mem hw) rfl
              exact ⟨h9.1, by rw [← hcn]; exact h9.2⟩
            obtain ⟨rfl, hown2⟩ := hk
            rw [hown2] at hown
            obtain ⟨⟨adV, hS8⟩, -⟩ := id hE.2.2.1.2
            refine js_after (rv := some (.int x)) (rest := r.map (ai_v G)) (va_runV (own := "FourWaters$Text") (C := "java/lang/String") (As := []) (rest := r.map (ai_v G)) ⟨hx, hb, hml, hown, hts⟩ (hjx ▸ js_length l G j' hj8) (cwV 0 hts (js_good js_V3) rfl rfl rfl ⟨rfl, by decide, by decide, by decide⟩ ⟨q2, Nat.le_trans (by decide) q3⟩) ⟨js_blind G _, vk_recv hS8 hj8 hS, fun U hU hW => ⟨rfl, ai_St_to hE.2.2.1.2 hS hU hW⟩⟩ rfl rfl hL.2.1 rfl (by show 2 * 0 + ((r.map (ai_v G)).map fun v => v.category).sum ≤ 8; rw [ai_cat_map]; omega) hd ⟨g2, g3⟩) ?_
            exact kk ls H locs hN hP hS hL
          · cases hs
        · cases hs
      · cases hs
    · simp only [ai_nn, decide_eq_true_eq] at hf
      split at hs
      · rename_i y j r
        split at hs
        · rename_i hq
          rw [Bool.and_eq_true, Bool.and_eq_true, Bool.and_eq_true] at hq
          obtain ⟨⟨⟨q1, q2⟩, q3⟩, q4⟩ := hq
          have e1 : kb = 0 := Nat.eq_of_beq_eq_true q1
          have q2 := Nat.le_of_ble_eq_true q2
          have q3 := Nat.le_of_ble_eq_true q3
          have q4 := Nat.le_of_ble_eq_true q4
          subst e1
          have hi2 : i = .invokevirtual k := by cases i <;> simp [ai_ci] at hci; rw [hci]
          subst hi2
          have hd := ai_decN hok hi rfl
          split at hs
          · rename_i x hx1
            simp only [Option.some.injEq, Prod.mk.injEq] at hs
            obtain ⟨rfl, rfl⟩ := hs
            obtain ⟨j', hj8, rfl, hy1, hy2, hjx⟩ := ai_schE hx1
            have hk : k = 65 ∧ ai_own M = "FourWaters$Text" := by
              have h9 := ai_na3 _ _ (ai_by_mem hw) rfl
              exact ⟨h9.1, by rw [← hcn]; exact h9.2⟩
            obtain ⟨rfl, hown2⟩ := hk
            rw [hown2] at hown
            obtain ⟨⟨adV, hS8⟩, -⟩ := id hE.2.2.1.2
            refine js_after (rv := some (.int x)) (rest := r.map (ai_v G)) (va_runV (own := "FourWaters$Text") (C := "java/lang/String") (As := [.int y]) (rest := r.map (ai_v G)) ⟨hx, hb, hml, hown, hts⟩ (hjx ▸ js_charAt l G j' hj8 y hy1 hy2) (cwV 1 hts (js_good js_V4) rfl rfl rfl ⟨rfl, by decide, by decide, by decide⟩ ⟨q2, Nat.le_trans (by decide) q3⟩) ⟨js_blind G _, vk_recv hS8 hj8 hS, fun U hU hW => ⟨rfl, ai_St_to hE.2.2.1.2 hS hU hW⟩⟩ rfl rfl hL.2.1 rfl (by show 2 * 0 + ((r.map (ai_v G)).map fun v => v.category).sum ≤ 8; rw [ai_cat_map]; omega) hd ⟨g2, g3⟩) ?_
            exact kk ls H locs hN hP hS hL
          · cases hs
        · cases hs
      · cases hs
    · simp only [ai_nn, decide_eq_true_eq] at hf
      split at hs
      · rename_i y x r
        split at hs
        · rename_i hq
          rw [Bool.and_eq_true] at hq
          have e1 : kb = 1 := Nat.eq_of_beq_eq_true hq.1
          have e2 := Nat.le_of_ble_eq_true hq.2
          subst e1
          have hi2 : i = .invokestatic k := by cases i <;> simp [ai_ci] at hci; rw [hci]
          subst hi2
          have hd := ai_decN hok hi rfl
          simp only [Option.some.injEq, Prod.mk.injEq] at hs
          obtain ⟨rfl, rfl⟩ := hs
          exact va_mmax hx hb hmls hown (hts _ (ai_gt_at (by rw [← hcn]; exact hf) rfl)) (hts _ ai_w4a) (hts _ ai_w4b) (hts _ ai_w4c) g1 (by rw [ai_cat_map]; exact e2) g2 g3 hd (kk ls H locs hN hP hS hL)
        · cases hs
      · cases hs
    · simp only [ai_nn, decide_eq_true_eq] at hf
      split at hs
      · rename_i y x r
        split at hs
        · rename_i hq
          rw [Bool.and_eq_true] at hq
          have e1 : kb = 1 := Nat.eq_of_beq_eq_true hq.1
          have e2 := Nat.le_of_ble_eq_true hq.2
          subst e1
          have hi2 : i = .invokestatic k := by cases i <;> simp [ai_ci] at hci; rw [hci]
          subst hi2
          have hd := ai_decN hok hi rfl
          simp only [Option.some.injEq, Prod.mk.injEq] at hs
          obtain ⟨rfl, rfl⟩ := hs
          exact va_mmin hx hb hmls hown (hts _ (ai_gt_at (by rw [← hcn]; exact hf) rfl)) (hts _ ai_w5a) (hts _ ai_w4b) (hts _ ai_w5c) g1 (by rw [ai_cat_map]; exact e2) g2 g3 hd (kk ls H locs hN hP hS hL)
        · cases hs
      · cases hs
    · cases hs
def ai_Qc (G : ai_G) (M : ai_M) (h : ai_H) (r : Option Value) (h' : ai_H) : Array Value → State → Outcome → State → Prop := fun _ st oc t => oc = .returned (r.map (ai_v G)) ∧ ai_P G h' t.heap ∧ va_F (fun q => G.1 ≤ q) st t ∧ h'.length = h.length + (ai_rm M).cells
def ai_Pc (G : ai_G) (X : List (List Int32)) (as : List Value) (h : ai_H) : Array Value → State → Prop := va_Pc (as.map (ai_v G)) (fun U => ai_P G h U.heap ∧ ai_En G X U)
/-- what an end does in a method's own frame -/
theorem ai_ret_ok (C : ai_C p s m args meth c M G X) {i : Instr} {rv : Option Value} {h0 : ai_H} (hi : ai_fd (ai_cd M) pc = some i) (hs : ai_ret M i st h cs sl = some (rv, h')) (h00 : s.heap.size = G.1 + h0.length) : ai_K p l e s m args below meth c (MQ below (ai_Qc G M h0 rv h') args s (ai_rm M).cells (ai_rm M).slots (fun q => G.1 ≤ q)) M G pc L st h cs sl := by
  intro ls H locs hN hP hS hL
  obtain ⟨hx, hb, hr, hml, hown, hts, hlk, hini, hE, hbs, hok, hcn⟩ := id C
  unfold ai_ret at hs
  split at hs
  · cases hs
  · rename_i hg
    rw [Bool.and_eq_true] at hg
    have g1 : cs = (ai_rm M).cells := Nat.eq_of_beq_eq_true hg.1
    have g2 := Nat.le_of_ble_eq_true hg.2
    refine W.widen (k := (ai_rm M).cells) (n := (ai_rm M).slots) (by omega) g2 ?_
    split at hs
    · have hd := ai_decN hok hi rfl
      split at hs
      · split at hs
        · rename_i hrt
          simp only [Option.some.injEq, Prod.mk.injEq] at hs
          obtain ⟨rfl, rfl⟩ := hs
          exact W.vret hx hb (by rw [hr, hrt]) (fun t ht hW => ⟨rfl, by rw [ht]; exact hP, hS.F ht, by omega⟩) hS.2.2 hd hlk
        · cases hs
      · cases hs
    · have hd := ai_decN hok hi rfl
      split at hs
      · rename_i v
        split at hs
        · rename_i hrt
          simp only [Option.some.injEq, Prod.mk.injEq] at hs
          obtain ⟨rfl, rfl⟩ := hs
          exact W.iret (v := v) hx hb (by rw [hr, hrt]) (fun t ht hW => ⟨rfl, by rw [ht]; exact hP, hS.F ht, by omega⟩) hS.2.2 hd hlk
        · rename_i hrt
          split at hs
          · rename_i hv
            simp only [Option.some.injEq, Prod.mk.injEq] at hs
            obtain ⟨rfl, rfl⟩ := hs
            exact W.zret (v := v) (ty := .boolean) hx hb (by rw [hr, hrt]) (by rcases hv with rfl | rfl <;> rfl) (fun t ht hW => ⟨rfl, by rw [ht]; exact hP, hS.F ht, by omega⟩) hS.2.2 hd hlk
          · cases hs
        · cases hs
      · cases hs
    · have hd := ai_decN hok hi rfl
      split at hs
      · rename_i v
        split at hs
        · rename_i hrt
          simp only [Option.some.injEq, Prod.mk.injEq] at hs
          obtain ⟨rfl, rfl⟩ := hs
          exact W.lret (v := v) hx hb (by rw [hr, hrt]) (fun t ht hW => ⟨rfl, by rw [ht]; exact hP, hS.F ht, by omega⟩) hS.2.2 hd hlk
        · cases hs
      · cases hs
    · have hd := ai_decN hok hi rfl
      split at hs
      · rename_i v
        split at hs
        · rename_i nm hrt
          simp only [Option.some.injEq, Prod.mk.injEq] at hs
          obtain ⟨rfl, rfl⟩ := hs
          exact W.aret (rt := .object nm) hx hb (by rw [hr, hrt]) (Or.inl ⟨nm, rfl⟩) (Or.inr ⟨_, rfl⟩) (fun t ht hW => ⟨rfl, by rw [ht]; exact hP, hS.F ht, by omega⟩) hS.2.2 hd hlk
        · cases hs
      · rename_i v
        split at hs
        · rename_i nm hrt
          simp only [Option.some.injEq, Prod.mk.injEq] at hs
          obtain ⟨rfl, rfl⟩ := hs
          exact W.aret (rt := .object nm) hx hb (by rw [hr, hrt]) (Or.inl ⟨nm, rfl⟩) (Or.inr ⟨_, rfl⟩) (fun t ht hW => ⟨rfl, by rw [ht]; exact hP, hS.F ht, by omega⟩) hS.2.2 hd hlk
        · cases hs
      · cases hs
    · cases hs
end AIS
end
section
/-! calls, and the interpreter's whole run -/
def ai_isn : Jvm.Cond → Bool
  | .methodLinkNest _ _ _ _ => true
  | .fieldLinkNest _ _ _ _ _ _ => true
  | _ => false
theorem ai_nw_all : ai_nw.all ai_isn = true := by decide +kernel
theorem ai_Nw_warm {s U : State} (hW : s.WarmedH U.vm) (hz : ∀ w ∈ ai_nw, va_Nw w s) : ∀ w ∈ ai_nw, va_Nw w U := by
  intro w hw
  have h1 := List.all_eq_true.mp ai_nw_all w hw
  have h2 := hz w hw
  cases w with
  | methodLinkNest a i x h => exact va_Nw.warmM hW h2
  | fieldLinkNest a i b n d h => exact va_Nw.warmF hW h2
  | _ => simp [ai_isn] at h1
theorem ai_Nw_same {s U : State} (hv : s.vm = U.vm) (hz : ∀ w ∈ ai_nw, va_Nw w s) : ∀ w ∈ ai_nw, va_Nw w U := by
  intro w hw
  have h1 := List.all_eq_true.mp ai_nw_all w hw
  have h2 := hz w hw
  cases w with
  | methodLinkNest a i x h => exact va_Nw.same rfl hv h2
  | fieldLinkNest a i b n d h => exact va_Nw.same rfl hv h2
  | _ => simp [ai_isn] at h1
theorem ai_En_to {G : ai_G} {X : List (List Int32)} {s U : State} {H : Heap} {locs : List Loc} (hE : ai_En G X s) (hb : G.1 ≤ s.heap.size) (hS : va_S (fun q => G.1 ≤ q) s.heap H locs) (hU : U.heap = H) (hW : s.WarmedH U.vm) : ai_En G X U := by
  obtain ⟨hK, hn, hZ, hX⟩ := hE
  refine ⟨va_K.moved hW.alike hK, ai_Nw_warm hW hn, ⟨(hZ.1.moved hW.alike).kept (fun a h1 h2 => by rw [hU]; exact hS.2.1 a h1 h2), ai_St_to hZ.2 hS hU hW⟩, fun k o ho => ?_⟩
  obtain ⟨x1, x2⟩ := hX k o ho
  exact ⟨(x1.moved hW.alike).kept (by rw [hU]; exact hS.2.1 _ (by omega) (by show ¬ G.1 ≤ G.2.1 k; omega)), x2⟩
theorem ai_En_eq {G : ai_G} {X : List (List Int32)} {s U : State} (hE : ai_En G X s) (hh : U.heap = s.heap) (hv : s.vm = U.vm) : ai_En G X U := by
  obtain ⟨hK, hn, hZ, hX⟩ := hE
  have ha : s.vm.Alike U.vm := by rw [hv]; exact Vm.Alike.refl U.vm
  refine ⟨va_K.moved ha hK, ai_Nw_same hv hn, ⟨by rw [hh]; exact hZ.1.moved ha, ai_St_eq hZ.2 hh hv⟩, fun k o ho => ?_⟩
  obtain ⟨x1, x2⟩ := hX k o ho
  exact ⟨by rw [hh]; exact x1.moved ha, x2⟩
theorem ai_blind (G : ai_G) (X : List (List Int32)) (as : List Value) (h : ai_H) : FrameBlind (ai_Pc G X as h) := by
  intro a U g mk q
  obtain ⟨h1, h2, h3⟩ := q
  exact ⟨h1, h2, ai_En_eq h3 rfl rfl⟩
theorem ai_good {ws : List Jvm.Cond} (h : ∀ w ∈ ws, w ∈ ai_gt) : GoodIn ai_gt ws := fun w hw => ⟨h w hw, good_of_word (List.mem_filter.mp (h w hw)).2⟩
theorem ai_w_in {M : ai_M} (ok : ai_okM M) : ∀ w ∈ ai_w M, w ∈ ai_gt := by
  obtain ⟨-, ⟨i, hi⟩, -, -⟩ := ok
  intro w hw
  unfold ai_w at hw
  rcases List.mem_cons.mp hw with rfl | hw
  · exact ai_gt_at hi rfl
  · exact hw
theorem ai_tk_eq : ∀ (n : Nat) (st acc as rest : List Value), ai_tk n st acc = some (as, rest) → ∃ t : List Value, t.length = n ∧ st = t.reverse ++ rest ∧ as = t ++ acc
  | 0, st, acc, as, rest, h => by
    simp only [ai_tk, Option.some.injEq, Prod.mk.injEq] at h
    exact ⟨[], rfl, by rw [h.2]; rfl, by rw [h.1]; rfl⟩
  | n + 1, [], acc, as, rest, h => by simp [ai_tk] at h
  | n + 1, v :: st, acc, as, rest, h => by
    obtain ⟨t, h1, h2, h3⟩ := ai_tk_eq n st (v :: acc) as rest h
    refine ⟨t ++ [v], by simp [h1], by rw [h2]; simp, by rw [h3]; simp⟩
theorem ai_tk0 {n : Nat} {st as rest : List Value} (h : ai_tk n st [] = some (as, rest)) : as.length = n ∧ st = as.reverse ++ rest := by
  obtain ⟨t, h1, h2, h3⟩ := ai_tk_eq n st [] as rest h
  rw [List.append_nil] at h3
  subst h3
  exact ⟨h1, h2⟩
theorem ai_fitin {R R' : Room} {mL cs sl : Nat} {rest : List Value} (h : ai_fit R R' mL cs sl rest = true) : (R'.frames + 1 ≤ R.frames ∧ 8 + (mL + 11) + R'.locals ≤ R.locals) ∧ (cs + R'.cells ≤ R.cells ∧ sl + R'.slots ≤ R.slots) ∧ ai_cat rest ≤ 8 := by
  unfold ai_fit at h
  rw [Bool.and_eq_true, Bool.and_eq_true, Bool.and_eq_true, Bool.and_eq_true] at h
  exact ⟨⟨Nat.le_of_ble_eq_true h.1.1.1.1, Nat.le_of_ble_eq_true h.1.1.1.2⟩, ⟨Nat.le_of_ble_eq_true h.1.1.2, Nat.le_of_ble_eq_true h.1.2⟩, Nat.le_of_ble_eq_true h.2⟩
abbrev ai_Met (l : Launch) (G : ai_G) (X : List (List Int32)) (M : ai_M) (as : List Value) (h : ai_H) (r : Option Value) (h' : ai_H) : Prop := Met l (ai_y M) (ai_w M) (ai_rm M) (ai_Pc G X as h) (ai_Qc G M h r h') (ai_rm M).cells (ai_rm M).slots (fun q => G.1 ≤ q)
section AIS
variable {p : Program} {l : Launch} {e : Env} {s : State} {m : MethodId} {args : Array Value} {below : List Frame} {meth : Method} {c : Code} {Q : State → Prop} {M : ai_M} {G : ai_G} {X : List (List Int32)} {H : Heap} {locs : List Loc} {ls : Array Slot} {pc pc' : Nat} {L L' : ai_L} {st st' rest as : List Value} {h h' : ai_H} {cs sl cs' sl' : Nat}

theorem ai_after {M' : ai_M} {rv : Option Value} {st0 : List Value} {a0 : Array Value} (hr : va_Run p l e (ai_rm M) s m args below meth c H locs cs sl (ai_rm M').cells (ai_rm M').slots (F0 m pc ls st0) (rest.map (ai_v G)) (ai_Qc G M' h rv h' a0) (fun q => G.1 ≤ q)) (hN : s.heap.size + cs = G.1 + h.length) (hP : ai_P G h H) (hS : va_S (fun q => G.1 ≤ q) s.heap H locs) (hL : ai_I G (ai_mL M) L ls)
    (kk : ai_K p l e s m args below meth c Q M G (pc + 3) L (rv.toList ++ rest) h' (cs + (ai_rm M').cells) (sl + (ai_rm M').slots)) : W p l e (ai_rm M) s m args below meth c H locs cs sl Q (F0 m pc ls st0) := by
  intro T hT Y
  obtain ⟨v, st₀, t, T', L1, h0, Y', hL1, e1, e2, ⟨hv, hP1, hF, hlen⟩, stp⟩ := hr T hT Y
  have hv2 : v = rv.map (ai_v G) := by cases hv; rfl
  subst hv2
  have hS1 : va_S (fun q => G.1 ≤ q) s.heap T'.heap (locs ++ L1) := by
    refine ⟨Nat.le_trans hS.1 (by rw [e1, ← h0]; exact hF.1), fun q h1 h2 => ?_, fun q hq => ?_⟩
    · rw [e1, hF.2 q (by rw [h0]; exact Nat.lt_of_lt_of_le h1 hS.1) h2, h0]
      exact hS.2.1 q h1 h2
    · rcases List.mem_append.mp hq with h | h
      · exact hS.2.2 q h
      · exact hL1 q h
  obtain ⟨t2, a1, b1⟩ := kk ls T'.heap (locs ++ L1) (by rw [hlen]; omega) (by rw [e1]; exact hP1) hS1 hL T' rfl Y'
  refine ⟨t2, stp t2 ?_, b1⟩
  have e3 : (rv.map (ai_v G)).toList ++ rest.map (ai_v G) = (rv.toList ++ rest).map (ai_v G) := by cases rv <;> simp
  show Steps p.tables e below (T'.setTop (F0 m (pc + 3) ls ((rv.map (ai_v G)).toList ++ rest.map (ai_v G)))) t2
  rw [e3]
  exact a1
theorem ai_call_ok (C : ai_C p s m args meth c M G X) {i : Instr} {kb k : Nat} {w : Nat × Nat × ai_M × List Nat} {rv : Option Value} (hi : ai_fd (ai_cd M) pc = some i) (hci : ai_ci i = some (kb, k)) (hw : ai_by (ai_caT (ai_cl M)) k = some w) (ok : ai_okM w.2.2.1) (ha : ai_arg M kb w.1 w.2.1 w.2.2.1 st h cs sl = some (as, rest)) (hM : (ai_en as).length ≤ ai_mL w.2.2.1 → ai_Met l G X w.2.2.1 as h rv h')
    (kk : ai_K p l e s m args below meth c Q M G (pc + 3) L (rv.toList ++ rest) h' (cs + (ai_rm w.2.2.1).cells) (sl + (ai_rm w.2.2.1).slots)) : ai_K p l e s m args below meth c Q M G pc L st h cs sl := by
  intro ls H locs hN hP hS hL
  obtain ⟨hx, hb, hr, hml, hown, hts, hlk, hini, hE, hbs, hok, hcn⟩ := id C
  have hf := List.all_eq_true.mp (ai_caK (ai_cl M)) _ (ai_by_mem hw)
  obtain ⟨kd, na, M', wl⟩ := w
  unfold ai_okK at hf
  simp only [Bool.and_eq_true, decide_eq_true_eq] at hf
  simp only at ok ha hM kk
  obtain ⟨⟨⟨⟨⟨f1, f2⟩, f3⟩, f4⟩, f5⟩, f6⟩ := hf
  have hpre : ∀ U : State, U.heap = H → s.WarmedH U.vm → ai_Pc G X as h (as.map (ai_v G)).toArray U := fun U hU hW => ⟨rfl, by rw [hU]; exact hP, ai_En_to hE hbs hS hU hW⟩
  unfold ai_arg at ha
  split at ha
  · -- an object's method
    simp only [Bool.and_eq_true, decide_eq_true_eq] at f6
    obtain ⟨⟨⟨⟨w1, w2⟩, w3⟩, w4⟩, w5⟩ := f6
    split at ha
    · rename_i as0 a rest0 htk
      split at ha
      · rename_i o ho
        split at ha
        · rename_i hg
          rw [Bool.and_eq_true, Bool.and_eq_true, Bool.and_eq_true] at hg
          obtain ⟨⟨⟨g1, g2⟩, g3⟩, g4⟩ := hg
          simp only [Option.some.injEq, Prod.mk.injEq] at ha
          obtain ⟨rfl, rfl⟩ := ha
          obtain ⟨t1, t2⟩ := ai_tk0 htk
          obtain ⟨r1, r2, r3⟩ := ai_fitin g3
          have e1 : kb = 0 := Nat.eq_of_beq_eq_true g1
          subst e1
          have hi2 : i = .invokevirtual k := by cases i <;> simp [ai_ci] at hci; rw [hci]
          subst hi2
          have hd := ai_decN hok hi rfl
          have hcc : o.1 = ai_cl M' := Nat.eq_of_beq_eq_true g2
          split at w5
          · rename_i t ht
            rw [decide_eq_true_eq] at w5
            have hcl : vwCl[o.1]? = some t := by rw [← ai_nth_eq, hcc]; exact ht
            have hrec := va_recv hE.1 hP.2 hcl (ai_ws_at G.1 ho)
            rw [w5] at hrec
            have hwin : ∀ w ∈ wsV (ai_own M) k (ai_y M').cls (ai_y M') (ai_w M'), w ∈ ai_gt := by
              intro w hw9
              unfold wsV at hw9
              rcases List.mem_append.mp hw9 with q | q
              · simp only [List.mem_cons, List.not_mem_nil, or_false] at q
                rcases q with rfl | rfl | rfl | rfl
                · exact ai_gt_at (by rw [← hcn]; exact w1) rfl
                · exact ai_gt_at w2 rfl
                · exact ai_gt_at w3 rfl
                · exact ai_gt_at w4 rfl
              · exact ai_w_in ok w q
            have hst : (F0 m pc ls (st.map (ai_v G))).stack = (as0.map (ai_v G)).reverse ++ .ref (G.1 + a) :: rest0.map (ai_v G) := by
              show st.map (ai_v G) = _
              rw [t2, List.map_append, List.map_reverse, List.map_cons]; rfl
            exact ai_after (va_runV (own := ai_own M) (C := (ai_y M').cls) (As := as0.map (ai_v G)) (rest := rest0.map (ai_v G)) ⟨hx, hb, hml, hown, hts⟩ (hM (Nat.le_of_ble_eq_true g4)) (cwV na hts (ai_good hwin) rfl rfl rfl ⟨rfl, f1, f2, f3⟩ r1) ⟨ai_blind G X _ h, hrec, hpre⟩ rfl (by rw [List.length_map]; exact t1) hL.2.1 hst (by show 2 * 0 + ((rest0.map (ai_v G)).map fun v => v.category).sum ≤ 8; rw [ai_cat_map]; omega) hd r2) hN hP hS hL kk
          · cases w5
        · cases ha
      · cases ha
    · cases ha
  · -- a method of a class
    simp only [Bool.and_eq_true, decide_eq_true_eq] at f6
    obtain ⟨⟨w1, w2⟩, w3⟩ := f6
    split at ha
    · rename_i as0 rest0 htk
      split at ha
      · rename_i hg
        rw [Bool.and_eq_true, Bool.and_eq_true] at hg
        obtain ⟨⟨g1, g3⟩, g4⟩ := hg
        simp only [Option.some.injEq, Prod.mk.injEq] at ha
        obtain ⟨rfl, rfl⟩ := ha
        obtain ⟨t1, t2⟩ := ai_tk0 htk
        obtain ⟨r1, r2, r3⟩ := ai_fitin g3
        have e1 : kb = 1 := Nat.eq_of_beq_eq_true g1
        subst e1
        have hi2 : i = .invokestatic k := by cases i <;> simp [ai_ci] at hci; rw [hci]
        subst hi2
        have hd := ai_decN hok hi rfl
        have hwin : ∀ w ∈ va_wsS (ai_own M) k (ai_y M') (ai_w M'), w ∈ ai_gt := by
          intro w hw9
          unfold va_wsS at hw9
          rcases List.mem_append.mp hw9 with q | q
          · simp only [List.mem_cons, List.not_mem_nil, or_false] at q
            rcases q with rfl | rfl | rfl
            · exact ai_gt_at (by rw [← hcn]; exact w1) rfl
            · exact ai_gt_at w2 rfl
            · exact ai_gt_at w3 rfl
          · exact ai_w_in ok w q
        have hst : (F0 m pc ls (st.map (ai_v G))).stack = (as0.map (ai_v G)).reverse ++ rest0.map (ai_v G) := by
          show st.map (ai_v G) = _
          rw [t2, List.map_append, List.map_reverse]
        exact ai_after (va_runS (own := ai_own M) (As := as0.map (ai_v G)) (rest := rest0.map (ai_v G)) ⟨hx, hb, hml, hown, hts⟩ (hM (Nat.le_of_ble_eq_true g4)) (va_cwS na hts (ai_good hwin) rfl rfl rfl ⟨f1, f2, f3⟩ r1) ⟨ai_blind G X _ h, hpre⟩ rfl (by rw [List.length_map]; exact t1) hL.2.1 hst (by show 2 * 0 + ((rest0.map (ai_v G)).map fun v => v.category).sum ≤ 8; rw [ai_cat_map]; omega) hd r2) hN hP hS hL kk
      · cases ha
    · cases ha
  · -- a nest mate's method of a class
    simp only [Bool.and_eq_true, decide_eq_true_eq] at f6
    obtain ⟨⟨⟨w1, w0⟩, w2⟩, w3⟩ := f6
    split at ha
    · rename_i as0 rest0 htk
      split at ha
      · rename_i hg
        rw [Bool.and_eq_true, Bool.and_eq_true] at hg
        obtain ⟨⟨g1, g3⟩, g4⟩ := hg
        simp only [Option.some.injEq, Prod.mk.injEq] at ha
        obtain ⟨rfl, rfl⟩ := ha
        obtain ⟨t1, t2⟩ := ai_tk0 htk
        obtain ⟨r1, r2, r3⟩ := ai_fitin g3
        have e1 : kb = 1 := Nat.eq_of_beq_eq_true g1
        subst e1
        have hi2 : i = .invokestatic k := by cases i <;> simp [ai_ci] at hci; rw [hci]
        subst hi2
        have hd := ai_decN hok hi rfl
        have hnin : Jvm.Cond.methodLinkNest (ai_own M) k (ai_y M') "FourWaters" ∈ ai_nw := by
          rw [← hcn]
          exact List.mem_filterMap.mpr ⟨_, List.elem_iff.mp w0, w1⟩
        have hst : (F0 m pc ls (st.map (ai_v G))).stack = (as0.map (ai_v G)).reverse ++ rest0.map (ai_v G) := by
          show st.map (ai_v G) = _
          rw [t2, List.map_append, List.map_reverse]
        exact ai_after (va_runSN (own := ai_own M) (As := as0.map (ai_v G)) (rest := rest0.map (ai_v G)) ⟨hx, hb, hml, hown, hts⟩ (hM (Nat.le_of_ble_eq_true g4)) ⟨va_cnB na hts (ai_good (ai_w_in ok)) rfl rfl rfl (hE.2.1 _ hnin) (hts _ (ai_gt_at w3 rfl)) ⟨f1, f2, f3⟩ r1, hts _ (ai_gt_at w2 rfl), trivial⟩ ⟨ai_blind G X _ h, hpre⟩ rfl (by rw [List.length_map]; exact t1) hL.2.1 hst (by show 2 * 0 + ((rest0.map (ai_v G)).map fun v => v.category).sum ≤ 8; rw [ai_cat_map]; omega) hd r2) hN hP hS hL kk
      · cases ha
    · cases ha
  · -- a maker
    simp only [Bool.and_eq_true, decide_eq_true_eq] at f6
    obtain ⟨⟨⟨⟨w1, w2⟩, w3⟩, w4⟩, w5⟩ := f6
    split at ha
    · rename_i as0 a rest0 htk
      split at ha
      · rename_i hg
        rw [Bool.and_eq_true, Bool.and_eq_true] at hg
        obtain ⟨⟨g1, g3⟩, g4⟩ := hg
        simp only [Option.some.injEq, Prod.mk.injEq] at ha
        obtain ⟨rfl, rfl⟩ := ha
        obtain ⟨t1, t2⟩ := ai_tk0 htk
        obtain ⟨r1, r2, r3⟩ := ai_fitin g3
        have e1 : kb = 2 := Nat.eq_of_beq_eq_true g1
        subst e1
        have hi2 : i = .invokespecial k := by cases i <;> simp [ai_ci] at hci; rw [hci]
        subst hi2
        have hd := ai_decN hok hi rfl
        have hst : (F0 m pc ls (st.map (ai_v G))).stack = (as0.map (ai_v G)).reverse ++ .ref (G.1 + a) :: rest0.map (ai_v G) := by
          show st.map (ai_v G) = _
          rw [t2, List.map_append, List.map_reverse, List.map_cons]; rfl
        exact ai_after (va_runI (own := ai_own M) (As := as0.map (ai_v G)) (rest := rest0.map (ai_v G)) ⟨hx, hb, hml, hown, hts⟩ (hM (Nat.le_of_ble_eq_true g4)) ⟨callB_of na hts (ai_good (ai_w_in ok)) (by unfold ai_w; rw [w5]) rfl rfl (hts _ (ai_gt_at w3 rfl)) (hts _ (ai_gt_at (by rw [← hcn]; exact w1) rfl)) ⟨f1, f2, f3⟩ r1, w4, hts _ (ai_gt_at w2 rfl)⟩ ⟨ai_blind G X _ h, hpre⟩ rfl (by rw [List.length_map]; exact t1) hL.2.1 hst (by show 2 * 0 + ((rest0.map (ai_v G)).map fun v => v.category).sum ≤ 8; rw [ai_cat_map]; omega) hd r2) hN hP hS hL kk
      · cases ha
    · cases ha
  · -- a nest mate's maker
    simp only [Bool.and_eq_true, decide_eq_true_eq] at f6
    obtain ⟨⟨⟨⟨⟨w1, w0⟩, w2⟩, w3⟩, w4⟩, w5⟩ := f6
    split at ha
    · rename_i as0 a rest0 htk
      split at ha
      · rename_i hg
        rw [Bool.and_eq_true, Bool.and_eq_true] at hg
        obtain ⟨⟨g1, g3⟩, g4⟩ := hg
        simp only [Option.some.injEq, Prod.mk.injEq] at ha
        obtain ⟨rfl, rfl⟩ := ha
        obtain ⟨t1, t2⟩ := ai_tk0 htk
        obtain ⟨r1, r2, r3⟩ := ai_fitin g3
        have e1 : kb = 2 := Nat.eq_of_beq_eq_true g1
        subst e1
        have hi2 : i = .invokespecial k := by cases i <;> simp [ai_ci] at hci; rw [hci]
        subst hi2
        have hd := ai_decN hok hi rfl
        have hnin : Jvm.Cond.methodLinkNest (ai_own M) k (ai_y M') "FourWaters" ∈ ai_nw := by
          rw [← hcn]
          exact List.mem_filterMap.mpr ⟨_, List.elem_iff.mp w0, w1⟩
        have hst : (F0 m pc ls (st.map (ai_v G))).stack = (as0.map (ai_v G)).reverse ++ .ref (G.1 + a) :: rest0.map (ai_v G) := by
          show st.map (ai_v G) = _
          rw [t2, List.map_append, List.map_reverse, List.map_cons]; rfl
        exact ai_after (va_runIN (own := ai_own M) (As := as0.map (ai_v G)) (rest := rest0.map (ai_v G)) ⟨hx, hb, hml, hown, hts⟩ (hM (Nat.le_of_ble_eq_true g4)) ⟨va_cnB na hts (ai_good (ai_w_in ok)) (by unfold ai_w; rw [w5]) rfl rfl (hE.2.1 _ hnin) (hts _ (ai_gt_at w3 rfl)) ⟨f1, f2, f3⟩ r1, w4, hts _ (ai_gt_at w2 rfl)⟩ ⟨ai_blind G X _ h, hpre⟩ rfl (by rw [List.length_map]; exact t1) hL.2.1 hst (by show 2 * 0 + ((rest0.map (ai_v G)).map fun v => v.category).sum ≤ 8; rw [ai_cat_map]; omega) hd r2) hN hP hS hL kk
      · cases ha
    · cases ha
  · cases ha
end AIS
end
section
/-! the interpreter's run is the machine's -/
theorem ai_met_of {l : Launch} {G : ai_G} {X : List (List Int32)} {M : ai_M} {as : List Value} {h : ai_H} {rv : Option Value} {h' : ai_H} (ok : ai_okM M) (hcn : ai_cn (ai_cl M) = ai_own M) (hlen : (ai_en as).length ≤ ai_mL M)
    (ih : ∀ {p : Program} {e : Env} {s : State} {m : MethodId} {args : Array Value} {below : List Frame} {meth : Method} {c : Code} {Q : State → Prop}, ai_C p s m args meth c M G X → (∀ (i : Instr) (pc : Nat) (L : ai_L) (st : List Value) (h : ai_H) (cs sl : Nat), ai_fd (ai_cd M) pc = some i → ai_ret M i st h cs sl = some (rv, h') → ai_K p l e s m args below meth c Q M G pc L st h cs sl) → ai_K p l e s m args below meth c Q M G 0 (ai_pad (ai_mL M) (ai_en as)) [] h 0 0) : ai_Met l G X M as h rv h' := by
  refine Met.ofW (cc := ai_cc M) (maxL := ai_mL M) (ret := ai_rt M) ok.2.2.1 rfl ?_
  intro p e s m args below meth c s₁ B hml hv
  obtain ⟨e1, hP, hE⟩ : args = (as.map (ai_v G)).toArray ∧ ai_P G h s.heap ∧ ai_En G X s := hv
  subst e1
  have hts := atoms_spec (ws := ai_w M) B.pre
  have hown : s.vm.findClass (ai_y M).cls = some m.cls := findClass_of_methodNamed B.named
  have C : ai_C p s m (as.map (ai_v G)).toArray meth c M G X := ⟨B.exec, B.bytes, B.returns, hml, by rw [← ok.2.2.2]; exact hown, fun w hw => hts w (List.mem_cons_of_mem _ hw), B.notSynchronized, fun hn => by rw [(name_of_methodNamed B.named B.method).1]; exact hn, hE, by rw [hP.1]; omega, ok.1, hcn⟩
  rw [lg_entry_eq]
  exact ih C (fun i pc L st h1 cs sl hi hs => ai_ret_ok C hi hs hP.1) _ s.heap [] (by rw [hP.1]; omega) hP va_S.rf (ai_I_entry G as hlen)
theorem ai_sound (l : Launch) (G : ai_G) (X : List (List Int32)) (hca : ∀ c, ∀ q ∈ ai_caT c, ai_okM q.2.2.2.1) : ∀ (n : Nat) (M : ai_M) (pc : Nat) (L : ai_L) (st : List Value) (h : ai_H) (cs sl : Nat) (rv : Option Value) (h' : ai_H), ai_run X n M pc L st h cs sl = some (rv, h') →
    ∀ {p : Program} {e : Env} {s : State} {m : MethodId} {args : Array Value} {below : List Frame} {meth : Method} {c : Code} {Q : State → Prop}, ai_C p s m args meth c M G X → (∀ (i : Instr) (pc : Nat) (L : ai_L) (st : List Value) (h : ai_H) (cs sl : Nat), ai_fd (ai_cd M) pc = some i → ai_ret M i st h cs sl = some (rv, h') → ai_K p l e s m args below meth c Q M G pc L st h cs sl) → ai_K p l e s m args below meth c Q M G pc L st h cs sl := by
  intro n
  induction n with
  | zero => intro M pc L st h cs sl rv h' hrun; simp [ai_run] at hrun
  | succ n ih =>
    intro M pc L st h cs sl rv h' hrun p e s m args below meth c Q C hret
    rw [ai_run] at hrun
    split at hrun
    · cases hrun
    · rename_i i hi
      split at hrun
      · split at hrun
        · exact hret i pc L st h cs sl hi hrun
        · split at hrun
          · cases hrun
          · rename_i q hq
            obtain ⟨pc', L', st', h1, cs', sl'⟩ := q
            exact ai_step_ok C hi hq (ih M _ _ _ _ _ _ rv h' hrun C hret)
      · rename_i k hk
        obtain ⟨kb, k⟩ := k
        split at hrun
        · rename_i w hw
          obtain ⟨w, wi⟩ := w
          split at hrun
          · cases hrun
          · rename_i q hq
            obtain ⟨st', h1⟩ := q
            exact ai_nat_ok C hi hk hw hq (ih M _ _ _ _ _ _ rv h' hrun C hret)
        · split at hrun
          · cases hrun
          · rename_i w hw
            split at hrun
            · cases hrun
            · rename_i q hq
              obtain ⟨as, rest⟩ := q
              split at hrun
              · cases hrun
              · rename_i z hz
                obtain ⟨r1, h1⟩ := z
                have hm := ai_by_mem hw
                have ok := hca _ _ hm
                have hf := List.all_eq_true.mp (ai_caK (ai_cl M)) _ hm
                have hcn : ai_cn (ai_cl w.2.2.1) = ai_own w.2.2.1 := by
                  unfold ai_okK at hf
                  simp only [Bool.and_eq_true, decide_eq_true_eq] at hf
                  exact hf.1.1.2
                exact ai_call_ok C hi hk hw ok hq (fun hlen => ai_met_of ok hcn hlen (fun C2 hr2 => ih w.2.2.1 0 _ [] h 0 0 r1 h1 hz C2 hr2)) (ih M _ _ _ _ _ _ rv h' hrun C hret)
end
section
theorem kc_mthg_init : ai_okC mthg_init = true := by decide +kernel
theorem ok_mthg_init : ai_okM mthg_init := ⟨kc_mthg_init, ⟨109, by decide +kernel⟩, by decide +kernel, rfl⟩
theorem kc_mlift_init : ai_okC mlift_init = true := by decide +kernel
theorem ok_mlift_init : ai_okM mlift_init := ⟨kc_mlift_init, ⟨142, by decide +kernel⟩, by decide +kernel, rfl⟩
theorem kc_mf_within : ai_okC mf_within = true := by decide +kernel
theorem ok_mf_within : ai_okM mf_within := ⟨kc_mf_within, ⟨171, by decide +kernel⟩, by decide +kernel, rfl⟩
theorem kc_marr_fill : ai_okC marr_fill = true := by decide +kernel
theorem ok_marr_fill : ai_okM marr_fill := ⟨kc_marr_fill, ⟨179, by decide +kernel⟩, by decide +kernel, rfl⟩
theorem kc_msea_startAnew : ai_okC msea_startAnew = true := by decide +kernel
theorem ok_msea_startAnew : ai_okM msea_startAnew := ⟨kc_msea_startAnew, ⟨168, by decide +kernel⟩, by decide +kernel, rfl⟩
theorem kc_msea_init : ai_okC msea_init = true := by decide +kernel
theorem ok_msea_init : ai_okM msea_init := ⟨kc_msea_init, ⟨103, by decide +kernel⟩, by decide +kernel, rfl⟩
theorem kc_mtxt_init : ai_okC mtxt_init = true := by decide +kernel
theorem ok_mtxt_init : ai_okM mtxt_init := ⟨kc_mtxt_init, ⟨252, by decide +kernel⟩, by decide +kernel, rfl⟩
theorem kc_mfall_init : ai_okC mfall_init = true := by decide +kernel
theorem ok_mfall_init : ai_okM mfall_init := ⟨kc_mfall_init, ⟨281, by decide +kernel⟩, by decide +kernel, rfl⟩
theorem kc_mspr_init : ai_okC mspr_init = true := by decide +kernel
theorem ok_mspr_init : ai_okM mspr_init := ⟨kc_mspr_init, ⟨318, by decide +kernel⟩, by decide +kernel, rfl⟩
theorem kc_mway_init : ai_okC mway_init = true := by decide +kernel
theorem ok_mway_init : ai_okM mway_init := ⟨kc_mway_init, ⟨332, by decide +kernel⟩, by decide +kernel, rfl⟩
theorem kc_mf_init : ai_okC mf_init = true := by decide +kernel
theorem ok_mf_init : ai_okM mf_init := ⟨kc_mf_init, ⟨95, by decide +kernel⟩, by decide +kernel, rfl⟩
theorem kc_mm_begins : ai_okC mm_begins = true := by decide +kernel
theorem ok_mm_begins : ai_okM mm_begins := ⟨kc_mm_begins, ⟨939, by decide +kernel⟩, by decide +kernel, rfl⟩
theorem kc_mm_init : ai_okC mm_init = true := by decide +kernel
theorem ok_mm_init : ai_okM mm_init := ⟨kc_mm_init, ⟨934, by decide +kernel⟩, by decide +kernel, rfl⟩
theorem kc_mf_counted : ai_okC mf_counted = true := by decide +kernel
theorem ok_mf_counted : ai_okM mf_counted := ⟨kc_mf_counted, ⟨392, by decide +kernel⟩, by decide +kernel, rfl⟩
theorem kc_mf_sea : ai_okC mf_sea = true := by decide +kernel
theorem ok_mf_sea : ai_okM mf_sea := ⟨kc_mf_sea, ⟨387, by decide +kernel⟩, by decide +kernel, rfl⟩
theorem kc_mm_in : ai_okC mm_in = true := by decide +kernel
theorem ok_mm_in : ai_okM mm_in := ⟨kc_mm_in, ⟨1036, by decide +kernel⟩, by decide +kernel, rfl⟩
theorem kc_mm_seaTo : ai_okC mm_seaTo = true := by decide +kernel
theorem ok_mm_seaTo : ai_okM mm_seaTo := ⟨kc_mm_seaTo, ⟨1032, by decide +kernel⟩, by decide +kernel, rfl⟩
theorem kc_mm_met : ai_okC mm_met = true := by decide +kernel
theorem ok_mm_met : ai_okM mm_met := ⟨kc_mm_met, ⟨1040, by decide +kernel⟩, by decide +kernel, rfl⟩
theorem kc_mm_sea : ai_okC mm_sea = true := by decide +kernel
theorem ok_mm_sea : ai_okM mm_sea := ⟨kc_mm_sea, ⟨1028, by decide +kernel⟩, by decide +kernel, rfl⟩
theorem kc_mf_isLayer : ai_okC mf_isLayer = true := by decide +kernel
theorem ok_mf_isLayer : ai_okM mf_isLayer := ⟨kc_mf_isLayer, ⟨403, by decide +kernel⟩, by decide +kernel, rfl⟩
theorem kc_msea_putDensity : ai_okC msea_putDensity = true := by decide +kernel
theorem ok_msea_putDensity : ai_okM msea_putDensity := ⟨kc_msea_putDensity, ⟨400, by decide +kernel⟩, by decide +kernel, rfl⟩
theorem kc_mf_water : ai_okC mf_water = true := by decide +kernel
theorem ok_mf_water : ai_okM mf_water := ⟨kc_mf_water, ⟨396, by decide +kernel⟩, by decide +kernel, rfl⟩
theorem kc_mm_isLayer : ai_okC mm_isLayer = true := by decide +kernel
theorem ok_mm_isLayer : ai_okM mm_isLayer := ⟨kc_mm_isLayer, ⟨1051, by decide +kernel⟩, by decide +kernel, rfl⟩
theorem kc_mm_becomes : ai_okC mm_becomes = true := by decide +kernel
theorem ok_mm_becomes : ai_okM mm_becomes := ⟨kc_mm_becomes, ⟨1057, by decide +kernel⟩, by decide +kernel, rfl⟩
theorem kc_mm_waterTo : ai_okC mm_waterTo = true := by decide +kernel
theorem ok_mm_waterTo : ai_okM mm_waterTo := ⟨kc_mm_waterTo, ⟨1048, by decide +kernel⟩, by decide +kernel, rfl⟩
theorem kc_mm_water : ai_okC mm_water = true := by decide +kernel
theorem ok_mm_water : ai_okM mm_water := ⟨kc_mm_water, ⟨1044, by decide +kernel⟩, by decide +kernel, rfl⟩
theorem kc_msea_hasCell : ai_okC msea_hasCell = true := by decide +kernel
theorem ok_msea_hasCell : ai_okM msea_hasCell := ⟨kc_msea_hasCell, ⟨416, by decide +kernel⟩, by decide +kernel, rfl⟩
theorem kc_msea_putThick : ai_okC msea_putThick = true := by decide +kernel
theorem ok_msea_putThick : ai_okM msea_putThick := ⟨kc_msea_putThick, ⟨412, by decide +kernel⟩, by decide +kernel, rfl⟩
theorem kc_mf_thick : ai_okC mf_thick = true := by decide +kernel
theorem ok_mf_thick : ai_okM mf_thick := ⟨kc_mf_thick, ⟨408, by decide +kernel⟩, by decide +kernel, rfl⟩
theorem kc_mm_isCellOf : ai_okC mm_isCellOf = true := by decide +kernel
theorem ok_mm_isCellOf : ai_okM mm_isCellOf := ⟨kc_mm_isCellOf, ⟨1069, by decide +kernel⟩, by decide +kernel, rfl⟩
theorem kc_mm_thickTo : ai_okC mm_thickTo = true := by decide +kernel
theorem ok_mm_thickTo : ai_okM mm_thickTo := ⟨kc_mm_thickTo, ⟨1065, by decide +kernel⟩, by decide +kernel, rfl⟩
theorem kc_mm_thick : ai_okC mm_thick = true := by decide +kernel
theorem ok_mm_thick : ai_okM mm_thick := ⟨kc_mm_thick, ⟨1061, by decide +kernel⟩, by decide +kernel, rfl⟩
theorem kc_msea_putSkin : ai_okC msea_putSkin = true := by decide +kernel
theorem ok_msea_putSkin : ai_okM msea_putSkin := ⟨kc_msea_putSkin, ⟨424, by decide +kernel⟩, by decide +kernel, rfl⟩
theorem kc_mf_skin : ai_okC mf_skin = true := by decide +kernel
theorem ok_mf_skin : ai_okM mf_skin := ⟨kc_mf_skin, ⟨420, by decide +kernel⟩, by decide +kernel, rfl⟩
theorem kc_mm_skinTo : ai_okC mm_skinTo = true := by decide +kernel
theorem ok_mm_skinTo : ai_okM mm_skinTo := ⟨kc_mm_skinTo, ⟨1078, by decide +kernel⟩, by decide +kernel, rfl⟩
theorem kc_mm_skin : ai_okC mm_skin = true := by decide +kernel
theorem ok_mm_skin : ai_okM mm_skin := ⟨kc_mm_skin, ⟨1074, by decide +kernel⟩, by decide +kernel, rfl⟩
theorem kc_mf_bad : ai_okC mf_bad = true := by decide +kernel
theorem ok_mf_bad : ai_okM mf_bad := ⟨kc_mf_bad, ⟨433, by decide +kernel⟩, by decide +kernel, rfl⟩
theorem kc_mf_tide : ai_okC mf_tide = true := by decide +kernel
theorem ok_mf_tide : ai_okM mf_tide := ⟨kc_mf_tide, ⟨428, by decide +kernel⟩, by decide +kernel, rfl⟩
theorem kc_mm_badAs : ai_okC mm_badAs = true := by decide +kernel
theorem ok_mm_badAs : ai_okM mm_badAs := ⟨kc_mm_badAs, ⟨1089, by decide +kernel⟩, by decide +kernel, rfl⟩
theorem kc_mm_tide : ai_okC mm_tide = true := by decide +kernel
theorem ok_mm_tide : ai_okM mm_tide := ⟨kc_mm_tide, ⟨1083, by decide +kernel⟩, by decide +kernel, rfl⟩
theorem kc_mf_current : ai_okC mf_current = true := by decide +kernel
theorem ok_mf_current : ai_okM mf_current := ⟨kc_mf_current, ⟨437, by decide +kernel⟩, by decide +kernel, rfl⟩
theorem kc_mm_current : ai_okC mm_current = true := by decide +kernel
theorem ok_mm_current : ai_okM mm_current := ⟨kc_mm_current, ⟨1093, by decide +kernel⟩, by decide +kernel, rfl⟩
theorem kc_mthg_add : ai_okC mthg_add = true := by decide +kernel
theorem ok_mthg_add : ai_okM mthg_add := ⟨kc_mthg_add, ⟨445, by decide +kernel⟩, by decide +kernel, rfl⟩
theorem kc_mf_thing : ai_okC mf_thing = true := by decide +kernel
theorem ok_mf_thing : ai_okM mf_thing := ⟨kc_mf_thing, ⟨441, by decide +kernel⟩, by decide +kernel, rfl⟩
theorem kc_mm_thingTo : ai_okC mm_thingTo = true := by decide +kernel
theorem ok_mm_thingTo : ai_okM mm_thingTo := ⟨kc_mm_thingTo, ⟨1102, by decide +kernel⟩, by decide +kernel, rfl⟩
theorem kc_mm_thing : ai_okC mm_thing = true := by decide +kernel
theorem ok_mm_thing : ai_okM mm_thing := ⟨kc_mm_thing, ⟨1098, by decide +kernel⟩, by decide +kernel, rfl⟩
theorem kc_mthg_has : ai_okC mthg_has = true := by decide +kernel
theorem ok_mthg_has : ai_okM mthg_has := ⟨kc_mthg_has, ⟨454, by decide +kernel⟩, by decide +kernel, rfl⟩
theorem kc_mf_ballast : ai_okC mf_ballast = true := by decide +kernel
theorem ok_mf_ballast : ai_okM mf_ballast := ⟨kc_mf_ballast, ⟨450, by decide +kernel⟩, by decide +kernel, rfl⟩
theorem kc_mm_isThing : ai_okC mm_isThing = true := by decide +kernel
theorem ok_mm_isThing : ai_okM mm_isThing := ⟨kc_mm_isThing, ⟨1110, by decide +kernel⟩, by decide +kernel, rfl⟩
theorem kc_mm_bad : ai_okC mm_bad = true := by decide +kernel
theorem ok_mm_bad : ai_okM mm_bad := ⟨kc_mm_bad, ⟨1114, by decide +kernel⟩, by decide +kernel, rfl⟩
end
section
theorem kc_mm_ballast : ai_okC mm_ballast = true := by decide +kernel
theorem ok_mm_ballast : ai_okM mm_ballast := ⟨kc_mm_ballast, ⟨1106, by decide +kernel⟩, by decide +kernel, rfl⟩
theorem kc_msea_hasPlace : ai_okC msea_hasPlace = true := by decide +kernel
theorem ok_msea_hasPlace : ai_okM msea_hasPlace := ⟨kc_msea_hasPlace, ⟨466, by decide +kernel⟩, by decide +kernel, rfl⟩
theorem kc_mlift_add : ai_okC mlift_add = true := by decide +kernel
theorem ok_mlift_add : ai_okM mlift_add := ⟨kc_mlift_add, ⟨470, by decide +kernel⟩, by decide +kernel, rfl⟩
theorem kc_msea_addLift : ai_okC msea_addLift = true := by decide +kernel
theorem ok_msea_addLift : ai_okM msea_addLift := ⟨kc_msea_addLift, ⟨462, by decide +kernel⟩, by decide +kernel, rfl⟩
theorem kc_mf_lift : ai_okC mf_lift = true := by decide +kernel
theorem ok_mf_lift : ai_okM mf_lift := ⟨kc_mf_lift, ⟨458, by decide +kernel⟩, by decide +kernel, rfl⟩
theorem kc_mm_isPlaceOf : ai_okC mm_isPlaceOf = true := by decide +kernel
theorem ok_mm_isPlaceOf : ai_okM mm_isPlaceOf := ⟨kc_mm_isPlaceOf, ⟨1126, by decide +kernel⟩, by decide +kernel, rfl⟩
theorem kc_mm_liftTo : ai_okC mm_liftTo = true := by decide +kernel
theorem ok_mm_liftTo : ai_okM mm_liftTo := ⟨kc_mm_liftTo, ⟨1122, by decide +kernel⟩, by decide +kernel, rfl⟩
theorem kc_mm_lift : ai_okC mm_lift = true := by decide +kernel
theorem ok_mm_lift : ai_okM mm_lift := ⟨kc_mm_lift, ⟨1118, by decide +kernel⟩, by decide +kernel, rfl⟩
theorem kc_msea_addTown : ai_okC msea_addTown = true := by decide +kernel
theorem ok_msea_addTown : ai_okM msea_addTown := ⟨kc_msea_addTown, ⟨478, by decide +kernel⟩, by decide +kernel, rfl⟩
theorem kc_mf_town : ai_okC mf_town = true := by decide +kernel
theorem ok_mf_town : ai_okM mf_town := ⟨kc_mf_town, ⟨474, by decide +kernel⟩, by decide +kernel, rfl⟩
theorem kc_mm_townTo : ai_okC mm_townTo = true := by decide +kernel
theorem ok_mm_townTo : ai_okM mm_townTo := ⟨kc_mm_townTo, ⟨1134, by decide +kernel⟩, by decide +kernel, rfl⟩
theorem kc_mm_town : ai_okC mm_town = true := by decide +kernel
theorem ok_mm_town : ai_okM mm_town := ⟨kc_mm_town, ⟨1130, by decide +kernel⟩, by decide +kernel, rfl⟩
theorem kc_msea_putDam : ai_okC msea_putDam = true := by decide +kernel
theorem ok_msea_putDam : ai_okM msea_putDam := ⟨kc_msea_putDam, ⟨486, by decide +kernel⟩, by decide +kernel, rfl⟩
theorem kc_mf_dam : ai_okC mf_dam = true := by decide +kernel
theorem ok_mf_dam : ai_okM mf_dam := ⟨kc_mf_dam, ⟨482, by decide +kernel⟩, by decide +kernel, rfl⟩
theorem kc_mm_has : ai_okC mm_has = true := by decide +kernel
theorem ok_mm_has : ai_okM mm_has := ⟨kc_mm_has, ⟨1145, by decide +kernel⟩, by decide +kernel, rfl⟩
theorem kc_mm_damTo : ai_okC mm_damTo = true := by decide +kernel
theorem ok_mm_damTo : ai_okM mm_damTo := ⟨kc_mm_damTo, ⟨1142, by decide +kernel⟩, by decide +kernel, rfl⟩
theorem kc_mm_dam : ai_okC mm_dam = true := by decide +kernel
theorem ok_mm_dam : ai_okM mm_dam := ⟨kc_mm_dam, ⟨1138, by decide +kernel⟩, by decide +kernel, rfl⟩
theorem kc_msea_addDrop : ai_okC msea_addDrop = true := by decide +kernel
theorem ok_msea_addDrop : ai_okM msea_addDrop := ⟨kc_msea_addDrop, ⟨494, by decide +kernel⟩, by decide +kernel, rfl⟩
theorem kc_mf_drop : ai_okC mf_drop = true := by decide +kernel
theorem ok_mf_drop : ai_okM mf_drop := ⟨kc_mf_drop, ⟨490, by decide +kernel⟩, by decide +kernel, rfl⟩
theorem kc_mm_drop : ai_okC mm_drop = true := by decide +kernel
theorem ok_mm_drop : ai_okM mm_drop := ⟨kc_mm_drop, ⟨1149, by decide +kernel⟩, by decide +kernel, rfl⟩
theorem kc_msea_empty : ai_okC msea_empty = true := by decide +kernel
theorem ok_msea_empty : ai_okM msea_empty := ⟨kc_msea_empty, ⟨502, by decide +kernel⟩, by decide +kernel, rfl⟩
theorem kc_mf_clean : ai_okC mf_clean = true := by decide +kernel
theorem ok_mf_clean : ai_okM mf_clean := ⟨kc_mf_clean, ⟨498, by decide +kernel⟩, by decide +kernel, rfl⟩
theorem kc_mm_clean : ai_okC mm_clean = true := by decide +kernel
theorem ok_mm_clean : ai_okM mm_clean := ⟨kc_mm_clean, ⟨1153, by decide +kernel⟩, by decide +kernel, rfl⟩
theorem kc_mtxt_add : ai_okC mtxt_add = true := by decide +kernel
theorem ok_mtxt_add : ai_okM mtxt_add := ⟨kc_mtxt_add, ⟨510, by decide +kernel⟩, by decide +kernel, rfl⟩
theorem kc_mf_type : ai_okC mf_type = true := by decide +kernel
theorem ok_mf_type : ai_okM mf_type := ⟨kc_mf_type, ⟨506, by decide +kernel⟩, by decide +kernel, rfl⟩
theorem kc_mm_type : ai_okC mm_type = true := by decide +kernel
theorem ok_mm_type : ai_okM mm_type := ⟨kc_mm_type, ⟨1157, by decide +kernel⟩, by decide +kernel, rfl⟩
theorem kc_mf_clear : ai_okC mf_clear = true := by decide +kernel
theorem ok_mf_clear : ai_okM mf_clear := ⟨kc_mf_clear, ⟨515, by decide +kernel⟩, by decide +kernel, rfl⟩
theorem kc_mm_clear : ai_okC mm_clear = true := by decide +kernel
theorem ok_mm_clear : ai_okM mm_clear := ⟨kc_mm_clear, ⟨1162, by decide +kernel⟩, by decide +kernel, rfl⟩
theorem kc_mtxt_skipBlanks : ai_okC mtxt_skipBlanks = true := by decide +kernel
theorem ok_mtxt_skipBlanks : ai_okM mtxt_skipBlanks := ⟨kc_mtxt_skipBlanks, ⟨527, by decide +kernel⟩, by decide +kernel, rfl⟩
theorem kc_mtxt_nameOf : ai_okC mtxt_nameOf = true := by decide +kernel
theorem ok_mtxt_nameOf : ai_okM mtxt_nameOf := ⟨kc_mtxt_nameOf, ⟨534, by decide +kernel⟩, by decide +kernel, rfl⟩
theorem kc_mtxt_isWord : ai_okC mtxt_isWord = true := by decide +kernel
theorem ok_mtxt_isWord : ai_okM mtxt_isWord := ⟨kc_mtxt_isWord, ⟨546, by decide +kernel⟩, by decide +kernel, rfl⟩
theorem kc_mtxt_takeWord : ai_okC mtxt_takeWord = true := by decide +kernel
theorem ok_mtxt_takeWord : ai_okM mtxt_takeWord := ⟨kc_mtxt_takeWord, ⟨531, by decide +kernel⟩, by decide +kernel, rfl⟩
theorem kc_mtxt_numbersBehind : ai_okC mtxt_numbersBehind = true := by decide +kernel
theorem ok_mtxt_numbersBehind : ai_okM mtxt_numbersBehind := ⟨kc_mtxt_numbersBehind, ⟨597, by decide +kernel⟩, by decide +kernel, rfl⟩
theorem kc_mtxt_isFigure : ai_okC mtxt_isFigure = true := by decide +kernel
theorem ok_mtxt_isFigure : ai_okM mtxt_isFigure := ⟨kc_mtxt_isFigure, ⟨605, by decide +kernel⟩, by decide +kernel, rfl⟩
theorem kc_mtxt_takeNumbers : ai_okC mtxt_takeNumbers = true := by decide +kernel
theorem ok_mtxt_takeNumbers : ai_okM mtxt_takeNumbers := ⟨kc_mtxt_takeNumbers, ⟨601, by decide +kernel⟩, by decide +kernel, rfl⟩
theorem kc_mtxt_tellItem : ai_okC mtxt_tellItem = true := by decide +kernel
theorem ok_mtxt_tellItem : ai_okM mtxt_tellItem := ⟨kc_mtxt_tellItem, ⟨609, by decide +kernel⟩, by decide +kernel, rfl⟩
theorem kc_mtxt_tell : ai_okC mtxt_tell = true := by decide +kernel
theorem ok_mtxt_tell : ai_okM mtxt_tell := ⟨kc_mtxt_tell, ⟨523, by decide +kernel⟩, by decide +kernel, rfl⟩
theorem kc_mthg_copyFrom : ai_okC mthg_copyFrom = true := by decide +kernel
theorem ok_mthg_copyFrom : ai_okM mthg_copyFrom := ⟨kc_mthg_copyFrom, ⟨625, by decide +kernel⟩, by decide +kernel, rfl⟩
theorem kc_mlift_copyFrom : ai_okC mlift_copyFrom = true := by decide +kernel
theorem ok_mlift_copyFrom : ai_okM mlift_copyFrom := ⟨kc_mlift_copyFrom, ⟨630, by decide +kernel⟩, by decide +kernel, rfl⟩
theorem kc_msea_copyFrom : ai_okC msea_copyFrom = true := by decide +kernel
theorem ok_msea_copyFrom : ai_okM msea_copyFrom := ⟨kc_msea_copyFrom, ⟨621, by decide +kernel⟩, by decide +kernel, rfl⟩
end
section
theorem kc_mf_read : ai_okC mf_read = true := by decide +kernel
theorem ok_mf_read : ai_okM mf_read := ⟨kc_mf_read, ⟨519, by decide +kernel⟩, by decide +kernel, rfl⟩
theorem kc_mm_byteAt : ai_okC mm_byteAt = true := by decide +kernel
theorem ok_mm_byteAt : ai_okM mm_byteAt := ⟨kc_mm_byteAt, ⟨1174, by decide +kernel⟩, by decide +kernel, rfl⟩
theorem kc_mm_token : ai_okC mm_token = true := by decide +kernel
theorem ok_mm_token : ai_okM mm_token := ⟨kc_mm_token, ⟨1170, by decide +kernel⟩, by decide +kernel, rfl⟩
theorem kc_mm_isNamed : ai_okC mm_isNamed = true := by decide +kernel
theorem ok_mm_isNamed : ai_okM mm_isNamed := ⟨kc_mm_isNamed, ⟨1190, by decide +kernel⟩, by decide +kernel, rfl⟩
theorem kc_mm_wordNow : ai_okC mm_wordNow = true := by decide +kernel
theorem ok_mm_wordNow : ai_okM mm_wordNow := ⟨kc_mm_wordNow, ⟨1186, by decide +kernel⟩, by decide +kernel, rfl⟩
theorem kc_mm_manyOf : ai_okC mm_manyOf = true := by decide +kernel
theorem ok_mm_manyOf : ai_okM mm_manyOf := ⟨kc_mm_manyOf, ⟨1193, by decide +kernel⟩, by decide +kernel, rfl⟩
theorem kc_mm_takesItem : ai_okC mm_takesItem = true := by decide +kernel
theorem ok_mm_takesItem : ai_okM mm_takesItem := ⟨kc_mm_takesItem, ⟨1182, by decide +kernel⟩, by decide +kernel, rfl⟩
theorem kc_mm_done : ai_okC mm_done = true := by decide +kernel
theorem ok_mm_done : ai_okM mm_done := ⟨kc_mm_done, ⟨1197, by decide +kernel⟩, by decide +kernel, rfl⟩
theorem kc_mm_copy : ai_okC mm_copy = true := by decide +kernel
theorem ok_mm_copy : ai_okM mm_copy := ⟨kc_mm_copy, ⟨1201, by decide +kernel⟩, by decide +kernel, rfl⟩
theorem kc_mm_read : ai_okC mm_read = true := by decide +kernel
theorem ok_mm_read : ai_okM mm_read := ⟨kc_mm_read, ⟨1166, by decide +kernel⟩, by decide +kernel, rfl⟩
theorem kc_msea_goOn : ai_okC msea_goOn = true := by decide +kernel
theorem ok_msea_goOn : ai_okM msea_goOn := ⟨kc_msea_goOn, ⟨640, by decide +kernel⟩, by decide +kernel, rfl⟩
theorem kc_mf_hours : ai_okC mf_hours = true := by decide +kernel
theorem ok_mf_hours : ai_okM mf_hours := ⟨kc_mf_hours, ⟨636, by decide +kernel⟩, by decide +kernel, rfl⟩
theorem kc_mm_hours : ai_okC mm_hours = true := by decide +kernel
theorem ok_mm_hours : ai_okM mm_hours := ⟨kc_mm_hours, ⟨1205, by decide +kernel⟩, by decide +kernel, rfl⟩
theorem kc_msea_goBack : ai_okC msea_goBack = true := by decide +kernel
theorem ok_msea_goBack : ai_okM msea_goBack := ⟨kc_msea_goBack, ⟨648, by decide +kernel⟩, by decide +kernel, rfl⟩
theorem kc_mf_undo : ai_okC mf_undo = true := by decide +kernel
theorem ok_mf_undo : ai_okM mf_undo := ⟨kc_mf_undo, ⟨644, by decide +kernel⟩, by decide +kernel, rfl⟩
theorem kc_mm_undo : ai_okC mm_undo = true := by decide +kernel
theorem ok_mm_undo : ai_okM mm_undo := ⟨kc_mm_undo, ⟨1209, by decide +kernel⟩, by decide +kernel, rfl⟩
theorem kc_mfall_weightOf : ai_okC mfall_weightOf = true := by decide +kernel
theorem ok_mfall_weightOf : ai_okM mfall_weightOf := ⟨kc_mfall_weightOf, ⟨667, by decide +kernel⟩, by decide +kernel, rfl⟩
theorem kc_mfall_roomOf : ai_okC mfall_roomOf = true := by decide +kernel
theorem ok_mfall_roomOf : ai_okM mfall_roomOf := ⟨kc_mfall_roomOf, ⟨673, by decide +kernel⟩, by decide +kernel, rfl⟩
theorem kc_mfall_forceOf : ai_okC mfall_forceOf = true := by decide +kernel
theorem ok_mfall_forceOf : ai_okM mfall_forceOf := ⟨kc_mfall_forceOf, ⟨676, by decide +kernel⟩, by decide +kernel, rfl⟩
theorem kc_mfall_shape : ai_okC mfall_shape = true := by decide +kernel
theorem ok_mfall_shape : ai_okM mfall_shape := ⟨kc_mfall_shape, ⟨664, by decide +kernel⟩, by decide +kernel, rfl⟩
theorem kc_mf_shapeWithBallast : ai_okC mf_shapeWithBallast = true := by decide +kernel
theorem ok_mf_shapeWithBallast : ai_okM mf_shapeWithBallast := ⟨kc_mf_shapeWithBallast, ⟨660, by decide +kernel⟩, by decide +kernel, rfl⟩
theorem kc_mf_shapeNow : ai_okC mf_shapeNow = true := by decide +kernel
theorem ok_mf_shapeNow : ai_okM mf_shapeNow := ⟨kc_mf_shapeNow, ⟨656, by decide +kernel⟩, by decide +kernel, rfl⟩
theorem kc_mf_of : ai_okC mf_of = true := by decide +kernel
theorem ok_mf_of : ai_okM mf_of := ⟨kc_mf_of, ⟨652, by decide +kernel⟩, by decide +kernel, rfl⟩
theorem kc_mm_lay : ai_okC mm_lay = true := by decide +kernel
theorem ok_mm_lay : ai_okM mm_lay := ⟨kc_mm_lay, ⟨1217, by decide +kernel⟩, by decide +kernel, rfl⟩
theorem kc_mm_lesser : ai_okC mm_lesser = true := by decide +kernel
theorem ok_mm_lesser : ai_okM mm_lesser := ⟨kc_mm_lesser, ⟨1224, by decide +kernel⟩, by decide +kernel, rfl⟩
theorem kc_mm_weighs : ai_okC mm_weighs = true := by decide +kernel
theorem ok_mm_weighs : ai_okM mm_weighs := ⟨kc_mm_weighs, ⟨1221, by decide +kernel⟩, by decide +kernel, rfl⟩
theorem kc_mm_room : ai_okC mm_room = true := by decide +kernel
theorem ok_mm_room : ai_okM mm_room := ⟨kc_mm_room, ⟨1228, by decide +kernel⟩, by decide +kernel, rfl⟩
theorem kc_mm_of : ai_okC mm_of = true := by decide +kernel
theorem ok_mm_of : ai_okM mm_of := ⟨kc_mm_of, ⟨1213, by decide +kernel⟩, by decide +kernel, rfl⟩
theorem kc_msea_thickAt : ai_okC msea_thickAt = true := by decide +kernel
theorem ok_msea_thickAt : ai_okM msea_thickAt := ⟨kc_msea_thickAt, ⟨685, by decide +kernel⟩, by decide +kernel, rfl⟩
theorem kc_mf_deep : ai_okC mf_deep = true := by decide +kernel
theorem ok_mf_deep : ai_okM mf_deep := ⟨kc_mf_deep, ⟨680, by decide +kernel⟩, by decide +kernel, rfl⟩
theorem kc_mm_isCell : ai_okC mm_isCell = true := by decide +kernel
theorem ok_mm_isCell : ai_okM mm_isCell := ⟨kc_mm_isCell, ⟨1236, by decide +kernel⟩, by decide +kernel, rfl⟩
theorem kc_mm_thickIn : ai_okC mm_thickIn = true := by decide +kernel
theorem ok_mm_thickIn : ai_okM mm_thickIn := ⟨kc_mm_thickIn, ⟨1240, by decide +kernel⟩, by decide +kernel, rfl⟩
theorem kc_mm_deep : ai_okC mm_deep = true := by decide +kernel
theorem ok_mm_deep : ai_okM mm_deep := ⟨kc_mm_deep, ⟨1232, by decide +kernel⟩, by decide +kernel, rfl⟩
theorem kc_mfall_forget : ai_okC mfall_forget = true := by decide +kernel
theorem ok_mfall_forget : ai_okM mfall_forget := ⟨kc_mfall_forget, ⟨704, by decide +kernel⟩, by decide +kernel, rfl⟩
theorem kc_mfall_getsThrough : ai_okC mfall_getsThrough = true := by decide +kernel
theorem ok_mfall_getsThrough : ai_okM mfall_getsThrough := ⟨kc_mfall_getsThrough, ⟨710, by decide +kernel⟩, by decide +kernel, rfl⟩
theorem kc_mfall_letGo : ai_okC mfall_letGo = true := by decide +kernel
theorem ok_mfall_letGo : ai_okM mfall_letGo := ⟨kc_mfall_letGo, ⟨700, by decide +kernel⟩, by decide +kernel, rfl⟩
end
section
theorem kc_mf_letGoNow : ai_okC mf_letGoNow = true := by decide +kernel
theorem ok_mf_letGoNow : ai_okM mf_letGoNow := ⟨kc_mf_letGoNow, ⟨696, by decide +kernel⟩, by decide +kernel, rfl⟩
theorem kc_mf_rests : ai_okC mf_rests = true := by decide +kernel
theorem ok_mf_rests : ai_okM mf_rests := ⟨kc_mf_rests, ⟨692, by decide +kernel⟩, by decide +kernel, rfl⟩
theorem kc_mm_breaks : ai_okC mm_breaks = true := by decide +kernel
theorem ok_mm_breaks : ai_okM mm_breaks := ⟨kc_mm_breaks, ⟨1252, by decide +kernel⟩, by decide +kernel, rfl⟩
theorem kc_mm_comesDown : ai_okC mm_comesDown = true := by decide +kernel
theorem ok_mm_comesDown : ai_okM mm_comesDown := ⟨kc_mm_comesDown, ⟨1248, by decide +kernel⟩, by decide +kernel, rfl⟩
theorem kc_mm_rests : ai_okC mm_rests = true := by decide +kernel
theorem ok_mm_rests : ai_okM mm_rests := ⟨kc_mm_rests, ⟨1244, by decide +kernel⟩, by decide +kernel, rfl⟩
theorem kc_mf_takesBallast : ai_okC mf_takesBallast = true := by decide +kernel
theorem ok_mf_takesBallast : ai_okM mf_takesBallast := ⟨kc_mf_takesBallast, ⟨718, by decide +kernel⟩, by decide +kernel, rfl⟩
theorem kc_mf_letGoWithBallast : ai_okC mf_letGoWithBallast = true := by decide +kernel
theorem ok_mf_letGoWithBallast : ai_okM mf_letGoWithBallast := ⟨kc_mf_letGoWithBallast, ⟨726, by decide +kernel⟩, by decide +kernel, rfl⟩
theorem kc_mf_leastBallast : ai_okC mf_leastBallast = true := by decide +kernel
theorem ok_mf_leastBallast : ai_okM mf_leastBallast := ⟨kc_mf_leastBallast, ⟨722, by decide +kernel⟩, by decide +kernel, rfl⟩
theorem kc_mf_sink : ai_okC mf_sink = true := by decide +kernel
theorem ok_mf_sink : ai_okM mf_sink := ⟨kc_mf_sink, ⟨714, by decide +kernel⟩, by decide +kernel, rfl⟩
theorem kc_mm_isLoaded : ai_okC mm_isLoaded = true := by decide +kernel
theorem ok_mm_isLoaded : ai_okM mm_isLoaded := ⟨kc_mm_isLoaded, ⟨1260, by decide +kernel⟩, by decide +kernel, rfl⟩
theorem kc_mm_leastFor : ai_okC mm_leastFor = true := by decide +kernel
theorem ok_mm_leastFor : ai_okM mm_leastFor := ⟨kc_mm_leastFor, ⟨1265, by decide +kernel⟩, by decide +kernel, rfl⟩
theorem kc_mm_sink : ai_okC mm_sink = true := by decide +kernel
theorem ok_mm_sink : ai_okM mm_sink := ⟨kc_mm_sink, ⟨1256, by decide +kernel⟩, by decide +kernel, rfl⟩
theorem kc_mf_holds : ai_okC mf_holds = true := by decide +kernel
theorem ok_mf_holds : ai_okM mf_holds := ⟨kc_mf_holds, ⟨730, by decide +kernel⟩, by decide +kernel, rfl⟩
theorem kc_mm_holds : ai_okC mm_holds = true := by decide +kernel
theorem ok_mm_holds : ai_okM mm_holds := ⟨kc_mm_holds, ⟨1269, by decide +kernel⟩, by decide +kernel, rfl⟩
theorem kc_mf_bestHour : ai_okC mf_bestHour = true := by decide +kernel
theorem ok_mf_bestHour : ai_okM mf_bestHour := ⟨kc_mf_bestHour, ⟨734, by decide +kernel⟩, by decide +kernel, rfl⟩
theorem kc_mm_bestHour : ai_okC mm_bestHour = true := by decide +kernel
theorem ok_mm_bestHour : ai_okM mm_bestHour := ⟨kc_mm_bestHour, ⟨1273, by decide +kernel⟩, by decide +kernel, rfl⟩
theorem kc_mway_numberOf : ai_okC mway_numberOf = true := by decide +kernel
theorem ok_mway_numberOf : ai_okM mway_numberOf := ⟨kc_mway_numberOf, ⟨748, by decide +kernel⟩, by decide +kernel, rfl⟩
theorem kc_mway_join : ai_okC mway_join = true := by decide +kernel
theorem ok_mway_join : ai_okM mway_join := ⟨kc_mway_join, ⟨756, by decide +kernel⟩, by decide +kernel, rfl⟩
theorem kc_mway_goByLifts : ai_okC mway_goByLifts = true := by decide +kernel
theorem ok_mway_goByLifts : ai_okM mway_goByLifts := ⟨kc_mway_goByLifts, ⟨752, by decide +kernel⟩, by decide +kernel, rfl⟩
theorem kc_mway_goBeside : ai_okC mway_goBeside = true := by decide +kernel
theorem ok_mway_goBeside : ai_okM mway_goBeside := ⟨kc_mway_goBeside, ⟨761, by decide +kernel⟩, by decide +kernel, rfl⟩
theorem kc_mway_soonestWay : ai_okC mway_soonestWay = true := by decide +kernel
theorem ok_mway_soonestWay : ai_okM mway_soonestWay := ⟨kc_mway_soonestWay, ⟨743, by decide +kernel⟩, by decide +kernel, rfl⟩
theorem kc_mf_soonest : ai_okC mf_soonest = true := by decide +kernel
theorem ok_mf_soonest : ai_okM mf_soonest := ⟨kc_mf_soonest, ⟨738, by decide +kernel⟩, by decide +kernel, rfl⟩
theorem kc_mm_comesTo : ai_okC mm_comesTo = true := by decide +kernel
theorem ok_mm_comesTo : ai_okM mm_comesTo := ⟨kc_mm_comesTo, ⟨1282, by decide +kernel⟩, by decide +kernel, rfl⟩
theorem kc_mm_isThick : ai_okC mm_isThick = true := by decide +kernel
theorem ok_mm_isThick : ai_okM mm_isThick := ⟨kc_mm_isThick, ⟨1286, by decide +kernel⟩, by decide +kernel, rfl⟩
theorem kc_mm_soonest : ai_okC mm_soonest = true := by decide +kernel
theorem ok_mm_soonest : ai_okM mm_soonest := ⟨kc_mm_soonest, ⟨1278, by decide +kernel⟩, by decide +kernel, rfl⟩
theorem kc_msea_ceilingOf : ai_okC msea_ceilingOf = true := by decide +kernel
theorem ok_msea_ceilingOf : ai_okM msea_ceilingOf := ⟨kc_msea_ceilingOf, ⟨770, by decide +kernel⟩, by decide +kernel, rfl⟩
theorem kc_msea_duesOf : ai_okC msea_duesOf = true := by decide +kernel
theorem ok_msea_duesOf : ai_okM msea_duesOf := ⟨kc_msea_duesOf, ⟨774, by decide +kernel⟩, by decide +kernel, rfl⟩
theorem kc_mf_net : ai_okC mf_net = true := by decide +kernel
theorem ok_mf_net : ai_okM mf_net := ⟨kc_mf_net, ⟨766, by decide +kernel⟩, by decide +kernel, rfl⟩
theorem kc_mm_ceilingOf : ai_okC mm_ceilingOf = true := by decide +kernel
theorem ok_mm_ceilingOf : ai_okM mm_ceilingOf := ⟨kc_mm_ceilingOf, ⟨1294, by decide +kernel⟩, by decide +kernel, rfl⟩
theorem kc_mm_duesOf : ai_okC mm_duesOf = true := by decide +kernel
theorem ok_mm_duesOf : ai_okM mm_duesOf := ⟨kc_mm_duesOf, ⟨1298, by decide +kernel⟩, by decide +kernel, rfl⟩
theorem kc_mm_net : ai_okC mm_net = true := by decide +kernel
theorem ok_mm_net : ai_okM mm_net := ⟨kc_mm_net, ⟨1290, by decide +kernel⟩, by decide +kernel, rfl⟩
end
section
theorem kc_mf_isSpill : ai_okC mf_isSpill = true := by decide +kernel
theorem ok_mf_isSpill : ai_okM mf_isSpill := ⟨kc_mf_isSpill, ⟨783, by decide +kernel⟩, by decide +kernel, rfl⟩
theorem kc_mspr_start : ai_okC mspr_start = true := by decide +kernel
theorem ok_mspr_start : ai_okM mspr_start := ⟨kc_mspr_start, ⟨787, by decide +kernel⟩, by decide +kernel, rfl⟩
theorem kc_mspr_goOn : ai_okC mspr_goOn = true := by decide +kernel
theorem ok_mspr_goOn : ai_okM mspr_goOn := ⟨kc_mspr_goOn, ⟨792, by decide +kernel⟩, by decide +kernel, rfl⟩
theorem kc_mf_spill : ai_okC mf_spill = true := by decide +kernel
theorem ok_mf_spill : ai_okM mf_spill := ⟨kc_mf_spill, ⟨779, by decide +kernel⟩, by decide +kernel, rfl⟩
theorem kc_mm_laySpill : ai_okC mm_laySpill = true := by decide +kernel
theorem ok_mm_laySpill : ai_okM mm_laySpill := ⟨kc_mm_laySpill, ⟨1308, by decide +kernel⟩, by decide +kernel, rfl⟩
theorem kc_mm_spills : ai_okC mm_spills = true := by decide +kernel
theorem ok_mm_spills : ai_okM mm_spills := ⟨kc_mm_spills, ⟨1312, by decide +kernel⟩, by decide +kernel, rfl⟩
theorem kc_mm_spill : ai_okC mm_spill = true := by decide +kernel
theorem ok_mm_spill : ai_okM mm_spill := ⟨kc_mm_spill, ⟨1302, by decide +kernel⟩, by decide +kernel, rfl⟩
theorem kc_mint_bitCount : ai_okC mint_bitCount = true := by decide +kernel
theorem ok_mint_bitCount : ai_okM mint_bitCount := ⟨kc_mint_bitCount, ⟨799, by decide +kernel⟩, by decide +kernel, rfl⟩
theorem kc_mspr_isIn : ai_okC mspr_isIn = true := by decide +kernel
theorem ok_mspr_isIn : ai_okM mspr_isIn := ⟨kc_mspr_isIn, ⟨810, by decide +kernel⟩, by decide +kernel, rfl⟩
theorem kc_mf_keepsOut : ai_okC mf_keepsOut = true := by decide +kernel
theorem ok_mf_keepsOut : ai_okM mf_keepsOut := ⟨kc_mf_keepsOut, ⟨806, by decide +kernel⟩, by decide +kernel, rfl⟩
theorem kc_mf_keepOut : ai_okC mf_keepOut = true := by decide +kernel
theorem ok_mf_keepOut : ai_okM mf_keepOut := ⟨kc_mf_keepOut, ⟨796, by decide +kernel⟩, by decide +kernel, rfl⟩
theorem kc_mm_ones : ai_okC mm_ones = true := by decide +kernel
theorem ok_mm_ones : ai_okM mm_ones := ⟨kc_mm_ones, ⟨1319, by decide +kernel⟩, by decide +kernel, rfl⟩
theorem kc_mm_keepsOut : ai_okC mm_keepsOut = true := by decide +kernel
theorem ok_mm_keepsOut : ai_okM mm_keepsOut := ⟨kc_mm_keepsOut, ⟨1323, by decide +kernel⟩, by decide +kernel, rfl⟩
theorem kc_mm_keepOut : ai_okC mm_keepOut = true := by decide +kernel
theorem ok_mm_keepOut : ai_okM mm_keepOut := ⟨kc_mm_keepOut, ⟨1316, by decide +kernel⟩, by decide +kernel, rfl⟩
theorem kc_msea_allThick : ai_okC msea_allThick = true := by decide +kernel
theorem ok_msea_allThick : ai_okM msea_allThick := ⟨kc_msea_allThick, ⟨818, by decide +kernel⟩, by decide +kernel, rfl⟩
theorem kc_mf_shaken : ai_okC mf_shaken = true := by decide +kernel
theorem ok_mf_shaken : ai_okM mf_shaken := ⟨kc_mf_shaken, ⟨814, by decide +kernel⟩, by decide +kernel, rfl⟩
theorem kc_mm_shaken : ai_okC mm_shaken = true := by decide +kernel
theorem ok_mm_shaken : ai_okM mm_shaken := ⟨kc_mm_shaken, ⟨1327, by decide +kernel⟩, by decide +kernel, rfl⟩
theorem kc_mf_lies : ai_okC mf_lies = true := by decide +kernel
theorem ok_mf_lies : ai_okM mf_lies := ⟨kc_mf_lies, ⟨822, by decide +kernel⟩, by decide +kernel, rfl⟩
theorem kc_mm_lies : ai_okC mm_lies = true := by decide +kernel
theorem ok_mm_lies : ai_okM mm_lies := ⟨kc_mm_lies, ⟨1331, by decide +kernel⟩, by decide +kernel, rfl⟩
theorem kc_mfall_driftFrom : ai_okC mfall_driftFrom = true := by decide +kernel
theorem ok_mfall_driftFrom : ai_okM mfall_driftFrom := ⟨kc_mfall_driftFrom, ⟨830, by decide +kernel⟩, by decide +kernel, rfl⟩
theorem kc_mf_wentIn : ai_okC mf_wentIn = true := by decide +kernel
theorem ok_mf_wentIn : ai_okM mf_wentIn := ⟨kc_mf_wentIn, ⟨826, by decide +kernel⟩, by decide +kernel, rfl⟩
theorem kc_mm_driftsTo : ai_okC mm_driftsTo = true := by decide +kernel
theorem ok_mm_driftsTo : ai_okM mm_driftsTo := ⟨kc_mm_driftsTo, ⟨1339, by decide +kernel⟩, by decide +kernel, rfl⟩
theorem kc_mm_wentIn : ai_okC mm_wentIn = true := by decide +kernel
theorem ok_mm_wentIn : ai_okM mm_wentIn := ⟨kc_mm_wentIn, ⟨1335, by decide +kernel⟩, by decide +kernel, rfl⟩
theorem kc_mf_areFish : ai_okC mf_areFish = true := by decide +kernel
theorem ok_mf_areFish : ai_okM mf_areFish := ⟨kc_mf_areFish, ⟨839, by decide +kernel⟩, by decide +kernel, rfl⟩
theorem kc_mf_fillDowns : ai_okC mf_fillDowns = true := by decide +kernel
theorem ok_mf_fillDowns : ai_okM mf_fillDowns := ⟨kc_mf_fillDowns, ⟨843, by decide +kernel⟩, by decide +kernel, rfl⟩
theorem kc_mf_caught : ai_okC mf_caught = true := by decide +kernel
theorem ok_mf_caught : ai_okM mf_caught := ⟨kc_mf_caught, ⟨847, by decide +kernel⟩, by decide +kernel, rfl⟩
end
section
theorem kc_mf_nets : ai_okC mf_nets = true := by decide +kernel
theorem ok_mf_nets : ai_okM mf_nets := ⟨kc_mf_nets, ⟨835, by decide +kernel⟩, by decide +kernel, rfl⟩
theorem kc_mm_nets : ai_okC mm_nets = true := by decide +kernel
theorem ok_mm_nets : ai_okM mm_nets := ⟨kc_mm_nets, ⟨1343, by decide +kernel⟩, by decide +kernel, rfl⟩
theorem kc_msea_sweetInAll : ai_okC msea_sweetInAll = true := by decide +kernel
theorem ok_msea_sweetInAll : ai_okM msea_sweetInAll := ⟨kc_msea_sweetInAll, ⟨855, by decide +kernel⟩, by decide +kernel, rfl⟩
theorem kc_mf_tapped : ai_okC mf_tapped = true := by decide +kernel
theorem ok_mf_tapped : ai_okM mf_tapped := ⟨kc_mf_tapped, ⟨861, by decide +kernel⟩, by decide +kernel, rfl⟩
theorem kc_mf_isBestTap : ai_okC mf_isBestTap = true := by decide +kernel
theorem ok_mf_isBestTap : ai_okM mf_isBestTap := ⟨kc_mf_isBestTap, ⟨858, by decide +kernel⟩, by decide +kernel, rfl⟩
theorem kc_mf_tap : ai_okC mf_tap = true := by decide +kernel
theorem ok_mf_tap : ai_okM mf_tap := ⟨kc_mf_tap, ⟨851, by decide +kernel⟩, by decide +kernel, rfl⟩
theorem kc_mm_tapped : ai_okC mm_tapped = true := by decide +kernel
theorem ok_mm_tapped : ai_okM mm_tapped := ⟨kc_mm_tapped, ⟨1351, by decide +kernel⟩, by decide +kernel, rfl⟩
theorem kc_mm_tap : ai_okC mm_tap = true := by decide +kernel
theorem ok_mm_tap : ai_okM mm_tap := ⟨kc_mm_tap, ⟨1347, by decide +kernel⟩, by decide +kernel, rfl⟩
theorem kc_msea_fitsDrops : ai_okC msea_fitsDrops = true := by decide +kernel
theorem ok_msea_fitsDrops : ai_okM msea_fitsDrops := ⟨kc_msea_fitsDrops, ⟨870, by decide +kernel⟩, by decide +kernel, rfl⟩
theorem kc_mf_nextToTry : ai_okC mf_nextToTry = true := by decide +kernel
theorem ok_mf_nextToTry : ai_okM mf_nextToTry := ⟨kc_mf_nextToTry, ⟨874, by decide +kernel⟩, by decide +kernel, rfl⟩
theorem kc_mf_known : ai_okC mf_known = true := by decide +kernel
theorem ok_mf_known : ai_okM mf_known := ⟨kc_mf_known, ⟨866, by decide +kernel⟩, by decide +kernel, rfl⟩
theorem kc_mm_fits : ai_okC mm_fits = true := by decide +kernel
theorem ok_mm_fits : ai_okM mm_fits := ⟨kc_mm_fits, ⟨1359, by decide +kernel⟩, by decide +kernel, rfl⟩
theorem kc_mm_known : ai_okC mm_known = true := by decide +kernel
theorem ok_mm_known : ai_okM mm_known := ⟨kc_mm_known, ⟨1355, by decide +kernel⟩, by decide +kernel, rfl⟩
theorem kc_mf_chanceOf : ai_okC mf_chanceOf = true := by decide +kernel
theorem ok_mf_chanceOf : ai_okM mf_chanceOf := ⟨kc_mf_chanceOf, ⟨882, by decide +kernel⟩, by decide +kernel, rfl⟩
theorem kc_mf_putFraction : ai_okC mf_putFraction = true := by decide +kernel
theorem ok_mf_putFraction : ai_okM mf_putFraction := ⟨kc_mf_putFraction, ⟨886, by decide +kernel⟩, by decide +kernel, rfl⟩
theorem kc_mf_storm : ai_okC mf_storm = true := by decide +kernel
theorem ok_mf_storm : ai_okM mf_storm := ⟨kc_mf_storm, ⟨878, by decide +kernel⟩, by decide +kernel, rfl⟩
theorem kc_mm_tells : ai_okC mm_tells = true := by decide +kernel
theorem ok_mm_tells : ai_okM mm_tells := ⟨kc_mm_tells, ⟨1368, by decide +kernel⟩, by decide +kernel, rfl⟩
theorem kc_mm_storm : ai_okC mm_storm = true := by decide +kernel
theorem ok_mm_storm : ai_okM mm_storm := ⟨kc_mm_storm, ⟨1363, by decide +kernel⟩, by decide +kernel, rfl⟩
theorem kc_mf_part : ai_okC mf_part = true := by decide +kernel
theorem ok_mf_part : ai_okM mf_part := ⟨kc_mf_part, ⟨890, by decide +kernel⟩, by decide +kernel, rfl⟩
theorem kc_mm_part : ai_okC mm_part = true := by decide +kernel
theorem ok_mm_part : ai_okM mm_part := ⟨kc_mm_part, ⟨1372, by decide +kernel⟩, by decide +kernel, rfl⟩
theorem kc_mf_imageAt : ai_okC mf_imageAt = true := by decide +kernel
theorem ok_mf_imageAt : ai_okM mf_imageAt := ⟨kc_mf_imageAt, ⟨898, by decide +kernel⟩, by decide +kernel, rfl⟩
theorem kc_mf_image : ai_okC mf_image = true := by decide +kernel
theorem ok_mf_image : ai_okM mf_image := ⟨kc_mf_image, ⟨894, by decide +kernel⟩, by decide +kernel, rfl⟩
theorem kc_mm_image : ai_okC mm_image = true := by decide +kernel
theorem ok_mm_image : ai_okM mm_image := ⟨kc_mm_image, ⟨1376, by decide +kernel⟩, by decide +kernel, rfl⟩
theorem kc_mf_from : ai_okC mf_from = true := by decide +kernel
theorem ok_mf_from : ai_okM mf_from := ⟨kc_mf_from, ⟨902, by decide +kernel⟩, by decide +kernel, rfl⟩
theorem kc_mm_from : ai_okC mm_from = true := by decide +kernel
theorem ok_mm_from : ai_okM mm_from := ⟨kc_mm_from, ⟨1380, by decide +kernel⟩, by decide +kernel, rfl⟩
theorem kc_mf_status : ai_okC mf_status = true := by decide +kernel
theorem ok_mf_status : ai_okM mf_status := ⟨kc_mf_status, ⟨906, by decide +kernel⟩, by decide +kernel, rfl⟩
end
section
theorem kc_mm_status : ai_okC mm_status = true := by decide +kernel
theorem ok_mm_status : ai_okM mm_status := ⟨kc_mm_status, ⟨1384, by decide +kernel⟩, by decide +kernel, rfl⟩
theorem kc_msea_countOf : ai_okC msea_countOf = true := by decide +kernel
theorem ok_msea_countOf : ai_okM msea_countOf := ⟨kc_msea_countOf, ⟨914, by decide +kernel⟩, by decide +kernel, rfl⟩
theorem kc_mf_count : ai_okC mf_count = true := by decide +kernel
theorem ok_mf_count : ai_okM mf_count := ⟨kc_mf_count, ⟨910, by decide +kernel⟩, by decide +kernel, rfl⟩
theorem kc_mm_countOf : ai_okC mm_countOf = true := by decide +kernel
theorem ok_mm_countOf : ai_okM mm_countOf := ⟨kc_mm_countOf, ⟨1393, by decide +kernel⟩, by decide +kernel, rfl⟩
theorem kc_mm_count : ai_okC mm_count = true := by decide +kernel
theorem ok_mm_count : ai_okM mm_count := ⟨kc_mm_count, ⟨1388, by decide +kernel⟩, by decide +kernel, rfl⟩
theorem kc_msea_digestWaters : ai_okC msea_digestWaters = true := by decide +kernel
theorem ok_msea_digestWaters : ai_okM msea_digestWaters := ⟨kc_msea_digestWaters, ⟨924, by decide +kernel⟩, by decide +kernel, rfl⟩
theorem kc_msea_digestRows : ai_okC msea_digestRows = true := by decide +kernel
theorem ok_msea_digestRows : ai_okM msea_digestRows := ⟨kc_msea_digestRows, ⟨929, by decide +kernel⟩, by decide +kernel, rfl⟩
theorem kc_mf_digest : ai_okC mf_digest = true := by decide +kernel
theorem ok_mf_digest : ai_okM mf_digest := ⟨kc_mf_digest, ⟨918, by decide +kernel⟩, by decide +kernel, rfl⟩
theorem kc_mm_mix : ai_okC mm_mix = true := by decide +kernel
theorem ok_mm_mix : ai_okM mm_mix := ⟨kc_mm_mix, ⟨1402, by decide +kernel⟩, by decide +kernel, rfl⟩
theorem kc_mm_mixSea : ai_okC mm_mixSea = true := by decide +kernel
theorem ok_mm_mixSea : ai_okM mm_mixSea := ⟨kc_mm_mixSea, ⟨1407, by decide +kernel⟩, by decide +kernel, rfl⟩
theorem kc_mm_digest : ai_okC mm_digest = true := by decide +kernel
theorem ok_mm_digest : ai_okM mm_digest := ⟨kc_mm_digest, ⟨1397, by decide +kernel⟩, by decide +kernel, rfl⟩
end
section
theorem kc_mlaw_0 : mlaw_0.all (ai_okI code) = true := by decide +kernel
theorem kc_mlaw_1 : mlaw_1.all (ai_okI code) = true := by decide +kernel
theorem kc_mlaw_2 : mlaw_2.all (ai_okI code) = true := by decide +kernel
theorem kc_mlaw_3 : mlaw_3.all (ai_okI code) = true := by decide +kernel
end
section
theorem kc_mlaw_4 : mlaw_4.all (ai_okI code) = true := by decide +kernel
theorem kc_mlaw_5 : mlaw_5.all (ai_okI code) = true := by decide +kernel
theorem kc_mlaw_6 : mlaw_6.all (ai_okI code) = true := by decide +kernel
theorem kc_mlaw_7 : mlaw_7.all (ai_okI code) = true := by decide +kernel
end
section
theorem kc_mlaw_8 : mlaw_8.all (ai_okI code) = true := by decide +kernel
theorem kc_mlaw_9 : mlaw_9.all (ai_okI code) = true := by decide +kernel
theorem kc_mlaw_10 : mlaw_10.all (ai_okI code) = true := by decide +kernel
theorem kc_mlaw_11 : mlaw_11.all (ai_okI code) = true := by decide +kernel
end
section
theorem kc_mlaw_12 : mlaw_12.all (ai_okI code) = true := by decide +kernel
theorem kc_mlaw_13 : mlaw_13.all (ai_okI code) = true := by decide +kernel
theorem kc_mlaw_14 : mlaw_14.all (ai_okI code) = true := by decide +kernel
theorem kc_mlaw_15 : mlaw_15.all (ai_okI code) = true := by decide +kernel
end
section
theorem kc_mlaw_16 : mlaw_16.all (ai_okI code) = true := by decide +kernel
theorem kc_mlaw_17 : mlaw_17.all (ai_okI code) = true := by decide +kernel
theorem kc_mlaw_18 : mlaw_18.all (ai_okI code) = true := by decide +kernel
theorem ai_allA {α : Type} {f : α → Bool} {a b : List α} (h1 : a.all f = true) (h2 : b.all f = true) : (a ++ b).all f = true := by rw [List.all_append, h1, h2]; rfl
theorem kc_mlaw : ai_okC mlaw = true := ai_allA kc_mlaw_0 (ai_allA kc_mlaw_1 (ai_allA kc_mlaw_2 (ai_allA kc_mlaw_3 (ai_allA kc_mlaw_4 (ai_allA kc_mlaw_5 (ai_allA kc_mlaw_6 (ai_allA kc_mlaw_7 (ai_allA kc_mlaw_8 (ai_allA kc_mlaw_9 (ai_allA kc_mlaw_10 (ai_allA kc_mlaw_11 (ai_allA kc_mlaw_12 (ai_allA kc_mlaw_13 (ai_allA kc_mlaw_14 (ai_allA kc_mlaw_15 (ai_allA kc_mlaw_16 (ai_allA kc_mlaw_17 (kc_mlaw_18))))))))))))))))))
end
section
theorem ai_caO0 : ∀ q ∈ ai_caT 0, ai_okM q.2.2.2.1 := List.forall_mem_cons.mpr ⟨ok_mfall_weightOf, List.forall_mem_cons.mpr ⟨ok_mfall_roomOf, List.forall_mem_cons.mpr ⟨ok_mfall_forceOf, List.forall_mem_cons.mpr ⟨ok_mfall_forget, List.forall_mem_cons.mpr ⟨ok_msea_thickAt, List.forall_mem_cons.mpr ⟨ok_mfall_getsThrough, List.forall_mem_cons.mpr ⟨ok_marr_fill, List.forall_mem_nil _⟩⟩⟩⟩⟩⟩⟩
theorem ai_caO2 : ∀ q ∈ ai_caT 2, ai_okM q.2.2.2.1 := List.forall_mem_cons.mpr ⟨ok_mthg_init, List.forall_mem_cons.mpr ⟨ok_mlift_init, List.forall_mem_cons.mpr ⟨ok_msea_startAnew, List.forall_mem_cons.mpr ⟨ok_mf_within, List.forall_mem_cons.mpr ⟨ok_marr_fill, List.forall_mem_cons.mpr ⟨ok_mthg_copyFrom, List.forall_mem_cons.mpr ⟨ok_mlift_copyFrom, List.forall_mem_cons.mpr ⟨ok_msea_hasCell, List.forall_mem_cons.mpr ⟨ok_mf_isLayer, List.forall_mem_cons.mpr ⟨ok_msea_hasPlace, List.forall_mem_cons.mpr ⟨ok_mlift_add, List.forall_mem_cons.mpr ⟨ok_msea_thickAt, List.forall_mem_nil _⟩⟩⟩⟩⟩⟩⟩⟩⟩⟩⟩⟩
theorem ai_caO3 : ∀ q ∈ ai_caT 3, ai_okM q.2.2.2.1 := List.forall_mem_cons.mpr ⟨ok_marr_fill, List.forall_mem_nil _⟩
theorem ai_caO4 : ∀ q ∈ ai_caT 4, ai_okM q.2.2.2.1 := List.forall_mem_cons.mpr ⟨ok_mf_within, List.forall_mem_cons.mpr ⟨ok_mtxt_skipBlanks, List.forall_mem_cons.mpr ⟨ok_mtxt_takeWord, List.forall_mem_cons.mpr ⟨ok_mtxt_numbersBehind, List.forall_mem_cons.mpr ⟨ok_mtxt_takeNumbers, List.forall_mem_cons.mpr ⟨ok_mtxt_tellItem, List.forall_mem_cons.mpr ⟨ok_mtxt_nameOf, List.forall_mem_cons.mpr ⟨ok_mtxt_isWord, List.forall_mem_cons.mpr ⟨ok_mtxt_isFigure, List.forall_mem_cons.mpr ⟨ok_msea_startAnew, List.forall_mem_cons.mpr ⟨ok_msea_putDensity, List.forall_mem_cons.mpr ⟨ok_msea_putThick, List.forall_mem_cons.mpr ⟨ok_msea_putSkin, List.forall_mem_cons.mpr ⟨ok_mthg_add, List.forall_mem_cons.mpr ⟨ok_msea_addLift, List.forall_mem_cons.mpr ⟨ok_msea_addTown, List.forall_mem_cons.mpr ⟨ok_msea_putDam, List.forall_mem_nil _⟩⟩⟩⟩⟩⟩⟩⟩⟩⟩⟩⟩⟩⟩⟩⟩⟩
theorem ai_caO5 : ∀ q ∈ ai_caT 5, ai_okM q.2.2.2.1 := List.forall_mem_cons.mpr ⟨ok_mf_within, List.forall_mem_nil _⟩
theorem ai_caO6 : ∀ q ∈ ai_caT 6, ai_okM q.2.2.2.1 := List.forall_mem_cons.mpr ⟨ok_marr_fill, List.forall_mem_cons.mpr ⟨ok_mway_numberOf, List.forall_mem_cons.mpr ⟨ok_mway_goByLifts, List.forall_mem_cons.mpr ⟨ok_mway_goBeside, List.forall_mem_cons.mpr ⟨ok_mway_join, List.forall_mem_cons.mpr ⟨ok_msea_thickAt, List.forall_mem_nil _⟩⟩⟩⟩⟩⟩
theorem ai_caO7 : ∀ q ∈ ai_caT 7, ai_okM q.2.2.2.1 := List.forall_mem_cons.mpr ⟨ok_msea_init, List.forall_mem_cons.mpr ⟨ok_mtxt_init, List.forall_mem_cons.mpr ⟨ok_mfall_init, List.forall_mem_cons.mpr ⟨ok_mspr_init, List.forall_mem_cons.mpr ⟨ok_mway_init, List.forall_mem_cons.mpr ⟨ok_msea_startAnew, List.forall_mem_cons.mpr ⟨ok_mf_counted, List.forall_mem_cons.mpr ⟨ok_msea_putDensity, List.forall_mem_cons.mpr ⟨ok_msea_putThick, List.forall_mem_cons.mpr ⟨ok_msea_putSkin, List.forall_mem_cons.mpr ⟨ok_mf_isLayer, List.forall_mem_cons.mpr ⟨ok_mf_within, List.forall_mem_cons.mpr ⟨ok_mf_bad, List.forall_mem_cons.mpr ⟨ok_mthg_add, List.forall_mem_cons.mpr ⟨ok_mthg_has, List.forall_mem_cons.mpr ⟨ok_msea_addLift, List.forall_mem_cons.mpr ⟨ok_msea_addTown, List.forall_mem_cons.mpr ⟨ok_msea_putDam, List.forall_mem_cons.mpr ⟨ok_msea_addDrop, List.forall_mem_cons.mpr ⟨ok_msea_empty, List.forall_mem_cons.mpr ⟨ok_mtxt_add, List.forall_mem_cons.mpr ⟨ok_mtxt_tell, List.forall_mem_cons.mpr ⟨ok_msea_copyFrom, List.forall_mem_cons.mpr ⟨ok_msea_goOn, List.forall_mem_cons.mpr ⟨ok_msea_goBack, List.forall_mem_cons.mpr ⟨ok_mf_shapeNow, List.forall_mem_cons.mpr ⟨ok_msea_hasCell, List.forall_mem_cons.mpr ⟨ok_msea_thickAt, List.forall_mem_cons.mpr ⟨ok_mf_letGoNow, List.forall_mem_cons.mpr ⟨ok_mf_takesBallast, List.forall_mem_cons.mpr ⟨ok_mf_leastBallast, List.forall_mem_cons.mpr ⟨ok_mf_letGoWithBallast, List.forall_mem_cons.mpr ⟨ok_msea_hasPlace, List.forall_mem_cons.mpr ⟨ok_mway_soonestWay, List.forall_mem_cons.mpr ⟨ok_msea_ceilingOf, List.forall_mem_cons.mpr ⟨ok_msea_duesOf, List.forall_mem_cons.mpr ⟨ok_mf_isSpill, List.forall_mem_cons.mpr ⟨ok_mspr_start, List.forall_mem_cons.mpr ⟨ok_mspr_goOn, List.forall_mem_cons.mpr ⟨ok_mint_bitCount, List.forall_mem_cons.mpr ⟨ok_mf_keepsOut, List.forall_mem_cons.mpr ⟨ok_msea_allThick, List.forall_mem_cons.mpr ⟨ok_mfall_shape, List.forall_mem_cons.mpr ⟨ok_mfall_letGo, List.forall_mem_cons.mpr ⟨ok_mfall_driftFrom, List.forall_mem_cons.mpr ⟨ok_mf_areFish, List.forall_mem_cons.mpr ⟨ok_mf_fillDowns, List.forall_mem_cons.mpr ⟨ok_mf_caught, List.forall_mem_cons.mpr ⟨ok_msea_sweetInAll, List.forall_mem_cons.mpr ⟨ok_mf_isBestTap, List.forall_mem_cons.mpr ⟨ok_msea_fitsDrops, List.forall_mem_cons.mpr ⟨ok_mf_nextToTry, List.forall_mem_cons.mpr ⟨ok_mf_chanceOf, List.forall_mem_cons.mpr ⟨ok_mf_putFraction, List.forall_mem_cons.mpr ⟨ok_mf_imageAt, List.forall_mem_cons.mpr ⟨ok_msea_countOf, List.forall_mem_cons.mpr ⟨ok_msea_digestWaters, List.forall_mem_cons.mpr ⟨ok_msea_digestRows, List.forall_mem_cons.mpr ⟨ok_mf_shapeWithBallast, List.forall_mem_cons.mpr ⟨ok_mspr_isIn, List.forall_mem_cons.mpr ⟨ok_mf_tapped, List.forall_mem_nil _⟩⟩⟩⟩⟩⟩⟩⟩⟩⟩⟩⟩⟩⟩⟩⟩⟩⟩⟩⟩⟩⟩⟩⟩⟩⟩⟩⟩⟩⟩⟩⟩⟩⟩⟩⟩⟩⟩⟩⟩⟩⟩⟩⟩⟩⟩⟩⟩⟩⟩⟩⟩⟩⟩⟩⟩⟩⟩⟩⟩⟩
theorem ai_caO8 : ∀ q ∈ ai_caT 8, ai_okM q.2.2.2.1 := List.forall_mem_cons.mpr ⟨ok_mm_begins, List.forall_mem_cons.mpr ⟨ok_mm_met, List.forall_mem_cons.mpr ⟨ok_mm_in, List.forall_mem_cons.mpr ⟨ok_mm_isCellOf, List.forall_mem_cons.mpr ⟨ok_mm_isLayer, List.forall_mem_cons.mpr ⟨ok_mm_becomes, List.forall_mem_cons.mpr ⟨ok_mm_isPlaceOf, List.forall_mem_cons.mpr ⟨ok_mm_has, List.forall_mem_cons.mpr ⟨ok_mm_seaTo, List.forall_mem_cons.mpr ⟨ok_mm_waterTo, List.forall_mem_cons.mpr ⟨ok_mm_thickTo, List.forall_mem_cons.mpr ⟨ok_mm_skinTo, List.forall_mem_cons.mpr ⟨ok_mm_badAs, List.forall_mem_cons.mpr ⟨ok_mm_thingTo, List.forall_mem_cons.mpr ⟨ok_mm_isThing, List.forall_mem_cons.mpr ⟨ok_mm_bad, List.forall_mem_cons.mpr ⟨ok_mm_liftTo, List.forall_mem_cons.mpr ⟨ok_mm_townTo, List.forall_mem_cons.mpr ⟨ok_mm_damTo, List.forall_mem_cons.mpr ⟨ok_mm_byteAt, List.forall_mem_cons.mpr ⟨ok_mm_isNamed, List.forall_mem_cons.mpr ⟨ok_mm_wordNow, List.forall_mem_cons.mpr ⟨ok_mm_manyOf, List.forall_mem_cons.mpr ⟨ok_mm_token, List.forall_mem_cons.mpr ⟨ok_mm_takesItem, List.forall_mem_cons.mpr ⟨ok_mm_done, List.forall_mem_cons.mpr ⟨ok_mm_copy, List.forall_mem_cons.mpr ⟨ok_mm_lesser, List.forall_mem_cons.mpr ⟨ok_mm_weighs, List.forall_mem_cons.mpr ⟨ok_mm_thickIn, List.forall_mem_cons.mpr ⟨ok_mm_breaks, List.forall_mem_cons.mpr ⟨ok_mm_room, List.forall_mem_cons.mpr ⟨ok_mm_lay, List.forall_mem_cons.mpr ⟨ok_mm_isCell, List.forall_mem_cons.mpr ⟨ok_mm_comesDown, List.forall_mem_cons.mpr ⟨ok_mm_isLoaded, List.forall_mem_cons.mpr ⟨ok_mm_leastFor, List.forall_mem_cons.mpr ⟨ok_mm_comesTo, List.forall_mem_cons.mpr ⟨ok_mm_isThick, List.forall_mem_cons.mpr ⟨ok_mm_ceilingOf, List.forall_mem_cons.mpr ⟨ok_mm_duesOf, List.forall_mem_cons.mpr ⟨ok_mm_laySpill, List.forall_mem_cons.mpr ⟨ok_mm_spills, List.forall_mem_cons.mpr ⟨ok_mm_ones, List.forall_mem_cons.mpr ⟨ok_mm_keepsOut, List.forall_mem_cons.mpr ⟨ok_mm_driftsTo, List.forall_mem_cons.mpr ⟨ok_mm_tapped, List.forall_mem_cons.mpr ⟨ok_mm_fits, List.forall_mem_cons.mpr ⟨ok_mm_tells, List.forall_mem_cons.mpr ⟨ok_mm_countOf, List.forall_mem_cons.mpr ⟨ok_mm_mix, List.forall_mem_cons.mpr ⟨ok_mm_mixSea, List.forall_mem_nil _⟩⟩⟩⟩⟩⟩⟩⟩⟩⟩⟩⟩⟩⟩⟩⟩⟩⟩⟩⟩⟩⟩⟩⟩⟩⟩⟩⟩⟩⟩⟩⟩⟩⟩⟩⟩⟩⟩⟩⟩⟩⟩⟩⟩⟩⟩⟩⟩⟩⟩⟩⟩
theorem ai_caO9 : ∀ q ∈ ai_caT 9, ai_okM q.2.2.2.1 := List.forall_mem_cons.mpr ⟨ok_mf_init, List.forall_mem_cons.mpr ⟨ok_mm_init, List.forall_mem_cons.mpr ⟨ok_mf_sea, List.forall_mem_cons.mpr ⟨ok_mm_sea, List.forall_mem_cons.mpr ⟨ok_mf_water, List.forall_mem_cons.mpr ⟨ok_mm_water, List.forall_mem_cons.mpr ⟨ok_mf_thick, List.forall_mem_cons.mpr ⟨ok_mm_thick, List.forall_mem_cons.mpr ⟨ok_mf_skin, List.forall_mem_cons.mpr ⟨ok_mm_skin, List.forall_mem_cons.mpr ⟨ok_mf_tide, List.forall_mem_cons.mpr ⟨ok_mm_tide, List.forall_mem_cons.mpr ⟨ok_mf_current, List.forall_mem_cons.mpr ⟨ok_mm_current, List.forall_mem_cons.mpr ⟨ok_mf_thing, List.forall_mem_cons.mpr ⟨ok_mm_thing, List.forall_mem_cons.mpr ⟨ok_mf_ballast, List.forall_mem_cons.mpr ⟨ok_mm_ballast, List.forall_mem_cons.mpr ⟨ok_mf_lift, List.forall_mem_cons.mpr ⟨ok_mm_lift, List.forall_mem_cons.mpr ⟨ok_mf_town, List.forall_mem_cons.mpr ⟨ok_mm_town, List.forall_mem_cons.mpr ⟨ok_mf_dam, List.forall_mem_cons.mpr ⟨ok_mm_dam, List.forall_mem_cons.mpr ⟨ok_mf_drop, List.forall_mem_cons.mpr ⟨ok_mm_drop, List.forall_mem_cons.mpr ⟨ok_mf_clean, List.forall_mem_cons.mpr ⟨ok_mm_clean, List.forall_mem_cons.mpr ⟨ok_mf_type, List.forall_mem_cons.mpr ⟨ok_mm_type, List.forall_mem_cons.mpr ⟨ok_mf_clear, List.forall_mem_cons.mpr ⟨ok_mm_clear, List.forall_mem_cons.mpr ⟨ok_mf_read, List.forall_mem_cons.mpr ⟨ok_mm_read, List.forall_mem_cons.mpr ⟨ok_mf_hours, List.forall_mem_cons.mpr ⟨ok_mm_hours, List.forall_mem_cons.mpr ⟨ok_mf_undo, List.forall_mem_cons.mpr ⟨ok_mm_undo, List.forall_mem_cons.mpr ⟨ok_mf_of, List.forall_mem_cons.mpr ⟨ok_mm_of, List.forall_mem_cons.mpr ⟨ok_mf_deep, List.forall_mem_cons.mpr ⟨ok_mm_deep, List.forall_mem_cons.mpr ⟨ok_mf_rests, List.forall_mem_cons.mpr ⟨ok_mm_rests, List.forall_mem_cons.mpr ⟨ok_mf_sink, List.forall_mem_cons.mpr ⟨ok_mm_sink, List.forall_mem_cons.mpr ⟨ok_mf_holds, List.forall_mem_cons.mpr ⟨ok_mm_holds, List.forall_mem_cons.mpr ⟨ok_mf_bestHour, List.forall_mem_cons.mpr ⟨ok_mm_bestHour, List.forall_mem_cons.mpr ⟨ok_mf_soonest, List.forall_mem_cons.mpr ⟨ok_mm_soonest, List.forall_mem_cons.mpr ⟨ok_mf_net, List.forall_mem_cons.mpr ⟨ok_mm_net, List.forall_mem_cons.mpr ⟨ok_mf_spill, List.forall_mem_cons.mpr ⟨ok_mm_spill, List.forall_mem_cons.mpr ⟨ok_mf_keepOut, List.forall_mem_cons.mpr ⟨ok_mm_keepOut, List.forall_mem_cons.mpr ⟨ok_mf_shaken, List.forall_mem_cons.mpr ⟨ok_mm_shaken, List.forall_mem_cons.mpr ⟨ok_mf_lies, List.forall_mem_cons.mpr ⟨ok_mm_lies, List.forall_mem_cons.mpr ⟨ok_mf_wentIn, List.forall_mem_cons.mpr ⟨ok_mm_wentIn, List.forall_mem_cons.mpr ⟨ok_mf_nets, List.forall_mem_cons.mpr ⟨ok_mm_nets, List.forall_mem_cons.mpr ⟨ok_mf_tap, List.forall_mem_cons.mpr ⟨ok_mm_tap, List.forall_mem_cons.mpr ⟨ok_mf_known, List.forall_mem_cons.mpr ⟨ok_mm_known, List.forall_mem_cons.mpr ⟨ok_mf_storm, List.forall_mem_cons.mpr ⟨ok_mm_storm, List.forall_mem_cons.mpr ⟨ok_mf_part, List.forall_mem_cons.mpr ⟨ok_mm_part, List.forall_mem_cons.mpr ⟨ok_mf_image, List.forall_mem_cons.mpr ⟨ok_mm_image, List.forall_mem_cons.mpr ⟨ok_mf_from, List.forall_mem_cons.mpr ⟨ok_mm_from, List.forall_mem_cons.mpr ⟨ok_mf_status, List.forall_mem_cons.mpr ⟨ok_mm_status, List.forall_mem_cons.mpr ⟨ok_mf_count, List.forall_mem_cons.mpr ⟨ok_mm_count, List.forall_mem_cons.mpr ⟨ok_mf_digest, List.forall_mem_cons.mpr ⟨ok_mm_digest, List.forall_mem_nil _⟩⟩⟩⟩⟩⟩⟩⟩⟩⟩⟩⟩⟩⟩⟩⟩⟩⟩⟩⟩⟩⟩⟩⟩⟩⟩⟩⟩⟩⟩⟩⟩⟩⟩⟩⟩⟩⟩⟩⟩⟩⟩⟩⟩⟩⟩⟩⟩⟩⟩⟩⟩⟩⟩⟩⟩⟩⟩⟩⟩⟩⟩⟩⟩⟩⟩⟩⟩⟩⟩⟩⟩⟩⟩⟩⟩⟩⟩⟩⟩⟩⟩⟩⟩
theorem ai_caOK : ∀ c, ∀ q ∈ ai_caT c, ai_okM q.2.2.2.1
  | 0 => ai_caO0
  | 1 => fun q h => by cases h
  | 2 => ai_caO2
  | 3 => ai_caO3
  | 4 => ai_caO4
  | 5 => ai_caO5
  | 6 => ai_caO6
  | 7 => ai_caO7
  | 8 => ai_caO8
  | 9 => ai_caO9
  | 10 => fun q h => by cases h
  | 11 => fun q h => by cases h
  | 12 => fun q h => by cases h
  | _ + 13 => fun q h => by cases h
end
section
/-! what the interpreter comes to, rows for walking it -/
def ai_sub (X X' : List (List Int32)) : Prop := ∀ (k : Nat) (o : List Int32), ai_nth X k = some o → ai_nth X' k = some o
theorem ai_step_sub {X X' : List (List Int32)} (hX : ai_sub X X') {M : ai_M} {i : Instr} {pc : Nat} {L : ai_L} {st : List Value} {h : ai_H} {cs sl : Nat} {q : ai_S} (hs : ai_step X M i pc L st h cs sl = some q) : ai_step X' M i pc L st h cs sl = some q := by
  cases i with
  | iaload =>
    simp only [ai_step] at hs ⊢
    split at hs
    · exact hs
    · rename_i j a r
      split at hs
      · rename_i o ho
        rw [hX a o ho]
        exact hs
      · cases hs
    · cases hs
  | arraylength =>
    simp only [ai_step] at hs ⊢
    split at hs
    · exact hs
    · rename_i a r
      split at hs
      · rename_i o ho
        rw [hX a o ho]
        exact hs
      · cases hs
    · cases hs
  | _ => exact hs
theorem ai_nat_sub {X X' : List (List Int32)} (hX : ai_sub X X') {M : ai_M} {kb w : Nat} {st : List Value} {h : ai_H} {cs sl : Nat} {q : List Value × ai_H} (hs : ai_nat X M kb w st h cs sl = some q) : ai_nat X' M kb w st h cs sl = some q := by
  unfold ai_nat at hs ⊢
  split at hs
  · cases hs
  · rename_i hg
    try rw [hg]
    try simp only
    split at hs
    · exact hs
    · split at hs
      · split at hs
        · rename_i hq
          try simp only [hq]
          split at hs
          · rename_i o ho
            try simp only [ho]
            split at hs
            · rename_i hz
              try simp only [hz]
              split at hs
              · exact hs
              · rename_i b
                split at hs
                · rename_i f hf
                  try simp only [hX b f hf]
                  exact hs
                · cases hs
              · cases hs
            · cases hs
          · cases hs
        · cases hs
      · cases hs
    · exact hs
    · exact hs
    · cases hs
theorem ai_run_sub {X X' : List (List Int32)} (hX : ai_sub X X') : ∀ (n : Nat) (M : ai_M) (pc : Nat) (L : ai_L) (st : List Value) (h : ai_H) (cs sl : Nat) (q : Option Value × ai_H), ai_run X n M pc L st h cs sl = some q → ai_run X' n M pc L st h cs sl = some q := by
  intro n
  induction n with
  | zero => intro M pc L st h cs sl q hr; simp [ai_run] at hr
  | succ n ih =>
    intro M pc L st h cs sl q hr
    rw [ai_run] at hr ⊢
    split at hr
    · cases hr
    · rename_i i hi
      try simp only [hi]
      split at hr
      · rename_i hci
        try simp only [hci]
        split at hr
        · rename_i hk
          try simp only [hk]
          exact hr
        · rename_i hk
          try simp only [hk]
          split at hr
          · cases hr
          · rename_i z hz
            try simp only [ai_step_sub hX hz]
            exact ih _ _ _ _ _ _ _ _ hr
      · rename_i k hci
        try simp only [hci]
        split at hr
        · rename_i w hw
          try simp only [hw]
          split at hr
          · cases hr
          · rename_i z hz
            try simp only [ai_nat_sub hX hz]
            exact ih _ _ _ _ _ _ _ _ hr
        · rename_i hw
          try simp only [hw]
          split at hr
          · cases hr
          · rename_i w hw2
            try simp only [hw2]
            split at hr
            · cases hr
            · rename_i z hz
              try simp only [hz]
              split at hr
              · cases hr
              · rename_i y hy
                try simp only [ih _ _ _ _ _ _ _ _ hy]
                exact ih _ _ _ _ _ _ _ _ hr
theorem ai_run_more {X : List (List Int32)} : ∀ (n : Nat) (M : ai_M) (pc : Nat) (L : ai_L) (st : List Value) (h : ai_H) (cs sl : Nat) (q : Option Value × ai_H), ai_run X n M pc L st h cs sl = some q → ai_run X (n + 1) M pc L st h cs sl = some q := by
  intro n
  induction n with
  | zero => intro M pc L st h cs sl q hr; simp [ai_run] at hr
  | succ n ih =>
    intro M pc L st h cs sl q hr
    rw [ai_run] at hr ⊢
    split at hr
    · cases hr
    · rename_i i hi
      try simp only [hi]
      split at hr
      · rename_i hci
        try simp only [hci]
        split at hr
        · rename_i hk
          try simp only [hk]
          exact hr
        · rename_i hk
          try simp only [hk]
          split at hr
          · cases hr
          · rename_i z hz
            try simp only [hz]
            exact ih _ _ _ _ _ _ _ _ hr
      · rename_i k hci
        try simp only [hci]
        split at hr
        · rename_i w hw
          try simp only [hw]
          split at hr
          · cases hr
          · rename_i z hz
            try simp only [hz]
            exact ih _ _ _ _ _ _ _ _ hr
        · rename_i hw
          try simp only [hw]
          split at hr
          · cases hr
          · rename_i w hw2
            try simp only [hw2]
            split at hr
            · cases hr
            · rename_i z hz
              try simp only [hz]
              split at hr
              · cases hr
              · rename_i y hy
                try simp only [ih _ _ _ _ _ _ _ _ hy]
                exact ih _ _ _ _ _ _ _ _ hr
theorem ai_run_le {X : List (List Int32)} {n k : Nat} (hk : n ≤ k) {M : ai_M} {pc : Nat} {L : ai_L} {st : List Value} {h : ai_H} {cs sl : Nat} {q : Option Value × ai_H} (hr : ai_run X n M pc L st h cs sl = some q) : ai_run X k M pc L st h cs sl = some q := by
  induction hk with
  | refl => exact hr
  | step _ ih => exact ai_run_more _ _ _ _ _ _ _ _ _ ih
/-- the run from here comes to q -/
def ai_ev (X : List (List Int32)) (M : ai_M) (pc : Nat) (L : ai_L) (st : List Value) (h : ai_H) (cs sl : Nat) (q : Option Value × ai_H) : Prop := ∃ n, ai_run X n M pc L st h cs sl = some q
/-- k instructions that are no calls of methods and no ends -/
def ai_go (X : List (List Int32)) (M : ai_M) : Nat → Nat → ai_L → List Value → ai_H → Nat → Nat → Option ai_S
  | 0, pc, L, st, h, cs, sl => some (pc, L, st, h, cs, sl)
  | k + 1, pc, L, st, h, cs, sl => match ai_fd (ai_cd M) pc with
    | none => none
    | some i => match ai_ci i with
      | none => match ai_rk i with
        | true => none
        | false => match ai_step X M i pc L st h cs sl with
          | none => none
          | some (pc', L', st', h', cs', sl') => ai_go X M k pc' L' st' h' cs' sl'
      | some w => match ai_by (ai_naT (ai_cl M)) w.2 with
        | none => none
        | some z => match ai_nat X M w.1 z.1 st h cs sl with
          | none => none
          | some (st', h') => ai_go X M k (pc + 3) L st' h' cs sl
section EV
variable {X : List (List Int32)} {M : ai_M} {pc t : Nat} {L : ai_L} {st r : List Value} {h : ai_H} {cs sl : Nat} {q : Option Value × ai_H}
theorem ev_go (k : Nat) {pc' : Nat} {L' : ai_L} {st' : List Value} {h' : ai_H} {cs' sl' : Nat} (hg : ai_go X M k pc L st h cs sl = some (pc', L', st', h', cs', sl')) (e : ai_ev X M pc' L' st' h' cs' sl' q) : ai_ev X M pc L st h cs sl q := by
  induction k generalizing pc L st h cs sl with
  | zero =>
    simp only [ai_go, Option.some.injEq, Prod.mk.injEq] at hg
    obtain ⟨rfl, rfl, rfl, rfl, rfl, rfl⟩ := hg
    exact e
  | succ k ih =>
    rw [ai_go] at hg
    split at hg
    · cases hg
    · rename_i i hi
      split at hg
      · rename_i hci
        split at hg
        · cases hg
        · rename_i hk
          split at hg
          · cases hg
          · rename_i p1 L1 s1 h1 c1 l1 hs
            obtain ⟨n, hn⟩ := ih hg
            refine ⟨n + 1, ?_⟩
            rw [ai_run]
            simp only [hi, hci, hk, hs]
            exact hn
      · rename_i w hci
        split at hg
        · cases hg
        · rename_i z hz
          split at hg
          · cases hg
          · rename_i s1 h1 hs
            obtain ⟨n, hn⟩ := ih hg
            refine ⟨n + 1, ?_⟩
            rw [ai_run]
            simp only [hi, hci, hz, hs]
            exact hn
theorem ev_end (he : (match ai_fd (ai_cd M) pc with | none => none | some i => (match ai_ci i with | none => (match ai_rk i with | true => ai_ret M i st h cs sl | false => none) | some _ => none)) = some q) : ai_ev X M pc L st h cs sl q := by
  refine ⟨1, ?_⟩
  rw [ai_run]
  split at he
  · cases he
  · rename_i i hi
    simp only [hi]
    split at he
    · rename_i hci
      simp only [hci]
      split at he
      · rename_i hk
        simp only [hk]
        exact he
      · cases he
    · cases he
/-- the callee, its first locals, what stays on the stack -/
def ai_pre (M : ai_M) (pc : Nat) (st : List Value) (h : ai_H) (cs sl : Nat) : Option (ai_M × ai_L × List Value) := match ai_fd (ai_cd M) pc with
  | none => none
  | some i => match ai_ci i with
    | none => none
    | some k => match ai_by (ai_naT (ai_cl M)) k.2 with
      | some _ => none
      | none => match ai_by (ai_caT (ai_cl M)) k.2 with
        | none => none
        | some w => match ai_arg M k.1 w.1 w.2.1 w.2.2.1 st h cs sl with
          | none => none
          | some z => some (w.2.2.1, ai_pad (ai_mL w.2.2.1) (ai_en z.1), z.2)
theorem ev_call {M' : ai_M} {L' : ai_L} {rest : List Value} {rv : Option Value} {h' : ai_H} (hp : ai_pre M pc st h cs sl = some (M', L', rest)) (e1 : ai_ev X M' 0 L' [] h 0 0 (rv, h')) (e2 : ai_ev X M (pc + 3) L (rv.toList ++ rest) h' (cs + (ai_rm M').cells) (sl + (ai_rm M').slots) q) : ai_ev X M pc L st h cs sl q := by
  obtain ⟨n1, h1⟩ := e1
  obtain ⟨n2, h2⟩ := e2
  refine ⟨max n1 n2 + 1, ?_⟩
  rw [ai_run]
  unfold ai_pre at hp
  split at hp
  · cases hp
  · rename_i i hi
    simp only [hi]
    split at hp
    · cases hp
    · rename_i k hk
      simp only [hk]
      split at hp
      · cases hp
      · rename_i hn
        simp only [hn]
        split at hp
        · cases hp
        · rename_i w hw
          simp only [hw]
          split at hp
          · cases hp
          · rename_i z hz
            simp only [hz]
            simp only [Option.some.injEq, Prod.mk.injEq] at hp
            obtain ⟨rfl, rfl, rfl⟩ := hp
            simp only [ai_run_le (Nat.le_max_left n1 n2) h1]
            exact ai_run_le (Nat.le_max_right n1 n2) h2
theorem ev_step {i : Instr} (hi : ai_fd (ai_cd M) pc = some i) (hci : ai_ci i = none) (hk : ai_rk i = false) {pc' : Nat} {L' : ai_L} {st' : List Value} {h' : ai_H} {cs' sl' : Nat} (hs : ai_step X M i pc L st h cs sl = some (pc', L', st', h', cs', sl')) (e : ai_ev X M pc' L' st' h' cs' sl' q) : ai_ev X M pc L st h cs sl q := by
  obtain ⟨n, hn⟩ := e
  refine ⟨n + 1, ?_⟩
  rw [ai_run]
  simp only [hi, hci, hk, hs]
  exact hn
theorem ev_ic_eq {off : Int} {x y : Int32} (hi : ai_fd (ai_cd M) pc = some (.if_icmp .eq off)) (ht : ai_jp pc off = some t) (a : x = y → ai_ev X M t L r h cs sl q) (b : ¬ x = y → ai_ev X M (pc + 3) L r h cs sl q) : ai_ev X M pc L (.int y :: .int x :: r) h cs sl q := by
  by_cases hc : x = y
  · exact ev_step hi rfl rfl (by simp only [ai_step, ht, ai_br]; exact if_pos hc) (a hc)
  · exact ev_step hi rfl rfl (by simp only [ai_step, ht, ai_br]; exact if_neg hc) (b hc)
theorem ev_if_eq {off : Int} {x : Int32} (hi : ai_fd (ai_cd M) pc = some (.ifCond .eq off)) (ht : ai_jp pc off = some t) (a : x = 0 → ai_ev X M t L r h cs sl q) (b : ¬ x = 0 → ai_ev X M (pc + 3) L r h cs sl q) : ai_ev X M pc L (.int x :: r) h cs sl q := by
  by_cases hc : x = 0
  · exact ev_step hi rfl rfl (by simp only [ai_step, ht, ai_br]; exact if_pos hc) (a hc)
  · exact ev_step hi rfl rfl (by simp only [ai_step, ht, ai_br]; exact if_neg hc) (b hc)
theorem ev_ic_ne {off : Int} {x y : Int32} (hi : ai_fd (ai_cd M) pc = some (.if_icmp .ne off)) (ht : ai_jp pc off = some t) (a : ¬ x = y → ai_ev X M t L r h cs sl q) (b : x = y → ai_ev X M (pc + 3) L r h cs sl q) : ai_ev X M pc L (.int y :: .int x :: r) h cs sl q := by
  by_cases hc : ¬ x = y
  · exact ev_step hi rfl rfl (by simp only [ai_step, ht, ai_br]; exact if_neg hc) (a hc)
  · exact ev_step hi rfl rfl (by simp only [ai_step, ht, ai_br]; exact if_pos (Classical.not_not.mp hc)) (b (Classical.not_not.mp hc))
theorem ev_if_ne {off : Int} {x : Int32} (hi : ai_fd (ai_cd M) pc = some (.ifCond .ne off)) (ht : ai_jp pc off = some t) (a : ¬ x = 0 → ai_ev X M t L r h cs sl q) (b : x = 0 → ai_ev X M (pc + 3) L r h cs sl q) : ai_ev X M pc L (.int x :: r) h cs sl q := by
  by_cases hc : ¬ x = 0
  · exact ev_step hi rfl rfl (by simp only [ai_step, ht, ai_br]; exact if_neg hc) (a hc)
  · exact ev_step hi rfl rfl (by simp only [ai_step, ht, ai_br]; exact if_pos (Classical.not_not.mp hc)) (b (Classical.not_not.mp hc))
theorem ev_ic_lt {off : Int} {x y : Int32} (hi : ai_fd (ai_cd M) pc = some (.if_icmp .lt off)) (ht : ai_jp pc off = some t) (a : x < y → ai_ev X M t L r h cs sl q) (b : ¬ x < y → ai_ev X M (pc + 3) L r h cs sl q) : ai_ev X M pc L (.int y :: .int x :: r) h cs sl q := by
  by_cases hc : x < y
  · exact ev_step hi rfl rfl (by simp only [ai_step, ht, ai_br]; exact if_pos hc) (a hc)
  · exact ev_step hi rfl rfl (by simp only [ai_step, ht, ai_br]; exact if_neg hc) (b hc)
theorem ev_if_lt {off : Int} {x : Int32} (hi : ai_fd (ai_cd M) pc = some (.ifCond .lt off)) (ht : ai_jp pc off = some t) (a : x < 0 → ai_ev X M t L r h cs sl q) (b : ¬ x < 0 → ai_ev X M (pc + 3) L r h cs sl q) : ai_ev X M pc L (.int x :: r) h cs sl q := by
  by_cases hc : x < 0
  · exact ev_step hi rfl rfl (by simp only [ai_step, ht, ai_br]; exact if_pos hc) (a hc)
  · exact ev_step hi rfl rfl (by simp only [ai_step, ht, ai_br]; exact if_neg hc) (b hc)
theorem ev_ic_ge {off : Int} {x y : Int32} (hi : ai_fd (ai_cd M) pc = some (.if_icmp .ge off)) (ht : ai_jp pc off = some t) (a : y ≤ x → ai_ev X M t L r h cs sl q) (b : ¬ y ≤ x → ai_ev X M (pc + 3) L r h cs sl q) : ai_ev X M pc L (.int y :: .int x :: r) h cs sl q := by
  by_cases hc : y ≤ x
  · exact ev_step hi rfl rfl (by simp only [ai_step, ht, ai_br]; exact if_pos hc) (a hc)
  · exact ev_step hi rfl rfl (by simp only [ai_step, ht, ai_br]; exact if_neg hc) (b hc)
theorem ev_if_ge {off : Int} {x : Int32} (hi : ai_fd (ai_cd M) pc = some (.ifCond .ge off)) (ht : ai_jp pc off = some t) (a : 0 ≤ x → ai_ev X M t L r h cs sl q) (b : ¬ 0 ≤ x → ai_ev X M (pc + 3) L r h cs sl q) : ai_ev X M pc L (.int x :: r) h cs sl q := by
  by_cases hc : 0 ≤ x
  · exact ev_step hi rfl rfl (by simp only [ai_step, ht, ai_br]; exact if_pos hc) (a hc)
  · exact ev_step hi rfl rfl (by simp only [ai_step, ht, ai_br]; exact if_neg hc) (b hc)
theorem ev_ic_gt {off : Int} {x y : Int32} (hi : ai_fd (ai_cd M) pc = some (.if_icmp .gt off)) (ht : ai_jp pc off = some t) (a : y < x → ai_ev X M t L r h cs sl q) (b : ¬ y < x → ai_ev X M (pc + 3) L r h cs sl q) : ai_ev X M pc L (.int y :: .int x :: r) h cs sl q := by
  by_cases hc : y < x
  · exact ev_step hi rfl rfl (by simp only [ai_step, ht, ai_br]; exact if_pos hc) (a hc)
  · exact ev_step hi rfl rfl (by simp only [ai_step, ht, ai_br]; exact if_neg hc) (b hc)
theorem ev_if_gt {off : Int} {x : Int32} (hi : ai_fd (ai_cd M) pc = some (.ifCond .gt off)) (ht : ai_jp pc off = some t) (a : 0 < x → ai_ev X M t L r h cs sl q) (b : ¬ 0 < x → ai_ev X M (pc + 3) L r h cs sl q) : ai_ev X M pc L (.int x :: r) h cs sl q := by
  by_cases hc : 0 < x
  · exact ev_step hi rfl rfl (by simp only [ai_step, ht, ai_br]; exact if_pos hc) (a hc)
  · exact ev_step hi rfl rfl (by simp only [ai_step, ht, ai_br]; exact if_neg hc) (b hc)
theorem ev_ic_le {off : Int} {x y : Int32} (hi : ai_fd (ai_cd M) pc = some (.if_icmp .le off)) (ht : ai_jp pc off = some t) (a : x ≤ y → ai_ev X M t L r h cs sl q) (b : ¬ x ≤ y → ai_ev X M (pc + 3) L r h cs sl q) : ai_ev X M pc L (.int y :: .int x :: r) h cs sl q := by
  by_cases hc : x ≤ y
  · exact ev_step hi rfl rfl (by simp only [ai_step, ht, ai_br]; exact if_pos hc) (a hc)
  · exact ev_step hi rfl rfl (by simp only [ai_step, ht, ai_br]; exact if_neg hc) (b hc)
theorem ev_if_le {off : Int} {x : Int32} (hi : ai_fd (ai_cd M) pc = some (.ifCond .le off)) (ht : ai_jp pc off = some t) (a : x ≤ 0 → ai_ev X M t L r h cs sl q) (b : ¬ x ≤ 0 → ai_ev X M (pc + 3) L r h cs sl q) : ai_ev X M pc L (.int x :: r) h cs sl q := by
  by_cases hc : x ≤ 0
  · exact ev_step hi rfl rfl (by simp only [ai_step, ht, ai_br]; exact if_pos hc) (a hc)
  · exact ev_step hi rfl rfl (by simp only [ai_step, ht, ai_br]; exact if_neg hc) (b hc)
theorem ev_iald {a : Nat} {o : List Int32} {j x : Int32} (hi : ai_fd (ai_cd M) pc = some .iaload) (ho : ai_nth h a = some (.inl (false, o))) (hx : ai_ix o j = some x) (e : ai_ev X M (pc + 1) L (.int x :: r) h cs sl q) : ai_ev X M pc L (.int j :: .ref a :: r) h cs sl q := ev_step hi rfl rfl (by simp only [ai_step, ho, hx]) e
theorem ev_iast {a : Nat} {o o2 : List Int32} {j x : Int32} (hi : ai_fd (ai_cd M) pc = some .iastore) (ho : ai_nth h a = some (.inl (false, o))) (hx : ai_up o j x = some o2) (e : ai_ev X M (pc + 1) L r (h.set a (.inl (false, o2))) cs sl q) : ai_ev X M pc L (.int x :: .int j :: .ref a :: r) h cs sl q := ev_step hi rfl rfl (by simp only [ai_step, ho, hx]) e
theorem ev_sub {X' : List (List Int32)} (hX : ai_sub X X') (e : ai_ev X M pc L st h cs sl q) : ai_ev X' M pc L st h cs sl q := by
  obtain ⟨n, hn⟩ := e
  exact ⟨n, ai_run_sub hX _ _ _ _ _ _ _ _ _ hn⟩
theorem ev_of {n : Nat} (hn : ai_run X n M pc L st h cs sl = some q) : ai_ev X M pc L st h cs sl q := ⟨n, hn⟩
end EV
end
section
theorem ai_smP {α β : Type} {a a2 : α} {b b2 : β} (h : some (a, b) = some (a2, b2)) : a = a2 ∧ b = b2 := ⟨congrArg Prod.fst (Option.some.inj h), congrArg Prod.snd (Option.some.inj h)⟩
def ai_bd {α β : Type} (o : Option α) (f : α → Option β) : Option β := match o with
  | some a => f a
  | none => none
theorem ai_bdE {α β : Type} {o : Option α} {f : α → Option β} {r : β} (h : ai_bd o f = some r) : ∃ a, o = some a ∧ f a = some r := by
  cases o with
  | none => cases h
  | some a => exact ⟨a, rfl, h⟩
theorem ai_ifE {α : Type} {c : Prop} [Decidable c] {a b : Option α} {r : α} (h : (if c then a else b) = some r) : (c ∧ a = some r) ∨ (¬ c ∧ b = some r) := by
  by_cases hc : c
  · rw [if_pos hc] at h; exact Or.inl ⟨hc, h⟩
  · rw [if_neg hc] at h; exact Or.inr ⟨hc, h⟩
theorem ai_ifS {α : Type} {c : Prop} [Decidable c] {a : Option α} {r : α} (h : (if c then a else none) = some r) : c ∧ a = some r := by
  rcases ai_ifE h with h | h
  · exact h
  · cases h.2
theorem ai_ifN {α : Type} {c : Prop} [Decidable c] {b : Option α} {r : α} (h : (if c then none else b) = some r) : ¬ c ∧ b = some r := by
  rcases ai_ifE h with h | h
  · cases h.2
  · exact h
def D1 : List (List Int32) := [[10, 13, 16, 20]]
theorem sw_out {x : Int32} (lo n : Nat) (h : ∀ k, k < n → ¬ x = Int32.ofNat (lo + k)) (hb : lo + n < 2 ^ 31 := by decide) : x.toInt < (lo : Int) ∨ ((lo + n - 1 : Nat) : Int) < x.toInt ∨ n = 0 := by
  by_cases h1 : x.toInt < (lo : Int)
  · exact Or.inl h1
  · right
    by_cases h0 : n = 0
    · exact Or.inr h0
    · left
      refine Classical.byContradiction fun h2 => ?_
      have e1 : x.toInt = ((lo + (x.toInt.toNat - lo) : Nat) : Int) := by omega
      refine h (x.toInt.toNat - lo) (by omega) ?_
      have hlt : lo + (x.toInt.toNat - lo) < 2 ^ 31 := by omega
      exact Int32.toInt_inj.mp (e1.trans (nI_toInt hlt).symm)
section EV2
variable {X : List (List Int32)} {M : ai_M} {pc t : Nat} {L : ai_L} {st r : List Value} {h : ai_H} {cs sl : Nat} {q : Option Value × ai_H}
theorem ev_zend {v : Int32} (hi : ai_fd (ai_cd M) pc = some .ireturn) (hrt : ai_rt M = some .boolean) (hc : (Nat.beq cs (ai_rm M).cells && Nat.ble sl (ai_rm M).slots) = true) (hv : v = 0 ∨ v = 1) : ai_ev X M pc L [.int v] h cs sl (some (.int v), h) := by
  refine ev_end ?_
  simp only [hi, ai_ci, ai_rk, ai_ret, hc, hrt, if_pos hv]
theorem ev_zald {a : Nat} {o : List Int32} {j x : Int32} (hi : ai_fd (ai_cd M) pc = some .baload) (ho : ai_nth h a = some (.inl (true, o))) (hx : ai_ix o j = some x) (e : ai_ev X M (pc + 1) L (.int x :: r) h cs sl q) : ai_ev X M pc L (.int j :: .ref a :: r) h cs sl q := ev_step hi rfl rfl (by simp only [ai_step, ho, hx]) e
theorem ev_zast {a : Nat} {o o2 : List Int32} {j x : Int32} (hi : ai_fd (ai_cd M) pc = some .bastore) (ho : ai_nth h a = some (.inl (true, o))) (hx : ai_up o j (vp_nar .boolean x) = some o2) (e : ai_ev X M (pc + 1) L r (h.set a (.inl (true, o2))) cs sl q) : ai_ev X M pc L (.int x :: .int j :: .ref a :: r) h cs sl q := ev_step hi rfl rfl (by simp only [ai_step, ho, hx]) e
theorem ev_idiv {x y : Int32} (hi : ai_fd (ai_cd M) pc = some .idiv) (hc : ¬ y = 0) (e : ai_ev X M (pc + 1) L (.int (x / y) :: r) h cs sl q) : ai_ev X M pc L (.int y :: .int x :: r) h cs sl q := ev_step hi rfl rfl (by simp only [ai_step, if_neg hc]) e
theorem ev_irem {x y : Int32} (hi : ai_fd (ai_cd M) pc = some .irem) (hc : ¬ y = 0) (e : ai_ev X M (pc + 1) L (.int (x - x / y * y) :: r) h cs sl q) : ai_ev X M pc L (.int y :: .int x :: r) h cs sl q := ev_step hi rfl rfl (by simp only [ai_step, if_neg hc]) e
theorem ev_ldiv {x y : Int64} (hi : ai_fd (ai_cd M) pc = some .ldiv) (hc : ¬ y = 0) (e : ai_ev X M (pc + 1) L (.long (x / y) :: r) h cs sl q) : ai_ev X M pc L (.long y :: .long x :: r) h cs sl q := ev_step hi rfl rfl (by simp only [ai_step, if_neg hc]) e
theorem ev_lrem {x y : Int64} (hi : ai_fd (ai_cd M) pc = some .lrem) (hc : ¬ y = 0) (e : ai_ev X M (pc + 1) L (.long (x - x / y * y) :: r) h cs sl q) : ai_ev X M pc L (.long y :: .long x :: r) h cs sl q := ev_step hi rfl rfl (by simp only [ai_step, if_neg hc]) e
theorem ev_swi {d lo hh : Int} {offs : Array Int} {x k : Int32} {off : Int} (hi : ai_fd (ai_cd M) pc = some (.tableswitch d lo hh offs)) (hx : x = k) (h1 : ¬ k.toInt < lo) (h2 : ¬ hh < k.toInt) (ho : offs[(k.toInt - lo).toNat]? = some off) (ht : ai_jp pc off = some t) (e : ai_ev X M t L r h cs sl q) : ai_ev X M pc L (.int x :: r) h cs sl q := by
  subst hx
  exact ev_step hi rfl rfl (by simp only [ai_step]; rw [if_neg (fun z => z.elim h1 h2)]; simp only [ho, ht]) e
theorem ev_swo {d : Int} {lo n : Nat} {hh : Int} {offs : Array Int} {x : Int32} (hi : ai_fd (ai_cd M) pc = some (.tableswitch d (lo : Int) hh offs)) (hx : x.toInt < (lo : Int) ∨ ((lo + n - 1 : Nat) : Int) < x.toInt ∨ n = 0) (hh2 : hh = ((lo + n - 1 : Nat) : Int) ∧ n ≠ 0) (ht : ai_jp pc d = some t) (e : ai_ev X M t L r h cs sl q) : ai_ev X M pc L (.int x :: r) h cs sl q := by
  have hc : x.toInt < (lo : Int) ∨ hh < x.toInt := by
    rcases hx with z | z | z
    · exact Or.inl z
    · exact Or.inr (by rw [hh2.1]; exact z)
    · exact absurd z hh2.2
  exact ev_step hi rfl rfl (by simp only [ai_step]; rw [if_pos hc]; simp only [ht]) e
theorem ev_natv {i : Instr} {kb k w wi : Nat} {st' : List Value} {h' : ai_H} (hi : ai_fd (ai_cd M) pc = some i) (hci : ai_ci i = some (kb, k)) (hw : ai_by (ai_naT (ai_cl M)) k = some (w, wi)) (hs : ai_nat X M kb w st h cs sl = some (st', h')) (e : ai_ev X M (pc + 3) L st' h' cs sl q) : ai_ev X M pc L st h cs sl q := by
  obtain ⟨n, hn⟩ := e
  refine ⟨n + 1, ?_⟩
  rw [ai_run]
  simp only [hi, hci, hw, hs]
  exact hn
theorem ev_cpy {k wi a b : Nat} {o f z : List Int32} {n dp sp : Int32} (hi : ai_fd (ai_cd M) pc = some (.invokestatic k)) (hw : ai_by (ai_naT (ai_cl M)) k = some (1, wi)) (hg : (Nat.ble 1 (ai_rm M).frames && Nat.ble cs (ai_rm M).cells && Nat.ble sl (ai_rm M).slots) = true) (hg2 : Nat.ble (ai_cat r + (nativeFrameWords "java/lang/System" "arraycopy" 5 + 11)) (ai_rm M).locals = true) (ho : ai_nth h a = some (.inl (false, o))) (hf : ai_nth h b = some (.inl (false, f))) (hz : ai_cpy f o sp dp n = some z) (e : ai_ev X M (pc + 3) L r (h.set a (.inl (false, z))) cs sl q) : ai_ev X M pc L (.int n :: .int dp :: .ref a :: .int sp :: .ref b :: r) h cs sl q :=
  ev_natv hi rfl hw (by simp only [ai_nat, hg, show Nat.beq 1 1 = true from rfl, hg2, Bool.and_self, ho, hf, hz]) e
theorem ev_cpx {k wi a b : Nat} {o f z : List Int32} {n dp sp : Int32} (hi : ai_fd (ai_cd M) pc = some (.invokestatic k)) (hw : ai_by (ai_naT (ai_cl M)) k = some (1, wi)) (hg : (Nat.ble 1 (ai_rm M).frames && Nat.ble cs (ai_rm M).cells && Nat.ble sl (ai_rm M).slots) = true) (hg2 : Nat.ble (ai_cat r + (nativeFrameWords "java/lang/System" "arraycopy" 5 + 11)) (ai_rm M).locals = true) (ho : ai_nth h a = some (.inl (false, o))) (hf : ai_nth X b = some f) (hz : ai_cpy f o sp dp n = some z) (e : ai_ev X M (pc + 3) L r (h.set a (.inl (false, z))) cs sl q) : ai_ev X M pc L (.int n :: .int dp :: .ref a :: .int sp :: .retAddr b :: r) h cs sl q :=
  ev_natv hi rfl hw (by simp only [ai_nat, hg, show Nat.beq 1 1 = true from rfl, hg2, Bool.and_self, ho, hf, hz]) e
theorem ev_putz {k a : Nat} {v : Int32} {z : Nat × Nat × Bool × Nat × Nat} {o : Nat × List Value} (hi : ai_fd (ai_cd M) pc = some (.putfield k)) (hq : ai_by (ai_flT (ai_cl M)) k = some z) (ho : ai_nth h a = some (.inr o)) (h1 : Nat.beq o.1 z.1 = true) (h2 : z.2.2.2.1 = 1) (h3 : Nat.blt z.2.1 o.2.length = true) (h4 : z.2.2.1 = false) (hv : v = 0 ∨ v = 1) (e : ai_ev X M (pc + 3) L r (h.set a (.inr (o.1, o.2.set z.2.1 (.int v)))) cs sl q) : ai_ev X M pc L (.int v :: .ref a :: r) h cs sl q :=
  ev_step hi rfl rfl (by simp only [ai_step, hq, ho, h1, h2, h3, h4, ai_fv, decide_eq_true hv, Bool.and_self, Bool.not_false, Bool.true_or]) e
end EV2
end
