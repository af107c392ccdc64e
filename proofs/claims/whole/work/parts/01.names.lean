/-- a private method of a class that the tables say can be made, by its rows of tables_1 -/
def lw_okq (q : MethodName × Nat) : Prop := (q.1.cls ≠ "java/lang/invoke/MethodHandle" ∧ q.1.cls ≠ "java/lang/invoke/VarHandle") ∧ Cond.instantiable q.1.cls q.2 ∈ tables_1 ∧ Cond.privateMethod q.1 ∈ tables_1 ∧ Cond.instanceMethod q.1 ∈ tables_1
theorem lw_p0 : lw_okq (⟨"DoeRoe", "refuseBad", "()I"⟩, 13) := ⟨⟨by decide +kernel, by decide +kernel⟩, List.mem_of_getElem? (i := 20) (by decide +kernel), List.mem_of_getElem? (i := 258) (by decide +kernel), List.mem_of_getElem? (i := 259) (by decide +kernel)⟩
theorem lw_p1 : lw_okq (⟨"DoeRoe", "refuseFull", "()I"⟩, 13) := ⟨⟨by decide +kernel, by decide +kernel⟩, List.mem_of_getElem? (i := 20) (by decide +kernel), List.mem_of_getElem? (i := 282) (by decide +kernel), List.mem_of_getElem? (i := 283) (by decide +kernel)⟩
theorem lw_p2 : lw_okq (⟨"DoeRoe$Rows", "put", "(III)V"⟩, 4) := ⟨⟨by decide +kernel, by decide +kernel⟩, List.mem_of_getElem? (i := 79) (by decide +kernel), List.mem_of_getElem? (i := 291) (by decide +kernel), List.mem_of_getElem? (i := 292) (by decide +kernel)⟩
theorem lw_p3 : lw_okq (⟨"DoeRoe$BookText", "advance", "()V"⟩, 12) := ⟨⟨by decide +kernel, by decide +kernel⟩, List.mem_of_getElem? (i := 154) (by decide +kernel), List.mem_of_getElem? (i := 325) (by decide +kernel), List.mem_of_getElem? (i := 326) (by decide +kernel)⟩
theorem lw_p4 : lw_okq (⟨"DoeRoe$BookText", "byteAt", "(I)I"⟩, 12) := ⟨⟨by decide +kernel, by decide +kernel⟩, List.mem_of_getElem? (i := 154) (by decide +kernel), List.mem_of_getElem? (i := 329) (by decide +kernel), List.mem_of_getElem? (i := 330) (by decide +kernel)⟩
theorem lw_p5 : lw_okq (⟨"DoeRoe$BookText", "advanceOverWord", "()V"⟩, 12) := ⟨⟨by decide +kernel, by decide +kernel⟩, List.mem_of_getElem? (i := 154) (by decide +kernel), List.mem_of_getElem? (i := 336) (by decide +kernel), List.mem_of_getElem? (i := 337) (by decide +kernel)⟩
theorem lw_p6 : lw_okq (⟨"DoeRoe$BookText", "standsThere", "(Ljava/lang/String;)Z"⟩, 12) := ⟨⟨by decide +kernel, by decide +kernel⟩, List.mem_of_getElem? (i := 154) (by decide +kernel), List.mem_of_getElem? (i := 341) (by decide +kernel), List.mem_of_getElem? (i := 342) (by decide +kernel)⟩
theorem lw_p7 : lw_okq (⟨"DoeRoe$BookText", "advanceOverFigures", "()V"⟩, 12) := ⟨⟨by decide +kernel, by decide +kernel⟩, List.mem_of_getElem? (i := 154) (by decide +kernel), List.mem_of_getElem? (i := 398) (by decide +kernel), List.mem_of_getElem? (i := 399) (by decide +kernel)⟩
theorem lw_p8 : lw_okq (⟨"DoeRoe$BookText", "takeToken", "(LDoeRoe$Matter;Z)Z"⟩, 12) := ⟨⟨by decide +kernel, by decide +kernel⟩, List.mem_of_getElem? (i := 154) (by decide +kernel), List.mem_of_getElem? (i := 402) (by decide +kernel), List.mem_of_getElem? (i := 403) (by decide +kernel)⟩
theorem lw_p9 : lw_okq (⟨"DoeRoe$BookText", "beginItem", "(LDoeRoe$Matter;Z)Z"⟩, 12) := ⟨⟨by decide +kernel, by decide +kernel⟩, List.mem_of_getElem? (i := 154) (by decide +kernel), List.mem_of_getElem? (i := 406) (by decide +kernel), List.mem_of_getElem? (i := 407) (by decide +kernel)⟩
theorem lw_p10 : lw_okq (⟨"DoeRoe$BookText", "numbersAhead", "()I"⟩, 12) := ⟨⟨by decide +kernel, by decide +kernel⟩, List.mem_of_getElem? (i := 154) (by decide +kernel), List.mem_of_getElem? (i := 411) (by decide +kernel), List.mem_of_getElem? (i := 412) (by decide +kernel)⟩
theorem lw_p11 : lw_okq (⟨"DoeRoe$BookText", "endItem", "(LDoeRoe$Matter;)V"⟩, 12) := ⟨⟨by decide +kernel, by decide +kernel⟩, List.mem_of_getElem? (i := 154) (by decide +kernel), List.mem_of_getElem? (i := 415) (by decide +kernel), List.mem_of_getElem? (i := 416) (by decide +kernel)⟩
theorem lw_p12 : lw_okq (⟨"DoeRoe$BookText", "mostHere", "()I"⟩, 12) := ⟨⟨by decide +kernel, by decide +kernel⟩, List.mem_of_getElem? (i := 154) (by decide +kernel), List.mem_of_getElem? (i := 420) (by decide +kernel), List.mem_of_getElem? (i := 421) (by decide +kernel)⟩
theorem lw_p13 : lw_okq (⟨"DoeRoe$BookText", "takeNumber", "()V"⟩, 12) := ⟨⟨by decide +kernel, by decide +kernel⟩, List.mem_of_getElem? (i := 154) (by decide +kernel), List.mem_of_getElem? (i := 424) (by decide +kernel), List.mem_of_getElem? (i := 425) (by decide +kernel)⟩
theorem lw_p14 : lw_okq (⟨"DoeRoe", "isFiction", "(I)Z"⟩, 13) := ⟨⟨by decide +kernel, by decide +kernel⟩, List.mem_of_getElem? (i := 20) (by decide +kernel), List.mem_of_getElem? (i := 452) (by decide +kernel), List.mem_of_getElem? (i := 453) (by decide +kernel)⟩
theorem lw_p15 : lw_okq (⟨"DoeRoe", "mayPlead", "(I)Z"⟩, 13) := ⟨⟨by decide +kernel, by decide +kernel⟩, List.mem_of_getElem? (i := 20) (by decide +kernel), List.mem_of_getElem? (i := 456) (by decide +kernel), List.mem_of_getElem? (i := 457) (by decide +kernel)⟩
def lw_privs_1 : List (MethodName × Nat) := [(⟨"DoeRoe", "refuseBad", "()I"⟩, 13), (⟨"DoeRoe", "refuseFull", "()I"⟩, 13), (⟨"DoeRoe$Rows", "put", "(III)V"⟩, 4), (⟨"DoeRoe$BookText", "advance", "()V"⟩, 12), (⟨"DoeRoe$BookText", "byteAt", "(I)I"⟩, 12), (⟨"DoeRoe$BookText", "advanceOverWord", "()V"⟩, 12), (⟨"DoeRoe$BookText", "standsThere", "(Ljava/lang/String;)Z"⟩, 12), (⟨"DoeRoe$BookText", "advanceOverFigures", "()V"⟩, 12), (⟨"DoeRoe$BookText", "takeToken", "(LDoeRoe$Matter;Z)Z"⟩, 12), (⟨"DoeRoe$BookText", "beginItem", "(LDoeRoe$Matter;Z)Z"⟩, 12), (⟨"DoeRoe$BookText", "numbersAhead", "()I"⟩, 12), (⟨"DoeRoe$BookText", "endItem", "(LDoeRoe$Matter;)V"⟩, 12), (⟨"DoeRoe$BookText", "mostHere", "()I"⟩, 12), (⟨"DoeRoe$BookText", "takeNumber", "()V"⟩, 12), (⟨"DoeRoe", "isFiction", "(I)Z"⟩, 13), (⟨"DoeRoe", "mayPlead", "(I)Z"⟩, 13)]
theorem lw_r1 : ∀ q ∈ lw_privs_1, lw_okq q := List.forall_mem_cons.mpr ⟨lw_p0, List.forall_mem_cons.mpr ⟨lw_p1, List.forall_mem_cons.mpr ⟨lw_p2, List.forall_mem_cons.mpr ⟨lw_p3, List.forall_mem_cons.mpr ⟨lw_p4, List.forall_mem_cons.mpr ⟨lw_p5, List.forall_mem_cons.mpr ⟨lw_p6, List.forall_mem_cons.mpr ⟨lw_p7, List.forall_mem_cons.mpr ⟨lw_p8, List.forall_mem_cons.mpr ⟨lw_p9, List.forall_mem_cons.mpr ⟨lw_p10, List.forall_mem_cons.mpr ⟨lw_p11, List.forall_mem_cons.mpr ⟨lw_p12, List.forall_mem_cons.mpr ⟨lw_p13, List.forall_mem_cons.mpr ⟨lw_p14, List.forall_mem_cons.mpr ⟨lw_p15, fun _ h => absurd h List.not_mem_nil⟩⟩⟩⟩⟩⟩⟩⟩⟩⟩⟩⟩⟩⟩⟩⟩
theorem lw_p16 : lw_okq (⟨"DoeRoe", "isPleaded", "(I)Z"⟩, 13) := ⟨⟨by decide +kernel, by decide +kernel⟩, List.mem_of_getElem? (i := 20) (by decide +kernel), List.mem_of_getElem? (i := 460) (by decide +kernel), List.mem_of_getElem? (i := 461) (by decide +kernel)⟩
theorem lw_p17 : lw_okq (⟨"DoeRoe", "supposed", "()I"⟩, 13) := ⟨⟨by decide +kernel, by decide +kernel⟩, List.mem_of_getElem? (i := 20) (by decide +kernel), List.mem_of_getElem? (i := 467) (by decide +kernel), List.mem_of_getElem? (i := 468) (by decide +kernel)⟩
theorem lw_p18 : lw_okq (⟨"DoeRoe$Matter", "kindNumbered", "(I)LDoeRoe$Plain;"⟩, 11) := ⟨⟨by decide +kernel, by decide +kernel⟩, List.mem_of_getElem? (i := 71) (by decide +kernel), List.mem_of_getElem? (i := 485) (by decide +kernel), List.mem_of_getElem? (i := 486) (by decide +kernel)⟩
theorem lw_p19 : lw_okq (⟨"DoeRoe", "refuseNo", "()I"⟩, 13) := ⟨⟨by decide +kernel, by decide +kernel⟩, List.mem_of_getElem? (i := 20) (by decide +kernel), List.mem_of_getElem? (i := 510) (by decide +kernel), List.mem_of_getElem? (i := 511) (by decide +kernel)⟩
theorem lw_p20 : lw_okq (⟨"DoeRoe", "isCourt", "(I)Z"⟩, 13) := ⟨⟨by decide +kernel, by decide +kernel⟩, List.mem_of_getElem? (i := 20) (by decide +kernel), List.mem_of_getElem? (i := 613) (by decide +kernel), List.mem_of_getElem? (i := 614) (by decide +kernel)⟩
theorem lw_p21 : lw_okq (⟨"DoeRoe$Paths", "settle", "(LDoeRoe$Matter;III)V"⟩, 2) := ⟨⟨by decide +kernel, by decide +kernel⟩, List.mem_of_getElem? (i := 198) (by decide +kernel), List.mem_of_getElem? (i := 624) (by decide +kernel), List.mem_of_getElem? (i := 625) (by decide +kernel)⟩
theorem lw_p22 : lw_okq (⟨"DoeRoe$Paths", "keep", "(III)V"⟩, 2) := ⟨⟨by decide +kernel, by decide +kernel⟩, List.mem_of_getElem? (i := 198) (by decide +kernel), List.mem_of_getElem? (i := 630) (by decide +kernel), List.mem_of_getElem? (i := 631) (by decide +kernel)⟩
theorem lw_p23 : lw_okq (⟨"DoeRoe$Paths", "setsBehind", "(LDoeRoe$Matter;II)J"⟩, 2) := ⟨⟨by decide +kernel, by decide +kernel⟩, List.mem_of_getElem? (i := 198) (by decide +kernel), List.mem_of_getElem? (i := 656) (by decide +kernel), List.mem_of_getElem? (i := 657) (by decide +kernel)⟩
theorem lw_p24 : lw_okq (⟨"DoeRoe$Matter", "fitsNotes", "(II)Z"⟩, 11) := ⟨⟨by decide +kernel, by decide +kernel⟩, List.mem_of_getElem? (i := 71) (by decide +kernel), List.mem_of_getElem? (i := 715) (by decide +kernel), List.mem_of_getElem? (i := 716) (by decide +kernel)⟩
theorem lw_p25 : lw_okq (⟨"DoeRoe$Matter", "costAs", "(III)I"⟩, 11) := ⟨⟨by decide +kernel, by decide +kernel⟩, List.mem_of_getElem? (i := 71) (by decide +kernel), List.mem_of_getElem? (i := 719) (by decide +kernel), List.mem_of_getElem? (i := 720) (by decide +kernel)⟩
theorem lw_p26 : lw_okq (⟨"DoeRoe$Matter", "alikeWith", "(IIII)I"⟩, 11) := ⟨⟨by decide +kernel, by decide +kernel⟩, List.mem_of_getElem? (i := 71) (by decide +kernel), List.mem_of_getElem? (i := 731) (by decide +kernel), List.mem_of_getElem? (i := 732) (by decide +kernel)⟩
theorem lw_p27 : lw_okq (⟨"DoeRoe", "keepFraction", "(JJ)V"⟩, 13) := ⟨⟨by decide +kernel, by decide +kernel⟩, List.mem_of_getElem? (i := 20) (by decide +kernel), List.mem_of_getElem? (i := 757) (by decide +kernel), List.mem_of_getElem? (i := 758) (by decide +kernel)⟩
theorem lw_p28 : lw_okq (⟨"DoeRoeModel", "refuse", "(I)I"⟩, 22) := ⟨⟨by decide +kernel, by decide +kernel⟩, List.mem_of_getElem? (i := 814) (by decide +kernel), List.mem_of_getElem? (i := 895) (by decide +kernel), List.mem_of_getElem? (i := 896) (by decide +kernel)⟩
theorem lw_p29 : lw_okq (⟨"DoeRoeModel", "layBook", "(I)V"⟩, 22) := ⟨⟨by decide +kernel, by decide +kernel⟩, List.mem_of_getElem? (i := 814) (by decide +kernel), List.mem_of_getElem? (i := 899) (by decide +kernel), List.mem_of_getElem? (i := 900) (by decide +kernel)⟩
theorem lw_p30 : lw_okq (⟨"DoeRoeModel", "addFiction", "(IIII)V"⟩, 22) := ⟨⟨by decide +kernel, by decide +kernel⟩, List.mem_of_getElem? (i := 814) (by decide +kernel), List.mem_of_getElem? (i := 907) (by decide +kernel), List.mem_of_getElem? (i := 908) (by decide +kernel)⟩
theorem lw_p31 : lw_okq (⟨"DoeRoeModel", "addCourt", "(II)V"⟩, 22) := ⟨⟨by decide +kernel, by decide +kernel⟩, List.mem_of_getElem? (i := 814) (by decide +kernel), List.mem_of_getElem? (i := 915) (by decide +kernel), List.mem_of_getElem? (i := 916) (by decide +kernel)⟩
def lw_privs_2 : List (MethodName × Nat) := [(⟨"DoeRoe", "isPleaded", "(I)Z"⟩, 13), (⟨"DoeRoe", "supposed", "()I"⟩, 13), (⟨"DoeRoe$Matter", "kindNumbered", "(I)LDoeRoe$Plain;"⟩, 11), (⟨"DoeRoe", "refuseNo", "()I"⟩, 13), (⟨"DoeRoe", "isCourt", "(I)Z"⟩, 13), (⟨"DoeRoe$Paths", "settle", "(LDoeRoe$Matter;III)V"⟩, 2), (⟨"DoeRoe$Paths", "keep", "(III)V"⟩, 2), (⟨"DoeRoe$Paths", "setsBehind", "(LDoeRoe$Matter;II)J"⟩, 2), (⟨"DoeRoe$Matter", "fitsNotes", "(II)Z"⟩, 11), (⟨"DoeRoe$Matter", "costAs", "(III)I"⟩, 11), (⟨"DoeRoe$Matter", "alikeWith", "(IIII)I"⟩, 11), (⟨"DoeRoe", "keepFraction", "(JJ)V"⟩, 13), (⟨"DoeRoeModel", "refuse", "(I)I"⟩, 22), (⟨"DoeRoeModel", "layBook", "(I)V"⟩, 22), (⟨"DoeRoeModel", "addFiction", "(IIII)V"⟩, 22), (⟨"DoeRoeModel", "addCourt", "(II)V"⟩, 22)]
theorem lw_r2 : ∀ q ∈ lw_privs_2, lw_okq q := List.forall_mem_cons.mpr ⟨lw_p16, List.forall_mem_cons.mpr ⟨lw_p17, List.forall_mem_cons.mpr ⟨lw_p18, List.forall_mem_cons.mpr ⟨lw_p19, List.forall_mem_cons.mpr ⟨lw_p20, List.forall_mem_cons.mpr ⟨lw_p21, List.forall_mem_cons.mpr ⟨lw_p22, List.forall_mem_cons.mpr ⟨lw_p23, List.forall_mem_cons.mpr ⟨lw_p24, List.forall_mem_cons.mpr ⟨lw_p25, List.forall_mem_cons.mpr ⟨lw_p26, List.forall_mem_cons.mpr ⟨lw_p27, List.forall_mem_cons.mpr ⟨lw_p28, List.forall_mem_cons.mpr ⟨lw_p29, List.forall_mem_cons.mpr ⟨lw_p30, List.forall_mem_cons.mpr ⟨lw_p31, fun _ h => absurd h List.not_mem_nil⟩⟩⟩⟩⟩⟩⟩⟩⟩⟩⟩⟩⟩⟩⟩⟩
theorem lw_p32 : lw_okq (⟨"DoeRoeModel", "readItems", "()I"⟩, 22) := ⟨⟨by decide +kernel, by decide +kernel⟩, List.mem_of_getElem? (i := 814) (by decide +kernel), List.mem_of_getElem? (i := 931) (by decide +kernel), List.mem_of_getElem? (i := 932) (by decide +kernel)⟩
theorem lw_p33 : lw_okq (⟨"DoeRoeModel", "next", "()V"⟩, 22) := ⟨⟨by decide +kernel, by decide +kernel⟩, List.mem_of_getElem? (i := 814) (by decide +kernel), List.mem_of_getElem? (i := 935) (by decide +kernel), List.mem_of_getElem? (i := 936) (by decide +kernel)⟩
theorem lw_p34 : lw_okq (⟨"DoeRoeModel", "isLetter", "(I)Z"⟩, 22) := ⟨⟨by decide +kernel, by decide +kernel⟩, List.mem_of_getElem? (i := 814) (by decide +kernel), List.mem_of_getElem? (i := 939) (by decide +kernel), List.mem_of_getElem? (i := 940) (by decide +kernel)⟩
theorem lw_p35 : lw_okq (⟨"DoeRoeModel", "isFigure", "(I)Z"⟩, 22) := ⟨⟨by decide +kernel, by decide +kernel⟩, List.mem_of_getElem? (i := 814) (by decide +kernel), List.mem_of_getElem? (i := 943) (by decide +kernel), List.mem_of_getElem? (i := 944) (by decide +kernel)⟩
theorem lw_p36 : lw_okq (⟨"DoeRoeModel", "wordHere", "()I"⟩, 22) := ⟨⟨by decide +kernel, by decide +kernel⟩, List.mem_of_getElem? (i := 814) (by decide +kernel), List.mem_of_getElem? (i := 947) (by decide +kernel), List.mem_of_getElem? (i := 948) (by decide +kernel)⟩
theorem lw_p37 : lw_okq (⟨"DoeRoeModel", "isWord", "(I)Z"⟩, 22) := ⟨⟨by decide +kernel, by decide +kernel⟩, List.mem_of_getElem? (i := 814) (by decide +kernel), List.mem_of_getElem? (i := 951) (by decide +kernel), List.mem_of_getElem? (i := 952) (by decide +kernel)⟩
theorem lw_p38 : lw_okq (⟨"DoeRoeModel", "facts", "()I"⟩, 22) := ⟨⟨by decide +kernel, by decide +kernel⟩, List.mem_of_getElem? (i := 814) (by decide +kernel), List.mem_of_getElem? (i := 955) (by decide +kernel), List.mem_of_getElem? (i := 956) (by decide +kernel)⟩
theorem lw_p39 : lw_okq (⟨"DoeRoeModel", "numberHere", "(II)I"⟩, 22) := ⟨⟨by decide +kernel, by decide +kernel⟩, List.mem_of_getElem? (i := 814) (by decide +kernel), List.mem_of_getElem? (i := 959) (by decide +kernel), List.mem_of_getElem? (i := 960) (by decide +kernel)⟩
theorem lw_p40 : lw_okq (⟨"DoeRoeModel", "readsFiction", "()Z"⟩, 22) := ⟨⟨by decide +kernel, by decide +kernel⟩, List.mem_of_getElem? (i := 814) (by decide +kernel), List.mem_of_getElem? (i := 963) (by decide +kernel), List.mem_of_getElem? (i := 964) (by decide +kernel)⟩
theorem lw_p41 : lw_okq (⟨"DoeRoeModel", "number", "(II)I"⟩, 22) := ⟨⟨by decide +kernel, by decide +kernel⟩, List.mem_of_getElem? (i := 814) (by decide +kernel), List.mem_of_getElem? (i := 967) (by decide +kernel), List.mem_of_getElem? (i := 968) (by decide +kernel)⟩
theorem lw_p42 : lw_okq (⟨"DoeRoeModel", "readsCourt", "()Z"⟩, 22) := ⟨⟨by decide +kernel, by decide +kernel⟩, List.mem_of_getElem? (i := 814) (by decide +kernel), List.mem_of_getElem? (i := 971) (by decide +kernel), List.mem_of_getElem? (i := 972) (by decide +kernel)⟩
theorem lw_p43 : lw_okq (⟨"DoeRoeModel", "isFiction", "(I)Z"⟩, 22) := ⟨⟨by decide +kernel, by decide +kernel⟩, List.mem_of_getElem? (i := 814) (by decide +kernel), List.mem_of_getElem? (i := 986) (by decide +kernel), List.mem_of_getElem? (i := 987) (by decide +kernel)⟩
theorem lw_p44 : lw_okq (⟨"DoeRoeModel", "mayPlead", "(III)Z"⟩, 22) := ⟨⟨by decide +kernel, by decide +kernel⟩, List.mem_of_getElem? (i := 814) (by decide +kernel), List.mem_of_getElem? (i := 990) (by decide +kernel), List.mem_of_getElem? (i := 991) (by decide +kernel)⟩
theorem lw_p45 : lw_okq (⟨"DoeRoeModel", "supposedBy", "(I)I"⟩, 22) := ⟨⟨by decide +kernel, by decide +kernel⟩, List.mem_of_getElem? (i := 814) (by decide +kernel), List.mem_of_getElem? (i := 994) (by decide +kernel), List.mem_of_getElem? (i := 995) (by decide +kernel)⟩
theorem lw_p46 : lw_okq (⟨"DoeRoeModel", "keepPast", "()V"⟩, 22) := ⟨⟨by decide +kernel, by decide +kernel⟩, List.mem_of_getElem? (i := 814) (by decide +kernel), List.mem_of_getElem? (i := 1001) (by decide +kernel), List.mem_of_getElem? (i := 1002) (by decide +kernel)⟩
theorem lw_p47 : lw_okq (⟨"DoeRoeModel", "pleadAt", "(II)V"⟩, 22) := ⟨⟨by decide +kernel, by decide +kernel⟩, List.mem_of_getElem? (i := 814) (by decide +kernel), List.mem_of_getElem? (i := 1005) (by decide +kernel), List.mem_of_getElem? (i := 1006) (by decide +kernel)⟩
def lw_privs_3 : List (MethodName × Nat) := [(⟨"DoeRoeModel", "readItems", "()I"⟩, 22), (⟨"DoeRoeModel", "next", "()V"⟩, 22), (⟨"DoeRoeModel", "isLetter", "(I)Z"⟩, 22), (⟨"DoeRoeModel", "isFigure", "(I)Z"⟩, 22), (⟨"DoeRoeModel", "wordHere", "()I"⟩, 22), (⟨"DoeRoeModel", "isWord", "(I)Z"⟩, 22), (⟨"DoeRoeModel", "facts", "()I"⟩, 22), (⟨"DoeRoeModel", "numberHere", "(II)I"⟩, 22), (⟨"DoeRoeModel", "readsFiction", "()Z"⟩, 22), (⟨"DoeRoeModel", "number", "(II)I"⟩, 22), (⟨"DoeRoeModel", "readsCourt", "()Z"⟩, 22), (⟨"DoeRoeModel", "isFiction", "(I)Z"⟩, 22), (⟨"DoeRoeModel", "mayPlead", "(III)Z"⟩, 22), (⟨"DoeRoeModel", "supposedBy", "(I)I"⟩, 22), (⟨"DoeRoeModel", "keepPast", "()V"⟩, 22), (⟨"DoeRoeModel", "pleadAt", "(II)V"⟩, 22)]
theorem lw_r3 : ∀ q ∈ lw_privs_3, lw_okq q := List.forall_mem_cons.mpr ⟨lw_p32, List.forall_mem_cons.mpr ⟨lw_p33, List.forall_mem_cons.mpr ⟨lw_p34, List.forall_mem_cons.mpr ⟨lw_p35, List.forall_mem_cons.mpr ⟨lw_p36, List.forall_mem_cons.mpr ⟨lw_p37, List.forall_mem_cons.mpr ⟨lw_p38, List.forall_mem_cons.mpr ⟨lw_p39, List.forall_mem_cons.mpr ⟨lw_p40, List.forall_mem_cons.mpr ⟨lw_p41, List.forall_mem_cons.mpr ⟨lw_p42, List.forall_mem_cons.mpr ⟨lw_p43, List.forall_mem_cons.mpr ⟨lw_p44, List.forall_mem_cons.mpr ⟨lw_p45, List.forall_mem_cons.mpr ⟨lw_p46, List.forall_mem_cons.mpr ⟨lw_p47, fun _ h => absurd h List.not_mem_nil⟩⟩⟩⟩⟩⟩⟩⟩⟩⟩⟩⟩⟩⟩⟩⟩
theorem lw_p48 : lw_okq (⟨"DoeRoeModel", "cost", "(II)I"⟩, 22) := ⟨⟨by decide +kernel, by decide +kernel⟩, List.mem_of_getElem? (i := 814) (by decide +kernel), List.mem_of_getElem? (i := 1009) (by decide +kernel), List.mem_of_getElem? (i := 1010) (by decide +kernel)⟩
theorem lw_p49 : lw_okq (⟨"DoeRoeModel", "denyAt", "(II)I"⟩, 22) := ⟨⟨by decide +kernel, by decide +kernel⟩, List.mem_of_getElem? (i := 814) (by decide +kernel), List.mem_of_getElem? (i := 1020) (by decide +kernel), List.mem_of_getElem? (i := 1021) (by decide +kernel)⟩
theorem lw_p50 : lw_okq (⟨"DoeRoeModel", "wins", "(I)Z"⟩, 22) := ⟨⟨by decide +kernel, by decide +kernel⟩, List.mem_of_getElem? (i := 814) (by decide +kernel), List.mem_of_getElem? (i := 1024) (by decide +kernel), List.mem_of_getElem? (i := 1025) (by decide +kernel)⟩
theorem lw_p51 : lw_okq (⟨"DoeRoeModel", "nowOf", "(I)I"⟩, 22) := ⟨⟨by decide +kernel, by decide +kernel⟩, List.mem_of_getElem? (i := 814) (by decide +kernel), List.mem_of_getElem? (i := 1040) (by decide +kernel), List.mem_of_getElem? (i := 1041) (by decide +kernel)⟩
theorem lw_p52 : lw_okq (⟨"DoeRoeModel", "hearBy", "(I)I"⟩, 22) := ⟨⟨by decide +kernel, by decide +kernel⟩, List.mem_of_getElem? (i := 814) (by decide +kernel), List.mem_of_getElem? (i := 1052) (by decide +kernel), List.mem_of_getElem? (i := 1053) (by decide +kernel)⟩
theorem lw_p53 : lw_okq (⟨"DoeRoeModel", "hears", "(II)Z"⟩, 22) := ⟨⟨by decide +kernel, by decide +kernel⟩, List.mem_of_getElem? (i := 814) (by decide +kernel), List.mem_of_getElem? (i := 1056) (by decide +kernel), List.mem_of_getElem? (i := 1057) (by decide +kernel)⟩
theorem lw_p54 : lw_okq (⟨"DoeRoeModel", "isCourt", "(I)Z"⟩, 22) := ⟨⟨by decide +kernel, by decide +kernel⟩, List.mem_of_getElem? (i := 814) (by decide +kernel), List.mem_of_getElem? (i := 1064) (by decide +kernel), List.mem_of_getElem? (i := 1065) (by decide +kernel)⟩
theorem lw_p55 : lw_okq (⟨"DoeRoeModel", "badTen", "()I"⟩, 22) := ⟨⟨by decide +kernel, by decide +kernel⟩, List.mem_of_getElem? (i := 814) (by decide +kernel), List.mem_of_getElem? (i := 1068) (by decide +kernel), List.mem_of_getElem? (i := 1069) (by decide +kernel)⟩
theorem lw_p56 : lw_okq (⟨"DoeRoeModel", "bestTo", "(II)I"⟩, 22) := ⟨⟨by decide +kernel, by decide +kernel⟩, List.mem_of_getElem? (i := 814) (by decide +kernel), List.mem_of_getElem? (i := 1072) (by decide +kernel), List.mem_of_getElem? (i := 1073) (by decide +kernel)⟩
theorem lw_p57 : lw_okq (⟨"DoeRoeModel", "beginRows", "()V"⟩, 22) := ⟨⟨by decide +kernel, by decide +kernel⟩, List.mem_of_getElem? (i := 814) (by decide +kernel), List.mem_of_getElem? (i := 1076) (by decide +kernel), List.mem_of_getElem? (i := 1077) (by decide +kernel)⟩
theorem lw_p58 : lw_okq (⟨"DoeRoeModel", "nextRow", "()Z"⟩, 22) := ⟨⟨by decide +kernel, by decide +kernel⟩, List.mem_of_getElem? (i := 814) (by decide +kernel), List.mem_of_getElem? (i := 1080) (by decide +kernel), List.mem_of_getElem? (i := 1081) (by decide +kernel)⟩
theorem lw_p59 : lw_okq (⟨"DoeRoeModel", "kindsOf", "(I)I"⟩, 22) := ⟨⟨by decide +kernel, by decide +kernel⟩, List.mem_of_getElem? (i := 814) (by decide +kernel), List.mem_of_getElem? (i := 1133) (by decide +kernel), List.mem_of_getElem? (i := 1134) (by decide +kernel)⟩
theorem lw_p60 : lw_okq (⟨"DoeRoeModel", "mostAlike", "(III)I"⟩, 22) := ⟨⟨by decide +kernel, by decide +kernel⟩, List.mem_of_getElem? (i := 814) (by decide +kernel), List.mem_of_getElem? (i := 1141) (by decide +kernel), List.mem_of_getElem? (i := 1142) (by decide +kernel)⟩
theorem lw_p61 : lw_okq (⟨"DoeRoeModel", "mayBeTrue", "(I)Z"⟩, 22) := ⟨⟨by decide +kernel, by decide +kernel⟩, List.mem_of_getElem? (i := 814) (by decide +kernel), List.mem_of_getElem? (i := 1149) (by decide +kernel), List.mem_of_getElem? (i := 1150) (by decide +kernel)⟩
theorem lw_p62 : lw_okq (⟨"DoeRoeModel", "tellPart", "(JJ)V"⟩, 22) := ⟨⟨by decide +kernel, by decide +kernel⟩, List.mem_of_getElem? (i := 814) (by decide +kernel), List.mem_of_getElem? (i := 1157) (by decide +kernel), List.mem_of_getElem? (i := 1158) (by decide +kernel)⟩
theorem lw_p63 : lw_okq (⟨"DoeRoeModel", "countOf", "(I)I"⟩, 22) := ⟨⟨by decide +kernel, by decide +kernel⟩, List.mem_of_getElem? (i := 814) (by decide +kernel), List.mem_of_getElem? (i := 1191) (by decide +kernel), List.mem_of_getElem? (i := 1192) (by decide +kernel)⟩
def lw_privs_4 : List (MethodName × Nat) := [(⟨"DoeRoeModel", "cost", "(II)I"⟩, 22), (⟨"DoeRoeModel", "denyAt", "(II)I"⟩, 22), (⟨"DoeRoeModel", "wins", "(I)Z"⟩, 22), (⟨"DoeRoeModel", "nowOf", "(I)I"⟩, 22), (⟨"DoeRoeModel", "hearBy", "(I)I"⟩, 22), (⟨"DoeRoeModel", "hears", "(II)Z"⟩, 22), (⟨"DoeRoeModel", "isCourt", "(I)Z"⟩, 22), (⟨"DoeRoeModel", "badTen", "()I"⟩, 22), (⟨"DoeRoeModel", "bestTo", "(II)I"⟩, 22), (⟨"DoeRoeModel", "beginRows", "()V"⟩, 22), (⟨"DoeRoeModel", "nextRow", "()Z"⟩, 22), (⟨"DoeRoeModel", "kindsOf", "(I)I"⟩, 22), (⟨"DoeRoeModel", "mostAlike", "(III)I"⟩, 22), (⟨"DoeRoeModel", "mayBeTrue", "(I)Z"⟩, 22), (⟨"DoeRoeModel", "tellPart", "(JJ)V"⟩, 22), (⟨"DoeRoeModel", "countOf", "(I)I"⟩, 22)]
theorem lw_r4 : ∀ q ∈ lw_privs_4, lw_okq q := List.forall_mem_cons.mpr ⟨lw_p48, List.forall_mem_cons.mpr ⟨lw_p49, List.forall_mem_cons.mpr ⟨lw_p50, List.forall_mem_cons.mpr ⟨lw_p51, List.forall_mem_cons.mpr ⟨lw_p52, List.forall_mem_cons.mpr ⟨lw_p53, List.forall_mem_cons.mpr ⟨lw_p54, List.forall_mem_cons.mpr ⟨lw_p55, List.forall_mem_cons.mpr ⟨lw_p56, List.forall_mem_cons.mpr ⟨lw_p57, List.forall_mem_cons.mpr ⟨lw_p58, List.forall_mem_cons.mpr ⟨lw_p59, List.forall_mem_cons.mpr ⟨lw_p60, List.forall_mem_cons.mpr ⟨lw_p61, List.forall_mem_cons.mpr ⟨lw_p62, List.forall_mem_cons.mpr ⟨lw_p63, fun _ h => absurd h List.not_mem_nil⟩⟩⟩⟩⟩⟩⟩⟩⟩⟩⟩⟩⟩⟩⟩⟩
def lw_privs : List (MethodName × Nat) := lw_privs_1 ++ (lw_privs_2 ++ (lw_privs_3 ++ (lw_privs_4)))
def lw_tbl : List Cond := k2_sels lw_privs ++ tables_1
theorem lw_privs_ok : ∀ q ∈ lw_privs, lw_okq q := by
  show ∀ q ∈ lw_privs_1 ++ (lw_privs_2 ++ (lw_privs_3 ++ (lw_privs_4))), lw_okq q
  exact List.forall_mem_append.mpr ⟨lw_r1, List.forall_mem_append.mpr ⟨lw_r2, List.forall_mem_append.mpr ⟨lw_r3, lw_r4⟩⟩⟩
def RX0 : String := "DoeRoe$BookText"
def TX0 : u_T := fun k => match k with
  | 0 => ("DoeRoe$BookText", "bytes", "[I", true)
  | 1 => ("DoeRoe$BookText", "length", "I", false)
  | 2 => ("DoeRoe$BookText", "token", "I", false)
  | 3 => ("DoeRoe$BookText", "place", "I", false)
  | 4 => ("DoeRoe$BookText", "number", "I", false)
  | 5 => ("DoeRoe$BookText", "next", "I", false)
  | 6 => ("DoeRoe$BookText", "word", "I", false)
  | 7 => ("DoeRoe$BookText", "numbers", "I", false)
  | 8 => ("DoeRoe$BookText", "kind", "I", false)
  | 9 => ("DoeRoe$BookText", "gives", "I", false)
  | 10 => ("DoeRoe$BookText", "fee", "I", false)
  | _ => ("DoeRoe$BookText", "facts", "I", false)
def tyX0 : Nat → FieldType := fun k => match k with
  | 0 => .array .int
  | 1 => .int
  | 2 => .int
  | 3 => .int
  | 4 => .int
  | 5 => .int
  | 6 => .int
  | 7 => .int
  | 8 => .int
  | 9 => .int
  | 10 => .int
  | _ => .int
abbrev wsX00 : List Cond := u_ws RX0 TX0 12
theorem nmX0 : ∀ a, a < 12 → ∀ b, b < 12 → a ≠ b → (TX0 a).2.1 ≠ (TX0 b).2.1 := by decide +kernel
theorem tyX0_ok : ∀ k, k < 12 → parseFieldDescriptor (TX0 k).2.2.1 = some (tyX0 k) := by decide +kernel
abbrev cX0_init : ByteArray := prog_2_method_1_code
def yX0_init : MethodName := ⟨RX0, "<init>", "()V"⟩
abbrev cX0_isFull : ByteArray := prog_2_method_2_code
def yX0_isFull : MethodName := ⟨RX0, "isFull", "()Z"⟩
abbrev cX0_add : ByteArray := prog_2_method_3_code
def yX0_add : MethodName := ⟨RX0, "add", "(I)V"⟩
abbrev cX0_readInto : ByteArray := prog_2_method_4_code
def yX0_readInto : MethodName := ⟨RX0, "readInto", "(LDoeRoe$Matter;)I"⟩
abbrev cX0_takeToken : ByteArray := prog_2_method_5_code
def yX0_takeToken : MethodName := ⟨RX0, "takeToken", "(LDoeRoe$Matter;Z)Z"⟩
abbrev cX0_beginItem : ByteArray := prog_2_method_6_code
def yX0_beginItem : MethodName := ⟨RX0, "beginItem", "(LDoeRoe$Matter;Z)Z"⟩
abbrev cX0_numbersAhead : ByteArray := prog_2_method_7_code
def yX0_numbersAhead : MethodName := ⟨RX0, "numbersAhead", "()I"⟩
abbrev cX0_mostHere : ByteArray := prog_2_method_8_code
def yX0_mostHere : MethodName := ⟨RX0, "mostHere", "()I"⟩
abbrev cX0_takeNumber : ByteArray := prog_2_method_9_code
def yX0_takeNumber : MethodName := ⟨RX0, "takeNumber", "()V"⟩
abbrev cX0_endItem : ByteArray := prog_2_method_10_code
def yX0_endItem : MethodName := ⟨RX0, "endItem", "(LDoeRoe$Matter;)V"⟩
abbrev cX0_advance : ByteArray := prog_2_method_11_code
def yX0_advance : MethodName := ⟨RX0, "advance", "()V"⟩
abbrev cX0_advanceOverWord : ByteArray := prog_2_method_12_code
def yX0_advanceOverWord : MethodName := ⟨RX0, "advanceOverWord", "()V"⟩
abbrev cX0_advanceOverFigures : ByteArray := prog_2_method_13_code
def yX0_advanceOverFigures : MethodName := ⟨RX0, "advanceOverFigures", "()V"⟩
abbrev cX0_standsThere : ByteArray := prog_2_method_14_code
def yX0_standsThere : MethodName := ⟨RX0, "standsThere", "(Ljava/lang/String;)Z"⟩
abbrev cX0_byteAt : ByteArray := prog_2_method_15_code
def yX0_byteAt : MethodName := ⟨RX0, "byteAt", "(I)I"⟩
abbrev cX0_isLetter : ByteArray := prog_2_method_16_code
def yX0_isLetter : MethodName := ⟨RX0, "isLetter", "(I)Z"⟩
abbrev cX0_isFigure : ByteArray := prog_2_method_17_code
def yX0_isFigure : MethodName := ⟨RX0, "isFigure", "(I)Z"⟩
def RX1 : String := "DoeRoe$Force"
def TX1 : u_T := fun k => match k with
  | _ => ("", "", "", false)
def tyX1 : Nat → FieldType := fun k => match k with
  | _ => .int
abbrev wsX10 : List Cond := u_ws RX1 TX1 0
theorem nmX1 : ∀ a, a < 0 → ∀ b, b < 0 → a ≠ b → (TX1 a).2.1 ≠ (TX1 b).2.1 := by decide +kernel
theorem tyX1_ok : ∀ k, k < 0 → parseFieldDescriptor (TX1 k).2.2.1 = some (tyX1 k) := by decide +kernel
abbrev cX1_init : ByteArray := prog_3_method_1_code
def yX1_init : MethodName := ⟨RX1, "<init>", "()V"⟩
abbrev cX1_allows : ByteArray := prog_3_method_2_code
def yX1_allows : MethodName := ⟨RX1, "allows", "(III)Z"⟩
abbrev cX1_cost : ByteArray := prog_3_method_3_code
def yX1_cost : MethodName := ⟨RX1, "cost", "(II)I"⟩
def RX2 : String := "DoeRoe$Letter"
def TX2 : u_T := fun k => match k with
  | _ => ("", "", "", false)
def tyX2 : Nat → FieldType := fun k => match k with
  | _ => .int
abbrev wsX20 : List Cond := u_ws RX2 TX2 0
theorem nmX2 : ∀ a, a < 0 → ∀ b, b < 0 → a ≠ b → (TX2 a).2.1 ≠ (TX2 b).2.1 := by decide +kernel
theorem tyX2_ok : ∀ k, k < 0 → parseFieldDescriptor (TX2 k).2.2.1 = some (tyX2 k) := by decide +kernel
abbrev cX2_init : ByteArray := prog_4_method_1_code
def yX2_init : MethodName := ⟨RX2, "<init>", "()V"⟩
abbrev cX2_allows : ByteArray := prog_4_method_2_code
def yX2_allows : MethodName := ⟨RX2, "allows", "(III)Z"⟩
def RX3 : String := "DoeRoe$Matter"
def TX3 : u_T := fun k => match k with
  | 0 => ("DoeRoe$Matter", "kinds", "[LDoeRoe$Plain;", true)
  | 1 => ("DoeRoe$Matter", "plain", "LDoeRoe$Plain;", true)
  | 2 => ("DoeRoe$Matter", "fictions", "LDoeRoe$Rows;", true)
  | 3 => ("DoeRoe$Matter", "courts", "LDoeRoe$Rows;", true)
  | 4 => ("DoeRoe$Matter", "notes", "LDoeRoe$Rows;", true)
  | 5 => ("DoeRoe$Matter", "hearings", "LDoeRoe$Rows;", true)
  | 6 => ("DoeRoe$Matter", "undos", "LDoeRoe$Rows;", true)
  | 7 => ("DoeRoe$Matter", "trueFacts", "I", false)
  | 8 => ("DoeRoe$Matter", "pleaded", "I", false)
  | 9 => ("DoeRoe$Matter", "steps", "I", false)
  | _ => ("DoeRoe$Matter", "paid", "I", false)
def tyX3 : Nat → FieldType := fun k => match k with
  | 0 => .array (.object "DoeRoe$Plain")
  | 1 => .object "DoeRoe$Plain"
  | 2 => .object "DoeRoe$Rows"
  | 3 => .object "DoeRoe$Rows"
  | 4 => .object "DoeRoe$Rows"
  | 5 => .object "DoeRoe$Rows"
  | 6 => .object "DoeRoe$Rows"
  | 7 => .int
  | 8 => .int
  | 9 => .int
  | _ => .int
abbrev wsX30 : List Cond := u_ws RX3 TX3 11
theorem nmX3 : ∀ a, a < 11 → ∀ b, b < 11 → a ≠ b → (TX3 a).2.1 ≠ (TX3 b).2.1 := by decide +kernel
theorem tyX3_ok : ∀ k, k < 11 → parseFieldDescriptor (TX3 k).2.2.1 = some (tyX3 k) := by decide +kernel
abbrev cX3_init : ByteArray := prog_5_method_1_code
def yX3_init : MethodName := ⟨RX3, "<init>", "([LDoeRoe$Plain;)V"⟩
abbrev cX3_begin : ByteArray := prog_5_method_2_code
def yX3_begin : MethodName := ⟨RX3, "begin", "(I)V"⟩
abbrev cX3_beginSuit : ByteArray := prog_5_method_3_code
def yX3_beginSuit : MethodName := ⟨RX3, "beginSuit", "()V"⟩
abbrev cX3_become : ByteArray := prog_5_method_4_code
def yX3_become : MethodName := ⟨RX3, "become", "(LDoeRoe$Matter;)V"⟩
abbrev cX3_keepForUndo : ByteArray := prog_5_method_5_code
def yX3_keepForUndo : MethodName := ⟨RX3, "keepForUndo", "()V"⟩
abbrev cX3_takeBack : ByteArray := prog_5_method_6_code
def yX3_takeBack : MethodName := ⟨RX3, "takeBack", "()V"⟩
abbrev cX3_allowed : ByteArray := prog_5_method_7_code
def yX3_allowed : MethodName := ⟨RX3, "allowed", "(III)Z"⟩
abbrev cX3_ownCost : ByteArray := prog_5_method_8_code
def yX3_ownCost : MethodName := ⟨RX3, "ownCost", "(II)I"⟩
abbrev cX3_denialWins : ByteArray := prog_5_method_9_code
def yX3_denialWins : MethodName := ⟨RX3, "denialWins", "(I)Z"⟩
abbrev cX3_pleadedThatLose : ByteArray := prog_5_method_10_code
def yX3_pleadedThatLose : MethodName := ⟨RX3, "pleadedThatLose", "()I"⟩
abbrev cX3_factsWith : ByteArray := prog_5_method_11_code
def yX3_factsWith : MethodName := ⟨RX3, "factsWith", "(I)I"⟩
abbrev cX3_courtHears : ByteArray := prog_5_method_12_code
def yX3_courtHears : MethodName := ⟨RX3, "courtHears", "(II)Z"⟩
abbrev cX3_hearing : ByteArray := prog_5_method_13_code
def yX3_hearing : MethodName := ⟨RX3, "hearing", "(I)I"⟩
abbrev cX3_afterTerm : ByteArray := prog_5_method_14_code
def yX3_afterTerm : MethodName := ⟨RX3, "afterTerm", "(III)I"⟩
abbrev cX3_kindsByNotes : ByteArray := prog_5_method_15_code
def yX3_kindsByNotes : MethodName := ⟨RX3, "kindsByNotes", "(I)I"⟩
abbrev cX3_mostAlike : ByteArray := prog_5_method_16_code
def yX3_mostAlike : MethodName := ⟨RX3, "mostAlike", "(III)I"⟩
abbrev cX3_fitsHearings : ByteArray := prog_5_method_17_code
def yX3_fitsHearings : MethodName := ⟨RX3, "fitsHearings", "(I)Z"⟩
abbrev cX3_fitsNotes : ByteArray := prog_5_method_18_code
def yX3_fitsNotes : MethodName := ⟨RX3, "fitsNotes", "(II)Z"⟩
abbrev cX3_costAs : ByteArray := prog_5_method_19_code
def yX3_costAs : MethodName := ⟨RX3, "costAs", "(III)I"⟩
abbrev cX3_alikeWith : ByteArray := prog_5_method_20_code
def yX3_alikeWith : MethodName := ⟨RX3, "alikeWith", "(IIII)I"⟩
abbrev cX3_kindNumbered : ByteArray := prog_5_method_21_code
def yX3_kindNumbered : MethodName := ⟨RX3, "kindNumbered", "(I)LDoeRoe$Plain;"⟩
def RX4 : String := "DoeRoe$Paths"
def TX4 : u_T := fun k => match k with
  | 0 => ("DoeRoe$Paths", "rest", "[I", true)
  | _ => ("DoeRoe$Paths", "first", "[I", true)
def tyX4 : Nat → FieldType := fun k => match k with
  | 0 => .array .int
  | _ => .array .int
abbrev wsX40 : List Cond := u_ws RX4 TX4 2
theorem nmX4 : ∀ a, a < 2 → ∀ b, b < 2 → a ≠ b → (TX4 a).2.1 ≠ (TX4 b).2.1 := by decide +kernel
theorem tyX4_ok : ∀ k, k < 2 → parseFieldDescriptor (TX4 k).2.2.1 = some (tyX4 k) := by decide +kernel
abbrev cX4_init : ByteArray := prog_6_method_1_code
def yX4_init : MethodName := ⟨RX4, "<init>", "()V"⟩
abbrev cX4_measure : ByteArray := prog_6_method_2_code
def yX4_measure : MethodName := ⟨RX4, "measure", "(LDoeRoe$Matter;II)I"⟩
abbrev cX4_fictionAt : ByteArray := prog_6_method_3_code
def yX4_fictionAt : MethodName := ⟨RX4, "fictionAt", "(LDoeRoe$Matter;I)I"⟩
abbrev cX4_reachable : ByteArray := prog_6_method_4_code
def yX4_reachable : MethodName := ⟨RX4, "reachable", "(LDoeRoe$Matter;)I"⟩
abbrev cX4_setsBehind : ByteArray := prog_6_method_5_code
def yX4_setsBehind : MethodName := ⟨RX4, "setsBehind", "(LDoeRoe$Matter;II)J"⟩
abbrev cX4_settle : ByteArray := prog_6_method_6_code
def yX4_settle : MethodName := ⟨RX4, "settle", "(LDoeRoe$Matter;III)V"⟩
abbrev cX4_keep : ByteArray := prog_6_method_7_code
def yX4_keep : MethodName := ⟨RX4, "keep", "(III)V"⟩
abbrev cX4_at : ByteArray := prog_6_method_8_code
def yX4_at : MethodName := ⟨RX4, "at", "([II)I"⟩
abbrev cX4_stepAt : ByteArray := prog_6_method_9_code
def yX4_stepAt : MethodName := ⟨RX4, "stepAt", "(LDoeRoe$Matter;I)I"⟩
abbrev cX4_allFictions : ByteArray := prog_6_method_10_code
def yX4_allFictions : MethodName := ⟨RX4, "allFictions", "(LDoeRoe$Matter;)I"⟩
def RX5 : String := "DoeRoe$Persons"
def TX5 : u_T := fun k => match k with
  | _ => ("", "", "", false)
def tyX5 : Nat → FieldType := fun k => match k with
  | _ => .int
abbrev wsX50 : List Cond := u_ws RX5 TX5 0
theorem nmX5 : ∀ a, a < 0 → ∀ b, b < 0 → a ≠ b → (TX5 a).2.1 ≠ (TX5 b).2.1 := by decide +kernel
theorem tyX5_ok : ∀ k, k < 0 → parseFieldDescriptor (TX5 k).2.2.1 = some (tyX5 k) := by decide +kernel
abbrev cX5_init : ByteArray := prog_7_method_1_code
def yX5_init : MethodName := ⟨RX5, "<init>", "()V"⟩
abbrev cX5_cost : ByteArray := prog_7_method_2_code
def yX5_cost : MethodName := ⟨RX5, "cost", "(II)I"⟩
abbrev cX5_losesWith : ByteArray := prog_7_method_3_code
def yX5_losesWith : MethodName := ⟨RX5, "losesWith", "(I)Z"⟩
def RX6 : String := "DoeRoe$Plain"
def TX6 : u_T := fun k => match k with
  | _ => ("", "", "", false)
def tyX6 : Nat → FieldType := fun k => match k with
  | _ => .int
abbrev wsX60 : List Cond := u_ws RX6 TX6 0
theorem nmX6 : ∀ a, a < 0 → ∀ b, b < 0 → a ≠ b → (TX6 a).2.1 ≠ (TX6 b).2.1 := by decide +kernel
theorem tyX6_ok : ∀ k, k < 0 → parseFieldDescriptor (TX6 k).2.2.1 = some (tyX6 k) := by decide +kernel
abbrev cX6_init : ByteArray := prog_8_method_1_code
def yX6_init : MethodName := ⟨RX6, "<init>", "()V"⟩
abbrev cX6_allows : ByteArray := prog_8_method_2_code
def yX6_allows : MethodName := ⟨RX6, "allows", "(III)Z"⟩
abbrev cX6_cost : ByteArray := prog_8_method_3_code
def yX6_cost : MethodName := ⟨RX6, "cost", "(II)I"⟩
abbrev cX6_losesWith : ByteArray := prog_8_method_4_code
def yX6_losesWith : MethodName := ⟨RX6, "losesWith", "(I)Z"⟩
def RX7 : String := "DoeRoe$Rows"
def TX7 : u_T := fun k => match k with
  | 0 => ("DoeRoe$Rows", "most", "I", true)
  | 1 => ("DoeRoe$Rows", "width", "I", true)
  | 2 => ("DoeRoe$Rows", "cells", "[I", true)
  | _ => ("DoeRoe$Rows", "size", "I", false)
def tyX7 : Nat → FieldType := fun k => match k with
  | 0 => .int
  | 1 => .int
  | 2 => .array .int
  | _ => .int
abbrev wsX70 : List Cond := u_ws RX7 TX7 4
theorem nmX7 : ∀ a, a < 4 → ∀ b, b < 4 → a ≠ b → (TX7 a).2.1 ≠ (TX7 b).2.1 := by decide +kernel
theorem tyX7_ok : ∀ k, k < 4 → parseFieldDescriptor (TX7 k).2.2.1 = some (tyX7 k) := by decide +kernel
abbrev cX7_init : ByteArray := prog_9_method_1_code
def yX7_init : MethodName := ⟨RX7, "<init>", "(II)V"⟩
abbrev cX7_isFull : ByteArray := prog_9_method_2_code
def yX7_isFull : MethodName := ⟨RX7, "isFull", "()Z"⟩
abbrev cX7_empty : ByteArray := prog_9_method_3_code
def yX7_empty : MethodName := ⟨RX7, "empty", "()V"⟩
abbrev cX7_cell : ByteArray := prog_9_method_4_code
def yX7_cell : MethodName := ⟨RX7, "cell", "(II)I"⟩
abbrev cX7_add : ByteArray := prog_9_method_5_code
def yX7_add : MethodName := ⟨RX7, "add", "(IIII)V"⟩
abbrev cX7_dropLast : ByteArray := prog_9_method_6_code
def yX7_dropLast : MethodName := ⟨RX7, "dropLast", "()V"⟩
abbrev cX7_dropFirst : ByteArray := prog_9_method_7_code
def yX7_dropFirst : MethodName := ⟨RX7, "dropFirst", "()V"⟩
abbrev cX7_become : ByteArray := prog_9_method_8_code
def yX7_become : MethodName := ⟨RX7, "become", "(LDoeRoe$Rows;)V"⟩
abbrev cX7_digestFrom : ByteArray := prog_9_method_9_code
def yX7_digestFrom : MethodName := ⟨RX7, "digestFrom", "(J)J"⟩
abbrev cX7_put : ByteArray := prog_9_method_10_code
def yX7_put : MethodName := ⟨RX7, "put", "(III)V"⟩
def RX8 : String := "DoeRoe$Ship"
def TX8 : u_T := fun k => match k with
  | _ => ("", "", "", false)
def tyX8 : Nat → FieldType := fun k => match k with
  | _ => .int
abbrev wsX80 : List Cond := u_ws RX8 TX8 0
theorem nmX8 : ∀ a, a < 0 → ∀ b, b < 0 → a ≠ b → (TX8 a).2.1 ≠ (TX8 b).2.1 := by decide +kernel
theorem tyX8_ok : ∀ k, k < 0 → parseFieldDescriptor (TX8 k).2.2.1 = some (tyX8 k) := by decide +kernel
abbrev cX8_init : ByteArray := prog_10_method_1_code
def yX8_init : MethodName := ⟨RX8, "<init>", "()V"⟩
abbrev cX8_cost : ByteArray := prog_10_method_2_code
def yX8_cost : MethodName := ⟨RX8, "cost", "(II)I"⟩
abbrev cX8_losesWith : ByteArray := prog_10_method_3_code
def yX8_losesWith : MethodName := ⟨RX8, "losesWith", "(I)Z"⟩
def RX9 : String := "DoeRoe$Time"
def TX9 : u_T := fun k => match k with
  | _ => ("", "", "", false)
def tyX9 : Nat → FieldType := fun k => match k with
  | _ => .int
abbrev wsX90 : List Cond := u_ws RX9 TX9 0
theorem nmX9 : ∀ a, a < 0 → ∀ b, b < 0 → a ≠ b → (TX9 a).2.1 ≠ (TX9 b).2.1 := by decide +kernel
theorem tyX9_ok : ∀ k, k < 0 → parseFieldDescriptor (TX9 k).2.2.1 = some (tyX9 k) := by decide +kernel
abbrev cX9_init : ByteArray := prog_11_method_1_code
def yX9_init : MethodName := ⟨RX9, "<init>", "()V"⟩
abbrev cX9_allows : ByteArray := prog_11_method_2_code
def yX9_allows : MethodName := ⟨RX9, "allows", "(III)Z"⟩
abbrev cX9_losesWith : ByteArray := prog_11_method_3_code
def yX9_losesWith : MethodName := ⟨RX9, "losesWith", "(I)Z"⟩
def RX10 : String := "DoeRoe"
def TX10 : u_T := fun k => match k with
  | 0 => ("DoeRoe", "matter", "LDoeRoe$Matter;", true)
  | 1 => ("DoeRoe", "draft", "LDoeRoe$Matter;", true)
  | 2 => ("DoeRoe", "firstImage", "LDoeRoe$Matter;", true)
  | 3 => ("DoeRoe", "secondImage", "LDoeRoe$Matter;", true)
  | 4 => ("DoeRoe", "text", "LDoeRoe$BookText;", true)
  | 5 => ("DoeRoe", "paths", "LDoeRoe$Paths;", true)
  | 6 => ("DoeRoe", "firstKept", "Z", false)
  | 7 => ("DoeRoe", "secondKept", "Z", false)
  | 8 => ("DoeRoe", "above", "J", false)
  | 9 => ("DoeRoe", "below", "J", false)
  | 10 => ("DoeRoe", "bads", "I", false)
  | 11 => ("DoeRoe", "nos", "I", false)
  | _ => ("DoeRoe", "fulls", "I", false)
def tyX10 : Nat → FieldType := fun k => match k with
  | 0 => .object "DoeRoe$Matter"
  | 1 => .object "DoeRoe$Matter"
  | 2 => .object "DoeRoe$Matter"
  | 3 => .object "DoeRoe$Matter"
  | 4 => .object "DoeRoe$BookText"
  | 5 => .object "DoeRoe$Paths"
  | 6 => .boolean
  | 7 => .boolean
  | 8 => .long
  | 9 => .long
  | 10 => .int
  | 11 => .int
  | _ => .int
abbrev wsX100 : List Cond := u_ws RX10 TX10 13
theorem nmX10 : ∀ a, a < 13 → ∀ b, b < 13 → a ≠ b → (TX10 a).2.1 ≠ (TX10 b).2.1 := by decide +kernel
theorem tyX10_ok : ∀ k, k < 13 → parseFieldDescriptor (TX10 k).2.2.1 = some (tyX10 k) := by decide +kernel
abbrev cX10_init : ByteArray := prog_1_method_1_code
def yX10_init : MethodName := ⟨RX10, "<init>", "()V"⟩
abbrev cX10_book : ByteArray := prog_1_method_2_code
def yX10_book : MethodName := ⟨RX10, "book", "(I)I"⟩
abbrev cX10_fiction : ByteArray := prog_1_method_3_code
def yX10_fiction : MethodName := ⟨RX10, "fiction", "(IIII)I"⟩
abbrev cX10_court : ByteArray := prog_1_method_4_code
def yX10_court : MethodName := ⟨RX10, "court", "(II)I"⟩
abbrev cX10_type : ByteArray := prog_1_method_5_code
def yX10_type : MethodName := ⟨RX10, "type", "(I)I"⟩
abbrev cX10_clear : ByteArray := prog_1_method_6_code
def yX10_clear : MethodName := ⟨RX10, "clear", "()I"⟩
abbrev cX10_read : ByteArray := prog_1_method_7_code
def yX10_read : MethodName := ⟨RX10, "read", "()I"⟩
abbrev cX10_suit : ByteArray := prog_1_method_8_code
def yX10_suit : MethodName := ⟨RX10, "suit", "()I"⟩
abbrev cX10_plead : ByteArray := prog_1_method_9_code
def yX10_plead : MethodName := ⟨RX10, "plead", "(I)I"⟩
abbrev cX10_deny : ByteArray := prog_1_method_10_code
def yX10_deny : MethodName := ⟨RX10, "deny", "(I)I"⟩
abbrev cX10_undo : ByteArray := prog_1_method_11_code
def yX10_undo : MethodName := ⟨RX10, "undo", "()I"⟩
abbrev cX10_of : ByteArray := prog_1_method_12_code
def yX10_of : MethodName := ⟨RX10, "of", "(II)I"⟩
abbrev cX10_now : ByteArray := prog_1_method_13_code
def yX10_now : MethodName := ⟨RX10, "now", "(I)I"⟩
abbrev cX10_may : ByteArray := prog_1_method_14_code
def yX10_may : MethodName := ⟨RX10, "may", "()I"⟩
abbrev cX10_hear : ByteArray := prog_1_method_15_code
def yX10_hear : MethodName := ⟨RX10, "hear", "()I"⟩
abbrev cX10_least : ByteArray := prog_1_method_16_code
def yX10_least : MethodName := ⟨RX10, "least", "(III)I"⟩
abbrev cX10_ever : ByteArray := prog_1_method_17_code
def yX10_ever : MethodName := ⟨RX10, "ever", "()I"⟩
abbrev cX10_contradict : ByteArray := prog_1_method_18_code
def yX10_contradict : MethodName := ⟨RX10, "contradict", "()I"⟩
abbrev cX10_giveUp : ByteArray := prog_1_method_19_code
def yX10_giveUp : MethodName := ⟨RX10, "giveUp", "()I"⟩
abbrev cX10_denial : ByteArray := prog_1_method_20_code
def yX10_denial : MethodName := ⟨RX10, "denial", "(I)I"⟩
abbrev cX10_fees : ByteArray := prog_1_method_21_code
def yX10_fees : MethodName := ⟨RX10, "fees", "(I)I"⟩
abbrev cX10_rule : ByteArray := prog_1_method_22_code
def yX10_rule : MethodName := ⟨RX10, "rule", "(I)I"⟩
abbrev cX10_note : ByteArray := prog_1_method_23_code
def yX10_note : MethodName := ⟨RX10, "note", "(III)I"⟩
abbrev cX10_heard : ByteArray := prog_1_method_24_code
def yX10_heard : MethodName := ⟨RX10, "heard", "(II)I"⟩
abbrev cX10_forget : ByteArray := prog_1_method_25_code
def yX10_forget : MethodName := ⟨RX10, "forget", "(I)I"⟩
abbrev cX10_is : ByteArray := prog_1_method_26_code
def yX10_is : MethodName := ⟨RX10, "is", "(I)I"⟩
abbrev cX10_look : ByteArray := prog_1_method_27_code
def yX10_look : MethodName := ⟨RX10, "look", "(I)I"⟩
abbrev cX10_truth : ByteArray := prog_1_method_28_code
def yX10_truth : MethodName := ⟨RX10, "truth", "(I)I"⟩
abbrev cX10_odds : ByteArray := prog_1_method_29_code
def yX10_odds : MethodName := ⟨RX10, "odds", "(II)I"⟩
abbrev cX10_terms : ByteArray := prog_1_method_30_code
def yX10_terms : MethodName := ⟨RX10, "terms", "(II)I"⟩
abbrev cX10_part : ByteArray := prog_1_method_31_code
def yX10_part : MethodName := ⟨RX10, "part", "(I)J"⟩
abbrev cX10_image : ByteArray := prog_1_method_32_code
def yX10_image : MethodName := ⟨RX10, "image", "(I)I"⟩
abbrev cX10_from : ByteArray := prog_1_method_33_code
def yX10_from : MethodName := ⟨RX10, "from", "(I)I"⟩
abbrev cX10_status : ByteArray := prog_1_method_34_code
def yX10_status : MethodName := ⟨RX10, "status", "(I)I"⟩
abbrev cX10_count : ByteArray := prog_1_method_35_code
def yX10_count : MethodName := ⟨RX10, "count", "(I)I"⟩
abbrev cX10_digest : ByteArray := prog_1_method_36_code
def yX10_digest : MethodName := ⟨RX10, "digest", "()J"⟩
abbrev cX10_refuseBad : ByteArray := prog_1_method_37_code
def yX10_refuseBad : MethodName := ⟨RX10, "refuseBad", "()I"⟩
abbrev cX10_refuseNo : ByteArray := prog_1_method_38_code
def yX10_refuseNo : MethodName := ⟨RX10, "refuseNo", "()I"⟩
abbrev cX10_refuseFull : ByteArray := prog_1_method_39_code
def yX10_refuseFull : MethodName := ⟨RX10, "refuseFull", "()I"⟩
abbrev cX10_within : ByteArray := prog_1_method_40_code
def yX10_within : MethodName := ⟨RX10, "within", "(III)Z"⟩
abbrev cX10_isFiction : ByteArray := prog_1_method_41_code
def yX10_isFiction : MethodName := ⟨RX10, "isFiction", "(I)Z"⟩
abbrev cX10_isCourt : ByteArray := prog_1_method_42_code
def yX10_isCourt : MethodName := ⟨RX10, "isCourt", "(I)Z"⟩
abbrev cX10_isPleaded : ByteArray := prog_1_method_43_code
def yX10_isPleaded : MethodName := ⟨RX10, "isPleaded", "(I)Z"⟩
abbrev cX10_mayPlead : ByteArray := prog_1_method_44_code
def yX10_mayPlead : MethodName := ⟨RX10, "mayPlead", "(I)Z"⟩
abbrev cX10_supposed : ByteArray := prog_1_method_45_code
def yX10_supposed : MethodName := ⟨RX10, "supposed", "()I"⟩
abbrev cX10_holds : ByteArray := prog_1_method_46_code
def yX10_holds : MethodName := ⟨RX10, "holds", "(II)Z"⟩
abbrev cX10_fewer : ByteArray := prog_1_method_47_code
def yX10_fewer : MethodName := ⟨RX10, "fewer", "(II)Z"⟩
abbrev cX10_contradictIn : ByteArray := prog_1_method_48_code
def yX10_contradictIn : MethodName := ⟨RX10, "contradictIn", "(I)Z"⟩
abbrev cX10_pairsIn : ByteArray := prog_1_method_49_code
def yX10_pairsIn : MethodName := ⟨RX10, "pairsIn", "(I)I"⟩
abbrev cX10_gainOfOne : ByteArray := prog_1_method_50_code
def yX10_gainOfOne : MethodName := ⟨RX10, "gainOfOne", "(IIZ)I"⟩
abbrev cX10_gainOfOther : ByteArray := prog_1_method_51_code
def yX10_gainOfOther : MethodName := ⟨RX10, "gainOfOther", "(IIZ)I"⟩
abbrev cX10_power : ByteArray := prog_1_method_52_code
def yX10_power : MethodName := ⟨RX10, "power", "(II)J"⟩
abbrev cX10_keepFraction : ByteArray := prog_1_method_53_code
def yX10_keepFraction : MethodName := ⟨RX10, "keepFraction", "(JJ)V"⟩
abbrev cX10_commonDivisor : ByteArray := prog_1_method_54_code
def yX10_commonDivisor : MethodName := ⟨RX10, "commonDivisor", "(JJ)J"⟩
def RX11 : String := "DoeRoeModel"
def TX11 : u_T := fun k => match k with
  | 0 => ("DoeRoeModel", "row", "[I", true)
  | 1 => ("DoeRoeModel", "isKept", "[Z", true)
  | 2 => ("DoeRoeModel", "refused", "[I", true)
  | 3 => ("DoeRoeModel", "above", "J", false)
  | 4 => ("DoeRoeModel", "below", "J", false)
  | 5 => ("DoeRoeModel", "text", "[I", true)
  | 6 => ("DoeRoeModel", "length", "I", false)
  | 7 => ("DoeRoeModel", "words", "[I", true)
  | 8 => ("DoeRoeModel", "at", "I", false)
  | 9 => ("DoeRoeModel", "behind", "I", false)
  | 10 => ("DoeRoeModel", "readTrue", "I", false)
  | 11 => ("DoeRoeModel", "readFictions", "[I", true)
  | 12 => ("DoeRoeModel", "readMany", "I", false)
  | 13 => ("DoeRoeModel", "readCourts", "[I", true)
  | 14 => ("DoeRoeModel", "readCourtMany", "I", false)
  | 15 => ("DoeRoeModel", "choices", "[I", true)
  | 16 => ("DoeRoeModel", "pleadedBy", "[I", true)
  | 17 => ("DoeRoeModel", "costs", "[I", true)
  | 18 => ("DoeRoeModel", "rowSize", "I", false)
  | 19 => ("DoeRoeModel", "isBegun", "Z", false)
  | 20 => ("DoeRoeModel", "bestRow", "[I", true)
  | _ => ("DoeRoeModel", "bestSize", "I", false)
def tyX11 : Nat → FieldType := fun k => match k with
  | 0 => .array .int
  | 1 => .array .boolean
  | 2 => .array .int
  | 3 => .long
  | 4 => .long
  | 5 => .array .int
  | 6 => .int
  | 7 => .array .int
  | 8 => .int
  | 9 => .int
  | 10 => .int
  | 11 => .array .int
  | 12 => .int
  | 13 => .array .int
  | 14 => .int
  | 15 => .array .int
  | 16 => .array .int
  | 17 => .array .int
  | 18 => .int
  | 19 => .boolean
  | 20 => .array .int
  | _ => .int
abbrev wsX110 : List Cond := u_ws RX11 TX11 22
theorem nmX11 : ∀ a, a < 22 → ∀ b, b < 22 → a ≠ b → (TX11 a).2.1 ≠ (TX11 b).2.1 := by decide +kernel
theorem tyX11_ok : ∀ k, k < 22 → parseFieldDescriptor (TX11 k).2.2.1 = some (tyX11 k) := by decide +kernel
abbrev cX11_init : ByteArray := prog_13_method_1_code
def yX11_init : MethodName := ⟨RX11, "<init>", "()V"⟩
abbrev cX11_in : ByteArray := prog_13_method_2_code
def yX11_in : MethodName := ⟨RX11, "in", "(III)Z"⟩
abbrev cX11_has : ByteArray := prog_13_method_3_code
def yX11_has : MethodName := ⟨RX11, "has", "(II)Z"⟩
abbrev cX11_bits : ByteArray := prog_13_method_4_code
def yX11_bits : MethodName := ⟨RX11, "bits", "(I)I"⟩
abbrev cX11_refuse : ByteArray := prog_13_method_5_code
def yX11_refuse : MethodName := ⟨RX11, "refuse", "(I)I"⟩
abbrev cX11_badTen : ByteArray := prog_13_method_6_code
def yX11_badTen : MethodName := ⟨RX11, "badTen", "()I"⟩
abbrev cX11_layBook : ByteArray := prog_13_method_7_code
def yX11_layBook : MethodName := ⟨RX11, "layBook", "(I)V"⟩
abbrev cX11_book : ByteArray := prog_13_method_8_code
def yX11_book : MethodName := ⟨RX11, "book", "(I)I"⟩
abbrev cX11_addFiction : ByteArray := prog_13_method_9_code
def yX11_addFiction : MethodName := ⟨RX11, "addFiction", "(IIII)V"⟩
abbrev cX11_fiction : ByteArray := prog_13_method_10_code
def yX11_fiction : MethodName := ⟨RX11, "fiction", "(IIII)I"⟩
abbrev cX11_addCourt : ByteArray := prog_13_method_11_code
def yX11_addCourt : MethodName := ⟨RX11, "addCourt", "(II)V"⟩
abbrev cX11_court : ByteArray := prog_13_method_12_code
def yX11_court : MethodName := ⟨RX11, "court", "(II)I"⟩
abbrev cX11_type : ByteArray := prog_13_method_13_code
def yX11_type : MethodName := ⟨RX11, "type", "(I)I"⟩
abbrev cX11_clear : ByteArray := prog_13_method_14_code
def yX11_clear : MethodName := ⟨RX11, "clear", "()I"⟩
abbrev cX11_isLetter : ByteArray := prog_13_method_15_code
def yX11_isLetter : MethodName := ⟨RX11, "isLetter", "(I)Z"⟩
abbrev cX11_isFigure : ByteArray := prog_13_method_16_code
def yX11_isFigure : MethodName := ⟨RX11, "isFigure", "(I)Z"⟩
abbrev cX11_next : ByteArray := prog_13_method_17_code
def yX11_next : MethodName := ⟨RX11, "next", "()V"⟩
abbrev cX11_isWord : ByteArray := prog_13_method_18_code
def yX11_isWord : MethodName := ⟨RX11, "isWord", "(I)Z"⟩
abbrev cX11_wordHere : ByteArray := prog_13_method_19_code
def yX11_wordHere : MethodName := ⟨RX11, "wordHere", "()I"⟩
abbrev cX11_numberHere : ByteArray := prog_13_method_20_code
def yX11_numberHere : MethodName := ⟨RX11, "numberHere", "(II)I"⟩
abbrev cX11_number : ByteArray := prog_13_method_21_code
def yX11_number : MethodName := ⟨RX11, "number", "(II)I"⟩
abbrev cX11_facts : ByteArray := prog_13_method_22_code
def yX11_facts : MethodName := ⟨RX11, "facts", "()I"⟩
abbrev cX11_readsFiction : ByteArray := prog_13_method_23_code
def yX11_readsFiction : MethodName := ⟨RX11, "readsFiction", "()Z"⟩
abbrev cX11_readsCourt : ByteArray := prog_13_method_24_code
def yX11_readsCourt : MethodName := ⟨RX11, "readsCourt", "()Z"⟩
abbrev cX11_readItems : ByteArray := prog_13_method_25_code
def yX11_readItems : MethodName := ⟨RX11, "readItems", "()I"⟩
abbrev cX11_read : ByteArray := prog_13_method_26_code
def yX11_read : MethodName := ⟨RX11, "read", "()I"⟩
abbrev cX11_isFiction : ByteArray := prog_13_method_27_code
def yX11_isFiction : MethodName := ⟨RX11, "isFiction", "(I)Z"⟩
abbrev cX11_isCourt : ByteArray := prog_13_method_28_code
def yX11_isCourt : MethodName := ⟨RX11, "isCourt", "(I)Z"⟩
abbrev cX11_supposedBy : ByteArray := prog_13_method_29_code
def yX11_supposedBy : MethodName := ⟨RX11, "supposedBy", "(I)I"⟩
abbrev cX11_costBy : ByteArray := prog_13_method_30_code
def yX11_costBy : MethodName := ⟨RX11, "costBy", "(III)I"⟩
abbrev cX11_cost : ByteArray := prog_13_method_31_code
def yX11_cost : MethodName := ⟨RX11, "cost", "(II)I"⟩
abbrev cX11_wins : ByteArray := prog_13_method_32_code
def yX11_wins : MethodName := ⟨RX11, "wins", "(I)Z"⟩
abbrev cX11_mayPlead : ByteArray := prog_13_method_33_code
def yX11_mayPlead : MethodName := ⟨RX11, "mayPlead", "(III)Z"⟩
abbrev cX11_keepPast : ByteArray := prog_13_method_34_code
def yX11_keepPast : MethodName := ⟨RX11, "keepPast", "()V"⟩
abbrev cX11_suit : ByteArray := prog_13_method_35_code
def yX11_suit : MethodName := ⟨RX11, "suit", "()I"⟩
abbrev cX11_pleadAt : ByteArray := prog_13_method_36_code
def yX11_pleadAt : MethodName := ⟨RX11, "pleadAt", "(II)V"⟩
abbrev cX11_plead : ByteArray := prog_13_method_37_code
def yX11_plead : MethodName := ⟨RX11, "plead", "(I)I"⟩
abbrev cX11_denyAt : ByteArray := prog_13_method_38_code
def yX11_denyAt : MethodName := ⟨RX11, "denyAt", "(II)I"⟩
abbrev cX11_deny : ByteArray := prog_13_method_39_code
def yX11_deny : MethodName := ⟨RX11, "deny", "(I)I"⟩
abbrev cX11_undo : ByteArray := prog_13_method_40_code
def yX11_undo : MethodName := ⟨RX11, "undo", "()I"⟩
abbrev cX11_of : ByteArray := prog_13_method_41_code
def yX11_of : MethodName := ⟨RX11, "of", "(II)I"⟩
abbrev cX11_nowOf : ByteArray := prog_13_method_42_code
def yX11_nowOf : MethodName := ⟨RX11, "nowOf", "(I)I"⟩
abbrev cX11_now : ByteArray := prog_13_method_43_code
def yX11_now : MethodName := ⟨RX11, "now", "(I)I"⟩
abbrev cX11_may : ByteArray := prog_13_method_44_code
def yX11_may : MethodName := ⟨RX11, "may", "()I"⟩
abbrev cX11_hears : ByteArray := prog_13_method_45_code
def yX11_hears : MethodName := ⟨RX11, "hears", "(II)Z"⟩
abbrev cX11_hearBy : ByteArray := prog_13_method_46_code
def yX11_hearBy : MethodName := ⟨RX11, "hearBy", "(I)I"⟩
abbrev cX11_hear : ByteArray := prog_13_method_47_code
def yX11_hear : MethodName := ⟨RX11, "hear", "()I"⟩
abbrev cX11_beginRows : ByteArray := prog_13_method_48_code
def yX11_beginRows : MethodName := ⟨RX11, "beginRows", "()V"⟩
abbrev cX11_nextRow : ByteArray := prog_13_method_49_code
def yX11_nextRow : MethodName := ⟨RX11, "nextRow", "()Z"⟩
abbrev cX11_bestTo : ByteArray := prog_13_method_50_code
def yX11_bestTo : MethodName := ⟨RX11, "bestTo", "(II)I"⟩
abbrev cX11_least : ByteArray := prog_13_method_51_code
def yX11_least : MethodName := ⟨RX11, "least", "(III)I"⟩
abbrev cX11_ever : ByteArray := prog_13_method_52_code
def yX11_ever : MethodName := ⟨RX11, "ever", "()I"⟩
abbrev cX11_pairsOf : ByteArray := prog_13_method_53_code
def yX11_pairsOf : MethodName := ⟨RX11, "pairsOf", "(I)I"⟩
abbrev cX11_contradict : ByteArray := prog_13_method_54_code
def yX11_contradict : MethodName := ⟨RX11, "contradict", "()I"⟩
abbrev cX11_giveUp : ByteArray := prog_13_method_55_code
def yX11_giveUp : MethodName := ⟨RX11, "giveUp", "()I"⟩
abbrev cX11_oneGets : ByteArray := prog_13_method_56_code
def yX11_oneGets : MethodName := ⟨RX11, "oneGets", "(ZII)I"⟩
abbrev cX11_otherGets : ByteArray := prog_13_method_57_code
def yX11_otherGets : MethodName := ⟨RX11, "otherGets", "(ZII)I"⟩
abbrev cX11_denial : ByteArray := prog_13_method_58_code
def yX11_denial : MethodName := ⟨RX11, "denial", "(I)I"⟩
abbrev cX11_fees : ByteArray := prog_13_method_59_code
def yX11_fees : MethodName := ⟨RX11, "fees", "(I)I"⟩
abbrev cX11_rule : ByteArray := prog_13_method_60_code
def yX11_rule : MethodName := ⟨RX11, "rule", "(I)I"⟩
abbrev cX11_note : ByteArray := prog_13_method_61_code
def yX11_note : MethodName := ⟨RX11, "note", "(III)I"⟩
abbrev cX11_heard : ByteArray := prog_13_method_62_code
def yX11_heard : MethodName := ⟨RX11, "heard", "(II)I"⟩
abbrev cX11_forget : ByteArray := prog_13_method_63_code
def yX11_forget : MethodName := ⟨RX11, "forget", "(I)I"⟩
abbrev cX11_kindsOf : ByteArray := prog_13_method_64_code
def yX11_kindsOf : MethodName := ⟨RX11, "kindsOf", "(I)I"⟩
abbrev cX11_is : ByteArray := prog_13_method_65_code
def yX11_is : MethodName := ⟨RX11, "is", "(I)I"⟩
abbrev cX11_mostAlike : ByteArray := prog_13_method_66_code
def yX11_mostAlike : MethodName := ⟨RX11, "mostAlike", "(III)I"⟩
abbrev cX11_look : ByteArray := prog_13_method_67_code
def yX11_look : MethodName := ⟨RX11, "look", "(I)I"⟩
abbrev cX11_mayBeTrue : ByteArray := prog_13_method_68_code
def yX11_mayBeTrue : MethodName := ⟨RX11, "mayBeTrue", "(I)Z"⟩
abbrev cX11_truth : ByteArray := prog_13_method_69_code
def yX11_truth : MethodName := ⟨RX11, "truth", "(I)I"⟩
abbrev cX11_tellPart : ByteArray := prog_13_method_70_code
def yX11_tellPart : MethodName := ⟨RX11, "tellPart", "(JJ)V"⟩
abbrev cX11_odds : ByteArray := prog_13_method_71_code
def yX11_odds : MethodName := ⟨RX11, "odds", "(II)I"⟩
abbrev cX11_terms : ByteArray := prog_13_method_72_code
def yX11_terms : MethodName := ⟨RX11, "terms", "(II)I"⟩
abbrev cX11_part : ByteArray := prog_13_method_73_code
def yX11_part : MethodName := ⟨RX11, "part", "(I)J"⟩
abbrev cX11_image : ByteArray := prog_13_method_74_code
def yX11_image : MethodName := ⟨RX11, "image", "(I)I"⟩
abbrev cX11_from : ByteArray := prog_13_method_75_code
def yX11_from : MethodName := ⟨RX11, "from", "(I)I"⟩
abbrev cX11_status : ByteArray := prog_13_method_76_code
def yX11_status : MethodName := ⟨RX11, "status", "(I)I"⟩
abbrev cX11_countOf : ByteArray := prog_13_method_77_code
def yX11_countOf : MethodName := ⟨RX11, "countOf", "(I)I"⟩
abbrev cX11_count : ByteArray := prog_13_method_78_code
def yX11_count : MethodName := ⟨RX11, "count", "(I)I"⟩
abbrev cX11_digest : ByteArray := prog_13_method_79_code
def yX11_digest : MethodName := ⟨RX11, "digest", "()J"⟩
def RJ6 : String := "java/lang/Integer"
def TJ6 : u_T := fun k => match k with
  | _ => ("", "", "", false)
def tyJ6 : Nat → FieldType := fun k => match k with
  | _ => .int
abbrev wsJ60 : List Cond := u_ws RJ6 TJ6 0
theorem nmJ6 : ∀ a, a < 0 → ∀ b, b < 0 → a ≠ b → (TJ6 a).2.1 ≠ (TJ6 b).2.1 := by decide +kernel
theorem tyJ6_ok : ∀ k, k < 0 → parseFieldDescriptor (TJ6 k).2.2.1 = some (tyJ6 k) := by decide +kernel
abbrev cJ6_bitCount_0f7a4 : ByteArray := prog_14_method_49_code
def yJ6_bitCount_0f7a4 : MethodName := ⟨RJ6, "bitCount", "(I)I"⟩
def RJ9 : String := "java/lang/Math"
def TJ9 : u_T := fun k => match k with
  | _ => ("", "", "", false)
def tyJ9 : Nat → FieldType := fun k => match k with
  | _ => .int
abbrev wsJ90 : List Cond := u_ws RJ9 TJ9 0
theorem nmJ9 : ∀ a, a < 0 → ∀ b, b < 0 → a ≠ b → (TJ9 a).2.1 ≠ (TJ9 b).2.1 := by decide +kernel
theorem tyJ9_ok : ∀ k, k < 0 → parseFieldDescriptor (TJ9 k).2.2.1 = some (tyJ9 k) := by decide +kernel
abbrev cJ9_max_7cf53 : ByteArray := prog_15_method_65_code
def yJ9_max_7cf53 : MethodName := ⟨RJ9, "max", "(II)I"⟩
def RJ0 : String := "java/lang/String"
def TJ0 : u_T := fun k => match k with
  | _ => ("", "", "", false)
def tyJ0 : Nat → FieldType := fun k => match k with
  | _ => .int
abbrev wsJ00 : List Cond := u_ws RJ0 TJ0 0
theorem nmJ0 : ∀ a, a < 0 → ∀ b, b < 0 → a ≠ b → (TJ0 a).2.1 ≠ (TJ0 b).2.1 := by decide +kernel
theorem tyJ0_ok : ∀ k, k < 0 → parseFieldDescriptor (TJ0 k).2.2.1 = some (tyJ0 k) := by decide +kernel
abbrev cJ0_length_8abf5 : ByteArray := prog_16_method_54_code
def yJ0_length_8abf5 : MethodName := ⟨RJ0, "length", "()I"⟩
abbrev cJ0_charAt_5068e : ByteArray := prog_16_method_56_code
def yJ0_charAt_5068e : MethodName := ⟨RJ0, "charAt", "(I)C"⟩
abbrev cJ0_coder_7d493 : ByteArray := prog_16_method_152_code
def yJ0_coder_7d493 : MethodName := ⟨RJ0, "coder", "()B"⟩
abbrev cJ0_isLatin1_aae02 : ByteArray := prog_16_method_154_code
def yJ0_isLatin1_aae02 : MethodName := ⟨RJ0, "isLatin1", "()Z"⟩
abbrev cJ0_checkIndex_df160 : ByteArray := prog_16_method_155_code
def yJ0_checkIndex_df160 : MethodName := ⟨RJ0, "checkIndex", "(II)V"⟩
def RJ1 : String := "java/lang/StringLatin1"
def TJ1 : u_T := fun k => match k with
  | _ => ("", "", "", false)
def tyJ1 : Nat → FieldType := fun k => match k with
  | _ => .int
abbrev wsJ10 : List Cond := u_ws RJ1 TJ1 0
theorem nmJ1 : ∀ a, a < 0 → ∀ b, b < 0 → a ≠ b → (TJ1 a).2.1 ≠ (TJ1 b).2.1 := by decide +kernel
theorem tyJ1_ok : ∀ k, k < 0 → parseFieldDescriptor (TJ1 k).2.2.1 = some (tyJ1 k) := by decide +kernel
abbrev cJ1_charAt_3b067 : ByteArray := prog_17_method_2_code
def yJ1_charAt_3b067 : MethodName := ⟨RJ1, "charAt", "([BI)C"⟩
def RJ2 : String := "java/lang/StringUTF16"
def TJ2 : u_T := fun k => match k with
  | _ => ("", "", "", false)
def tyJ2 : Nat → FieldType := fun k => match k with
  | _ => .int
abbrev wsJ20 : List Cond := u_ws RJ2 TJ2 0
theorem nmJ2 : ∀ a, a < 0 → ∀ b, b < 0 → a ≠ b → (TJ2 a).2.1 ≠ (TJ2 b).2.1 := by decide +kernel
theorem tyJ2_ok : ∀ k, k < 0 → parseFieldDescriptor (TJ2 k).2.2.1 = some (tyJ2 k) := by decide +kernel
abbrev cJ2_getChar_3b067 : ByteArray := prog_18_method_5_code
def yJ2_getChar_3b067 : MethodName := ⟨RJ2, "getChar", "([BI)C"⟩
abbrev cJ2_length_9d52b : ByteArray := prog_18_method_6_code
def yJ2_length_9d52b : MethodName := ⟨RJ2, "length", "([B)I"⟩
abbrev cJ2_charAt_3b067 : ByteArray := prog_18_method_83_code
def yJ2_charAt_3b067 : MethodName := ⟨RJ2, "charAt", "([BI)C"⟩
abbrev cJ2_checkIndex_2214a : ByteArray := prog_18_method_91_code
def yJ2_checkIndex_2214a : MethodName := ⟨RJ2, "checkIndex", "(I[B)V"⟩
def RJ3 : String := "jdk/internal/util/Preconditions"
def TJ3 : u_T := fun k => match k with
  | _ => ("", "", "", false)
def tyJ3 : Nat → FieldType := fun k => match k with
  | _ => .int
abbrev wsJ30 : List Cond := u_ws RJ3 TJ3 0
theorem nmJ3 : ∀ a, a < 0 → ∀ b, b < 0 → a ≠ b → (TJ3 a).2.1 ≠ (TJ3 b).2.1 := by decide +kernel
theorem tyJ3_ok : ∀ k, k < 0 → parseFieldDescriptor (TJ3 k).2.2.1 = some (tyJ3 k) := by decide +kernel
abbrev cJ3_checkIndex_8e157 : ByteArray := prog_19_method_11_code
def yJ3_checkIndex_8e157 : MethodName := ⟨RJ3, "checkIndex", "(IILjava/util/function/BiFunction;)I"⟩
def RL : String := "DoeRoeLaw"
abbrev cL_law : ByteArray := code
def yL_law : MethodName := ⟨RL, "law", "([I)Z"⟩
abbrev classes : List vw_C := [(RX0, TX0, 12), (RX1, TX1, 0), (RX2, TX2, 0), (RX3, TX3, 11), (RX4, TX4, 2), (RX5, TX5, 0), (RX6, TX6, 0), (RX7, TX7, 4), (RX8, TX8, 0), (RX9, TX9, 0), (RX10, TX10, 13), (RX11, TX11, 22)]

def gw_tbl : List Cond := lw_tbl.filter goodWord
theorem gw_lw {w : Cond} (h : w ∈ gw_tbl) : w ∈ lw_tbl := (List.mem_filter.mp h).1
theorem gw_good {w : Cond} (h : w ∈ gw_tbl) : (w.onTables && w.keeps) = true ∨ ∃ ty, w = .arrayClass ty := good_of_word (List.mem_filter.mp h).2
theorem gw_mem {w : Cond} (i : Nat) (h : lw_tbl[i]? = some w) (g : goodWord w = true) : w ∈ gw_tbl := List.mem_filter.mpr ⟨List.mem_of_getElem? h, g⟩
theorem gw_in {x z : Cond} (hz : z ∈ gw_tbl) : GoodIn (x :: gw_tbl) (z :: gw_tbl) := by
  intro w hw
  rcases List.mem_cons.mp hw with rfl | h
  · exact ⟨List.mem_cons_of_mem _ hz, gw_good hz⟩
  · exact ⟨List.mem_cons_of_mem _ h, gw_good h⟩
theorem gw_inL {z : Cond} (hz : z ∈ gw_tbl) : GoodIn lw_tbl (z :: gw_tbl) := by
  intro w hw
  rcases List.mem_cons.mp hw with rfl | h
  · exact ⟨gw_lw hz, gw_good hz⟩
  · exact ⟨gw_lw h, gw_good h⟩
