section
/-- a private method of a class that the tables say can be made, by its rows of tables_1 -/
def lw_okq (q : MethodName × Nat) : Prop := (q.1.cls ≠ "java/lang/invoke/MethodHandle" ∧ q.1.cls ≠ "java/lang/invoke/VarHandle") ∧ Cond.instantiable q.1.cls q.2 ∈ tables_1 ∧ Cond.privateMethod q.1 ∈ tables_1 ∧ Cond.instanceMethod q.1 ∈ tables_1
theorem lw_p0 : lw_okq (⟨"DoeRoe", "refuseBad", "()I"⟩, 13) := ⟨⟨by decide +kernel, by decide +kernel⟩, List.mem_of_getElem? (i := 20) (by decide +kernel), List.mem_of_getElem? (i := 240) (by decide +kernel), List.mem_of_getElem? (i := 241) (by decide +kernel)⟩
theorem lw_p1 : lw_okq (⟨"DoeRoe", "refuseFull", "()I"⟩, 13) := ⟨⟨by decide +kernel, by decide +kernel⟩, List.mem_of_getElem? (i := 20) (by decide +kernel), List.mem_of_getElem? (i := 264) (by decide +kernel), List.mem_of_getElem? (i := 265) (by decide +kernel)⟩
theorem lw_p2 : lw_okq (⟨"DoeRoe$Rows", "put", "(III)V"⟩, 4) := ⟨⟨by decide +kernel, by decide +kernel⟩, List.mem_of_getElem? (i := 79) (by decide +kernel), List.mem_of_getElem? (i := 273) (by decide +kernel), List.mem_of_getElem? (i := 274) (by decide +kernel)⟩
theorem lw_p3 : lw_okq (⟨"DoeRoe$BookText", "advance", "()V"⟩, 6) := ⟨⟨by decide +kernel, by decide +kernel⟩, List.mem_of_getElem? (i := 154) (by decide +kernel), List.mem_of_getElem? (i := 307) (by decide +kernel), List.mem_of_getElem? (i := 308) (by decide +kernel)⟩
theorem lw_p4 : lw_okq (⟨"DoeRoe$BookText", "byteAt", "(I)I"⟩, 6) := ⟨⟨by decide +kernel, by decide +kernel⟩, List.mem_of_getElem? (i := 154) (by decide +kernel), List.mem_of_getElem? (i := 311) (by decide +kernel), List.mem_of_getElem? (i := 312) (by decide +kernel)⟩
theorem lw_p5 : lw_okq (⟨"DoeRoe$BookText", "advanceOverWord", "()V"⟩, 6) := ⟨⟨by decide +kernel, by decide +kernel⟩, List.mem_of_getElem? (i := 154) (by decide +kernel), List.mem_of_getElem? (i := 318) (by decide +kernel), List.mem_of_getElem? (i := 319) (by decide +kernel)⟩
theorem lw_p6 : lw_okq (⟨"DoeRoe$BookText", "standsThere", "(Ljava/lang/String;)Z"⟩, 6) := ⟨⟨by decide +kernel, by decide +kernel⟩, List.mem_of_getElem? (i := 154) (by decide +kernel), List.mem_of_getElem? (i := 323) (by decide +kernel), List.mem_of_getElem? (i := 324) (by decide +kernel)⟩
theorem lw_p7 : lw_okq (⟨"DoeRoe$BookText", "advanceOverFigures", "()V"⟩, 6) := ⟨⟨by decide +kernel, by decide +kernel⟩, List.mem_of_getElem? (i := 154) (by decide +kernel), List.mem_of_getElem? (i := 380) (by decide +kernel), List.mem_of_getElem? (i := 381) (by decide +kernel)⟩
theorem lw_p8 : lw_okq (⟨"DoeRoe$BookText", "takeItem", "(LDoeRoe$Matter;Z)Z"⟩, 6) := ⟨⟨by decide +kernel, by decide +kernel⟩, List.mem_of_getElem? (i := 154) (by decide +kernel), List.mem_of_getElem? (i := 384) (by decide +kernel), List.mem_of_getElem? (i := 385) (by decide +kernel)⟩
theorem lw_p9 : lw_okq (⟨"DoeRoe$BookText", "takeFiction", "(LDoeRoe$Matter;)Z"⟩, 6) := ⟨⟨by decide +kernel, by decide +kernel⟩, List.mem_of_getElem? (i := 154) (by decide +kernel), List.mem_of_getElem? (i := 392) (by decide +kernel), List.mem_of_getElem? (i := 393) (by decide +kernel)⟩
theorem lw_p10 : lw_okq (⟨"DoeRoe$BookText", "takeNumber", "(I)I"⟩, 6) := ⟨⟨by decide +kernel, by decide +kernel⟩, List.mem_of_getElem? (i := 154) (by decide +kernel), List.mem_of_getElem? (i := 396) (by decide +kernel), List.mem_of_getElem? (i := 397) (by decide +kernel)⟩
theorem lw_p11 : lw_okq (⟨"DoeRoe$BookText", "takeFacts", "()I"⟩, 6) := ⟨⟨by decide +kernel, by decide +kernel⟩, List.mem_of_getElem? (i := 154) (by decide +kernel), List.mem_of_getElem? (i := 400) (by decide +kernel), List.mem_of_getElem? (i := 401) (by decide +kernel)⟩
theorem lw_p12 : lw_okq (⟨"DoeRoe$BookText", "takeCourt", "(LDoeRoe$Matter;)Z"⟩, 6) := ⟨⟨by decide +kernel, by decide +kernel⟩, List.mem_of_getElem? (i := 154) (by decide +kernel), List.mem_of_getElem? (i := 405) (by decide +kernel), List.mem_of_getElem? (i := 406) (by decide +kernel)⟩
theorem lw_p13 : lw_okq (⟨"DoeRoe$BookText", "takeBook", "(LDoeRoe$Matter;)Z"⟩, 6) := ⟨⟨by decide +kernel, by decide +kernel⟩, List.mem_of_getElem? (i := 154) (by decide +kernel), List.mem_of_getElem? (i := 409) (by decide +kernel), List.mem_of_getElem? (i := 410) (by decide +kernel)⟩
theorem lw_p14 : lw_okq (⟨"DoeRoe", "isFiction", "(I)Z"⟩, 13) := ⟨⟨by decide +kernel, by decide +kernel⟩, List.mem_of_getElem? (i := 20) (by decide +kernel), List.mem_of_getElem? (i := 437) (by decide +kernel), List.mem_of_getElem? (i := 438) (by decide +kernel)⟩
theorem lw_p15 : lw_okq (⟨"DoeRoe", "mayPlead", "(I)Z"⟩, 13) := ⟨⟨by decide +kernel, by decide +kernel⟩, List.mem_of_getElem? (i := 20) (by decide +kernel), List.mem_of_getElem? (i := 441) (by decide +kernel), List.mem_of_getElem? (i := 442) (by decide +kernel)⟩
def lw_privs_1 : List (MethodName × Nat) := [(⟨"DoeRoe", "refuseBad", "()I"⟩, 13), (⟨"DoeRoe", "refuseFull", "()I"⟩, 13), (⟨"DoeRoe$Rows", "put", "(III)V"⟩, 4), (⟨"DoeRoe$BookText", "advance", "()V"⟩, 6), (⟨"DoeRoe$BookText", "byteAt", "(I)I"⟩, 6), (⟨"DoeRoe$BookText", "advanceOverWord", "()V"⟩, 6), (⟨"DoeRoe$BookText", "standsThere", "(Ljava/lang/String;)Z"⟩, 6), (⟨"DoeRoe$BookText", "advanceOverFigures", "()V"⟩, 6), (⟨"DoeRoe$BookText", "takeItem", "(LDoeRoe$Matter;Z)Z"⟩, 6), (⟨"DoeRoe$BookText", "takeFiction", "(LDoeRoe$Matter;)Z"⟩, 6), (⟨"DoeRoe$BookText", "takeNumber", "(I)I"⟩, 6), (⟨"DoeRoe$BookText", "takeFacts", "()I"⟩, 6), (⟨"DoeRoe$BookText", "takeCourt", "(LDoeRoe$Matter;)Z"⟩, 6), (⟨"DoeRoe$BookText", "takeBook", "(LDoeRoe$Matter;)Z"⟩, 6), (⟨"DoeRoe", "isFiction", "(I)Z"⟩, 13), (⟨"DoeRoe", "mayPlead", "(I)Z"⟩, 13)]
theorem lw_r1 : ∀ q ∈ lw_privs_1, lw_okq q := List.forall_mem_cons.mpr ⟨lw_p0, List.forall_mem_cons.mpr ⟨lw_p1, List.forall_mem_cons.mpr ⟨lw_p2, List.forall_mem_cons.mpr ⟨lw_p3, List.forall_mem_cons.mpr ⟨lw_p4, List.forall_mem_cons.mpr ⟨lw_p5, List.forall_mem_cons.mpr ⟨lw_p6, List.forall_mem_cons.mpr ⟨lw_p7, List.forall_mem_cons.mpr ⟨lw_p8, List.forall_mem_cons.mpr ⟨lw_p9, List.forall_mem_cons.mpr ⟨lw_p10, List.forall_mem_cons.mpr ⟨lw_p11, List.forall_mem_cons.mpr ⟨lw_p12, List.forall_mem_cons.mpr ⟨lw_p13, List.forall_mem_cons.mpr ⟨lw_p14, List.forall_mem_cons.mpr ⟨lw_p15, fun _ h => absurd h List.not_mem_nil⟩⟩⟩⟩⟩⟩⟩⟩⟩⟩⟩⟩⟩⟩⟩⟩
theorem lw_p16 : lw_okq (⟨"DoeRoe", "isPleaded", "(I)Z"⟩, 13) := ⟨⟨by decide +kernel, by decide +kernel⟩, List.mem_of_getElem? (i := 20) (by decide +kernel), List.mem_of_getElem? (i := 445) (by decide +kernel), List.mem_of_getElem? (i := 446) (by decide +kernel)⟩
theorem lw_p17 : lw_okq (⟨"DoeRoe", "supposed", "()I"⟩, 13) := ⟨⟨by decide +kernel, by decide +kernel⟩, List.mem_of_getElem? (i := 20) (by decide +kernel), List.mem_of_getElem? (i := 452) (by decide +kernel), List.mem_of_getElem? (i := 453) (by decide +kernel)⟩
theorem lw_p18 : lw_okq (⟨"DoeRoe$Matter", "kindNumbered", "(I)LDoeRoe$Plain;"⟩, 11) := ⟨⟨by decide +kernel, by decide +kernel⟩, List.mem_of_getElem? (i := 71) (by decide +kernel), List.mem_of_getElem? (i := 470) (by decide +kernel), List.mem_of_getElem? (i := 471) (by decide +kernel)⟩
theorem lw_p19 : lw_okq (⟨"DoeRoe", "refuseNo", "()I"⟩, 13) := ⟨⟨by decide +kernel, by decide +kernel⟩, List.mem_of_getElem? (i := 20) (by decide +kernel), List.mem_of_getElem? (i := 495) (by decide +kernel), List.mem_of_getElem? (i := 496) (by decide +kernel)⟩
theorem lw_p20 : lw_okq (⟨"DoeRoe", "isCourt", "(I)Z"⟩, 13) := ⟨⟨by decide +kernel, by decide +kernel⟩, List.mem_of_getElem? (i := 20) (by decide +kernel), List.mem_of_getElem? (i := 598) (by decide +kernel), List.mem_of_getElem? (i := 599) (by decide +kernel)⟩
theorem lw_p21 : lw_okq (⟨"DoeRoe$Paths", "settle", "(LDoeRoe$Matter;III)V"⟩, 2) := ⟨⟨by decide +kernel, by decide +kernel⟩, List.mem_of_getElem? (i := 180) (by decide +kernel), List.mem_of_getElem? (i := 609) (by decide +kernel), List.mem_of_getElem? (i := 610) (by decide +kernel)⟩
theorem lw_p22 : lw_okq (⟨"DoeRoe$Paths", "keep", "(III)V"⟩, 2) := ⟨⟨by decide +kernel, by decide +kernel⟩, List.mem_of_getElem? (i := 180) (by decide +kernel), List.mem_of_getElem? (i := 615) (by decide +kernel), List.mem_of_getElem? (i := 616) (by decide +kernel)⟩
theorem lw_p23 : lw_okq (⟨"DoeRoe$Paths", "setsBehind", "(LDoeRoe$Matter;II)J"⟩, 2) := ⟨⟨by decide +kernel, by decide +kernel⟩, List.mem_of_getElem? (i := 180) (by decide +kernel), List.mem_of_getElem? (i := 641) (by decide +kernel), List.mem_of_getElem? (i := 642) (by decide +kernel)⟩
theorem lw_p24 : lw_okq (⟨"DoeRoe$Matter", "fitsNotes", "(II)Z"⟩, 11) := ⟨⟨by decide +kernel, by decide +kernel⟩, List.mem_of_getElem? (i := 71) (by decide +kernel), List.mem_of_getElem? (i := 700) (by decide +kernel), List.mem_of_getElem? (i := 701) (by decide +kernel)⟩
theorem lw_p25 : lw_okq (⟨"DoeRoe$Matter", "costAs", "(III)I"⟩, 11) := ⟨⟨by decide +kernel, by decide +kernel⟩, List.mem_of_getElem? (i := 71) (by decide +kernel), List.mem_of_getElem? (i := 704) (by decide +kernel), List.mem_of_getElem? (i := 705) (by decide +kernel)⟩
theorem lw_p26 : lw_okq (⟨"DoeRoe$Matter", "alikeWith", "(IIII)I"⟩, 11) := ⟨⟨by decide +kernel, by decide +kernel⟩, List.mem_of_getElem? (i := 71) (by decide +kernel), List.mem_of_getElem? (i := 716) (by decide +kernel), List.mem_of_getElem? (i := 717) (by decide +kernel)⟩
theorem lw_p27 : lw_okq (⟨"DoeRoe", "keepFraction", "(JJ)V"⟩, 13) := ⟨⟨by decide +kernel, by decide +kernel⟩, List.mem_of_getElem? (i := 20) (by decide +kernel), List.mem_of_getElem? (i := 742) (by decide +kernel), List.mem_of_getElem? (i := 743) (by decide +kernel)⟩
theorem lw_p28 : lw_okq (⟨"DoeRoeModel", "refuse", "(I)I"⟩, 22) := ⟨⟨by decide +kernel, by decide +kernel⟩, List.mem_of_getElem? (i := 799) (by decide +kernel), List.mem_of_getElem? (i := 880) (by decide +kernel), List.mem_of_getElem? (i := 881) (by decide +kernel)⟩
theorem lw_p29 : lw_okq (⟨"DoeRoeModel", "layBook", "(I)V"⟩, 22) := ⟨⟨by decide +kernel, by decide +kernel⟩, List.mem_of_getElem? (i := 799) (by decide +kernel), List.mem_of_getElem? (i := 884) (by decide +kernel), List.mem_of_getElem? (i := 885) (by decide +kernel)⟩
theorem lw_p30 : lw_okq (⟨"DoeRoeModel", "addFiction", "(IIII)V"⟩, 22) := ⟨⟨by decide +kernel, by decide +kernel⟩, List.mem_of_getElem? (i := 799) (by decide +kernel), List.mem_of_getElem? (i := 892) (by decide +kernel), List.mem_of_getElem? (i := 893) (by decide +kernel)⟩
theorem lw_p31 : lw_okq (⟨"DoeRoeModel", "addCourt", "(II)V"⟩, 22) := ⟨⟨by decide +kernel, by decide +kernel⟩, List.mem_of_getElem? (i := 799) (by decide +kernel), List.mem_of_getElem? (i := 900) (by decide +kernel), List.mem_of_getElem? (i := 901) (by decide +kernel)⟩
def lw_privs_2 : List (MethodName × Nat) := [(⟨"DoeRoe", "isPleaded", "(I)Z"⟩, 13), (⟨"DoeRoe", "supposed", "()I"⟩, 13), (⟨"DoeRoe$Matter", "kindNumbered", "(I)LDoeRoe$Plain;"⟩, 11), (⟨"DoeRoe", "refuseNo", "()I"⟩, 13), (⟨"DoeRoe", "isCourt", "(I)Z"⟩, 13), (⟨"DoeRoe$Paths", "settle", "(LDoeRoe$Matter;III)V"⟩, 2), (⟨"DoeRoe$Paths", "keep", "(III)V"⟩, 2), (⟨"DoeRoe$Paths", "setsBehind", "(LDoeRoe$Matter;II)J"⟩, 2), (⟨"DoeRoe$Matter", "fitsNotes", "(II)Z"⟩, 11), (⟨"DoeRoe$Matter", "costAs", "(III)I"⟩, 11), (⟨"DoeRoe$Matter", "alikeWith", "(IIII)I"⟩, 11), (⟨"DoeRoe", "keepFraction", "(JJ)V"⟩, 13), (⟨"DoeRoeModel", "refuse", "(I)I"⟩, 22), (⟨"DoeRoeModel", "layBook", "(I)V"⟩, 22), (⟨"DoeRoeModel", "addFiction", "(IIII)V"⟩, 22), (⟨"DoeRoeModel", "addCourt", "(II)V"⟩, 22)]
theorem lw_r2 : ∀ q ∈ lw_privs_2, lw_okq q := List.forall_mem_cons.mpr ⟨lw_p16, List.forall_mem_cons.mpr ⟨lw_p17, List.forall_mem_cons.mpr ⟨lw_p18, List.forall_mem_cons.mpr ⟨lw_p19, List.forall_mem_cons.mpr ⟨lw_p20, List.forall_mem_cons.mpr ⟨lw_p21, List.forall_mem_cons.mpr ⟨lw_p22, List.forall_mem_cons.mpr ⟨lw_p23, List.forall_mem_cons.mpr ⟨lw_p24, List.forall_mem_cons.mpr ⟨lw_p25, List.forall_mem_cons.mpr ⟨lw_p26, List.forall_mem_cons.mpr ⟨lw_p27, List.forall_mem_cons.mpr ⟨lw_p28, List.forall_mem_cons.mpr ⟨lw_p29, List.forall_mem_cons.mpr ⟨lw_p30, List.forall_mem_cons.mpr ⟨lw_p31, fun _ h => absurd h List.not_mem_nil⟩⟩⟩⟩⟩⟩⟩⟩⟩⟩⟩⟩⟩⟩⟩⟩
theorem lw_p32 : lw_okq (⟨"DoeRoeModel", "readItems", "()I"⟩, 22) := ⟨⟨by decide +kernel, by decide +kernel⟩, List.mem_of_getElem? (i := 799) (by decide +kernel), List.mem_of_getElem? (i := 916) (by decide +kernel), List.mem_of_getElem? (i := 917) (by decide +kernel)⟩
theorem lw_p33 : lw_okq (⟨"DoeRoeModel", "next", "()V"⟩, 22) := ⟨⟨by decide +kernel, by decide +kernel⟩, List.mem_of_getElem? (i := 799) (by decide +kernel), List.mem_of_getElem? (i := 920) (by decide +kernel), List.mem_of_getElem? (i := 921) (by decide +kernel)⟩
theorem lw_p34 : lw_okq (⟨"DoeRoeModel", "isLetter", "(I)Z"⟩, 22) := ⟨⟨by decide +kernel, by decide +kernel⟩, List.mem_of_getElem? (i := 799) (by decide +kernel), List.mem_of_getElem? (i := 924) (by decide +kernel), List.mem_of_getElem? (i := 925) (by decide +kernel)⟩
theorem lw_p35 : lw_okq (⟨"DoeRoeModel", "isFigure", "(I)Z"⟩, 22) := ⟨⟨by decide +kernel, by decide +kernel⟩, List.mem_of_getElem? (i := 799) (by decide +kernel), List.mem_of_getElem? (i := 928) (by decide +kernel), List.mem_of_getElem? (i := 929) (by decide +kernel)⟩
theorem lw_p36 : lw_okq (⟨"DoeRoeModel", "wordHere", "()I"⟩, 22) := ⟨⟨by decide +kernel, by decide +kernel⟩, List.mem_of_getElem? (i := 799) (by decide +kernel), List.mem_of_getElem? (i := 932) (by decide +kernel), List.mem_of_getElem? (i := 933) (by decide +kernel)⟩
theorem lw_p37 : lw_okq (⟨"DoeRoeModel", "isWord", "(I)Z"⟩, 22) := ⟨⟨by decide +kernel, by decide +kernel⟩, List.mem_of_getElem? (i := 799) (by decide +kernel), List.mem_of_getElem? (i := 936) (by decide +kernel), List.mem_of_getElem? (i := 937) (by decide +kernel)⟩
theorem lw_p38 : lw_okq (⟨"DoeRoeModel", "facts", "()I"⟩, 22) := ⟨⟨by decide +kernel, by decide +kernel⟩, List.mem_of_getElem? (i := 799) (by decide +kernel), List.mem_of_getElem? (i := 940) (by decide +kernel), List.mem_of_getElem? (i := 941) (by decide +kernel)⟩
theorem lw_p39 : lw_okq (⟨"DoeRoeModel", "numberHere", "(II)I"⟩, 22) := ⟨⟨by decide +kernel, by decide +kernel⟩, List.mem_of_getElem? (i := 799) (by decide +kernel), List.mem_of_getElem? (i := 944) (by decide +kernel), List.mem_of_getElem? (i := 945) (by decide +kernel)⟩
theorem lw_p40 : lw_okq (⟨"DoeRoeModel", "readsFiction", "()Z"⟩, 22) := ⟨⟨by decide +kernel, by decide +kernel⟩, List.mem_of_getElem? (i := 799) (by decide +kernel), List.mem_of_getElem? (i := 948) (by decide +kernel), List.mem_of_getElem? (i := 949) (by decide +kernel)⟩
theorem lw_p41 : lw_okq (⟨"DoeRoeModel", "number", "(II)I"⟩, 22) := ⟨⟨by decide +kernel, by decide +kernel⟩, List.mem_of_getElem? (i := 799) (by decide +kernel), List.mem_of_getElem? (i := 952) (by decide +kernel), List.mem_of_getElem? (i := 953) (by decide +kernel)⟩
theorem lw_p42 : lw_okq (⟨"DoeRoeModel", "readsCourt", "()Z"⟩, 22) := ⟨⟨by decide +kernel, by decide +kernel⟩, List.mem_of_getElem? (i := 799) (by decide +kernel), List.mem_of_getElem? (i := 956) (by decide +kernel), List.mem_of_getElem? (i := 957) (by decide +kernel)⟩
theorem lw_p43 : lw_okq (⟨"DoeRoeModel", "isFiction", "(I)Z"⟩, 22) := ⟨⟨by decide +kernel, by decide +kernel⟩, List.mem_of_getElem? (i := 799) (by decide +kernel), List.mem_of_getElem? (i := 971) (by decide +kernel), List.mem_of_getElem? (i := 972) (by decide +kernel)⟩
theorem lw_p44 : lw_okq (⟨"DoeRoeModel", "mayPlead", "(III)Z"⟩, 22) := ⟨⟨by decide +kernel, by decide +kernel⟩, List.mem_of_getElem? (i := 799) (by decide +kernel), List.mem_of_getElem? (i := 975) (by decide +kernel), List.mem_of_getElem? (i := 976) (by decide +kernel)⟩
theorem lw_p45 : lw_okq (⟨"DoeRoeModel", "supposedBy", "(I)I"⟩, 22) := ⟨⟨by decide +kernel, by decide +kernel⟩, List.mem_of_getElem? (i := 799) (by decide +kernel), List.mem_of_getElem? (i := 979) (by decide +kernel), List.mem_of_getElem? (i := 980) (by decide +kernel)⟩
theorem lw_p46 : lw_okq (⟨"DoeRoeModel", "keepPast", "()V"⟩, 22) := ⟨⟨by decide +kernel, by decide +kernel⟩, List.mem_of_getElem? (i := 799) (by decide +kernel), List.mem_of_getElem? (i := 986) (by decide +kernel), List.mem_of_getElem? (i := 987) (by decide +kernel)⟩
theorem lw_p47 : lw_okq (⟨"DoeRoeModel", "pleadAt", "(II)V"⟩, 22) := ⟨⟨by decide +kernel, by decide +kernel⟩, List.mem_of_getElem? (i := 799) (by decide +kernel), List.mem_of_getElem? (i := 990) (by decide +kernel), List.mem_of_getElem? (i := 991) (by decide +kernel)⟩
def lw_privs_3 : List (MethodName × Nat) := [(⟨"DoeRoeModel", "readItems", "()I"⟩, 22), (⟨"DoeRoeModel", "next", "()V"⟩, 22), (⟨"DoeRoeModel", "isLetter", "(I)Z"⟩, 22), (⟨"DoeRoeModel", "isFigure", "(I)Z"⟩, 22), (⟨"DoeRoeModel", "wordHere", "()I"⟩, 22), (⟨"DoeRoeModel", "isWord", "(I)Z"⟩, 22), (⟨"DoeRoeModel", "facts", "()I"⟩, 22), (⟨"DoeRoeModel", "numberHere", "(II)I"⟩, 22), (⟨"DoeRoeModel", "readsFiction", "()Z"⟩, 22), (⟨"DoeRoeModel", "number", "(II)I"⟩, 22), (⟨"DoeRoeModel", "readsCourt", "()Z"⟩, 22), (⟨"DoeRoeModel", "isFiction", "(I)Z"⟩, 22), (⟨"DoeRoeModel", "mayPlead", "(III)Z"⟩, 22), (⟨"DoeRoeModel", "supposedBy", "(I)I"⟩, 22), (⟨"DoeRoeModel", "keepPast", "()V"⟩, 22), (⟨"DoeRoeModel", "pleadAt", "(II)V"⟩, 22)]
theorem lw_r3 : ∀ q ∈ lw_privs_3, lw_okq q := List.forall_mem_cons.mpr ⟨lw_p32, List.forall_mem_cons.mpr ⟨lw_p33, List.forall_mem_cons.mpr ⟨lw_p34, List.forall_mem_cons.mpr ⟨lw_p35, List.forall_mem_cons.mpr ⟨lw_p36, List.forall_mem_cons.mpr ⟨lw_p37, List.forall_mem_cons.mpr ⟨lw_p38, List.forall_mem_cons.mpr ⟨lw_p39, List.forall_mem_cons.mpr ⟨lw_p40, List.forall_mem_cons.mpr ⟨lw_p41, List.forall_mem_cons.mpr ⟨lw_p42, List.forall_mem_cons.mpr ⟨lw_p43, List.forall_mem_cons.mpr ⟨lw_p44, List.forall_mem_cons.mpr ⟨lw_p45, List.forall_mem_cons.mpr ⟨lw_p46, List.forall_mem_cons.mpr ⟨lw_p47, fun _ h => absurd h List.not_mem_nil⟩⟩⟩⟩⟩⟩⟩⟩⟩⟩⟩⟩⟩⟩⟩⟩
theorem lw_p48 : lw_okq (⟨"DoeRoeModel", "cost", "(II)I"⟩, 22) := ⟨⟨by decide +kernel, by decide +kernel⟩, List.mem_of_getElem? (i := 799) (by decide +kernel), List.mem_of_getElem? (i := 994) (by decide +kernel), List.mem_of_getElem? (i := 995) (by decide +kernel)⟩
theorem lw_p49 : lw_okq (⟨"DoeRoeModel", "denyAt", "(II)I"⟩, 22) := ⟨⟨by decide +kernel, by decide +kernel⟩, List.mem_of_getElem? (i := 799) (by decide +kernel), List.mem_of_getElem? (i := 1005) (by decide +kernel), List.mem_of_getElem? (i := 1006) (by decide +kernel)⟩
theorem lw_p50 : lw_okq (⟨"DoeRoeModel", "wins", "(I)Z"⟩, 22) := ⟨⟨by decide +kernel, by decide +kernel⟩, List.mem_of_getElem? (i := 799) (by decide +kernel), List.mem_of_getElem? (i := 1009) (by decide +kernel), List.mem_of_getElem? (i := 1010) (by decide +kernel)⟩
theorem lw_p51 : lw_okq (⟨"DoeRoeModel", "nowOf", "(I)I"⟩, 22) := ⟨⟨by decide +kernel, by decide +kernel⟩, List.mem_of_getElem? (i := 799) (by decide +kernel), List.mem_of_getElem? (i := 1025) (by decide +kernel), List.mem_of_getElem? (i := 1026) (by decide +kernel)⟩
theorem lw_p52 : lw_okq (⟨"DoeRoeModel", "hearBy", "(I)I"⟩, 22) := ⟨⟨by decide +kernel, by decide +kernel⟩, List.mem_of_getElem? (i := 799) (by decide +kernel), List.mem_of_getElem? (i := 1037) (by decide +kernel), List.mem_of_getElem? (i := 1038) (by decide +kernel)⟩
theorem lw_p53 : lw_okq (⟨"DoeRoeModel", "hears", "(II)Z"⟩, 22) := ⟨⟨by decide +kernel, by decide +kernel⟩, List.mem_of_getElem? (i := 799) (by decide +kernel), List.mem_of_getElem? (i := 1041) (by decide +kernel), List.mem_of_getElem? (i := 1042) (by decide +kernel)⟩
theorem lw_p54 : lw_okq (⟨"DoeRoeModel", "isCourt", "(I)Z"⟩, 22) := ⟨⟨by decide +kernel, by decide +kernel⟩, List.mem_of_getElem? (i := 799) (by decide +kernel), List.mem_of_getElem? (i := 1049) (by decide +kernel), List.mem_of_getElem? (i := 1050) (by decide +kernel)⟩
theorem lw_p55 : lw_okq (⟨"DoeRoeModel", "badTen", "()I"⟩, 22) := ⟨⟨by decide +kernel, by decide +kernel⟩, List.mem_of_getElem? (i := 799) (by decide +kernel), List.mem_of_getElem? (i := 1053) (by decide +kernel), List.mem_of_getElem? (i := 1054) (by decide +kernel)⟩
theorem lw_p56 : lw_okq (⟨"DoeRoeModel", "bestTo", "(II)I"⟩, 22) := ⟨⟨by decide +kernel, by decide +kernel⟩, List.mem_of_getElem? (i := 799) (by decide +kernel), List.mem_of_getElem? (i := 1057) (by decide +kernel), List.mem_of_getElem? (i := 1058) (by decide +kernel)⟩
theorem lw_p57 : lw_okq (⟨"DoeRoeModel", "beginRows", "()V"⟩, 22) := ⟨⟨by decide +kernel, by decide +kernel⟩, List.mem_of_getElem? (i := 799) (by decide +kernel), List.mem_of_getElem? (i := 1061) (by decide +kernel), List.mem_of_getElem? (i := 1062) (by decide +kernel)⟩
theorem lw_p58 : lw_okq (⟨"DoeRoeModel", "nextRow", "()Z"⟩, 22) := ⟨⟨by decide +kernel, by decide +kernel⟩, List.mem_of_getElem? (i := 799) (by decide +kernel), List.mem_of_getElem? (i := 1065) (by decide +kernel), List.mem_of_getElem? (i := 1066) (by decide +kernel)⟩
theorem lw_p59 : lw_okq (⟨"DoeRoeModel", "kindsOf", "(I)I"⟩, 22) := ⟨⟨by decide +kernel, by decide +kernel⟩, List.mem_of_getElem? (i := 799) (by decide +kernel), List.mem_of_getElem? (i := 1118) (by decide +kernel), List.mem_of_getElem? (i := 1119) (by decide +kernel)⟩
theorem lw_p60 : lw_okq (⟨"DoeRoeModel", "mostAlike", "(III)I"⟩, 22) := ⟨⟨by decide +kernel, by decide +kernel⟩, List.mem_of_getElem? (i := 799) (by decide +kernel), List.mem_of_getElem? (i := 1126) (by decide +kernel), List.mem_of_getElem? (i := 1127) (by decide +kernel)⟩
theorem lw_p61 : lw_okq (⟨"DoeRoeModel", "mayBeTrue", "(I)Z"⟩, 22) := ⟨⟨by decide +kernel, by decide +kernel⟩, List.mem_of_getElem? (i := 799) (by decide +kernel), List.mem_of_getElem? (i := 1134) (by decide +kernel), List.mem_of_getElem? (i := 1135) (by decide +kernel)⟩
theorem lw_p62 : lw_okq (⟨"DoeRoeModel", "tellPart", "(JJ)V"⟩, 22) := ⟨⟨by decide +kernel, by decide +kernel⟩, List.mem_of_getElem? (i := 799) (by decide +kernel), List.mem_of_getElem? (i := 1142) (by decide +kernel), List.mem_of_getElem? (i := 1143) (by decide +kernel)⟩
theorem lw_p63 : lw_okq (⟨"DoeRoeModel", "countOf", "(I)I"⟩, 22) := ⟨⟨by decide +kernel, by decide +kernel⟩, List.mem_of_getElem? (i := 799) (by decide +kernel), List.mem_of_getElem? (i := 1176) (by decide +kernel), List.mem_of_getElem? (i := 1177) (by decide +kernel)⟩
def lw_privs_4 : List (MethodName × Nat) := [(⟨"DoeRoeModel", "cost", "(II)I"⟩, 22), (⟨"DoeRoeModel", "denyAt", "(II)I"⟩, 22), (⟨"DoeRoeModel", "wins", "(I)Z"⟩, 22), (⟨"DoeRoeModel", "nowOf", "(I)I"⟩, 22), (⟨"DoeRoeModel", "hearBy", "(I)I"⟩, 22), (⟨"DoeRoeModel", "hears", "(II)Z"⟩, 22), (⟨"DoeRoeModel", "isCourt", "(I)Z"⟩, 22), (⟨"DoeRoeModel", "badTen", "()I"⟩, 22), (⟨"DoeRoeModel", "bestTo", "(II)I"⟩, 22), (⟨"DoeRoeModel", "beginRows", "()V"⟩, 22), (⟨"DoeRoeModel", "nextRow", "()Z"⟩, 22), (⟨"DoeRoeModel", "kindsOf", "(I)I"⟩, 22), (⟨"DoeRoeModel", "mostAlike", "(III)I"⟩, 22), (⟨"DoeRoeModel", "mayBeTrue", "(I)Z"⟩, 22), (⟨"DoeRoeModel", "tellPart", "(JJ)V"⟩, 22), (⟨"DoeRoeModel", "countOf", "(I)I"⟩, 22)]
theorem lw_r4 : ∀ q ∈ lw_privs_4, lw_okq q := List.forall_mem_cons.mpr ⟨lw_p48, List.forall_mem_cons.mpr ⟨lw_p49, List.forall_mem_cons.mpr ⟨lw_p50, List.forall_mem_cons.mpr ⟨lw_p51, List.forall_mem_cons.mpr ⟨lw_p52, List.forall_mem_cons.mpr ⟨lw_p53, List.forall_mem_cons.mpr ⟨lw_p54, List.forall_mem_cons.mpr ⟨lw_p55, List.forall_mem_cons.mpr ⟨lw_p56, List.forall_mem_cons.mpr ⟨lw_p57, List.forall_mem_cons.mpr ⟨lw_p58, List.forall_mem_cons.mpr ⟨lw_p59, List.forall_mem_cons.mpr ⟨lw_p60, List.forall_mem_cons.mpr ⟨lw_p61, List.forall_mem_cons.mpr ⟨lw_p62, List.forall_mem_cons.mpr ⟨lw_p63, fun _ h => absurd h List.not_mem_nil⟩⟩⟩⟩⟩⟩⟩⟩⟩⟩⟩⟩⟩⟩⟩⟩
def lw_privs : List (MethodName × Nat) := lw_privs_1 ++ (lw_privs_2 ++ (lw_privs_3 ++ (lw_privs_4)))
def lw_tbl : List Cond := k2_sels lw_privs ++ tables_1
theorem lw_privs_ok : ∀ q ∈ lw_privs, lw_okq q := by
  show ∀ q ∈ lw_privs_1 ++ (lw_privs_2 ++ (lw_privs_3 ++ (lw_privs_4))), lw_okq q
  exact List.forall_mem_append.mpr ⟨lw_r1, List.forall_mem_append.mpr ⟨lw_r2, List.forall_mem_append.mpr ⟨lw_r3, lw_r4⟩⟩⟩
def RX0 : String := "DoeRoe$BookText"
def TX0 : u_T := fun k => match k with
  | 0 => ("DoeRoe$BookText", "bytes", "[I", true)
  | 1 => ("DoeRoe$BookText", "length", "I", false)
  | 2 => ("DoeRoe$BookText", "token", "I", false)
  | 3 => ("DoeRoe$BookText", "place", "I", false)
  | 4 => ("DoeRoe$BookText", "number", "I", false)
  | _ => ("DoeRoe$BookText", "next", "I", false)
def tyX0 : Nat → FieldType := fun k => match k with
  | 0 => .array .int
  | 1 => .int
  | 2 => .int
  | 3 => .int
  | 4 => .int
  | _ => .int
abbrev wsX00 : List Cond := u_ws RX0 TX0 6
theorem nmX0 : ∀ a, a < 6 → ∀ b, b < 6 → a ≠ b → (TX0 a).2.1 ≠ (TX0 b).2.1 := by decide +kernel
theorem tyX0_ok : ∀ k, k < 6 → parseFieldDescriptor (TX0 k).2.2.1 = some (tyX0 k) := by decide +kernel
abbrev cX0_init : ByteArray := prog_2_method_1_code
def yX0_init : MethodName := ⟨RX0, "<init>", "()V"⟩
abbrev cX0_isFull : ByteArray := prog_2_method_2_code
def yX0_isFull : MethodName := ⟨RX0, "isFull", "()Z"⟩
abbrev cX0_add : ByteArray := prog_2_method_3_code
def yX0_add : MethodName := ⟨RX0, "add", "(I)V"⟩
abbrev cX0_readInto : ByteArray := prog_2_method_4_code
def yX0_readInto : MethodName := ⟨RX0, "readInto", "(LDoeRoe$Matter;)I"⟩
abbrev cX0_takeItem : ByteArray := prog_2_method_5_code
def yX0_takeItem : MethodName := ⟨RX0, "takeItem", "(LDoeRoe$Matter;Z)Z"⟩
abbrev cX0_mayBegin : ByteArray := prog_2_method_6_code
def yX0_mayBegin : MethodName := ⟨RX0, "mayBegin", "(ILDoeRoe$Matter;Z)Z"⟩
abbrev cX0_takeBook : ByteArray := prog_2_method_7_code
def yX0_takeBook : MethodName := ⟨RX0, "takeBook", "(LDoeRoe$Matter;)Z"⟩
abbrev cX0_takeFiction : ByteArray := prog_2_method_8_code
def yX0_takeFiction : MethodName := ⟨RX0, "takeFiction", "(LDoeRoe$Matter;)Z"⟩
abbrev cX0_takeCourt : ByteArray := prog_2_method_9_code
def yX0_takeCourt : MethodName := ⟨RX0, "takeCourt", "(LDoeRoe$Matter;)Z"⟩
abbrev cX0_takeFacts : ByteArray := prog_2_method_10_code
def yX0_takeFacts : MethodName := ⟨RX0, "takeFacts", "()I"⟩
abbrev cX0_takeNumber : ByteArray := prog_2_method_11_code
def yX0_takeNumber : MethodName := ⟨RX0, "takeNumber", "(I)I"⟩
abbrev cX0_advance : ByteArray := prog_2_method_12_code
def yX0_advance : MethodName := ⟨RX0, "advance", "()V"⟩
abbrev cX0_advanceOverWord : ByteArray := prog_2_method_13_code
def yX0_advanceOverWord : MethodName := ⟨RX0, "advanceOverWord", "()V"⟩
abbrev cX0_advanceOverFigures : ByteArray := prog_2_method_14_code
def yX0_advanceOverFigures : MethodName := ⟨RX0, "advanceOverFigures", "()V"⟩
abbrev cX0_standsThere : ByteArray := prog_2_method_15_code
def yX0_standsThere : MethodName := ⟨RX0, "standsThere", "(Ljava/lang/String;)Z"⟩
abbrev cX0_byteAt : ByteArray := prog_2_method_16_code
def yX0_byteAt : MethodName := ⟨RX0, "byteAt", "(I)I"⟩
abbrev cX0_isLetter : ByteArray := prog_2_method_17_code
def yX0_isLetter : MethodName := ⟨RX0, "isLetter", "(I)Z"⟩
abbrev cX0_isFigure : ByteArray := prog_2_method_18_code
def yX0_isFigure : MethodName := ⟨RX0, "isFigure", "(I)Z"⟩
def RX1 : String := "DoeRoe$Force"
def TX1 : u_T := fun k => match k with
  | _ => ("", "", "", false)
def tyX1 : Nat → FieldType := fun k => match k with
  | _ => .int
abbrev wsX10 : List Cond := u_ws RX1 TX1 0
theorem nmX1 : ∀ a, a < 0 → ∀ b, b < 0 → a ≠ b → (TX1 a).2.1 ≠ (TX1 b).2.1 := by decide +kernel
theorem tyX1_ok : ∀ k, k < 0 → parseFieldDescriptor (TX1 k).2.2.1 = some (tyX1 k) := by decide +kernel
abbrev cX1_init : ByteArray := prog_3_method_1_code
def yX1_init : MethodName := ⟨RX1, "<init>", "()V"⟩
abbrev cX1_allows : ByteArray := prog_3_method_2_code
def yX1_allows : MethodName := ⟨RX1, "allows", "(III)Z"⟩
abbrev cX1_cost : ByteArray := prog_3_method_3_code
def yX1_cost : MethodName := ⟨RX1, "cost", "(II)I"⟩
def RX2 : String := "DoeRoe$Letter"
def TX2 : u_T := fun k => match k with
  | _ => ("", "", "", false)
def tyX2 : Nat → FieldType := fun k => match k with
  | _ => .int
abbrev wsX20 : List Cond := u_ws RX2 TX2 0
theorem nmX2 : ∀ a, a < 0 → ∀ b, b < 0 → a ≠ b → (TX2 a).2.1 ≠ (TX2 b).2.1 := by decide +kernel
theorem tyX2_ok : ∀ k, k < 0 → parseFieldDescriptor (TX2 k).2.2.1 = some (tyX2 k) := by decide +kernel
abbrev cX2_init : ByteArray := prog_4_method_1_code
def yX2_init : MethodName := ⟨RX2, "<init>", "()V"⟩
abbrev cX2_allows : ByteArray := prog_4_method_2_code
def yX2_allows : MethodName := ⟨RX2, "allows", "(III)Z"⟩
def RX3 : String := "DoeRoe$Matter"
def TX3 : u_T := fun k => match k with
  | 0 => ("DoeRoe$Matter", "kinds", "[LDoeRoe$Plain;", true)
  | 1 => ("DoeRoe$Matter", "plain", "LDoeRoe$Plain;", true)
  | 2 => ("DoeRoe$Matter", "fictions", "LDoeRoe$Rows;", true)
  | 3 => ("DoeRoe$Matter", "courts", "LDoeRoe$Rows;", true)
  | 4 => ("DoeRoe$Matter", "notes", "LDoeRoe$Rows;", true)
  | 5 => ("DoeRoe$Matter", "hearings", "LDoeRoe$Rows;", true)
  | 6 => ("DoeRoe$Matter", "undos", "LDoeRoe$Rows;", true)
  | 7 => ("DoeRoe$Matter", "trueFacts", "I", false)
  | 8 => ("DoeRoe$Matter", "pleaded", "I", false)
  | 9 => ("DoeRoe$Matter", "steps", "I", false)
  | _ => ("DoeRoe$Matter", "paid", "I", false)
def tyX3 : Nat → FieldType := fun k => match k with
  | 0 => .array (.object "DoeRoe$Plain")
  | 1 => .object "DoeRoe$Plain"
  | 2 => .object "DoeRoe$Rows"
  | 3 => .object "DoeRoe$Rows"
  | 4 => .object "DoeRoe$Rows"
  | 5 => .object "DoeRoe$Rows"
  | 6 => .object "DoeRoe$Rows"
  | 7 => .int
  | 8 => .int
  | 9 => .int
  | _ => .int
abbrev wsX30 : List Cond := u_ws RX3 TX3 11
theorem nmX3 : ∀ a, a < 11 → ∀ b, b < 11 → a ≠ b → (TX3 a).2.1 ≠ (TX3 b).2.1 := by decide +kernel
theorem tyX3_ok : ∀ k, k < 11 → parseFieldDescriptor (TX3 k).2.2.1 = some (tyX3 k) := by decide +kernel
abbrev cX3_init : ByteArray := prog_5_method_1_code
def yX3_init : MethodName := ⟨RX3, "<init>", "([LDoeRoe$Plain;)V"⟩
abbrev cX3_begin : ByteArray := prog_5_method_2_code
def yX3_begin : MethodName := ⟨RX3, "begin", "(I)V"⟩
abbrev cX3_beginSuit : ByteArray := prog_5_method_3_code
def yX3_beginSuit : MethodName := ⟨RX3, "beginSuit", "()V"⟩
abbrev cX3_become : ByteArray := prog_5_method_4_code
def yX3_become : MethodName := ⟨RX3, "become", "(LDoeRoe$Matter;)V"⟩
abbrev cX3_keepForUndo : ByteArray := prog_5_method_5_code
def yX3_keepForUndo : MethodName := ⟨RX3, "keepForUndo", "()V"⟩
abbrev cX3_takeBack : ByteArray := prog_5_method_6_code
def yX3_takeBack : MethodName := ⟨RX3, "takeBack", "()V"⟩
abbrev cX3_allowed : ByteArray := prog_5_method_7_code
def yX3_allowed : MethodName := ⟨RX3, "allowed", "(III)Z"⟩
abbrev cX3_ownCost : ByteArray := prog_5_method_8_code
def yX3_ownCost : MethodName := ⟨RX3, "ownCost", "(II)I"⟩
abbrev cX3_denialWins : ByteArray := prog_5_method_9_code
def yX3_denialWins : MethodName := ⟨RX3, "denialWins", "(I)Z"⟩
abbrev cX3_pleadedThatLose : ByteArray := prog_5_method_10_code
def yX3_pleadedThatLose : MethodName := ⟨RX3, "pleadedThatLose", "()I"⟩
abbrev cX3_factsWith : ByteArray := prog_5_method_11_code
def yX3_factsWith : MethodName := ⟨RX3, "factsWith", "(I)I"⟩
abbrev cX3_courtHears : ByteArray := prog_5_method_12_code
def yX3_courtHears : MethodName := ⟨RX3, "courtHears", "(II)Z"⟩
abbrev cX3_hearing : ByteArray := prog_5_method_13_code
def yX3_hearing : MethodName := ⟨RX3, "hearing", "(I)I"⟩
abbrev cX3_afterTerm : ByteArray := prog_5_method_14_code
def yX3_afterTerm : MethodName := ⟨RX3, "afterTerm", "(III)I"⟩
abbrev cX3_kindsByNotes : ByteArray := prog_5_method_15_code
def yX3_kindsByNotes : MethodName := ⟨RX3, "kindsByNotes", "(I)I"⟩
abbrev cX3_mostAlike : ByteArray := prog_5_method_16_code
def yX3_mostAlike : MethodName := ⟨RX3, "mostAlike", "(III)I"⟩
abbrev cX3_fitsHearings : ByteArray := prog_5_method_17_code
def yX3_fitsHearings : MethodName := ⟨RX3, "fitsHearings", "(I)Z"⟩
abbrev cX3_fitsNotes : ByteArray := prog_5_method_18_code
def yX3_fitsNotes : MethodName := ⟨RX3, "fitsNotes", "(II)Z"⟩
abbrev cX3_costAs : ByteArray := prog_5_method_19_code
def yX3_costAs : MethodName := ⟨RX3, "costAs", "(III)I"⟩
abbrev cX3_alikeWith : ByteArray := prog_5_method_20_code
def yX3_alikeWith : MethodName := ⟨RX3, "alikeWith", "(IIII)I"⟩
abbrev cX3_kindNumbered : ByteArray := prog_5_method_21_code
def yX3_kindNumbered : MethodName := ⟨RX3, "kindNumbered", "(I)LDoeRoe$Plain;"⟩
def RX4 : String := "DoeRoe$Paths"
def TX4 : u_T := fun k => match k with
  | 0 => ("DoeRoe$Paths", "rest", "[I", true)
  | _ => ("DoeRoe$Paths", "first", "[I", true)
def tyX4 : Nat → FieldType := fun k => match k with
  | 0 => .array .int
  | _ => .array .int
abbrev wsX40 : List Cond := u_ws RX4 TX4 2
theorem nmX4 : ∀ a, a < 2 → ∀ b, b < 2 → a ≠ b → (TX4 a).2.1 ≠ (TX4 b).2.1 := by decide +kernel
theorem tyX4_ok : ∀ k, k < 2 → parseFieldDescriptor (TX4 k).2.2.1 = some (tyX4 k) := by decide +kernel
abbrev cX4_init : ByteArray := prog_6_method_1_code
def yX4_init : MethodName := ⟨RX4, "<init>", "()V"⟩
abbrev cX4_measure : ByteArray := prog_6_method_2_code
def yX4_measure : MethodName := ⟨RX4, "measure", "(LDoeRoe$Matter;II)I"⟩
abbrev cX4_fictionAt : ByteArray := prog_6_method_3_code
def yX4_fictionAt : MethodName := ⟨RX4, "fictionAt", "(LDoeRoe$Matter;I)I"⟩
abbrev cX4_reachable : ByteArray := prog_6_method_4_code
def yX4_reachable : MethodName := ⟨RX4, "reachable", "(LDoeRoe$Matter;)I"⟩
abbrev cX4_setsBehind : ByteArray := prog_6_method_5_code
def yX4_setsBehind : MethodName := ⟨RX4, "setsBehind", "(LDoeRoe$Matter;II)J"⟩
abbrev cX4_settle : ByteArray := prog_6_method_6_code
def yX4_settle : MethodName := ⟨RX4, "settle", "(LDoeRoe$Matter;III)V"⟩
abbrev cX4_keep : ByteArray := prog_6_method_7_code
def yX4_keep : MethodName := ⟨RX4, "keep", "(III)V"⟩
abbrev cX4_at : ByteArray := prog_6_method_8_code
def yX4_at : MethodName := ⟨RX4, "at", "([II)I"⟩
abbrev cX4_stepAt : ByteArray := prog_6_method_9_code
def yX4_stepAt : MethodName := ⟨RX4, "stepAt", "(LDoeRoe$Matter;I)I"⟩
abbrev cX4_allFictions : ByteArray := prog_6_method_10_code
def yX4_allFictions : MethodName := ⟨RX4, "allFictions", "(LDoeRoe$Matter;)I"⟩
def RX5 : String := "DoeRoe$Persons"
def TX5 : u_T := fun k => match k with
  | _ => ("", "", "", false)
def tyX5 : Nat → FieldType := fun k => match k with
  | _ => .int
abbrev wsX50 : List Cond := u_ws RX5 TX5 0
theorem nmX5 : ∀ a, a < 0 → ∀ b, b < 0 → a ≠ b → (TX5 a).2.1 ≠ (TX5 b).2.1 := by decide +kernel
theorem tyX5_ok : ∀ k, k < 0 → parseFieldDescriptor (TX5 k).2.2.1 = some (tyX5 k) := by decide +kernel
abbrev cX5_init : ByteArray := prog_7_method_1_code
def yX5_init : MethodName := ⟨RX5, "<init>", "()V"⟩
abbrev cX5_cost : ByteArray := prog_7_method_2_code
def yX5_cost : MethodName := ⟨RX5, "cost", "(II)I"⟩
abbrev cX5_losesWith : ByteArray := prog_7_method_3_code
def yX5_losesWith : MethodName := ⟨RX5, "losesWith", "(I)Z"⟩
def RX6 : String := "DoeRoe$Plain"
def TX6 : u_T := fun k => match k with
  | _ => ("", "", "", false)
def tyX6 : Nat → FieldType := fun k => match k with
  | _ => .int
abbrev wsX60 : List Cond := u_ws RX6 TX6 0
theorem nmX6 : ∀ a, a < 0 → ∀ b, b < 0 → a ≠ b → (TX6 a).2.1 ≠ (TX6 b).2.1 := by decide +kernel
theorem tyX6_ok : ∀ k, k < 0 → parseFieldDescriptor (TX6 k).2.2.1 = some (tyX6 k) := by decide +kernel
abbrev cX6_init : ByteArray := prog_8_method_1_code
def yX6_init : MethodName := ⟨RX6, "<init>", "()V"⟩
abbrev cX6_allows : ByteArray := prog_8_method_2_code
def yX6_allows : MethodName := ⟨RX6, "allows", "(III)Z"⟩
abbrev cX6_cost : ByteArray := prog_8_method_3_code
def yX6_cost : MethodName := ⟨RX6, "cost", "(II)I"⟩
abbrev cX6_losesWith : ByteArray := prog_8_method_4_code
def yX6_losesWith : MethodName := ⟨RX6, "losesWith", "(I)Z"⟩
def RX7 : String := "DoeRoe$Rows"
def TX7 : u_T := fun k => match k with
  | 0 => ("DoeRoe$Rows", "most", "I", true)
  | 1 => ("DoeRoe$Rows", "width", "I", true)
  | 2 => ("DoeRoe$Rows", "cells", "[I", true)
  | _ => ("DoeRoe$Rows", "size", "I", false)
def tyX7 : Nat → FieldType := fun k => match k with
  | 0 => .int
  | 1 => .int
  | 2 => .array .int
  | _ => .int
abbrev wsX70 : List Cond := u_ws RX7 TX7 4
theorem nmX7 : ∀ a, a < 4 → ∀ b, b < 4 → a ≠ b → (TX7 a).2.1 ≠ (TX7 b).2.1 := by decide +kernel
theorem tyX7_ok : ∀ k, k < 4 → parseFieldDescriptor (TX7 k).2.2.1 = some (tyX7 k) := by decide +kernel
abbrev cX7_init : ByteArray := prog_9_method_1_code
def yX7_init : MethodName := ⟨RX7, "<init>", "(II)V"⟩
abbrev cX7_isFull : ByteArray := prog_9_method_2_code
def yX7_isFull : MethodName := ⟨RX7, "isFull", "()Z"⟩
abbrev cX7_empty : ByteArray := prog_9_method_3_code
def yX7_empty : MethodName := ⟨RX7, "empty", "()V"⟩
abbrev cX7_cell : ByteArray := prog_9_method_4_code
def yX7_cell : MethodName := ⟨RX7, "cell", "(II)I"⟩
abbrev cX7_add : ByteArray := prog_9_method_5_code
def yX7_add : MethodName := ⟨RX7, "add", "(IIII)V"⟩
abbrev cX7_dropLast : ByteArray := prog_9_method_6_code
def yX7_dropLast : MethodName := ⟨RX7, "dropLast", "()V"⟩
abbrev cX7_dropFirst : ByteArray := prog_9_method_7_code
def yX7_dropFirst : MethodName := ⟨RX7, "dropFirst", "()V"⟩
abbrev cX7_become : ByteArray := prog_9_method_8_code
def yX7_become : MethodName := ⟨RX7, "become", "(LDoeRoe$Rows;)V"⟩
abbrev cX7_digestFrom : ByteArray := prog_9_method_9_code
def yX7_digestFrom : MethodName := ⟨RX7, "digestFrom", "(J)J"⟩
abbrev cX7_put : ByteArray := prog_9_method_10_code
def yX7_put : MethodName := ⟨RX7, "put", "(III)V"⟩
def RX8 : String := "DoeRoe$Ship"
def TX8 : u_T := fun k => match k with
  | _ => ("", "", "", false)
def tyX8 : Nat → FieldType := fun k => match k with
  | _ => .int
abbrev wsX80 : List Cond := u_ws RX8 TX8 0
theorem nmX8 : ∀ a, a < 0 → ∀ b, b < 0 → a ≠ b → (TX8 a).2.1 ≠ (TX8 b).2.1 := by decide +kernel
theorem tyX8_ok : ∀ k, k < 0 → parseFieldDescriptor (TX8 k).2.2.1 = some (tyX8 k) := by decide +kernel
abbrev cX8_init : ByteArray := prog_10_method_1_code
def yX8_init : MethodName := ⟨RX8, "<init>", "()V"⟩
abbrev cX8_cost : ByteArray := prog_10_method_2_code
def yX8_cost : MethodName := ⟨RX8, "cost", "(II)I"⟩
abbrev cX8_losesWith : ByteArray := prog_10_method_3_code
def yX8_losesWith : MethodName := ⟨RX8, "losesWith", "(I)Z"⟩
def RX9 : String := "DoeRoe$Time"
def TX9 : u_T := fun k => match k with
  | _ => ("", "", "", false)
def tyX9 : Nat → FieldType := fun k => match k with
  | _ => .int
abbrev wsX90 : List Cond := u_ws RX9 TX9 0
theorem nmX9 : ∀ a, a < 0 → ∀ b, b < 0 → a ≠ b → (TX9 a).2.1 ≠ (TX9 b).2.1 := by decide +kernel
theorem tyX9_ok : ∀ k, k < 0 → parseFieldDescriptor (TX9 k).2.2.1 = some (tyX9 k) := by decide +kernel
abbrev cX9_init : ByteArray := prog_11_method_1_code
def yX9_init : MethodName := ⟨RX9, "<init>", "()V"⟩
abbrev cX9_allows : ByteArray := prog_11_method_2_code
def yX9_allows : MethodName := ⟨RX9, "allows", "(III)Z"⟩
abbrev cX9_losesWith : ByteArray := prog_11_method_3_code
def yX9_losesWith : MethodName := ⟨RX9, "losesWith", "(I)Z"⟩
def RX10 : String := "DoeRoe"
def TX10 : u_T := fun k => match k with
  | 0 => ("DoeRoe", "matter", "LDoeRoe$Matter;", true)
  | 1 => ("DoeRoe", "draft", "LDoeRoe$Matter;", true)
  | 2 => ("DoeRoe", "firstImage", "LDoeRoe$Matter;", true)
  | 3 => ("DoeRoe", "secondImage", "LDoeRoe$Matter;", true)
  | 4 => ("DoeRoe", "text", "LDoeRoe$BookText;", true)
  | 5 => ("DoeRoe", "paths", "LDoeRoe$Paths;", true)
  | 6 => ("DoeRoe", "firstKept", "Z", false)
  | 7 => ("DoeRoe", "secondKept", "Z", false)
  | 8 => ("DoeRoe", "above", "J", false)
  | 9 => ("DoeRoe", "below", "J", false)
  | 10 => ("DoeRoe", "bads", "I", false)
  | 11 => ("DoeRoe", "nos", "I", false)
  | _ => ("DoeRoe", "fulls", "I", false)
def tyX10 : Nat → FieldType := fun k => match k with
  | 0 => .object "DoeRoe$Matter"
  | 1 => .object "DoeRoe$Matter"
  | 2 => .object "DoeRoe$Matter"
  | 3 => .object "DoeRoe$Matter"
  | 4 => .object "DoeRoe$BookText"
  | 5 => .object "DoeRoe$Paths"
  | 6 => .boolean
  | 7 => .boolean
  | 8 => .long
  | 9 => .long
  | 10 => .int
  | 11 => .int
  | _ => .int
abbrev wsX100 : List Cond := u_ws RX10 TX10 13
theorem nmX10 : ∀ a, a < 13 → ∀ b, b < 13 → a ≠ b → (TX10 a).2.1 ≠ (TX10 b).2.1 := by decide +kernel
theorem tyX10_ok : ∀ k, k < 13 → parseFieldDescriptor (TX10 k).2.2.1 = some (tyX10 k) := by decide +kernel
abbrev cX10_init : ByteArray := prog_1_method_1_code
def yX10_init : MethodName := ⟨RX10, "<init>", "()V"⟩
abbrev cX10_book : ByteArray := prog_1_method_2_code
def yX10_book : MethodName := ⟨RX10, "book", "(I)I"⟩
abbrev cX10_fiction : ByteArray := prog_1_method_3_code
def yX10_fiction : MethodName := ⟨RX10, "fiction", "(IIII)I"⟩
abbrev cX10_court : ByteArray := prog_1_method_4_code
def yX10_court : MethodName := ⟨RX10, "court", "(II)I"⟩
abbrev cX10_type : ByteArray := prog_1_method_5_code
def yX10_type : MethodName := ⟨RX10, "type", "(I)I"⟩
abbrev cX10_clear : ByteArray := prog_1_method_6_code
def yX10_clear : MethodName := ⟨RX10, "clear", "()I"⟩
abbrev cX10_read : ByteArray := prog_1_method_7_code
def yX10_read : MethodName := ⟨RX10, "read", "()I"⟩
abbrev cX10_suit : ByteArray := prog_1_method_8_code
def yX10_suit : MethodName := ⟨RX10, "suit", "()I"⟩
abbrev cX10_plead : ByteArray := prog_1_method_9_code
def yX10_plead : MethodName := ⟨RX10, "plead", "(I)I"⟩
abbrev cX10_deny : ByteArray := prog_1_method_10_code
def yX10_deny : MethodName := ⟨RX10, "deny", "(I)I"⟩
abbrev cX10_undo : ByteArray := prog_1_method_11_code
def yX10_undo : MethodName := ⟨RX10, "undo", "()I"⟩
abbrev cX10_of : ByteArray := prog_1_method_12_code
def yX10_of : MethodName := ⟨RX10, "of", "(II)I"⟩
abbrev cX10_now : ByteArray := prog_1_method_13_code
def yX10_now : MethodName := ⟨RX10, "now", "(I)I"⟩
abbrev cX10_may : ByteArray := prog_1_method_14_code
def yX10_may : MethodName := ⟨RX10, "may", "()I"⟩
abbrev cX10_hear : ByteArray := prog_1_method_15_code
def yX10_hear : MethodName := ⟨RX10, "hear", "()I"⟩
abbrev cX10_least : ByteArray := prog_1_method_16_code
def yX10_least : MethodName := ⟨RX10, "least", "(III)I"⟩
abbrev cX10_ever : ByteArray := prog_1_method_17_code
def yX10_ever : MethodName := ⟨RX10, "ever", "()I"⟩
abbrev cX10_contradict : ByteArray := prog_1_method_18_code
def yX10_contradict : MethodName := ⟨RX10, "contradict", "()I"⟩
abbrev cX10_giveUp : ByteArray := prog_1_method_19_code
def yX10_giveUp : MethodName := ⟨RX10, "giveUp", "()I"⟩
abbrev cX10_denial : ByteArray := prog_1_method_20_code
def yX10_denial : MethodName := ⟨RX10, "denial", "(I)I"⟩
abbrev cX10_fees : ByteArray := prog_1_method_21_code
def yX10_fees : MethodName := ⟨RX10, "fees", "(I)I"⟩
abbrev cX10_rule : ByteArray := prog_1_method_22_code
def yX10_rule : MethodName := ⟨RX10, "rule", "(I)I"⟩
abbrev cX10_note : ByteArray := prog_1_method_23_code
def yX10_note : MethodName := ⟨RX10, "note", "(III)I"⟩
abbrev cX10_heard : ByteArray := prog_1_method_24_code
def yX10_heard : MethodName := ⟨RX10, "heard", "(II)I"⟩
abbrev cX10_forget : ByteArray := prog_1_method_25_code
def yX10_forget : MethodName := ⟨RX10, "forget", "(I)I"⟩
abbrev cX10_is : ByteArray := prog_1_method_26_code
def yX10_is : MethodName := ⟨RX10, "is", "(I)I"⟩
abbrev cX10_look : ByteArray := prog_1_method_27_code
def yX10_look : MethodName := ⟨RX10, "look", "(I)I"⟩
abbrev cX10_truth : ByteArray := prog_1_method_28_code
def yX10_truth : MethodName := ⟨RX10, "truth", "(I)I"⟩
abbrev cX10_odds : ByteArray := prog_1_method_29_code
def yX10_odds : MethodName := ⟨RX10, "odds", "(II)I"⟩
abbrev cX10_terms : ByteArray := prog_1_method_30_code
def yX10_terms : MethodName := ⟨RX10, "terms", "(II)I"⟩
abbrev cX10_part : ByteArray := prog_1_method_31_code
def yX10_part : MethodName := ⟨RX10, "part", "(I)J"⟩
abbrev cX10_image : ByteArray := prog_1_method_32_code
def yX10_image : MethodName := ⟨RX10, "image", "(I)I"⟩
abbrev cX10_from : ByteArray := prog_1_method_33_code
def yX10_from : MethodName := ⟨RX10, "from", "(I)I"⟩
abbrev cX10_status : ByteArray := prog_1_method_34_code
def yX10_status : MethodName := ⟨RX10, "status", "(I)I"⟩
abbrev cX10_count : ByteArray := prog_1_method_35_code
def yX10_count : MethodName := ⟨RX10, "count", "(I)I"⟩
abbrev cX10_digest : ByteArray := prog_1_method_36_code
def yX10_digest : MethodName := ⟨RX10, "digest", "()J"⟩
abbrev cX10_refuseBad : ByteArray := prog_1_method_37_code
def yX10_refuseBad : MethodName := ⟨RX10, "refuseBad", "()I"⟩
abbrev cX10_refuseNo : ByteArray := prog_1_method_38_code
def yX10_refuseNo : MethodName := ⟨RX10, "refuseNo", "()I"⟩
abbrev cX10_refuseFull : ByteArray := prog_1_method_39_code
def yX10_refuseFull : MethodName := ⟨RX10, "refuseFull", "()I"⟩
abbrev cX10_within : ByteArray := prog_1_method_40_code
def yX10_within : MethodName := ⟨RX10, "within", "(III)Z"⟩
abbrev cX10_isFiction : ByteArray := prog_1_method_41_code
def yX10_isFiction : MethodName := ⟨RX10, "isFiction", "(I)Z"⟩
abbrev cX10_isCourt : ByteArray := prog_1_method_42_code
def yX10_isCourt : MethodName := ⟨RX10, "isCourt", "(I)Z"⟩
abbrev cX10_isPleaded : ByteArray := prog_1_method_43_code
def yX10_isPleaded : MethodName := ⟨RX10, "isPleaded", "(I)Z"⟩
abbrev cX10_mayPlead : ByteArray := prog_1_method_44_code
def yX10_mayPlead : MethodName := ⟨RX10, "mayPlead", "(I)Z"⟩
abbrev cX10_supposed : ByteArray := prog_1_method_45_code
def yX10_supposed : MethodName := ⟨RX10, "supposed", "()I"⟩
abbrev cX10_holds : ByteArray := prog_1_method_46_code
def yX10_holds : MethodName := ⟨RX10, "holds", "(II)Z"⟩
abbrev cX10_fewer : ByteArray := prog_1_method_47_code
def yX10_fewer : MethodName := ⟨RX10, "fewer", "(II)Z"⟩
abbrev cX10_contradictIn : ByteArray := prog_1_method_48_code
def yX10_contradictIn : MethodName := ⟨RX10, "contradictIn", "(I)Z"⟩
abbrev cX10_pairsIn : ByteArray := prog_1_method_49_code
def yX10_pairsIn : MethodName := ⟨RX10, "pairsIn", "(I)I"⟩
abbrev cX10_gainOfOne : ByteArray := prog_1_method_50_code
def yX10_gainOfOne : MethodName := ⟨RX10, "gainOfOne", "(IIZ)I"⟩
abbrev cX10_gainOfOther : ByteArray := prog_1_method_51_code
def yX10_gainOfOther : MethodName := ⟨RX10, "gainOfOther", "(IIZ)I"⟩
abbrev cX10_power : ByteArray := prog_1_method_52_code
def yX10_power : MethodName := ⟨RX10, "power", "(II)J"⟩
abbrev cX10_keepFraction : ByteArray := prog_1_method_53_code
def yX10_keepFraction : MethodName := ⟨RX10, "keepFraction", "(JJ)V"⟩
abbrev cX10_commonDivisor : ByteArray := prog_1_method_54_code
def yX10_commonDivisor : MethodName := ⟨RX10, "commonDivisor", "(JJ)J"⟩
def RX11 : String := "DoeRoeModel"
def TX11 : u_T := fun k => match k with
  | 0 => ("DoeRoeModel", "row", "[I", true)
  | 1 => ("DoeRoeModel", "isKept", "[Z", true)
  | 2 => ("DoeRoeModel", "refused", "[I", true)
  | 3 => ("DoeRoeModel", "above", "J", false)
  | 4 => ("DoeRoeModel", "below", "J", false)
  | 5 => ("DoeRoeModel", "text", "[I", true)
  | 6 => ("DoeRoeModel", "length", "I", false)
  | 7 => ("DoeRoeModel", "words", "[I", true)
  | 8 => ("DoeRoeModel", "at", "I", false)
  | 9 => ("DoeRoeModel", "behind", "I", false)
  | 10 => ("DoeRoeModel", "readTrue", "I", false)
  | 11 => ("DoeRoeModel", "readFictions", "[I", true)
  | 12 => ("DoeRoeModel", "readMany", "I", false)
  | 13 => ("DoeRoeModel", "readCourts", "[I", true)
  | 14 => ("DoeRoeModel", "readCourtMany", "I", false)
  | 15 => ("DoeRoeModel", "choices", "[I", true)
  | 16 => ("DoeRoeModel", "pleadedBy", "[I", true)
  | 17 => ("DoeRoeModel", "costs", "[I", true)
  | 18 => ("DoeRoeModel", "rowSize", "I", false)
  | 19 => ("DoeRoeModel", "isBegun", "Z", false)
  | 20 => ("DoeRoeModel", "bestRow", "[I", true)
  | _ => ("DoeRoeModel", "bestSize", "I", false)
def tyX11 : Nat → FieldType := fun k => match k with
  | 0 => .array .int
  | 1 => .array .boolean
  | 2 => .array .int
  | 3 => .long
  | 4 => .long
  | 5 => .array .int
  | 6 => .int
  | 7 => .array .int
  | 8 => .int
  | 9 => .int
  | 10 => .int
  | 11 => .array .int
  | 12 => .int
  | 13 => .array .int
  | 14 => .int
  | 15 => .array .int
  | 16 => .array .int
  | 17 => .array .int
  | 18 => .int
  | 19 => .boolean
  | 20 => .array .int
  | _ => .int
abbrev wsX110 : List Cond := u_ws RX11 TX11 22
theorem nmX11 : ∀ a, a < 22 → ∀ b, b < 22 → a ≠ b → (TX11 a).2.1 ≠ (TX11 b).2.1 := by decide +kernel
theorem tyX11_ok : ∀ k, k < 22 → parseFieldDescriptor (TX11 k).2.2.1 = some (tyX11 k) := by decide +kernel
abbrev cX11_init : ByteArray := prog_13_method_1_code
def yX11_init : MethodName := ⟨RX11, "<init>", "()V"⟩
abbrev cX11_in : ByteArray := prog_13_method_2_code
def yX11_in : MethodName := ⟨RX11, "in", "(III)Z"⟩
abbrev cX11_has : ByteArray := prog_13_method_3_code
def yX11_has : MethodName := ⟨RX11, "has", "(II)Z"⟩
abbrev cX11_bits : ByteArray := prog_13_method_4_code
def yX11_bits : MethodName := ⟨RX11, "bits", "(I)I"⟩
abbrev cX11_refuse : ByteArray := prog_13_method_5_code
def yX11_refuse : MethodName := ⟨RX11, "refuse", "(I)I"⟩
abbrev cX11_badTen : ByteArray := prog_13_method_6_code
def yX11_badTen : MethodName := ⟨RX11, "badTen", "()I"⟩
abbrev cX11_layBook : ByteArray := prog_13_method_7_code
def yX11_layBook : MethodName := ⟨RX11, "layBook", "(I)V"⟩
abbrev cX11_book : ByteArray := prog_13_method_8_code
def yX11_book : MethodName := ⟨RX11, "book", "(I)I"⟩
abbrev cX11_addFiction : ByteArray := prog_13_method_9_code
def yX11_addFiction : MethodName := ⟨RX11, "addFiction", "(IIII)V"⟩
abbrev cX11_fiction : ByteArray := prog_13_method_10_code
def yX11_fiction : MethodName := ⟨RX11, "fiction", "(IIII)I"⟩
abbrev cX11_addCourt : ByteArray := prog_13_method_11_code
def yX11_addCourt : MethodName := ⟨RX11, "addCourt", "(II)V"⟩
abbrev cX11_court : ByteArray := prog_13_method_12_code
def yX11_court : MethodName := ⟨RX11, "court", "(II)I"⟩
abbrev cX11_type : ByteArray := prog_13_method_13_code
def yX11_type : MethodName := ⟨RX11, "type", "(I)I"⟩
abbrev cX11_clear : ByteArray := prog_13_method_14_code
def yX11_clear : MethodName := ⟨RX11, "clear", "()I"⟩
abbrev cX11_isLetter : ByteArray := prog_13_method_15_code
def yX11_isLetter : MethodName := ⟨RX11, "isLetter", "(I)Z"⟩
abbrev cX11_isFigure : ByteArray := prog_13_method_16_code
def yX11_isFigure : MethodName := ⟨RX11, "isFigure", "(I)Z"⟩
abbrev cX11_next : ByteArray := prog_13_method_17_code
def yX11_next : MethodName := ⟨RX11, "next", "()V"⟩
abbrev cX11_isWord : ByteArray := prog_13_method_18_code
def yX11_isWord : MethodName := ⟨RX11, "isWord", "(I)Z"⟩
abbrev cX11_wordHere : ByteArray := prog_13_method_19_code
def yX11_wordHere : MethodName := ⟨RX11, "wordHere", "()I"⟩
abbrev cX11_numberHere : ByteArray := prog_13_method_20_code
def yX11_numberHere : MethodName := ⟨RX11, "numberHere", "(II)I"⟩
abbrev cX11_number : ByteArray := prog_13_method_21_code
def yX11_number : MethodName := ⟨RX11, "number", "(II)I"⟩
abbrev cX11_facts : ByteArray := prog_13_method_22_code
def yX11_facts : MethodName := ⟨RX11, "facts", "()I"⟩
abbrev cX11_readsFiction : ByteArray := prog_13_method_23_code
def yX11_readsFiction : MethodName := ⟨RX11, "readsFiction", "()Z"⟩
abbrev cX11_readsCourt : ByteArray := prog_13_method_24_code
def yX11_readsCourt : MethodName := ⟨RX11, "readsCourt", "()Z"⟩
abbrev cX11_readItems : ByteArray := prog_13_method_25_code
def yX11_readItems : MethodName := ⟨RX11, "readItems", "()I"⟩
abbrev cX11_read : ByteArray := prog_13_method_26_code
def yX11_read : MethodName := ⟨RX11, "read", "()I"⟩
abbrev cX11_isFiction : ByteArray := prog_13_method_27_code
def yX11_isFiction : MethodName := ⟨RX11, "isFiction", "(I)Z"⟩
abbrev cX11_isCourt : ByteArray := prog_13_method_28_code
def yX11_isCourt : MethodName := ⟨RX11, "isCourt", "(I)Z"⟩
abbrev cX11_supposedBy : ByteArray := prog_13_method_29_code
def yX11_supposedBy : MethodName := ⟨RX11, "supposedBy", "(I)I"⟩
abbrev cX11_costBy : ByteArray := prog_13_method_30_code
def yX11_costBy : MethodName := ⟨RX11, "costBy", "(III)I"⟩
abbrev cX11_cost : ByteArray := prog_13_method_31_code
def yX11_cost : MethodName := ⟨RX11, "cost", "(II)I"⟩
abbrev cX11_wins : ByteArray := prog_13_method_32_code
def yX11_wins : MethodName := ⟨RX11, "wins", "(I)Z"⟩
abbrev cX11_mayPlead : ByteArray := prog_13_method_33_code
def yX11_mayPlead : MethodName := ⟨RX11, "mayPlead", "(III)Z"⟩
abbrev cX11_keepPast : ByteArray := prog_13_method_34_code
def yX11_keepPast : MethodName := ⟨RX11, "keepPast", "()V"⟩
abbrev cX11_suit : ByteArray := prog_13_method_35_code
def yX11_suit : MethodName := ⟨RX11, "suit", "()I"⟩
abbrev cX11_pleadAt : ByteArray := prog_13_method_36_code
def yX11_pleadAt : MethodName := ⟨RX11, "pleadAt", "(II)V"⟩
abbrev cX11_plead : ByteArray := prog_13_method_37_code
def yX11_plead : MethodName := ⟨RX11, "plead", "(I)I"⟩
abbrev cX11_denyAt : ByteArray := prog_13_method_38_code
def yX11_denyAt : MethodName := ⟨RX11, "denyAt", "(II)I"⟩
abbrev cX11_deny : ByteArray := prog_13_method_39_code
def yX11_deny : MethodName := ⟨RX11, "deny", "(I)I"⟩
abbrev cX11_undo : ByteArray := prog_13_method_40_code
def yX11_undo : MethodName := ⟨RX11, "undo", "()I"⟩
abbrev cX11_of : ByteArray := prog_13_method_41_code
def yX11_of : MethodName := ⟨RX11, "of", "(II)I"⟩
abbrev cX11_nowOf : ByteArray := prog_13_method_42_code
def yX11_nowOf : MethodName := ⟨RX11, "nowOf", "(I)I"⟩
abbrev cX11_now : ByteArray := prog_13_method_43_code
def yX11_now : MethodName := ⟨RX11, "now", "(I)I"⟩
abbrev cX11_may : ByteArray := prog_13_method_44_code
def yX11_may : MethodName := ⟨RX11, "may", "()I"⟩
abbrev cX11_hears : ByteArray := prog_13_method_45_code
def yX11_hears : MethodName := ⟨RX11, "hears", "(II)Z"⟩
abbrev cX11_hearBy : ByteArray := prog_13_method_46_code
def yX11_hearBy : MethodName := ⟨RX11, "hearBy", "(I)I"⟩
abbrev cX11_hear : ByteArray := prog_13_method_47_code
def yX11_hear : MethodName := ⟨RX11, "hear", "()I"⟩
abbrev cX11_beginRows : ByteArray := prog_13_method_48_code
def yX11_beginRows : MethodName := ⟨RX11, "beginRows", "()V"⟩
abbrev cX11_nextRow : ByteArray := prog_13_method_49_code
def yX11_nextRow : MethodName := ⟨RX11, "nextRow", "()Z"⟩
abbrev cX11_bestTo : ByteArray := prog_13_method_50_code
def yX11_bestTo : MethodName := ⟨RX11, "bestTo", "(II)I"⟩
abbrev cX11_least : ByteArray := prog_13_method_51_code
def yX11_least : MethodName := ⟨RX11, "least", "(III)I"⟩
abbrev cX11_ever : ByteArray := prog_13_method_52_code
def yX11_ever : MethodName := ⟨RX11, "ever", "()I"⟩
abbrev cX11_pairsOf : ByteArray := prog_13_method_53_code
def yX11_pairsOf : MethodName := ⟨RX11, "pairsOf", "(I)I"⟩
abbrev cX11_contradict : ByteArray := prog_13_method_54_code
def yX11_contradict : MethodName := ⟨RX11, "contradict", "()I"⟩
abbrev cX11_giveUp : ByteArray := prog_13_method_55_code
def yX11_giveUp : MethodName := ⟨RX11, "giveUp", "()I"⟩
abbrev cX11_oneGets : ByteArray := prog_13_method_56_code
def yX11_oneGets : MethodName := ⟨RX11, "oneGets", "(ZII)I"⟩
abbrev cX11_otherGets : ByteArray := prog_13_method_57_code
def yX11_otherGets : MethodName := ⟨RX11, "otherGets", "(ZII)I"⟩
abbrev cX11_denial : ByteArray := prog_13_method_58_code
def yX11_denial : MethodName := ⟨RX11, "denial", "(I)I"⟩
abbrev cX11_fees : ByteArray := prog_13_method_59_code
def yX11_fees : MethodName := ⟨RX11, "fees", "(I)I"⟩
abbrev cX11_rule : ByteArray := prog_13_method_60_code
def yX11_rule : MethodName := ⟨RX11, "rule", "(I)I"⟩
abbrev cX11_note : ByteArray := prog_13_method_61_code
def yX11_note : MethodName := ⟨RX11, "note", "(III)I"⟩
abbrev cX11_heard : ByteArray := prog_13_method_62_code
def yX11_heard : MethodName := ⟨RX11, "heard", "(II)I"⟩
abbrev cX11_forget : ByteArray := prog_13_method_63_code
def yX11_forget : MethodName := ⟨RX11, "forget", "(I)I"⟩
abbrev cX11_kindsOf : ByteArray := prog_13_method_64_code
def yX11_kindsOf : MethodName := ⟨RX11, "kindsOf", "(I)I"⟩
abbrev cX11_is : ByteArray := prog_13_method_65_code
def yX11_is : MethodName := ⟨RX11, "is", "(I)I"⟩
abbrev cX11_mostAlike : ByteArray := prog_13_method_66_code
def yX11_mostAlike : MethodName := ⟨RX11, "mostAlike", "(III)I"⟩
abbrev cX11_look : ByteArray := prog_13_method_67_code
def yX11_look : MethodName := ⟨RX11, "look", "(I)I"⟩
abbrev cX11_mayBeTrue : ByteArray := prog_13_method_68_code
def yX11_mayBeTrue : MethodName := ⟨RX11, "mayBeTrue", "(I)Z"⟩
abbrev cX11_truth : ByteArray := prog_13_method_69_code
def yX11_truth : MethodName := ⟨RX11, "truth", "(I)I"⟩
abbrev cX11_tellPart : ByteArray := prog_13_method_70_code
def yX11_tellPart : MethodName := ⟨RX11, "tellPart", "(JJ)V"⟩
abbrev cX11_odds : ByteArray := prog_13_method_71_code
def yX11_odds : MethodName := ⟨RX11, "odds", "(II)I"⟩
abbrev cX11_terms : ByteArray := prog_13_method_72_code
def yX11_terms : MethodName := ⟨RX11, "terms", "(II)I"⟩
abbrev cX11_part : ByteArray := prog_13_method_73_code
def yX11_part : MethodName := ⟨RX11, "part", "(I)J"⟩
abbrev cX11_image : ByteArray := prog_13_method_74_code
def yX11_image : MethodName := ⟨RX11, "image", "(I)I"⟩
abbrev cX11_from : ByteArray := prog_13_method_75_code
def yX11_from : MethodName := ⟨RX11, "from", "(I)I"⟩
abbrev cX11_status : ByteArray := prog_13_method_76_code
def yX11_status : MethodName := ⟨RX11, "status", "(I)I"⟩
abbrev cX11_countOf : ByteArray := prog_13_method_77_code
def yX11_countOf : MethodName := ⟨RX11, "countOf", "(I)I"⟩
abbrev cX11_count : ByteArray := prog_13_method_78_code
def yX11_count : MethodName := ⟨RX11, "count", "(I)I"⟩
abbrev cX11_digest : ByteArray := prog_13_method_79_code
def yX11_digest : MethodName := ⟨RX11, "digest", "()J"⟩
def RJ6 : String := "java/lang/Integer"
def TJ6 : u_T := fun k => match k with
  | _ => ("", "", "", false)
def tyJ6 : Nat → FieldType := fun k => match k with
  | _ => .int
abbrev wsJ60 : List Cond := u_ws RJ6 TJ6 0
theorem nmJ6 : ∀ a, a < 0 → ∀ b, b < 0 → a ≠ b → (TJ6 a).2.1 ≠ (TJ6 b).2.1 := by decide +kernel
theorem tyJ6_ok : ∀ k, k < 0 → parseFieldDescriptor (TJ6 k).2.2.1 = some (tyJ6 k) := by decide +kernel
abbrev cJ6_bitCount_0f7a4 : ByteArray := prog_14_method_49_code
def yJ6_bitCount_0f7a4 : MethodName := ⟨RJ6, "bitCount", "(I)I"⟩
def RJ9 : String := "java/lang/Math"
def TJ9 : u_T := fun k => match k with
  | _ => ("", "", "", false)
def tyJ9 : Nat → FieldType := fun k => match k with
  | _ => .int
abbrev wsJ90 : List Cond := u_ws RJ9 TJ9 0
theorem nmJ9 : ∀ a, a < 0 → ∀ b, b < 0 → a ≠ b → (TJ9 a).2.1 ≠ (TJ9 b).2.1 := by decide +kernel
theorem tyJ9_ok : ∀ k, k < 0 → parseFieldDescriptor (TJ9 k).2.2.1 = some (tyJ9 k) := by decide +kernel
abbrev cJ9_max_7cf53 : ByteArray := prog_15_method_65_code
def yJ9_max_7cf53 : MethodName := ⟨RJ9, "max", "(II)I"⟩
def RJ0 : String := "java/lang/String"
def TJ0 : u_T := fun k => match k with
  | _ => ("", "", "", false)
def tyJ0 : Nat → FieldType := fun k => match k with
  | _ => .int
abbrev wsJ00 : List Cond := u_ws RJ0 TJ0 0
theorem nmJ0 : ∀ a, a < 0 → ∀ b, b < 0 → a ≠ b → (TJ0 a).2.1 ≠ (TJ0 b).2.1 := by decide +kernel
theorem tyJ0_ok : ∀ k, k < 0 → parseFieldDescriptor (TJ0 k).2.2.1 = some (tyJ0 k) := by decide +kernel
abbrev cJ0_length_8abf5 : ByteArray := prog_16_method_54_code
def yJ0_length_8abf5 : MethodName := ⟨RJ0, "length", "()I"⟩
abbrev cJ0_charAt_5068e : ByteArray := prog_16_method_56_code
def yJ0_charAt_5068e : MethodName := ⟨RJ0, "charAt", "(I)C"⟩
abbrev cJ0_coder_7d493 : ByteArray := prog_16_method_152_code
def yJ0_coder_7d493 : MethodName := ⟨RJ0, "coder", "()B"⟩
abbrev cJ0_isLatin1_aae02 : ByteArray := prog_16_method_154_code
def yJ0_isLatin1_aae02 : MethodName := ⟨RJ0, "isLatin1", "()Z"⟩
abbrev cJ0_checkIndex_df160 : ByteArray := prog_16_method_155_code
def yJ0_checkIndex_df160 : MethodName := ⟨RJ0, "checkIndex", "(II)V"⟩
def RJ1 : String := "java/lang/StringLatin1"
def TJ1 : u_T := fun k => match k with
  | _ => ("", "", "", false)
def tyJ1 : Nat → FieldType := fun k => match k with
  | _ => .int
abbrev wsJ10 : List Cond := u_ws RJ1 TJ1 0
theorem nmJ1 : ∀ a, a < 0 → ∀ b, b < 0 → a ≠ b → (TJ1 a).2.1 ≠ (TJ1 b).2.1 := by decide +kernel
theorem tyJ1_ok : ∀ k, k < 0 → parseFieldDescriptor (TJ1 k).2.2.1 = some (tyJ1 k) := by decide +kernel
abbrev cJ1_charAt_3b067 : ByteArray := prog_17_method_2_code
def yJ1_charAt_3b067 : MethodName := ⟨RJ1, "charAt", "([BI)C"⟩
def RJ2 : String := "java/lang/StringUTF16"
def TJ2 : u_T := fun k => match k with
  | _ => ("", "", "", false)
def tyJ2 : Nat → FieldType := fun k => match k with
  | _ => .int
abbrev wsJ20 : List Cond := u_ws RJ2 TJ2 0
theorem nmJ2 : ∀ a, a < 0 → ∀ b, b < 0 → a ≠ b → (TJ2 a).2.1 ≠ (TJ2 b).2.1 := by decide +kernel
theorem tyJ2_ok : ∀ k, k < 0 → parseFieldDescriptor (TJ2 k).2.2.1 = some (tyJ2 k) := by decide +kernel
abbrev cJ2_getChar_3b067 : ByteArray := prog_18_method_5_code
def yJ2_getChar_3b067 : MethodName := ⟨RJ2, "getChar", "([BI)C"⟩
abbrev cJ2_length_9d52b : ByteArray := prog_18_method_6_code
def yJ2_length_9d52b : MethodName := ⟨RJ2, "length", "([B)I"⟩
abbrev cJ2_charAt_3b067 : ByteArray := prog_18_method_83_code
def yJ2_charAt_3b067 : MethodName := ⟨RJ2, "charAt", "([BI)C"⟩
abbrev cJ2_checkIndex_2214a : ByteArray := prog_18_method_91_code
def yJ2_checkIndex_2214a : MethodName := ⟨RJ2, "checkIndex", "(I[B)V"⟩
def RJ3 : String := "jdk/internal/util/Preconditions"
def TJ3 : u_T := fun k => match k with
  | _ => ("", "", "", false)
def tyJ3 : Nat → FieldType := fun k => match k with
  | _ => .int
abbrev wsJ30 : List Cond := u_ws RJ3 TJ3 0
theorem nmJ3 : ∀ a, a < 0 → ∀ b, b < 0 → a ≠ b → (TJ3 a).2.1 ≠ (TJ3 b).2.1 := by decide +kernel
theorem tyJ3_ok : ∀ k, k < 0 → parseFieldDescriptor (TJ3 k).2.2.1 = some (tyJ3 k) := by decide +kernel
abbrev cJ3_checkIndex_8e157 : ByteArray := prog_19_method_11_code
def yJ3_checkIndex_8e157 : MethodName := ⟨RJ3, "checkIndex", "(IILjava/util/function/BiFunction;)I"⟩
def RL : String := "DoeRoeLaw"
abbrev cL_law : ByteArray := code
abbrev classes : List vw_C := [(RX0, TX0, 6), (RX1, TX1, 0), (RX2, TX2, 0), (RX3, TX3, 11), (RX4, TX4, 2), (RX5, TX5, 0), (RX6, TX6, 0), (RX7, TX7, 4), (RX8, TX8, 0), (RX9, TX9, 0), (RX10, TX10, 13), (RX11, TX11, 22)]

def gw_tbl : List Cond := lw_tbl.filter goodWord
theorem gw_lw {w : Cond} (h : w ∈ gw_tbl) : w ∈ lw_tbl := (List.mem_filter.mp h).1
theorem gw_good {w : Cond} (h : w ∈ gw_tbl) : (w.onTables && w.keeps) = true ∨ ∃ ty, w = .arrayClass ty := good_of_word (List.mem_filter.mp h).2
theorem gw_mem {w : Cond} (i : Nat) (h : lw_tbl[i]? = some w) (g : goodWord w = true) : w ∈ gw_tbl := List.mem_filter.mpr ⟨List.mem_of_getElem? h, g⟩
theorem gw_in {x z : Cond} (hz : z ∈ gw_tbl) : GoodIn (x :: gw_tbl) (z :: gw_tbl) := by
  intro w hw
  rcases List.mem_cons.mp hw with rfl | h
  · exact ⟨List.mem_cons_of_mem _ hz, gw_good hz⟩
  · exact ⟨List.mem_cons_of_mem _ h, gw_good h⟩
theorem gw_inL {z : Cond} (hz : z ∈ gw_tbl) : GoodIn lw_tbl (z :: gw_tbl) := by
  intro w hw
  rcases List.mem_cons.mp hw with rfl | h
  · exact ⟨gw_lw hz, gw_good hz⟩
  · exact ⟨gw_lw h, gw_good h⟩
end
section
def ch_0 : List Cond := [(.initialized "DoeRoeLaw" : Cond), (.initialized RX10 : Cond), (.initialized RX6 : Cond), (.initialized RX5 : Cond), (.initialized RX1 : Cond), (.initialized RX9 : Cond), (.initialized RX2 : Cond), (.initialized RX8 : Cond), (.initialized RX3 : Cond), (.initialized RX7 : Cond), (.initialized RJ9 : Cond), (.initialized RX0 : Cond), (.initialized RX4 : Cond), (.initialized RX11 : Cond), (.initialized RJ0 : Cond), (.initialized RJ1 : Cond), (.initialized RJ3 : Cond), (.initialized RJ2 : Cond), (.initialized RJ6 : Cond), (.classLink "DoeRoeLaw" 7 RX10 : Cond), (.instantiable RX10 13 : Cond), (.methodLink "DoeRoeLaw" 9 yX10_init : Cond), (.instanceMethod yX10_init : Cond), (.code yX10_init cX10_init 2 none : Cond), (.methodLink RX10 3 objectInit : Cond), (.instanceMethod objectInit : Cond), (Jvm.Cond.code ({ cls := "java/lang/Object", name := "<init>", desc := "()V" } : Jvm.MethodName) object_method_1_code (1 : Nat) (Option.none : Option Jvm.ClassFile.FieldType)), (.classLink RX10 9 RX6 : Cond), (Jvm.Cond.arrayOver (Jvm.ClassFile.FieldType.object "DoeRoe$Plain")), (.instantiable RX6 0 : Cond), (.methodLinkNest RX10 11 yX6_init "DoeRoe" : Cond), (.instanceMethod yX6_init : Cond)]
set_option maxRecDepth 100000 in
theorem ch_0_ok : List.take 32 (List.drop 0 tables_1) = ch_0 := rfl
def ch_1 : List Cond := [(.code yX6_init cX6_init 1 none : Cond), (.methodLink RX6 1 objectInit : Cond), (Jvm.Cond.superclass "DoeRoe$Plain" "java/lang/Object"), (.classLink RX10 12 RX5 : Cond), (.instantiable RX5 0 : Cond), (.methodLinkNest RX10 14 yX5_init "DoeRoe" : Cond), (.instanceMethod yX5_init : Cond), (.code yX5_init cX5_init 1 none : Cond), (.methodLinkNest RX5 1 yX6_init "DoeRoe" : Cond), (Jvm.Cond.superclass "DoeRoe$Persons" "DoeRoe$Plain"), (.classLink RX10 15 RX1 : Cond), (.instantiable RX1 0 : Cond), (.methodLinkNest RX10 17 yX1_init "DoeRoe" : Cond), (.instanceMethod yX1_init : Cond), (.code yX1_init cX1_init 1 none : Cond), (.methodLinkNest RX1 1 yX6_init "DoeRoe" : Cond), (Jvm.Cond.superclass "DoeRoe$Force" "DoeRoe$Plain"), (.classLink RX10 18 RX9 : Cond), (.instantiable RX9 0 : Cond), (.methodLinkNest RX10 20 yX9_init "DoeRoe" : Cond), (.instanceMethod yX9_init : Cond), (.code yX9_init cX9_init 1 none : Cond), (.methodLinkNest RX9 1 yX5_init "DoeRoe" : Cond), (Jvm.Cond.superclass "DoeRoe$Time" "DoeRoe$Persons"), (.classLink RX10 21 RX2 : Cond), (.instantiable RX2 0 : Cond), (.methodLinkNest RX10 23 yX2_init "DoeRoe" : Cond), (.instanceMethod yX2_init : Cond), (.code yX2_init cX2_init 1 none : Cond), (.methodLinkNest RX2 1 yX6_init "DoeRoe" : Cond), (Jvm.Cond.superclass "DoeRoe$Letter" "DoeRoe$Plain"), (.classLink RX10 24 RX8 : Cond)]
set_option maxRecDepth 100000 in
theorem ch_1_ok : List.take 32 (List.drop 32 tables_1) = ch_1 := rfl
def ch_2 : List Cond := [(.instantiable RX8 0 : Cond), (.methodLinkNest RX10 26 yX8_init "DoeRoe" : Cond), (.instanceMethod yX8_init : Cond), (.code yX8_init cX8_init 1 none : Cond), (.methodLinkNest RX8 1 yX1_init "DoeRoe" : Cond), (Jvm.Cond.superclass "DoeRoe$Ship" "DoeRoe$Force"), (.classLink RX10 27 RX3 : Cond), (.instantiable RX3 11 : Cond), (.methodLink RX10 29 yX3_init : Cond), (.instanceMethod yX3_init : Cond), (.code yX3_init cX3_init 2 none : Cond), (.methodLink RX3 3 objectInit : Cond), (.classLink RX3 15 RX6 : Cond), (.methodLinkNest RX3 17 yX6_init "DoeRoe" : Cond), (.classLink RX3 22 RX7 : Cond), (.instantiable RX7 4 : Cond), (.methodLink RX3 24 yX7_init : Cond), (.instanceMethod yX7_init : Cond), (.code yX7_init cX7_init 3 none : Cond), (.methodLink RX7 1 objectInit : Cond), (.methodLink RX7 16 yJ9_max_7cf53 : Cond), (.static yJ9_max_7cf53 : Cond), (.code yJ9_max_7cf53 cJ9_max_7cf53 2 (some .int) : Cond), (.fieldLink RX7 7 "DoeRoe$Rows" "most" "I" : Cond), (.fieldLink RX7 13 "DoeRoe$Rows" "width" "I" : Cond), (.fieldLink RX7 22 "DoeRoe$Rows" "cells" "[I" : Cond), (.fieldLink RX7 26 "DoeRoe$Rows" "size" "I" : Cond), (.fieldLink RX10 78 "DoeRoe$Rows" "size" "I" : Cond), (.fieldLink RX4 52 "DoeRoe$Rows" "size" "I" : Cond), (.fieldLink RX3 77 "DoeRoe$Rows" "size" "I" : Cond), (Jvm.Cond.laysFinal "DoeRoe$Rows" "DoeRoe$Rows" "most" "I"), (Jvm.Cond.soleField "DoeRoe$Rows" "most")]
set_option maxRecDepth 100000 in
theorem ch_2_ok : List.take 32 (List.drop 64 tables_1) = ch_2 := rfl
def ch_3 : List Cond := [(Jvm.Cond.laysFinal "DoeRoe$Rows" "DoeRoe$Rows" "width" "I"), (Jvm.Cond.soleField "DoeRoe$Rows" "width"), (Jvm.Cond.laysFinal "DoeRoe$Rows" "DoeRoe$Rows" "cells" "[I"), (Jvm.Cond.soleField "DoeRoe$Rows" "cells"), (Jvm.Cond.lays "DoeRoe$Rows" "DoeRoe$Rows" "size" "I"), (Jvm.Cond.soleField "DoeRoe$Rows" "size"), (Jvm.Cond.superclass "DoeRoe$Rows" "java/lang/Object"), (Jvm.Cond.arrayClass Jvm.ClassFile.FieldType.int), (.fieldLink RX3 9 "DoeRoe$Matter" "kinds" "[LDoeRoe$Plain;" : Cond), (.fieldLink RX3 18 "DoeRoe$Matter" "plain" "LDoeRoe$Plain;" : Cond), (.fieldLink RX3 27 "DoeRoe$Matter" "fictions" "LDoeRoe$Rows;" : Cond), (.fieldLink RX10 74 "DoeRoe$Matter" "fictions" "LDoeRoe$Rows;" : Cond), (.fieldLink RX4 48 "DoeRoe$Matter" "fictions" "LDoeRoe$Rows;" : Cond), (.fieldLink RX0 55 "DoeRoe$Matter" "fictions" "LDoeRoe$Rows;" : Cond), (.fieldLink RX3 31 "DoeRoe$Matter" "courts" "LDoeRoe$Rows;" : Cond), (.fieldLink RX10 105 "DoeRoe$Matter" "courts" "LDoeRoe$Rows;" : Cond), (.fieldLink RX0 65 "DoeRoe$Matter" "courts" "LDoeRoe$Rows;" : Cond), (.fieldLink RX3 34 "DoeRoe$Matter" "notes" "LDoeRoe$Rows;" : Cond), (.fieldLink RX10 212 "DoeRoe$Matter" "notes" "LDoeRoe$Rows;" : Cond), (.fieldLink RX3 37 "DoeRoe$Matter" "hearings" "LDoeRoe$Rows;" : Cond), (.fieldLink RX10 215 "DoeRoe$Matter" "hearings" "LDoeRoe$Rows;" : Cond), (.fieldLink RX3 40 "DoeRoe$Matter" "undos" "LDoeRoe$Rows;" : Cond), (.fieldLink RX10 99 "DoeRoe$Matter" "undos" "LDoeRoe$Rows;" : Cond), (.fieldLink RX3 43 "DoeRoe$Matter" "trueFacts" "I" : Cond), (.fieldLink RX0 72 "DoeRoe$Matter" "trueFacts" "I" : Cond), (.fieldLink RX10 172 "DoeRoe$Matter" "trueFacts" "I" : Cond), (.fieldLink RX4 18 "DoeRoe$Matter" "pleaded" "I" : Cond), (.fieldLink RX3 53 "DoeRoe$Matter" "pleaded" "I" : Cond), (.fieldLink RX10 122 "DoeRoe$Matter" "pleaded" "I" : Cond), (.fieldLink RX3 56 "DoeRoe$Matter" "steps" "I" : Cond), (.fieldLink RX4 76 "DoeRoe$Matter" "steps" "I" : Cond), (.fieldLink RX10 144 "DoeRoe$Matter" "steps" "I" : Cond)]
set_option maxRecDepth 100000 in
theorem ch_3_ok : List.take 32 (List.drop 96 tables_1) = ch_3 := rfl
def ch_4 : List Cond := [(.fieldLink RX3 59 "DoeRoe$Matter" "paid" "I" : Cond), (.fieldLink RX10 154 "DoeRoe$Matter" "paid" "I" : Cond), (Jvm.Cond.laysFinal "DoeRoe$Matter" "DoeRoe$Matter" "kinds" "[LDoeRoe$Plain;"), (Jvm.Cond.soleField "DoeRoe$Matter" "kinds"), (Jvm.Cond.laysFinal "DoeRoe$Matter" "DoeRoe$Matter" "plain" "LDoeRoe$Plain;"), (Jvm.Cond.soleField "DoeRoe$Matter" "plain"), (Jvm.Cond.laysFinal "DoeRoe$Matter" "DoeRoe$Matter" "fictions" "LDoeRoe$Rows;"), (Jvm.Cond.soleField "DoeRoe$Matter" "fictions"), (Jvm.Cond.laysFinal "DoeRoe$Matter" "DoeRoe$Matter" "courts" "LDoeRoe$Rows;"), (Jvm.Cond.soleField "DoeRoe$Matter" "courts"), (Jvm.Cond.laysFinal "DoeRoe$Matter" "DoeRoe$Matter" "notes" "LDoeRoe$Rows;"), (Jvm.Cond.soleField "DoeRoe$Matter" "notes"), (Jvm.Cond.laysFinal "DoeRoe$Matter" "DoeRoe$Matter" "hearings" "LDoeRoe$Rows;"), (Jvm.Cond.soleField "DoeRoe$Matter" "hearings"), (Jvm.Cond.laysFinal "DoeRoe$Matter" "DoeRoe$Matter" "undos" "LDoeRoe$Rows;"), (Jvm.Cond.soleField "DoeRoe$Matter" "undos"), (Jvm.Cond.lays "DoeRoe$Matter" "DoeRoe$Matter" "trueFacts" "I"), (Jvm.Cond.soleField "DoeRoe$Matter" "trueFacts"), (Jvm.Cond.lays "DoeRoe$Matter" "DoeRoe$Matter" "pleaded" "I"), (Jvm.Cond.soleField "DoeRoe$Matter" "pleaded"), (Jvm.Cond.lays "DoeRoe$Matter" "DoeRoe$Matter" "steps" "I"), (Jvm.Cond.soleField "DoeRoe$Matter" "steps"), (Jvm.Cond.lays "DoeRoe$Matter" "DoeRoe$Matter" "paid" "I"), (Jvm.Cond.soleField "DoeRoe$Matter" "paid"), (Jvm.Cond.superclass "DoeRoe$Matter" "java/lang/Object"), (.classLink RX10 45 RX0 : Cond), (.instantiable RX0 6 : Cond), (.methodLink RX10 47 yX0_init : Cond), (.instanceMethod yX0_init : Cond), (.code yX0_init cX0_init 1 none : Cond), (.methodLink RX0 3 objectInit : Cond), (.fieldLink RX0 9 "DoeRoe$BookText" "bytes" "[I" : Cond)]
set_option maxRecDepth 100000 in
theorem ch_4_ok : List.take 32 (List.drop 128 tables_1) = ch_4 := rfl
def ch_5 : List Cond := [(.fieldLink RX0 15 "DoeRoe$BookText" "length" "I" : Cond), (.fieldLink RX10 111 "DoeRoe$BookText" "length" "I" : Cond), (.fieldLink RX0 31 "DoeRoe$BookText" "token" "I" : Cond), (.fieldLink RX0 38 "DoeRoe$BookText" "place" "I" : Cond), (.fieldLink RX0 83 "DoeRoe$BookText" "number" "I" : Cond), (.fieldLink RX0 25 "DoeRoe$BookText" "next" "I" : Cond), (Jvm.Cond.laysFinal "DoeRoe$BookText" "DoeRoe$BookText" "bytes" "[I"), (Jvm.Cond.soleField "DoeRoe$BookText" "bytes"), (Jvm.Cond.lays "DoeRoe$BookText" "DoeRoe$BookText" "length" "I"), (Jvm.Cond.soleField "DoeRoe$BookText" "length"), (Jvm.Cond.lays "DoeRoe$BookText" "DoeRoe$BookText" "token" "I"), (Jvm.Cond.soleField "DoeRoe$BookText" "token"), (Jvm.Cond.lays "DoeRoe$BookText" "DoeRoe$BookText" "place" "I"), (Jvm.Cond.soleField "DoeRoe$BookText" "place"), (Jvm.Cond.lays "DoeRoe$BookText" "DoeRoe$BookText" "number" "I"), (Jvm.Cond.soleField "DoeRoe$BookText" "number"), (Jvm.Cond.lays "DoeRoe$BookText" "DoeRoe$BookText" "next" "I"), (Jvm.Cond.soleField "DoeRoe$BookText" "next"), (Jvm.Cond.superclass "DoeRoe$BookText" "java/lang/Object"), (.classLink RX10 52 RX4 : Cond), (.instantiable RX4 2 : Cond), (.methodLink RX10 54 yX4_init : Cond), (.instanceMethod yX4_init : Cond), (.code yX4_init cX4_init 1 none : Cond), (.methodLink RX4 3 objectInit : Cond), (.fieldLink RX4 9 "DoeRoe$Paths" "rest" "[I" : Cond), (.fieldLink RX4 15 "DoeRoe$Paths" "first" "[I" : Cond), (Jvm.Cond.laysFinal "DoeRoe$Paths" "DoeRoe$Paths" "rest" "[I"), (Jvm.Cond.soleField "DoeRoe$Paths" "rest"), (Jvm.Cond.laysFinal "DoeRoe$Paths" "DoeRoe$Paths" "first" "[I"), (Jvm.Cond.soleField "DoeRoe$Paths" "first"), (Jvm.Cond.superclass "DoeRoe$Paths" "java/lang/Object")]
set_option maxRecDepth 100000 in
theorem ch_5_ok : List.take 32 (List.drop 160 tables_1) = ch_5 := rfl
def ch_6 : List Cond := [(.fieldLink RX10 32 "DoeRoe" "matter" "LDoeRoe$Matter;" : Cond), (.fieldLink RX10 36 "DoeRoe" "draft" "LDoeRoe$Matter;" : Cond), (.fieldLink RX10 39 "DoeRoe" "firstImage" "LDoeRoe$Matter;" : Cond), (.fieldLink RX10 42 "DoeRoe" "secondImage" "LDoeRoe$Matter;" : Cond), (.fieldLink RX10 48 "DoeRoe" "text" "LDoeRoe$BookText;" : Cond), (.fieldLink RX10 55 "DoeRoe" "paths" "LDoeRoe$Paths;" : Cond), (.fieldLink RX10 256 "DoeRoe" "firstKept" "Z" : Cond), (.fieldLink RX10 260 "DoeRoe" "secondKept" "Z" : Cond), (.fieldLink RX10 59 "DoeRoe" "above" "J" : Cond), (.fieldLink RX10 63 "DoeRoe" "below" "J" : Cond), (.fieldLink RX10 263 "DoeRoe" "bads" "I" : Cond), (.fieldLink RX10 266 "DoeRoe" "nos" "I" : Cond), (.fieldLink RX10 269 "DoeRoe" "fulls" "I" : Cond), (Jvm.Cond.laysFinal "DoeRoe" "DoeRoe" "matter" "LDoeRoe$Matter;"), (Jvm.Cond.soleField "DoeRoe" "matter"), (Jvm.Cond.laysFinal "DoeRoe" "DoeRoe" "draft" "LDoeRoe$Matter;"), (Jvm.Cond.soleField "DoeRoe" "draft"), (Jvm.Cond.laysFinal "DoeRoe" "DoeRoe" "firstImage" "LDoeRoe$Matter;"), (Jvm.Cond.soleField "DoeRoe" "firstImage"), (Jvm.Cond.laysFinal "DoeRoe" "DoeRoe" "secondImage" "LDoeRoe$Matter;"), (Jvm.Cond.soleField "DoeRoe" "secondImage"), (Jvm.Cond.laysFinal "DoeRoe" "DoeRoe" "text" "LDoeRoe$BookText;"), (Jvm.Cond.soleField "DoeRoe" "text"), (Jvm.Cond.laysFinal "DoeRoe" "DoeRoe" "paths" "LDoeRoe$Paths;"), (Jvm.Cond.soleField "DoeRoe" "paths"), (Jvm.Cond.lays "DoeRoe" "DoeRoe" "firstKept" "Z"), (Jvm.Cond.soleField "DoeRoe" "firstKept"), (Jvm.Cond.lays "DoeRoe" "DoeRoe" "secondKept" "Z"), (Jvm.Cond.soleField "DoeRoe" "secondKept"), (Jvm.Cond.lays "DoeRoe" "DoeRoe" "above" "J"), (Jvm.Cond.soleField "DoeRoe" "above"), (Jvm.Cond.lays "DoeRoe" "DoeRoe" "below" "J")]
set_option maxRecDepth 100000 in
theorem ch_6_ok : List.take 32 (List.drop 192 tables_1) = ch_6 := rfl
def ch_7 : List Cond := [(Jvm.Cond.soleField "DoeRoe" "below"), (Jvm.Cond.lays "DoeRoe" "DoeRoe" "bads" "I"), (Jvm.Cond.soleField "DoeRoe" "bads"), (Jvm.Cond.lays "DoeRoe" "DoeRoe" "nos" "I"), (Jvm.Cond.soleField "DoeRoe" "nos"), (Jvm.Cond.lays "DoeRoe" "DoeRoe" "fulls" "I"), (Jvm.Cond.soleField "DoeRoe" "fulls"), (Jvm.Cond.superclass "DoeRoe" "java/lang/Object"), (.methodLink "DoeRoeLaw" 13 yX10_book : Cond), (.instanceMethod yX10_book : Cond), (.selects RX10 yX10_book yX10_book : Cond), (.code yX10_book cX10_book 3 (some .int) : Cond), (.methodLink RX10 66 yX10_within : Cond), (.static yX10_within : Cond), (.code yX10_within cX10_within 3 (some .boolean) : Cond), (.methodLink RX10 70 yX10_refuseBad : Cond), (.privateMethod yX10_refuseBad : Cond), (.instanceMethod yX10_refuseBad : Cond), (.code yX10_refuseBad cX10_refuseBad 1 (some .int) : Cond), (.methodLink RX10 84 yX3_begin : Cond), (.instanceMethod yX3_begin : Cond), (.selects RX3 yX3_begin yX3_begin : Cond), (.code yX3_begin cX3_begin 2 none : Cond), (.methodLink RX3 47 yX7_empty : Cond), (.instanceMethod yX7_empty : Cond), (.selects RX7 yX7_empty yX7_empty : Cond), (.code yX7_empty cX7_empty 1 none : Cond), (.methodLink RX3 50 yX3_beginSuit : Cond), (.instanceMethod yX3_beginSuit : Cond), (.selects RX3 yX3_beginSuit yX3_beginSuit : Cond), (.code yX3_beginSuit cX3_beginSuit 1 none : Cond), (.methodLink "DoeRoeLaw" 18 yX10_fiction : Cond)]
set_option maxRecDepth 100000 in
theorem ch_7_ok : List.take 32 (List.drop 224 tables_1) = ch_7 := rfl
def ch_8 : List Cond := [(.instanceMethod yX10_fiction : Cond), (.selects RX10 yX10_fiction yX10_fiction : Cond), (.code yX10_fiction cX10_fiction 5 (some .int) : Cond), (.methodLink RX10 88 yX7_isFull : Cond), (.instanceMethod yX7_isFull : Cond), (.selects RX7 yX7_isFull yX7_isFull : Cond), (.code yX7_isFull cX7_isFull 1 (some .boolean) : Cond), (.methodLink RX10 92 yX10_refuseFull : Cond), (.privateMethod yX10_refuseFull : Cond), (.instanceMethod yX10_refuseFull : Cond), (.code yX10_refuseFull cX10_refuseFull 1 (some .int) : Cond), (.methodLink RX10 95 yX7_add : Cond), (.instanceMethod yX7_add : Cond), (.selects RX7 yX7_add yX7_add : Cond), (.code yX7_add cX7_add 5 none : Cond), (.methodLink RX7 29 yX7_isFull : Cond), (.methodLink RX7 33 yX7_put : Cond), (.privateMethod yX7_put : Cond), (.instanceMethod yX7_put : Cond), (.code yX7_put cX7_put 5 none : Cond), (.methodLink RX10 102 yX7_empty : Cond), (.methodLink "DoeRoeLaw" 23 yX10_court : Cond), (.instanceMethod yX10_court : Cond), (.selects RX10 yX10_court yX10_court : Cond), (.code yX10_court cX10_court 3 (some .int) : Cond), (.methodLink "DoeRoeLaw" 28 yX10_type : Cond), (.instanceMethod yX10_type : Cond), (.selects RX10 yX10_type yX10_type : Cond), (.code yX10_type cX10_type 2 (some .int) : Cond), (.methodLink RX10 108 yX0_isFull : Cond), (.instanceMethod yX0_isFull : Cond), (.selects RX0 yX0_isFull yX0_isFull : Cond)]
set_option maxRecDepth 100000 in
theorem ch_8_ok : List.take 32 (List.drop 256 tables_1) = ch_8 := rfl
def ch_9 : List Cond := [(.code yX0_isFull cX0_isFull 1 (some .boolean) : Cond), (.methodLink RX10 109 yX0_add : Cond), (.instanceMethod yX0_add : Cond), (.selects RX0 yX0_add yX0_add : Cond), (.code yX0_add cX0_add 2 none : Cond), (.methodLink "DoeRoeLaw" 32 yX10_clear : Cond), (.instanceMethod yX10_clear : Cond), (.selects RX10 yX10_clear yX10_clear : Cond), (.code yX10_clear cX10_clear 2 (some .int) : Cond), (.methodLink "DoeRoeLaw" 37 yX10_read : Cond), (.instanceMethod yX10_read : Cond), (.selects RX10 yX10_read yX10_read : Cond), (.code yX10_read cX10_read 2 (some .int) : Cond), (.methodLink RX10 114 yX0_readInto : Cond), (.instanceMethod yX0_readInto : Cond), (.selects RX0 yX0_readInto yX0_readInto : Cond), (.code yX0_readInto cX0_readInto 3 (some .int) : Cond), (.methodLink RX0 19 yX3_begin : Cond), (.methodLink RX0 28 yX0_advance : Cond), (.privateMethod yX0_advance : Cond), (.instanceMethod yX0_advance : Cond), (.code yX0_advance cX0_advance 2 none : Cond), (.methodLink RX0 86 yX0_byteAt : Cond), (.privateMethod yX0_byteAt : Cond), (.instanceMethod yX0_byteAt : Cond), (.code yX0_byteAt cX0_byteAt 2 (some .int) : Cond), (.methodLink RX0 89 yX0_isLetter : Cond), (.static yX0_isLetter : Cond), (.code yX0_isLetter cX0_isLetter 1 (some .boolean) : Cond), (.methodLink RX0 93 yX0_advanceOverWord : Cond), (.privateMethod yX0_advanceOverWord : Cond), (.instanceMethod yX0_advanceOverWord : Cond)]
set_option maxRecDepth 100000 in
theorem ch_9_ok : List.take 32 (List.drop 288 tables_1) = ch_9 := rfl
def ch_10 : List Cond := [(.code yX0_advanceOverWord cX0_advanceOverWord 1 none : Cond), (Jvm.Cond.stringRef "DoeRoe$BookText" (102 : Nat) "book"), (.methodLink RX0 104 yX0_standsThere : Cond), (.privateMethod yX0_standsThere : Cond), (.instanceMethod yX0_standsThere : Cond), (.code yX0_standsThere cX0_standsThere 3 (some .boolean) : Cond), (.methodLink RX0 112 yJ0_length_8abf5 : Cond), (.instanceMethod yJ0_length_8abf5 : Cond), (.selects RJ0 yJ0_length_8abf5 yJ0_length_8abf5 : Cond), (.code yJ0_length_8abf5 cJ0_length_8abf5 1 (some .int) : Cond), (.methodLink RJ0 335 yJ0_coder_7d493 : Cond), (.instanceMethod yJ0_coder_7d493 : Cond), (.selects RJ0 yJ0_coder_7d493 yJ0_coder_7d493 : Cond), (.code yJ0_coder_7d493 cJ0_coder_7d493 1 (some .byte) : Cond), (.fieldLink RJ0 38 "java/lang/String" "COMPACT_STRINGS" "Z" : Cond), (Jvm.Cond.laysStatic "java/lang/String" "COMPACT_STRINGS" "Z"), (.methodLink RX0 116 yJ0_charAt_5068e : Cond), (.instanceMethod yJ0_charAt_5068e : Cond), (.selects RJ0 yJ0_charAt_5068e yJ0_charAt_5068e : Cond), (.code yJ0_charAt_5068e cJ0_charAt_5068e 2 (some .char) : Cond), (.methodLink RJ0 492 yJ0_isLatin1_aae02 : Cond), (.instanceMethod yJ0_isLatin1_aae02 : Cond), (.selects RJ0 yJ0_isLatin1_aae02 yJ0_isLatin1_aae02 : Cond), (.code yJ0_isLatin1_aae02 cJ0_isLatin1_aae02 1 (some .boolean) : Cond), (.methodLink RJ0 495 yJ1_charAt_3b067 : Cond), (.static yJ1_charAt_3b067 : Cond), (.code yJ1_charAt_3b067 cJ1_charAt_3b067 2 (some .char) : Cond), (.methodLink RJ1 9 yJ0_checkIndex_df160 : Cond), (.static yJ0_checkIndex_df160 : Cond), (.code yJ0_checkIndex_df160 cJ0_checkIndex_df160 2 none : Cond), (.fieldLink RJ0 1053 "jdk/internal/util/Preconditions" "SIOOBE_FORMATTER" "Ljava/util/function/BiFunction;" : Cond), (Jvm.Cond.laysStatic "jdk/internal/util/Preconditions" "SIOOBE_FORMATTER" "Ljava/util/function/BiFunction;")]
set_option maxRecDepth 100000 in
theorem ch_10_ok : List.take 32 (List.drop 320 tables_1) = ch_10 := rfl
def ch_11 : List Cond := [(.methodLink RJ0 1059 yJ3_checkIndex_8e157 : Cond), (.static yJ3_checkIndex_8e157 : Cond), (.code yJ3_checkIndex_8e157 cJ3_checkIndex_8e157 3 (some .int) : Cond), (.methodLink RJ0 498 yJ2_charAt_3b067 : Cond), (.static yJ2_charAt_3b067 : Cond), (.code yJ2_charAt_3b067 cJ2_charAt_3b067 2 (some .char) : Cond), (.methodLink RJ2 67 yJ2_checkIndex_2214a : Cond), (.static yJ2_checkIndex_2214a : Cond), (.code yJ2_checkIndex_2214a cJ2_checkIndex_2214a 2 none : Cond), (.methodLink RJ2 48 yJ2_length_9d52b : Cond), (.static yJ2_length_9d52b : Cond), (.code yJ2_length_9d52b cJ2_length_9d52b 1 (some .int) : Cond), (.methodLink RJ2 414 yJ0_checkIndex_df160 : Cond), (.methodLink RJ2 71 yJ2_getChar_3b067 : Cond), (.static yJ2_getChar_3b067 : Cond), (.code yJ2_getChar_3b067 cJ2_getChar_3b067 2 (some .char) : Cond), (.fieldLink RJ2 44 "java/lang/StringUTF16" "$assertionsDisabled" "Z" : Cond), (Jvm.Cond.laysStatic "java/lang/StringUTF16" "$assertionsDisabled" "Z"), (.fieldLink RJ2 59 "java/lang/StringUTF16" "HI_BYTE_SHIFT" "I" : Cond), (Jvm.Cond.laysStatic "java/lang/StringUTF16" "HI_BYTE_SHIFT" "I"), (.fieldLink RJ2 63 "java/lang/StringUTF16" "LO_BYTE_SHIFT" "I" : Cond), (Jvm.Cond.laysStatic "java/lang/StringUTF16" "LO_BYTE_SHIFT" "I"), (Jvm.Cond.stringRef "DoeRoe$BookText" (108 : Nat) "fiction"), (Jvm.Cond.stringRef "DoeRoe$BookText" (110 : Nat) "court"), (.methodLink RX0 96 yX0_isFigure : Cond), (.static yX0_isFigure : Cond), (.code yX0_isFigure cX0_isFigure 1 (some .boolean) : Cond), (.methodLink RX0 99 yX0_advanceOverFigures : Cond), (.privateMethod yX0_advanceOverFigures : Cond), (.instanceMethod yX0_advanceOverFigures : Cond), (.code yX0_advanceOverFigures cX0_advanceOverFigures 1 none : Cond), (.methodLink RX0 34 yX0_takeItem : Cond)]
set_option maxRecDepth 100000 in
theorem ch_11_ok : List.take 32 (List.drop 352 tables_1) = ch_11 := rfl
def ch_12 : List Cond := [(.privateMethod yX0_takeItem : Cond), (.instanceMethod yX0_takeItem : Cond), (.code yX0_takeItem cX0_takeItem 4 (some .boolean) : Cond), (.methodLink RX0 41 yX0_mayBegin : Cond), (.static yX0_mayBegin : Cond), (.code yX0_mayBegin cX0_mayBegin 3 (some .boolean) : Cond), (.methodLink RX0 59 yX7_isFull : Cond), (.methodLink RX0 45 yX0_takeFiction : Cond), (.privateMethod yX0_takeFiction : Cond), (.instanceMethod yX0_takeFiction : Cond), (.code yX0_takeFiction cX0_takeFiction 6 (some .boolean) : Cond), (.methodLink RX0 75 yX0_takeNumber : Cond), (.privateMethod yX0_takeNumber : Cond), (.instanceMethod yX0_takeNumber : Cond), (.code yX0_takeNumber cX0_takeNumber 3 (some .int) : Cond), (.methodLink RX0 68 yX0_takeFacts : Cond), (.privateMethod yX0_takeFacts : Cond), (.instanceMethod yX0_takeFacts : Cond), (.code yX0_takeFacts cX0_takeFacts 4 (some .int) : Cond), (.methodLink RX0 79 yX7_add : Cond), (.methodLink RX0 49 yX0_takeCourt : Cond), (.privateMethod yX0_takeCourt : Cond), (.instanceMethod yX0_takeCourt : Cond), (.code yX0_takeCourt cX0_takeCourt 4 (some .boolean) : Cond), (.methodLink RX0 52 yX0_takeBook : Cond), (.privateMethod yX0_takeBook : Cond), (.instanceMethod yX0_takeBook : Cond), (.code yX0_takeBook cX0_takeBook 3 (some .boolean) : Cond), (.methodLink RX10 118 yX3_become : Cond), (.instanceMethod yX3_become : Cond), (.selects RX3 yX3_become yX3_become : Cond), (.code yX3_become cX3_become 2 none : Cond)]
set_option maxRecDepth 100000 in
theorem ch_12_ok : List.take 32 (List.drop 384 tables_1) = ch_12 := rfl
def ch_13 : List Cond := [(.methodLink RX3 62 yX7_become : Cond), (.instanceMethod yX7_become : Cond), (.selects RX7 yX7_become yX7_become : Cond), (.code yX7_become cX7_become 3 none : Cond), (Jvm.Cond.arrayClass Jvm.ClassFile.FieldType.byte), (.methodLink "DoeRoeLaw" 41 yX10_suit : Cond), (.instanceMethod yX10_suit : Cond), (.selects RX10 yX10_suit yX10_suit : Cond), (.code yX10_suit cX10_suit 2 (some .int) : Cond), (.methodLink RX10 125 yJ6_bitCount_0f7a4 : Cond), (.static yJ6_bitCount_0f7a4 : Cond), (.code yJ6_bitCount_0f7a4 cJ6_bitCount_0f7a4 1 (some .int) : Cond), (.constant RJ6 265 (1431655765) : Cond), (.constant RJ6 266 (858993459) : Cond), (.constant RJ6 267 (252645135) : Cond), (.methodLink RX10 131 yX3_beginSuit : Cond), (.methodLink "DoeRoeLaw" 45 yX10_plead : Cond), (.instanceMethod yX10_plead : Cond), (.selects RX10 yX10_plead yX10_plead : Cond), (.code yX10_plead cX10_plead 3 (some .int) : Cond), (.methodLink RX10 134 yX10_isFiction : Cond), (.privateMethod yX10_isFiction : Cond), (.instanceMethod yX10_isFiction : Cond), (.code yX10_isFiction cX10_isFiction 2 (some .boolean) : Cond), (.methodLink RX10 138 yX10_mayPlead : Cond), (.privateMethod yX10_mayPlead : Cond), (.instanceMethod yX10_mayPlead : Cond), (.code yX10_mayPlead cX10_mayPlead 2 (some .boolean) : Cond), (.methodLink RX10 157 yX10_isPleaded : Cond), (.privateMethod yX10_isPleaded : Cond), (.instanceMethod yX10_isPleaded : Cond), (.code yX10_isPleaded cX10_isPleaded 2 (some .boolean) : Cond)]
set_option maxRecDepth 100000 in
theorem ch_13_ok : List.take 32 (List.drop 416 tables_1) = ch_13 := rfl
def ch_14 : List Cond := [(.methodLink RX10 286 yX10_holds : Cond), (.static yX10_holds : Cond), (.code yX10_holds cX10_holds 2 (some .boolean) : Cond), (.methodLink RX10 169 yX10_supposed : Cond), (.privateMethod yX10_supposed : Cond), (.instanceMethod yX10_supposed : Cond), (.code yX10_supposed cX10_supposed 1 (some .int) : Cond), (.methodLink RX10 199 yX3_factsWith : Cond), (.instanceMethod yX3_factsWith : Cond), (.selects RX3 yX3_factsWith yX3_factsWith : Cond), (.code yX3_factsWith cX3_factsWith 4 (some .int) : Cond), (.methodLinkNest RX3 108 yX10_holds "DoeRoe" : Cond), (.methodLink RX3 80 yX7_cell : Cond), (.instanceMethod yX7_cell : Cond), (.selects RX7 yX7_cell yX7_cell : Cond), (.code yX7_cell cX7_cell 4 (some .int) : Cond), (.methodLink RX10 289 yX3_allowed : Cond), (.instanceMethod yX3_allowed : Cond), (.selects RX3 yX3_allowed yX3_allowed : Cond), (.code yX3_allowed cX3_allowed 7 (some .boolean) : Cond), (.methodLink RX3 87 yJ6_bitCount_0f7a4 : Cond), (.methodLink RX3 93 yX3_kindNumbered : Cond), (.privateMethod yX3_kindNumbered : Cond), (.instanceMethod yX3_kindNumbered : Cond), (.code yX3_kindNumbered cX3_kindNumbered 3 (some (.object "DoeRoe$Plain")) : Cond), (.methodLink RX3 97 yX6_allows : Cond), (.instanceMethod yX6_allows : Cond), (.selects RX6 yX6_allows yX6_allows : Cond), (Jvm.Cond.sameMethod "DoeRoe$Plain" "DoeRoe$Plain" "allows" "(III)Z"), (.selects RX1 yX6_allows yX1_allows : Cond), (.instanceMethod yX1_allows : Cond), (.code yX1_allows cX1_allows 4 (some .boolean) : Cond)]
set_option maxRecDepth 100000 in
theorem ch_14_ok : List.take 32 (List.drop 448 tables_1) = ch_14 := rfl
def ch_15 : List Cond := [(.methodLink RX1 7 yX6_allows : Cond), (.selects RX2 yX6_allows yX2_allows : Cond), (.instanceMethod yX2_allows : Cond), (.code yX2_allows cX2_allows 4 (some .boolean) : Cond), (.methodLink RX2 7 yX6_allows : Cond), (.selects RX5 yX6_allows yX6_allows : Cond), (.selects RX8 yX6_allows yX1_allows : Cond), (.selects RX9 yX6_allows yX9_allows : Cond), (.instanceMethod yX9_allows : Cond), (.code yX9_allows cX9_allows 4 (some .boolean) : Cond), (.methodLink RX9 7 ⟨"DoeRoe$Persons", "allows", "(III)Z"⟩ : Cond), (Jvm.Cond.sameMethod "DoeRoe$Persons" "DoeRoe$Plain" "allows" "(III)Z"), (.declares yX6_allows : Cond), (.code yX6_allows cX6_allows 4 (some .boolean) : Cond), (.methodLink RX10 141 yX10_refuseNo : Cond), (.privateMethod yX10_refuseNo : Cond), (.instanceMethod yX10_refuseNo : Cond), (.code yX10_refuseNo cX10_refuseNo 1 (some .int) : Cond), (.methodLink RX10 147 yX3_ownCost : Cond), (.instanceMethod yX3_ownCost : Cond), (.selects RX3 yX3_ownCost yX3_ownCost : Cond), (.code yX3_ownCost cX3_ownCost 3 (some .int) : Cond), (.methodLink RX3 101 yX6_cost : Cond), (.instanceMethod yX6_cost : Cond), (.selects RX6 yX6_cost yX6_cost : Cond), (Jvm.Cond.sameMethod "DoeRoe$Plain" "DoeRoe$Plain" "cost" "(II)I"), (.selects RX1 yX6_cost yX1_cost : Cond), (.instanceMethod yX1_cost : Cond), (.code yX1_cost cX1_cost 3 (some .int) : Cond), (.methodLink RX1 11 yX6_cost : Cond), (.selects RX2 yX6_cost yX6_cost : Cond), (.selects RX5 yX6_cost yX5_cost : Cond)]
set_option maxRecDepth 100000 in
theorem ch_15_ok : List.take 32 (List.drop 480 tables_1) = ch_15 := rfl
def ch_16 : List Cond := [(.instanceMethod yX5_cost : Cond), (.code yX5_cost cX5_cost 4 (some .int) : Cond), (.methodLink RX5 7 yX6_cost : Cond), (.selects RX8 yX6_cost yX8_cost : Cond), (.instanceMethod yX8_cost : Cond), (.code yX8_cost cX8_cost 3 (some .int) : Cond), (.methodLink RX8 7 yX1_cost : Cond), (.selects RX9 yX6_cost yX5_cost : Cond), (.code yX6_cost cX6_cost 3 (some .int) : Cond), (.methodLink RX10 151 yX3_keepForUndo : Cond), (.instanceMethod yX3_keepForUndo : Cond), (.selects RX3 yX3_keepForUndo yX3_keepForUndo : Cond), (.code yX3_keepForUndo cX3_keepForUndo 1 none : Cond), (.methodLink RX3 66 yX7_isFull : Cond), (.methodLink RX3 70 yX7_dropFirst : Cond), (.instanceMethod yX7_dropFirst : Cond), (.selects RX7 yX7_dropFirst yX7_dropFirst : Cond), (.code yX7_dropFirst cX7_dropFirst 3 none : Cond), (.methodLink RX7 37 yX7_dropLast : Cond), (.instanceMethod yX7_dropLast : Cond), (.selects RX7 yX7_dropLast yX7_dropLast : Cond), (.code yX7_dropLast cX7_dropLast 1 none : Cond), (.methodLink RX3 73 yX7_add : Cond), (.methodLink "DoeRoeLaw" 49 yX10_deny : Cond), (.instanceMethod yX10_deny : Cond), (.selects RX10 yX10_deny yX10_deny : Cond), (.code yX10_deny cX10_deny 2 (some .int) : Cond), (.methodLink RX10 160 yX3_denialWins : Cond), (.instanceMethod yX3_denialWins : Cond), (.selects RX3 yX3_denialWins yX3_denialWins : Cond), (.code yX3_denialWins cX3_denialWins 3 (some .boolean) : Cond), (.methodLink RX3 104 yX6_losesWith : Cond)]
set_option maxRecDepth 100000 in
theorem ch_16_ok : List.take 32 (List.drop 512 tables_1) = ch_16 := rfl
def ch_17 : List Cond := [(.instanceMethod yX6_losesWith : Cond), (.selects RX6 yX6_losesWith yX6_losesWith : Cond), (Jvm.Cond.sameMethod "DoeRoe$Plain" "DoeRoe$Plain" "losesWith" "(I)Z"), (.selects RX1 yX6_losesWith yX6_losesWith : Cond), (.selects RX2 yX6_losesWith yX6_losesWith : Cond), (.selects RX5 yX6_losesWith yX5_losesWith : Cond), (.instanceMethod yX5_losesWith : Cond), (.code yX5_losesWith cX5_losesWith 2 (some .boolean) : Cond), (.selects RX8 yX6_losesWith yX8_losesWith : Cond), (.instanceMethod yX8_losesWith : Cond), (.code yX8_losesWith cX8_losesWith 2 (some .boolean) : Cond), (.selects RX9 yX6_losesWith yX9_losesWith : Cond), (.instanceMethod yX9_losesWith : Cond), (.code yX9_losesWith cX9_losesWith 2 (some .boolean) : Cond), (.code yX6_losesWith cX6_losesWith 2 (some .boolean) : Cond), (.methodLink "DoeRoeLaw" 53 yX10_undo : Cond), (.instanceMethod yX10_undo : Cond), (.selects RX10 yX10_undo yX10_undo : Cond), (.code yX10_undo cX10_undo 1 (some .int) : Cond), (.methodLink RX10 163 yX3_takeBack : Cond), (.instanceMethod yX3_takeBack : Cond), (.selects RX3 yX3_takeBack yX3_takeBack : Cond), (.code yX3_takeBack cX3_takeBack 2 none : Cond), (.methodLink RX3 84 yX7_dropLast : Cond), (.methodLink "DoeRoeLaw" 57 yX10_of : Cond), (.instanceMethod yX10_of : Cond), (.selects RX10 yX10_of yX10_of : Cond), (.code yX10_of cX10_of 3 (some .int) : Cond), (.methodLink RX10 166 yX7_cell : Cond), (.methodLink "DoeRoeLaw" 61 yX10_now : Cond), (.instanceMethod yX10_now : Cond), (.selects RX10 yX10_now yX10_now : Cond)]
set_option maxRecDepth 100000 in
theorem ch_17_ok : List.take 32 (List.drop 544 tables_1) = ch_17 := rfl
def ch_18 : List Cond := [(.code yX10_now cX10_now 2 (some .int) : Cond), (.methodLink "DoeRoeLaw" 65 yX10_may : Cond), (.instanceMethod yX10_may : Cond), (.selects RX10 yX10_may yX10_may : Cond), (.code yX10_may cX10_may 3 (some .int) : Cond), (.methodLink "DoeRoeLaw" 69 yX10_hear : Cond), (.instanceMethod yX10_hear : Cond), (.selects RX10 yX10_hear yX10_hear : Cond), (.code yX10_hear cX10_hear 1 (some .int) : Cond), (.methodLink RX10 175 yX3_hearing : Cond), (.instanceMethod yX3_hearing : Cond), (.selects RX3 yX3_hearing yX3_hearing : Cond), (.code yX3_hearing cX3_hearing 4 (some .int) : Cond), (.methodLink RX3 115 yX3_courtHears : Cond), (.instanceMethod yX3_courtHears : Cond), (.selects RX3 yX3_courtHears yX3_courtHears : Cond), (.code yX3_courtHears cX3_courtHears 3 (some .boolean) : Cond), (.methodLink "DoeRoeLaw" 73 yX10_least : Cond), (.instanceMethod yX10_least : Cond), (.selects RX10 yX10_least yX10_least : Cond), (.code yX10_least cX10_least 5 (some .int) : Cond), (.methodLink RX10 178 yX10_isCourt : Cond), (.privateMethod yX10_isCourt : Cond), (.instanceMethod yX10_isCourt : Cond), (.code yX10_isCourt cX10_isCourt 2 (some .boolean) : Cond), (.methodLink RX10 181 yX4_measure : Cond), (.instanceMethod yX4_measure : Cond), (.selects RX4 yX4_measure yX4_measure : Cond), (.code yX4_measure cX4_measure 6 (some .int) : Cond), (.methodLink RX4 24 yX4_allFictions : Cond), (.static yX4_allFictions : Cond), (.code yX4_allFictions cX4_allFictions 1 (some .int) : Cond)]
set_option maxRecDepth 100000 in
theorem ch_18_ok : List.take 32 (List.drop 576 tables_1) = ch_18 := rfl
def ch_19 : List Cond := [(.methodLink RX4 28 yX4_settle : Cond), (.privateMethod yX4_settle : Cond), (.instanceMethod yX4_settle : Cond), (.code yX4_settle cX4_settle 12 none : Cond), (.methodLink RX4 36 yX3_factsWith : Cond), (.methodLink RX4 65 yX3_courtHears : Cond), (.methodLink RX4 68 yX4_keep : Cond), (.privateMethod yX4_keep : Cond), (.instanceMethod yX4_keep : Cond), (.code yX4_keep cX4_keep 4 none : Cond), (.methodLink RX4 44 yX4_stepAt : Cond), (.static yX4_stepAt : Cond), (.code yX4_stepAt cX4_stepAt 2 (some .int) : Cond), (.methodLink RX4 79 yJ6_bitCount_0f7a4 : Cond), (.methodLink RX4 32 yX4_at : Cond), (.static yX4_at : Cond), (.code yX4_at cX4_at 2 (some .int) : Cond), (.methodLinkNest RX4 57 yX10_holds "DoeRoe" : Cond), (.methodLink RX4 61 yX3_allowed : Cond), (.methodLink RX4 72 yX3_ownCost : Cond), (.methodLink RX10 185 yX4_fictionAt : Cond), (.instanceMethod yX4_fictionAt : Cond), (.selects RX4 yX4_fictionAt yX4_fictionAt : Cond), (.code yX4_fictionAt cX4_fictionAt 6 (some .int) : Cond), (.methodLink "DoeRoeLaw" 78 yX10_ever : Cond), (.instanceMethod yX10_ever : Cond), (.selects RX10 yX10_ever yX10_ever : Cond), (.code yX10_ever cX10_ever 1 (some .int) : Cond), (.methodLink RX10 189 yX4_reachable : Cond), (.instanceMethod yX4_reachable : Cond), (.selects RX4 yX4_reachable yX4_reachable : Cond), (.code yX4_reachable cX4_reachable 8 (some .int) : Cond)]
set_option maxRecDepth 100000 in
theorem ch_19_ok : List.take 32 (List.drop 608 tables_1) = ch_19 := rfl
def ch_20 : List Cond := [(.methodLink RX4 40 yX4_setsBehind : Cond), (.privateMethod yX4_setsBehind : Cond), (.instanceMethod yX4_setsBehind : Cond), (.code yX4_setsBehind cX4_setsBehind 8 (some .long) : Cond), (.methodLink "DoeRoeLaw" 82 yX10_contradict : Cond), (.instanceMethod yX10_contradict : Cond), (.selects RX10 yX10_contradict yX10_contradict : Cond), (.code yX10_contradict cX10_contradict 1 (some .int) : Cond), (.methodLink RX10 192 yX10_pairsIn : Cond), (.static yX10_pairsIn : Cond), (.code yX10_pairsIn cX10_pairsIn 3 (some .int) : Cond), (.methodLink "DoeRoeLaw" 86 yX10_giveUp : Cond), (.instanceMethod yX10_giveUp : Cond), (.selects RX10 yX10_giveUp yX10_giveUp : Cond), (.code yX10_giveUp cX10_giveUp 3 (some .int) : Cond), (.methodLink RX10 195 yX10_fewer : Cond), (.static yX10_fewer : Cond), (.code yX10_fewer cX10_fewer 2 (some .boolean) : Cond), (.methodLink RX10 202 yX10_contradictIn : Cond), (.static yX10_contradictIn : Cond), (.code yX10_contradictIn cX10_contradictIn 1 (some .boolean) : Cond), (.methodLink "DoeRoeLaw" 90 yX10_denial : Cond), (.instanceMethod yX10_denial : Cond), (.selects RX10 yX10_denial yX10_denial : Cond), (.code yX10_denial cX10_denial 7 (some .int) : Cond), (.methodLink RX10 205 yX10_gainOfOne : Cond), (.static yX10_gainOfOne : Cond), (.code yX10_gainOfOne cX10_gainOfOne 3 (some .int) : Cond), (.methodLink RX10 209 yX10_gainOfOther : Cond), (.static yX10_gainOfOther : Cond), (.code yX10_gainOfOther cX10_gainOfOther 3 (some .int) : Cond), (.methodLink "DoeRoeLaw" 94 yX10_fees : Cond)]
set_option maxRecDepth 100000 in
theorem ch_20_ok : List.take 32 (List.drop 640 tables_1) = ch_20 := rfl
def ch_21 : List Cond := [(.instanceMethod yX10_fees : Cond), (.selects RX10 yX10_fees yX10_fees : Cond), (.code yX10_fees cX10_fees 7 (some .int) : Cond), (.methodLink "DoeRoeLaw" 98 yX10_rule : Cond), (.instanceMethod yX10_rule : Cond), (.selects RX10 yX10_rule yX10_rule : Cond), (.code yX10_rule cX10_rule 2 (some .int) : Cond), (.methodLink "DoeRoeLaw" 102 yX10_note : Cond), (.instanceMethod yX10_note : Cond), (.selects RX10 yX10_note yX10_note : Cond), (.code yX10_note cX10_note 4 (some .int) : Cond), (.methodLink "DoeRoeLaw" 106 yX10_heard : Cond), (.instanceMethod yX10_heard : Cond), (.selects RX10 yX10_heard yX10_heard : Cond), (.code yX10_heard cX10_heard 3 (some .int) : Cond), (.methodLink "DoeRoeLaw" 110 yX10_forget : Cond), (.instanceMethod yX10_forget : Cond), (.selects RX10 yX10_forget yX10_forget : Cond), (.code yX10_forget cX10_forget 4 (some .int) : Cond), (.methodLink "DoeRoeLaw" 114 yX10_is : Cond), (.instanceMethod yX10_is : Cond), (.selects RX10 yX10_is yX10_is : Cond), (.code yX10_is cX10_is 2 (some .int) : Cond), (.methodLink RX10 218 yX3_kindsByNotes : Cond), (.instanceMethod yX3_kindsByNotes : Cond), (.selects RX3 yX3_kindsByNotes yX3_kindsByNotes : Cond), (.code yX3_kindsByNotes cX3_kindsByNotes 4 (some .int) : Cond), (.methodLink RX3 124 yX3_fitsNotes : Cond), (.privateMethod yX3_fitsNotes : Cond), (.instanceMethod yX3_fitsNotes : Cond), (.code yX3_fitsNotes cX3_fitsNotes 4 (some .boolean) : Cond), (.methodLink RX3 136 yX3_costAs : Cond)]
set_option maxRecDepth 100000 in
theorem ch_21_ok : List.take 32 (List.drop 672 tables_1) = ch_21 := rfl
def ch_22 : List Cond := [(.privateMethod yX3_costAs : Cond), (.instanceMethod yX3_costAs : Cond), (.code yX3_costAs cX3_costAs 4 (some .int) : Cond), (.methodLink "DoeRoeLaw" 118 yX10_look : Cond), (.instanceMethod yX10_look : Cond), (.selects RX10 yX10_look yX10_look : Cond), (.code yX10_look cX10_look 7 (some .int) : Cond), (.methodLink RX10 221 yX3_mostAlike : Cond), (.instanceMethod yX3_mostAlike : Cond), (.selects RX3 yX3_mostAlike yX3_mostAlike : Cond), (.code yX3_mostAlike cX3_mostAlike 6 (some .int) : Cond), (.methodLink RX3 127 yX3_alikeWith : Cond), (.privateMethod yX3_alikeWith : Cond), (.instanceMethod yX3_alikeWith : Cond), (.code yX3_alikeWith cX3_alikeWith 8 (some .int) : Cond), (.methodLink RX3 131 yJ9_max_7cf53 : Cond), (.methodLink "DoeRoeLaw" 122 yX10_truth : Cond), (.instanceMethod yX10_truth : Cond), (.selects RX10 yX10_truth yX10_truth : Cond), (.code yX10_truth cX10_truth 6 (some .int) : Cond), (.methodLink RX10 225 yX3_fitsHearings : Cond), (.instanceMethod yX3_fitsHearings : Cond), (.selects RX3 yX3_fitsHearings yX3_fitsHearings : Cond), (.code yX3_fitsHearings cX3_fitsHearings 4 (some .boolean) : Cond), (.methodLink "DoeRoeLaw" 126 yX10_odds : Cond), (.instanceMethod yX10_odds : Cond), (.selects RX10 yX10_odds yX10_odds : Cond), (.code yX10_odds cX10_odds 9 (some .int) : Cond), (.methodLink RX10 228 yX3_pleadedThatLose : Cond), (.instanceMethod yX3_pleadedThatLose : Cond), (.selects RX3 yX3_pleadedThatLose yX3_pleadedThatLose : Cond), (.code yX3_pleadedThatLose cX3_pleadedThatLose 3 (some .int) : Cond)]
set_option maxRecDepth 100000 in
theorem ch_22_ok : List.take 32 (List.drop 704 tables_1) = ch_22 := rfl
def ch_23 : List Cond := [(.methodLink RX3 112 yX3_denialWins : Cond), (.methodLink RX10 231 yX3_courtHears : Cond), (.methodLink RX10 234 yX10_power : Cond), (.static yX10_power : Cond), (.code yX10_power cX10_power 5 (some .long) : Cond), (.methodLink RX10 238 yX10_keepFraction : Cond), (.privateMethod yX10_keepFraction : Cond), (.instanceMethod yX10_keepFraction : Cond), (.code yX10_keepFraction cX10_keepFraction 7 none : Cond), (.methodLink RX10 292 yX10_commonDivisor : Cond), (.static yX10_commonDivisor : Cond), (.code yX10_commonDivisor cX10_commonDivisor 11 (some .long) : Cond), (.methodLink "DoeRoeLaw" 130 yX10_terms : Cond), (.instanceMethod yX10_terms : Cond), (.selects RX10 yX10_terms yX10_terms : Cond), (.code yX10_terms cX10_terms 10 (some .int) : Cond), (.constant RX10 242 (999999) : Cond), (.constantLong RX10 243 (1103515245) : Cond), (.constantLong RX10 245 (12345) : Cond), (.constantLong RX10 247 (2147483648) : Cond), (.constantLong RX10 249 (65536) : Cond), (.constantLong RX10 251 (6) : Cond), (.methodLink RX10 253 yX3_afterTerm : Cond), (.instanceMethod yX3_afterTerm : Cond), (.selects RX3 yX3_afterTerm yX3_afterTerm : Cond), (.code yX3_afterTerm cX3_afterTerm 4 (some .int) : Cond), (.methodLink RX3 118 yX3_factsWith : Cond), (.methodLink RX3 121 yX3_allowed : Cond), (.methodLink "DoeRoeLaw" 134 yX10_part : Cond), (.instanceMethod yX10_part : Cond), (.selects RX10 yX10_part yX10_part : Cond), (.code yX10_part cX10_part 2 (some .long) : Cond)]
set_option maxRecDepth 100000 in
theorem ch_23_ok : List.take 32 (List.drop 736 tables_1) = ch_23 := rfl
def ch_24 : List Cond := [(.methodLink "DoeRoeLaw" 139 yX10_image : Cond), (.instanceMethod yX10_image : Cond), (.selects RX10 yX10_image yX10_image : Cond), (.code yX10_image cX10_image 2 (some .int) : Cond), (.methodLink "DoeRoeLaw" 143 yX10_from : Cond), (.instanceMethod yX10_from : Cond), (.selects RX10 yX10_from yX10_from : Cond), (.code yX10_from cX10_from 2 (some .int) : Cond), (.methodLink "DoeRoeLaw" 147 yX10_status : Cond), (.instanceMethod yX10_status : Cond), (.selects RX10 yX10_status yX10_status : Cond), (.code yX10_status cX10_status 2 (some .int) : Cond), (.methodLink "DoeRoeLaw" 151 yX10_count : Cond), (.instanceMethod yX10_count : Cond), (.selects RX10 yX10_count yX10_count : Cond), (.code yX10_count cX10_count 2 (some .int) : Cond), (.methodLink "DoeRoeLaw" 155 yX10_digest : Cond), (.instanceMethod yX10_digest : Cond), (.selects RX10 yX10_digest yX10_digest : Cond), (.code yX10_digest cX10_digest 4 (some .long) : Cond), (.constantLong RX10 272 (1283) : Cond), (.constantLong RX10 274 (31) : Cond), (.methodLink RX10 276 yX10_count : Cond), (.methodLink RX10 279 yX10_now : Cond), (.methodLink RX10 282 yX7_digestFrom : Cond), (.instanceMethod yX7_digestFrom : Cond), (.selects RX7 yX7_digestFrom yX7_digestFrom : Cond), (.code yX7_digestFrom cX7_digestFrom 7 (some .long) : Cond), (.constantLong RX7 40 (31) : Cond), (.methodLink RX7 42 yX7_cell : Cond), (.classLink "DoeRoeLaw" 10 RX11 : Cond), (.instantiable RX11 22 : Cond)]
set_option maxRecDepth 100000 in
theorem ch_24_ok : List.take 32 (List.drop 768 tables_1) = ch_24 := rfl
def ch_25 : List Cond := [(.methodLink "DoeRoeLaw" 12 yX11_init : Cond), (.instanceMethod yX11_init : Cond), (.code yX11_init cX11_init 1 none : Cond), (.methodLink RX11 1 objectInit : Cond), (.fieldLink RX11 7 "DoeRoeModel" "row" "[I" : Cond), (.fieldLink RX11 13 "DoeRoeModel" "isKept" "[Z" : Cond), (.fieldLink RX11 17 "DoeRoeModel" "refused" "[I" : Cond), (.fieldLink RX11 212 "DoeRoeModel" "above" "J" : Cond), (.fieldLink RX11 20 "DoeRoeModel" "below" "J" : Cond), (.fieldLink RX11 24 "DoeRoeModel" "text" "[I" : Cond), (.fieldLink RX11 68 "DoeRoeModel" "length" "I" : Cond), (.fieldLink RX11 27 "DoeRoeModel" "words" "[I" : Cond), (.fieldLink RX11 75 "DoeRoeModel" "at" "I" : Cond), (.fieldLink RX11 72 "DoeRoeModel" "behind" "I" : Cond), (.fieldLink RX11 111 "DoeRoeModel" "readTrue" "I" : Cond), (.fieldLink RX11 30 "DoeRoeModel" "readFictions" "[I" : Cond), (.fieldLink RX11 95 "DoeRoeModel" "readMany" "I" : Cond), (.fieldLink RX11 33 "DoeRoeModel" "readCourts" "[I" : Cond), (.fieldLink RX11 105 "DoeRoeModel" "readCourtMany" "I" : Cond), (.fieldLink RX11 36 "DoeRoeModel" "choices" "[I" : Cond), (.fieldLink RX11 39 "DoeRoeModel" "pleadedBy" "[I" : Cond), (.fieldLink RX11 42 "DoeRoeModel" "costs" "[I" : Cond), (.fieldLink RX11 172 "DoeRoeModel" "rowSize" "I" : Cond), (.fieldLink RX11 168 "DoeRoeModel" "isBegun" "Z" : Cond), (.fieldLink RX11 45 "DoeRoeModel" "bestRow" "[I" : Cond), (.fieldLink RX11 181 "DoeRoeModel" "bestSize" "I" : Cond), (Jvm.Cond.laysFinal "DoeRoeModel" "DoeRoeModel" "row" "[I"), (Jvm.Cond.soleField "DoeRoeModel" "row"), (Jvm.Cond.laysFinal "DoeRoeModel" "DoeRoeModel" "isKept" "[Z"), (Jvm.Cond.soleField "DoeRoeModel" "isKept"), (Jvm.Cond.laysFinal "DoeRoeModel" "DoeRoeModel" "refused" "[I"), (Jvm.Cond.soleField "DoeRoeModel" "refused")]
set_option maxRecDepth 100000 in
theorem ch_25_ok : List.take 32 (List.drop 800 tables_1) = ch_25 := rfl
def ch_26 : List Cond := [(Jvm.Cond.lays "DoeRoeModel" "DoeRoeModel" "above" "J"), (Jvm.Cond.soleField "DoeRoeModel" "above"), (Jvm.Cond.lays "DoeRoeModel" "DoeRoeModel" "below" "J"), (Jvm.Cond.soleField "DoeRoeModel" "below"), (Jvm.Cond.laysFinal "DoeRoeModel" "DoeRoeModel" "text" "[I"), (Jvm.Cond.soleField "DoeRoeModel" "text"), (Jvm.Cond.lays "DoeRoeModel" "DoeRoeModel" "length" "I"), (Jvm.Cond.soleField "DoeRoeModel" "length"), (Jvm.Cond.laysFinal "DoeRoeModel" "DoeRoeModel" "words" "[I"), (Jvm.Cond.soleField "DoeRoeModel" "words"), (Jvm.Cond.lays "DoeRoeModel" "DoeRoeModel" "at" "I"), (Jvm.Cond.soleField "DoeRoeModel" "at"), (Jvm.Cond.lays "DoeRoeModel" "DoeRoeModel" "behind" "I"), (Jvm.Cond.soleField "DoeRoeModel" "behind"), (Jvm.Cond.lays "DoeRoeModel" "DoeRoeModel" "readTrue" "I"), (Jvm.Cond.soleField "DoeRoeModel" "readTrue"), (Jvm.Cond.laysFinal "DoeRoeModel" "DoeRoeModel" "readFictions" "[I"), (Jvm.Cond.soleField "DoeRoeModel" "readFictions"), (Jvm.Cond.lays "DoeRoeModel" "DoeRoeModel" "readMany" "I"), (Jvm.Cond.soleField "DoeRoeModel" "readMany"), (Jvm.Cond.laysFinal "DoeRoeModel" "DoeRoeModel" "readCourts" "[I"), (Jvm.Cond.soleField "DoeRoeModel" "readCourts"), (Jvm.Cond.lays "DoeRoeModel" "DoeRoeModel" "readCourtMany" "I"), (Jvm.Cond.soleField "DoeRoeModel" "readCourtMany"), (Jvm.Cond.laysFinal "DoeRoeModel" "DoeRoeModel" "choices" "[I"), (Jvm.Cond.soleField "DoeRoeModel" "choices"), (Jvm.Cond.laysFinal "DoeRoeModel" "DoeRoeModel" "pleadedBy" "[I"), (Jvm.Cond.soleField "DoeRoeModel" "pleadedBy"), (Jvm.Cond.laysFinal "DoeRoeModel" "DoeRoeModel" "costs" "[I"), (Jvm.Cond.soleField "DoeRoeModel" "costs"), (Jvm.Cond.lays "DoeRoeModel" "DoeRoeModel" "rowSize" "I"), (Jvm.Cond.soleField "DoeRoeModel" "rowSize")]
set_option maxRecDepth 100000 in
theorem ch_26_ok : List.take 32 (List.drop 832 tables_1) = ch_26 := rfl
def ch_27 : List Cond := [(Jvm.Cond.lays "DoeRoeModel" "DoeRoeModel" "isBegun" "Z"), (Jvm.Cond.soleField "DoeRoeModel" "isBegun"), (Jvm.Cond.laysFinal "DoeRoeModel" "DoeRoeModel" "bestRow" "[I"), (Jvm.Cond.soleField "DoeRoeModel" "bestRow"), (Jvm.Cond.lays "DoeRoeModel" "DoeRoeModel" "bestSize" "I"), (Jvm.Cond.soleField "DoeRoeModel" "bestSize"), (Jvm.Cond.superclass "DoeRoeModel" "java/lang/Object"), (Jvm.Cond.arrayClass Jvm.ClassFile.FieldType.boolean), (.methodLink "DoeRoeLaw" 17 yX11_book : Cond), (.instanceMethod yX11_book : Cond), (.selects RX11 yX11_book yX11_book : Cond), (.code yX11_book cX11_book 3 (some .int) : Cond), (.methodLink RX11 52 yX11_in : Cond), (.static yX11_in : Cond), (.code yX11_in cX11_in 3 (some .boolean) : Cond), (.methodLink RX11 48 yX11_refuse : Cond), (.privateMethod yX11_refuse : Cond), (.instanceMethod yX11_refuse : Cond), (.code yX11_refuse cX11_refuse 2 (some .int) : Cond), (.methodLink RX11 56 yX11_layBook : Cond), (.privateMethod yX11_layBook : Cond), (.instanceMethod yX11_layBook : Cond), (.code yX11_layBook cX11_layBook 3 none : Cond), (.methodLink "DoeRoeLaw" 22 yX11_fiction : Cond), (.instanceMethod yX11_fiction : Cond), (.selects RX11 yX11_fiction yX11_fiction : Cond), (.code yX11_fiction cX11_fiction 5 (some .int) : Cond), (.methodLink RX11 60 yX11_addFiction : Cond), (.privateMethod yX11_addFiction : Cond), (.instanceMethod yX11_addFiction : Cond), (.code yX11_addFiction cX11_addFiction 6 none : Cond), (.methodLink "DoeRoeLaw" 27 yX11_court : Cond)]
set_option maxRecDepth 100000 in
theorem ch_27_ok : List.take 32 (List.drop 864 tables_1) = ch_27 := rfl
def ch_28 : List Cond := [(.instanceMethod yX11_court : Cond), (.selects RX11 yX11_court yX11_court : Cond), (.code yX11_court cX11_court 3 (some .int) : Cond), (.methodLink RX11 64 yX11_addCourt : Cond), (.privateMethod yX11_addCourt : Cond), (.instanceMethod yX11_addCourt : Cond), (.code yX11_addCourt cX11_addCourt 3 none : Cond), (.methodLink "DoeRoeLaw" 31 yX11_type : Cond), (.instanceMethod yX11_type : Cond), (.selects RX11 yX11_type yX11_type : Cond), (.code yX11_type cX11_type 2 (some .int) : Cond), (.methodLink "DoeRoeLaw" 36 yX11_clear : Cond), (.instanceMethod yX11_clear : Cond), (.selects RX11 yX11_clear yX11_clear : Cond), (.code yX11_clear cX11_clear 2 (some .int) : Cond), (.methodLink "DoeRoeLaw" 40 yX11_read : Cond), (.instanceMethod yX11_read : Cond), (.selects RX11 yX11_read yX11_read : Cond), (.code yX11_read cX11_read 3 (some .int) : Cond), (.methodLink RX11 121 yX11_readItems : Cond), (.privateMethod yX11_readItems : Cond), (.instanceMethod yX11_readItems : Cond), (.code yX11_readItems cX11_readItems 4 (some .int) : Cond), (.methodLink RX11 88 yX11_next : Cond), (.privateMethod yX11_next : Cond), (.instanceMethod yX11_next : Cond), (.code yX11_next cX11_next 1 none : Cond), (.methodLink RX11 78 yX11_isLetter : Cond), (.privateMethod yX11_isLetter : Cond), (.instanceMethod yX11_isLetter : Cond), (.code yX11_isLetter cX11_isLetter 2 (some .boolean) : Cond), (.methodLink RX11 82 yX11_isFigure : Cond)]
set_option maxRecDepth 100000 in
theorem ch_28_ok : List.take 32 (List.drop 896 tables_1) = ch_28 := rfl
def ch_29 : List Cond := [(.privateMethod yX11_isFigure : Cond), (.instanceMethod yX11_isFigure : Cond), (.code yX11_isFigure cX11_isFigure 2 (some .boolean) : Cond), (.methodLink RX11 108 yX11_wordHere : Cond), (.privateMethod yX11_wordHere : Cond), (.instanceMethod yX11_wordHere : Cond), (.code yX11_wordHere cX11_wordHere 2 (some .int) : Cond), (.methodLink RX11 85 yX11_isWord : Cond), (.privateMethod yX11_isWord : Cond), (.instanceMethod yX11_isWord : Cond), (.code yX11_isWord cX11_isWord 5 (some .boolean) : Cond), (.methodLink RX11 101 yX11_facts : Cond), (.privateMethod yX11_facts : Cond), (.instanceMethod yX11_facts : Cond), (.code yX11_facts cX11_facts 3 (some .int) : Cond), (.methodLink RX11 91 yX11_numberHere : Cond), (.privateMethod yX11_numberHere : Cond), (.instanceMethod yX11_numberHere : Cond), (.code yX11_numberHere cX11_numberHere 4 (some .int) : Cond), (.methodLink RX11 114 yX11_readsFiction : Cond), (.privateMethod yX11_readsFiction : Cond), (.instanceMethod yX11_readsFiction : Cond), (.code yX11_readsFiction cX11_readsFiction 5 (some .boolean) : Cond), (.methodLink RX11 98 yX11_number : Cond), (.privateMethod yX11_number : Cond), (.instanceMethod yX11_number : Cond), (.code yX11_number cX11_number 3 (some .int) : Cond), (.methodLink RX11 118 yX11_readsCourt : Cond), (.privateMethod yX11_readsCourt : Cond), (.instanceMethod yX11_readsCourt : Cond), (.code yX11_readsCourt cX11_readsCourt 3 (some .boolean) : Cond), (.methodLink "DoeRoeLaw" 44 yX11_suit : Cond)]
set_option maxRecDepth 100000 in
theorem ch_29_ok : List.take 32 (List.drop 928 tables_1) = ch_29 := rfl
def ch_30 : List Cond := [(.instanceMethod yX11_suit : Cond), (.selects RX11 yX11_suit yX11_suit : Cond), (.code yX11_suit cX11_suit 3 (some .int) : Cond), (.methodLink RX11 132 yX11_bits : Cond), (.static yX11_bits : Cond), (.code yX11_bits cX11_bits 3 (some .int) : Cond), (.methodLink "DoeRoeLaw" 48 yX11_plead : Cond), (.instanceMethod yX11_plead : Cond), (.selects RX11 yX11_plead yX11_plead : Cond), (.code yX11_plead cX11_plead 3 (some .int) : Cond), (.methodLink RX11 141 yX11_isFiction : Cond), (.privateMethod yX11_isFiction : Cond), (.instanceMethod yX11_isFiction : Cond), (.code yX11_isFiction cX11_isFiction 2 (some .boolean) : Cond), (.methodLink RX11 144 yX11_mayPlead : Cond), (.privateMethod yX11_mayPlead : Cond), (.instanceMethod yX11_mayPlead : Cond), (.code yX11_mayPlead cX11_mayPlead 7 (some .boolean) : Cond), (.methodLink RX11 135 yX11_supposedBy : Cond), (.privateMethod yX11_supposedBy : Cond), (.instanceMethod yX11_supposedBy : Cond), (.code yX11_supposedBy cX11_supposedBy 4 (some .int) : Cond), (.methodLink RX11 124 yX11_has : Cond), (.static yX11_has : Cond), (.code yX11_has cX11_has 2 (some .boolean) : Cond), (.methodLink RX11 147 yX11_keepPast : Cond), (.privateMethod yX11_keepPast : Cond), (.instanceMethod yX11_keepPast : Cond), (.code yX11_keepPast cX11_keepPast 2 none : Cond), (.methodLink RX11 150 yX11_pleadAt : Cond), (.privateMethod yX11_pleadAt : Cond), (.instanceMethod yX11_pleadAt : Cond)]
set_option maxRecDepth 100000 in
theorem ch_30_ok : List.take 32 (List.drop 960 tables_1) = ch_30 := rfl
def ch_31 : List Cond := [(.code yX11_pleadAt cX11_pleadAt 3 none : Cond), (.methodLink RX11 138 yX11_cost : Cond), (.privateMethod yX11_cost : Cond), (.instanceMethod yX11_cost : Cond), (.code yX11_cost cX11_cost 3 (some .int) : Cond), (.methodLink RX11 128 yX11_costBy : Cond), (.static yX11_costBy : Cond), (.code yX11_costBy cX11_costBy 3 (some .int) : Cond), (.methodLink "DoeRoeLaw" 52 yX11_deny : Cond), (.instanceMethod yX11_deny : Cond), (.selects RX11 yX11_deny yX11_deny : Cond), (.code yX11_deny cX11_deny 2 (some .int) : Cond), (.methodLink RX11 156 yX11_denyAt : Cond), (.privateMethod yX11_denyAt : Cond), (.instanceMethod yX11_denyAt : Cond), (.code yX11_denyAt cX11_denyAt 3 (some .int) : Cond), (.methodLink RX11 153 yX11_wins : Cond), (.privateMethod yX11_wins : Cond), (.instanceMethod yX11_wins : Cond), (.code yX11_wins cX11_wins 3 (some .boolean) : Cond), (.methodLink "DoeRoeLaw" 56 yX11_undo : Cond), (.instanceMethod yX11_undo : Cond), (.selects RX11 yX11_undo yX11_undo : Cond), (.code yX11_undo cX11_undo 2 (some .int) : Cond), (.methodLink "DoeRoeLaw" 60 yX11_of : Cond), (.instanceMethod yX11_of : Cond), (.selects RX11 yX11_of yX11_of : Cond), (.code yX11_of cX11_of 3 (some .int) : Cond), (.methodLink "DoeRoeLaw" 64 yX11_now : Cond), (.instanceMethod yX11_now : Cond), (.selects RX11 yX11_now yX11_now : Cond), (.code yX11_now cX11_now 2 (some .int) : Cond)]
set_option maxRecDepth 100000 in
theorem ch_31_ok : List.take 32 (List.drop 992 tables_1) = ch_31 := rfl
def ch_32 : List Cond := [(.methodLink RX11 159 yX11_nowOf : Cond), (.privateMethod yX11_nowOf : Cond), (.instanceMethod yX11_nowOf : Cond), (.code yX11_nowOf cX11_nowOf 2 (some .int) : Cond), (.methodLink "DoeRoeLaw" 68 yX11_may : Cond), (.instanceMethod yX11_may : Cond), (.selects RX11 yX11_may yX11_may : Cond), (.code yX11_may cX11_may 3 (some .int) : Cond), (.methodLink "DoeRoeLaw" 72 yX11_hear : Cond), (.instanceMethod yX11_hear : Cond), (.selects RX11 yX11_hear yX11_hear : Cond), (.code yX11_hear cX11_hear 1 (some .int) : Cond), (.methodLink RX11 165 yX11_hearBy : Cond), (.privateMethod yX11_hearBy : Cond), (.instanceMethod yX11_hearBy : Cond), (.code yX11_hearBy cX11_hearBy 4 (some .int) : Cond), (.methodLink RX11 162 yX11_hears : Cond), (.privateMethod yX11_hears : Cond), (.instanceMethod yX11_hears : Cond), (.code yX11_hears cX11_hears 3 (some .boolean) : Cond), (.methodLink "DoeRoeLaw" 77 yX11_least : Cond), (.instanceMethod yX11_least : Cond), (.selects RX11 yX11_least yX11_least : Cond), (.code yX11_least cX11_least 5 (some .int) : Cond), (.methodLink RX11 184 yX11_isCourt : Cond), (.privateMethod yX11_isCourt : Cond), (.instanceMethod yX11_isCourt : Cond), (.code yX11_isCourt cX11_isCourt 2 (some .boolean) : Cond), (.methodLink RX11 187 yX11_badTen : Cond), (.privateMethod yX11_badTen : Cond), (.instanceMethod yX11_badTen : Cond), (.code yX11_badTen cX11_badTen 1 (some .int) : Cond)]
set_option maxRecDepth 100000 in
theorem ch_32_ok : List.take 32 (List.drop 1024 tables_1) = ch_32 := rfl
def ch_33 : List Cond := [(.methodLink RX11 190 yX11_bestTo : Cond), (.privateMethod yX11_bestTo : Cond), (.instanceMethod yX11_bestTo : Cond), (.code yX11_bestTo cX11_bestTo 6 (some .int) : Cond), (.methodLink RX11 175 yX11_beginRows : Cond), (.privateMethod yX11_beginRows : Cond), (.instanceMethod yX11_beginRows : Cond), (.code yX11_beginRows cX11_beginRows 1 none : Cond), (.methodLink RX11 178 yX11_nextRow : Cond), (.privateMethod yX11_nextRow : Cond), (.instanceMethod yX11_nextRow : Cond), (.code yX11_nextRow cX11_nextRow 2 (some .boolean) : Cond), (.methodLink "DoeRoeLaw" 81 yX11_ever : Cond), (.instanceMethod yX11_ever : Cond), (.selects RX11 yX11_ever yX11_ever : Cond), (.code yX11_ever cX11_ever 2 (some .int) : Cond), (.methodLink "DoeRoeLaw" 85 yX11_contradict : Cond), (.instanceMethod yX11_contradict : Cond), (.selects RX11 yX11_contradict yX11_contradict : Cond), (.code yX11_contradict cX11_contradict 1 (some .int) : Cond), (.methodLink RX11 193 yX11_pairsOf : Cond), (.static yX11_pairsOf : Cond), (.code yX11_pairsOf cX11_pairsOf 3 (some .int) : Cond), (.methodLink "DoeRoeLaw" 89 yX11_giveUp : Cond), (.instanceMethod yX11_giveUp : Cond), (.selects RX11 yX11_giveUp yX11_giveUp : Cond), (.code yX11_giveUp cX11_giveUp 4 (some .int) : Cond), (.methodLink "DoeRoeLaw" 93 yX11_denial : Cond), (.instanceMethod yX11_denial : Cond), (.selects RX11 yX11_denial yX11_denial : Cond), (.code yX11_denial cX11_denial 8 (some .int) : Cond), (.methodLink RX11 196 yX11_oneGets : Cond)]
set_option maxRecDepth 100000 in
theorem ch_33_ok : List.take 32 (List.drop 1056 tables_1) = ch_33 := rfl
def ch_34 : List Cond := [(.static yX11_oneGets : Cond), (.code yX11_oneGets cX11_oneGets 3 (some .int) : Cond), (.methodLink RX11 200 yX11_otherGets : Cond), (.static yX11_otherGets : Cond), (.code yX11_otherGets cX11_otherGets 3 (some .int) : Cond), (.methodLink "DoeRoeLaw" 97 yX11_fees : Cond), (.instanceMethod yX11_fees : Cond), (.selects RX11 yX11_fees yX11_fees : Cond), (.code yX11_fees cX11_fees 7 (some .int) : Cond), (.methodLink "DoeRoeLaw" 101 yX11_rule : Cond), (.instanceMethod yX11_rule : Cond), (.selects RX11 yX11_rule yX11_rule : Cond), (.code yX11_rule cX11_rule 2 (some .int) : Cond), (.methodLink "DoeRoeLaw" 105 yX11_note : Cond), (.instanceMethod yX11_note : Cond), (.selects RX11 yX11_note yX11_note : Cond), (.code yX11_note cX11_note 5 (some .int) : Cond), (.methodLink "DoeRoeLaw" 109 yX11_heard : Cond), (.instanceMethod yX11_heard : Cond), (.selects RX11 yX11_heard yX11_heard : Cond), (.code yX11_heard cX11_heard 3 (some .int) : Cond), (.methodLink "DoeRoeLaw" 113 yX11_forget : Cond), (.instanceMethod yX11_forget : Cond), (.selects RX11 yX11_forget yX11_forget : Cond), (.code yX11_forget cX11_forget 4 (some .int) : Cond), (.methodLink "DoeRoeLaw" 117 yX11_is : Cond), (.instanceMethod yX11_is : Cond), (.selects RX11 yX11_is yX11_is : Cond), (.code yX11_is cX11_is 2 (some .int) : Cond), (.methodLink RX11 203 yX11_kindsOf : Cond), (.privateMethod yX11_kindsOf : Cond), (.instanceMethod yX11_kindsOf : Cond)]
set_option maxRecDepth 100000 in
theorem ch_34_ok : List.take 32 (List.drop 1088 tables_1) = ch_34 := rfl
def ch_35 : List Cond := [(.code yX11_kindsOf cX11_kindsOf 7 (some .int) : Cond), (.methodLink "DoeRoeLaw" 121 yX11_look : Cond), (.instanceMethod yX11_look : Cond), (.selects RX11 yX11_look yX11_look : Cond), (.code yX11_look cX11_look 7 (some .int) : Cond), (.methodLink RX11 206 yX11_mostAlike : Cond), (.privateMethod yX11_mostAlike : Cond), (.instanceMethod yX11_mostAlike : Cond), (.code yX11_mostAlike cX11_mostAlike 8 (some .int) : Cond), (.methodLink "DoeRoeLaw" 125 yX11_truth : Cond), (.instanceMethod yX11_truth : Cond), (.selects RX11 yX11_truth yX11_truth : Cond), (.code yX11_truth cX11_truth 6 (some .int) : Cond), (.methodLink RX11 209 yX11_mayBeTrue : Cond), (.privateMethod yX11_mayBeTrue : Cond), (.instanceMethod yX11_mayBeTrue : Cond), (.code yX11_mayBeTrue cX11_mayBeTrue 4 (some .boolean) : Cond), (.methodLink "DoeRoeLaw" 129 yX11_odds : Cond), (.instanceMethod yX11_odds : Cond), (.selects RX11 yX11_odds yX11_odds : Cond), (.code yX11_odds cX11_odds 12 (some .int) : Cond), (.methodLink RX11 215 yX11_tellPart : Cond), (.privateMethod yX11_tellPart : Cond), (.instanceMethod yX11_tellPart : Cond), (.code yX11_tellPart cX11_tellPart 11 none : Cond), (.methodLink "DoeRoeLaw" 133 yX11_terms : Cond), (.instanceMethod yX11_terms : Cond), (.selects RX11 yX11_terms yX11_terms : Cond), (.code yX11_terms cX11_terms 7 (some .int) : Cond), (.constant RX11 219 (999999) : Cond), (.constantLong RX11 220 (1103515245) : Cond), (.constantLong RX11 222 (12345) : Cond)]
set_option maxRecDepth 100000 in
theorem ch_35_ok : List.take 32 (List.drop 1120 tables_1) = ch_35 := rfl
def ch_36 : List Cond := [(.constantLong RX11 224 (2147483648) : Cond), (.constantLong RX11 226 (65536) : Cond), (.constantLong RX11 228 (6) : Cond), (.methodLink "DoeRoeLaw" 138 yX11_part : Cond), (.instanceMethod yX11_part : Cond), (.selects RX11 yX11_part yX11_part : Cond), (.code yX11_part cX11_part 2 (some .long) : Cond), (.methodLink "DoeRoeLaw" 142 yX11_image : Cond), (.instanceMethod yX11_image : Cond), (.selects RX11 yX11_image yX11_image : Cond), (.code yX11_image cX11_image 3 (some .int) : Cond), (.methodLink "DoeRoeLaw" 146 yX11_from : Cond), (.instanceMethod yX11_from : Cond), (.selects RX11 yX11_from yX11_from : Cond), (.code yX11_from cX11_from 3 (some .int) : Cond), (.methodLink "DoeRoeLaw" 150 yX11_status : Cond), (.instanceMethod yX11_status : Cond), (.selects RX11 yX11_status yX11_status : Cond), (.code yX11_status cX11_status 2 (some .int) : Cond), (.methodLink "DoeRoeLaw" 154 yX11_count : Cond), (.instanceMethod yX11_count : Cond), (.selects RX11 yX11_count yX11_count : Cond), (.code yX11_count cX11_count 2 (some .int) : Cond), (.methodLink RX11 230 yX11_countOf : Cond), (.privateMethod yX11_countOf : Cond), (.instanceMethod yX11_countOf : Cond), (.code yX11_countOf cX11_countOf 2 (some .int) : Cond), (.methodLink "DoeRoeLaw" 159 yX11_digest : Cond), (.instanceMethod yX11_digest : Cond), (.selects RX11 yX11_digest yX11_digest : Cond), (.code yX11_digest cX11_digest 4 (some .long) : Cond), (.constantLong RX11 233 (1283) : Cond)]
set_option maxRecDepth 100000 in
theorem ch_36_ok : List.take 32 (List.drop 1152 tables_1) = ch_36 := rfl
def ch_37 : List Cond := [(.constantLong RX11 235 (31) : Cond), (Jvm.Cond.sameMethod "DoeRoe$Force" "DoeRoe$Force" "cost" "(II)I"), (Jvm.Cond.castable "DoeRoe$Persons" "DoeRoe$Plain"), (Jvm.Cond.castable "DoeRoe$Force" "DoeRoe$Plain"), (Jvm.Cond.castable "DoeRoe$Time" "DoeRoe$Plain"), (Jvm.Cond.castable "DoeRoe$Letter" "DoeRoe$Plain"), (Jvm.Cond.castable "DoeRoe$Ship" "DoeRoe$Plain"), (.fieldLink RJ0 9 "java/lang/String" "value" "[B" : Cond), (.fieldLink RJ0 15 "java/lang/String" "coder" "B" : Cond)]
set_option maxRecDepth 100000 in
theorem ch_37_ok : List.take 32 (List.drop 1184 tables_1) = ch_37 := rfl
def ch_p : List Cond := [(.selects RX10 yX10_refuseBad yX10_refuseBad : Cond), (.selects RX10 yX10_refuseFull yX10_refuseFull : Cond), (.selects RX7 yX7_put yX7_put : Cond), (.selects RX0 yX0_advance yX0_advance : Cond), (.selects RX0 yX0_byteAt yX0_byteAt : Cond), (.selects RX0 yX0_advanceOverWord yX0_advanceOverWord : Cond), (.selects RX0 yX0_standsThere yX0_standsThere : Cond), (.selects RX0 yX0_advanceOverFigures yX0_advanceOverFigures : Cond), (.selects RX0 yX0_takeItem yX0_takeItem : Cond), (.selects RX0 yX0_takeFiction yX0_takeFiction : Cond), (.selects RX0 yX0_takeNumber yX0_takeNumber : Cond), (.selects RX0 yX0_takeFacts yX0_takeFacts : Cond), (.selects RX0 yX0_takeCourt yX0_takeCourt : Cond), (.selects RX0 yX0_takeBook yX0_takeBook : Cond), (.selects RX10 yX10_isFiction yX10_isFiction : Cond), (.selects RX10 yX10_mayPlead yX10_mayPlead : Cond), (.selects RX10 yX10_isPleaded yX10_isPleaded : Cond), (.selects RX10 yX10_supposed yX10_supposed : Cond), (.selects RX3 yX3_kindNumbered yX3_kindNumbered : Cond), (.selects RX10 yX10_refuseNo yX10_refuseNo : Cond), (.selects RX10 yX10_isCourt yX10_isCourt : Cond), (.selects RX4 yX4_settle yX4_settle : Cond), (.selects RX4 yX4_keep yX4_keep : Cond), (.selects RX4 yX4_setsBehind yX4_setsBehind : Cond), (.selects RX3 yX3_fitsNotes yX3_fitsNotes : Cond), (.selects RX3 yX3_costAs yX3_costAs : Cond), (.selects RX3 yX3_alikeWith yX3_alikeWith : Cond), (.selects RX10 yX10_keepFraction yX10_keepFraction : Cond), (.selects RX11 yX11_refuse yX11_refuse : Cond), (.selects RX11 yX11_layBook yX11_layBook : Cond), (.selects RX11 yX11_addFiction yX11_addFiction : Cond), (.selects RX11 yX11_addCourt yX11_addCourt : Cond), (.selects RX11 yX11_readItems yX11_readItems : Cond), (.selects RX11 yX11_next yX11_next : Cond), (.selects RX11 yX11_isLetter yX11_isLetter : Cond), (.selects RX11 yX11_isFigure yX11_isFigure : Cond), (.selects RX11 yX11_wordHere yX11_wordHere : Cond), (.selects RX11 yX11_isWord yX11_isWord : Cond), (.selects RX11 yX11_facts yX11_facts : Cond), (.selects RX11 yX11_numberHere yX11_numberHere : Cond), (.selects RX11 yX11_readsFiction yX11_readsFiction : Cond), (.selects RX11 yX11_number yX11_number : Cond), (.selects RX11 yX11_readsCourt yX11_readsCourt : Cond), (.selects RX11 yX11_isFiction yX11_isFiction : Cond), (.selects RX11 yX11_mayPlead yX11_mayPlead : Cond), (.selects RX11 yX11_supposedBy yX11_supposedBy : Cond), (.selects RX11 yX11_keepPast yX11_keepPast : Cond), (.selects RX11 yX11_pleadAt yX11_pleadAt : Cond), (.selects RX11 yX11_cost yX11_cost : Cond), (.selects RX11 yX11_denyAt yX11_denyAt : Cond), (.selects RX11 yX11_wins yX11_wins : Cond), (.selects RX11 yX11_nowOf yX11_nowOf : Cond), (.selects RX11 yX11_hearBy yX11_hearBy : Cond), (.selects RX11 yX11_hears yX11_hears : Cond), (.selects RX11 yX11_isCourt yX11_isCourt : Cond), (.selects RX11 yX11_badTen yX11_badTen : Cond), (.selects RX11 yX11_bestTo yX11_bestTo : Cond), (.selects RX11 yX11_beginRows yX11_beginRows : Cond), (.selects RX11 yX11_nextRow yX11_nextRow : Cond), (.selects RX11 yX11_kindsOf yX11_kindsOf : Cond), (.selects RX11 yX11_mostAlike yX11_mostAlike : Cond), (.selects RX11 yX11_mayBeTrue yX11_mayBeTrue : Cond), (.selects RX11 yX11_tellPart yX11_tellPart : Cond), (.selects RX11 yX11_countOf yX11_countOf : Cond)]
set_option maxRecDepth 100000 in
theorem ch_p_ok : k2_sels lw_privs = ch_p := rfl
theorem gw_ch {ch : List Cond} {a n : Nat} (hk : List.take a (List.drop n tables_1) = ch) {w : Cond} (j : Nat) (h : ch[j]? = some w) (g : goodWord w = true) : w ∈ gw_tbl := by
  refine List.mem_filter.mpr ⟨?_, g⟩
  have h1 : w ∈ ch := List.mem_of_getElem? h
  rw [← hk] at h1
  exact List.mem_append_right _ (List.mem_of_mem_drop (List.mem_of_mem_take h1))
theorem lw_ch {ch : List Cond} {a n : Nat} (hk : List.take a (List.drop n tables_1) = ch) {w : Cond} (j : Nat) (h : ch[j]? = some w) : w ∈ lw_tbl := by
  have h1 : w ∈ ch := List.mem_of_getElem? h
  rw [← hk] at h1
  exact List.mem_append_right _ (List.mem_of_mem_drop (List.mem_of_mem_take h1))
theorem gw_p {w : Cond} (j : Nat) (h : ch_p[j]? = some w) (g : goodWord w = true) : w ∈ gw_tbl := by
  refine List.mem_filter.mpr ⟨?_, g⟩
  have h1 : w ∈ ch_p := List.mem_of_getElem? h
  rw [← ch_p_ok] at h1
  exact List.mem_append_left _ h1
theorem tp_0 : (.selects RX10 yX10_refuseBad yX10_refuseBad : Cond) ∈ gw_tbl := gw_p 0 rfl rfl
theorem tp_1 : (.selects RX10 yX10_refuseFull yX10_refuseFull : Cond) ∈ gw_tbl := gw_p 1 rfl rfl
theorem tp_2 : (.selects RX7 yX7_put yX7_put : Cond) ∈ gw_tbl := gw_p 2 rfl rfl
theorem tp_3 : (.selects RX0 yX0_advance yX0_advance : Cond) ∈ gw_tbl := gw_p 3 rfl rfl
theorem tp_4 : (.selects RX0 yX0_byteAt yX0_byteAt : Cond) ∈ gw_tbl := gw_p 4 rfl rfl
theorem tp_5 : (.selects RX0 yX0_advanceOverWord yX0_advanceOverWord : Cond) ∈ gw_tbl := gw_p 5 rfl rfl
theorem tp_6 : (.selects RX0 yX0_standsThere yX0_standsThere : Cond) ∈ gw_tbl := gw_p 6 rfl rfl
theorem tp_7 : (.selects RX0 yX0_advanceOverFigures yX0_advanceOverFigures : Cond) ∈ gw_tbl := gw_p 7 rfl rfl
theorem tp_8 : (.selects RX0 yX0_takeItem yX0_takeItem : Cond) ∈ gw_tbl := gw_p 8 rfl rfl
theorem tp_9 : (.selects RX0 yX0_takeFiction yX0_takeFiction : Cond) ∈ gw_tbl := gw_p 9 rfl rfl
theorem tp_10 : (.selects RX0 yX0_takeNumber yX0_takeNumber : Cond) ∈ gw_tbl := gw_p 10 rfl rfl
theorem tp_11 : (.selects RX0 yX0_takeFacts yX0_takeFacts : Cond) ∈ gw_tbl := gw_p 11 rfl rfl
theorem tp_12 : (.selects RX0 yX0_takeCourt yX0_takeCourt : Cond) ∈ gw_tbl := gw_p 12 rfl rfl
theorem tp_13 : (.selects RX0 yX0_takeBook yX0_takeBook : Cond) ∈ gw_tbl := gw_p 13 rfl rfl
theorem tp_14 : (.selects RX10 yX10_isFiction yX10_isFiction : Cond) ∈ gw_tbl := gw_p 14 rfl rfl
theorem tp_15 : (.selects RX10 yX10_mayPlead yX10_mayPlead : Cond) ∈ gw_tbl := gw_p 15 rfl rfl
theorem tp_16 : (.selects RX10 yX10_isPleaded yX10_isPleaded : Cond) ∈ gw_tbl := gw_p 16 rfl rfl
theorem tp_17 : (.selects RX10 yX10_supposed yX10_supposed : Cond) ∈ gw_tbl := gw_p 17 rfl rfl
theorem tp_18 : (.selects RX3 yX3_kindNumbered yX3_kindNumbered : Cond) ∈ gw_tbl := gw_p 18 rfl rfl
theorem tp_19 : (.selects RX10 yX10_refuseNo yX10_refuseNo : Cond) ∈ gw_tbl := gw_p 19 rfl rfl
theorem tp_20 : (.selects RX10 yX10_isCourt yX10_isCourt : Cond) ∈ gw_tbl := gw_p 20 rfl rfl
theorem tp_21 : (.selects RX4 yX4_settle yX4_settle : Cond) ∈ gw_tbl := gw_p 21 rfl rfl
theorem tp_22 : (.selects RX4 yX4_keep yX4_keep : Cond) ∈ gw_tbl := gw_p 22 rfl rfl
theorem tp_23 : (.selects RX4 yX4_setsBehind yX4_setsBehind : Cond) ∈ gw_tbl := gw_p 23 rfl rfl
theorem tp_24 : (.selects RX3 yX3_fitsNotes yX3_fitsNotes : Cond) ∈ gw_tbl := gw_p 24 rfl rfl
theorem tp_25 : (.selects RX3 yX3_costAs yX3_costAs : Cond) ∈ gw_tbl := gw_p 25 rfl rfl
theorem tp_26 : (.selects RX3 yX3_alikeWith yX3_alikeWith : Cond) ∈ gw_tbl := gw_p 26 rfl rfl
theorem tp_27 : (.selects RX10 yX10_keepFraction yX10_keepFraction : Cond) ∈ gw_tbl := gw_p 27 rfl rfl
theorem tp_28 : (.selects RX11 yX11_refuse yX11_refuse : Cond) ∈ gw_tbl := gw_p 28 rfl rfl
theorem tp_29 : (.selects RX11 yX11_layBook yX11_layBook : Cond) ∈ gw_tbl := gw_p 29 rfl rfl
theorem tp_30 : (.selects RX11 yX11_addFiction yX11_addFiction : Cond) ∈ gw_tbl := gw_p 30 rfl rfl
theorem tp_31 : (.selects RX11 yX11_addCourt yX11_addCourt : Cond) ∈ gw_tbl := gw_p 31 rfl rfl
theorem tp_32 : (.selects RX11 yX11_readItems yX11_readItems : Cond) ∈ gw_tbl := gw_p 32 rfl rfl
theorem tp_33 : (.selects RX11 yX11_next yX11_next : Cond) ∈ gw_tbl := gw_p 33 rfl rfl
theorem tp_34 : (.selects RX11 yX11_isLetter yX11_isLetter : Cond) ∈ gw_tbl := gw_p 34 rfl rfl
theorem tp_35 : (.selects RX11 yX11_isFigure yX11_isFigure : Cond) ∈ gw_tbl := gw_p 35 rfl rfl
theorem tp_36 : (.selects RX11 yX11_wordHere yX11_wordHere : Cond) ∈ gw_tbl := gw_p 36 rfl rfl
theorem tp_37 : (.selects RX11 yX11_isWord yX11_isWord : Cond) ∈ gw_tbl := gw_p 37 rfl rfl
theorem tp_38 : (.selects RX11 yX11_facts yX11_facts : Cond) ∈ gw_tbl := gw_p 38 rfl rfl
theorem tp_39 : (.selects RX11 yX11_numberHere yX11_numberHere : Cond) ∈ gw_tbl := gw_p 39 rfl rfl
theorem tp_40 : (.selects RX11 yX11_readsFiction yX11_readsFiction : Cond) ∈ gw_tbl := gw_p 40 rfl rfl
theorem tp_41 : (.selects RX11 yX11_number yX11_number : Cond) ∈ gw_tbl := gw_p 41 rfl rfl
theorem tp_42 : (.selects RX11 yX11_readsCourt yX11_readsCourt : Cond) ∈ gw_tbl := gw_p 42 rfl rfl
theorem tp_43 : (.selects RX11 yX11_isFiction yX11_isFiction : Cond) ∈ gw_tbl := gw_p 43 rfl rfl
theorem tp_44 : (.selects RX11 yX11_mayPlead yX11_mayPlead : Cond) ∈ gw_tbl := gw_p 44 rfl rfl
theorem tp_45 : (.selects RX11 yX11_supposedBy yX11_supposedBy : Cond) ∈ gw_tbl := gw_p 45 rfl rfl
theorem tp_46 : (.selects RX11 yX11_keepPast yX11_keepPast : Cond) ∈ gw_tbl := gw_p 46 rfl rfl
theorem tp_47 : (.selects RX11 yX11_pleadAt yX11_pleadAt : Cond) ∈ gw_tbl := gw_p 47 rfl rfl
theorem tp_48 : (.selects RX11 yX11_cost yX11_cost : Cond) ∈ gw_tbl := gw_p 48 rfl rfl
theorem tp_49 : (.selects RX11 yX11_denyAt yX11_denyAt : Cond) ∈ gw_tbl := gw_p 49 rfl rfl
theorem tp_50 : (.selects RX11 yX11_wins yX11_wins : Cond) ∈ gw_tbl := gw_p 50 rfl rfl
theorem tp_51 : (.selects RX11 yX11_nowOf yX11_nowOf : Cond) ∈ gw_tbl := gw_p 51 rfl rfl
theorem tp_52 : (.selects RX11 yX11_hearBy yX11_hearBy : Cond) ∈ gw_tbl := gw_p 52 rfl rfl
theorem tp_53 : (.selects RX11 yX11_hears yX11_hears : Cond) ∈ gw_tbl := gw_p 53 rfl rfl
theorem tp_54 : (.selects RX11 yX11_isCourt yX11_isCourt : Cond) ∈ gw_tbl := gw_p 54 rfl rfl
theorem tp_55 : (.selects RX11 yX11_badTen yX11_badTen : Cond) ∈ gw_tbl := gw_p 55 rfl rfl
theorem tp_56 : (.selects RX11 yX11_bestTo yX11_bestTo : Cond) ∈ gw_tbl := gw_p 56 rfl rfl
theorem tp_57 : (.selects RX11 yX11_beginRows yX11_beginRows : Cond) ∈ gw_tbl := gw_p 57 rfl rfl
theorem tp_58 : (.selects RX11 yX11_nextRow yX11_nextRow : Cond) ∈ gw_tbl := gw_p 58 rfl rfl
theorem tp_59 : (.selects RX11 yX11_kindsOf yX11_kindsOf : Cond) ∈ gw_tbl := gw_p 59 rfl rfl
theorem tp_60 : (.selects RX11 yX11_mostAlike yX11_mostAlike : Cond) ∈ gw_tbl := gw_p 60 rfl rfl
theorem tp_61 : (.selects RX11 yX11_mayBeTrue yX11_mayBeTrue : Cond) ∈ gw_tbl := gw_p 61 rfl rfl
theorem tp_62 : (.selects RX11 yX11_tellPart yX11_tellPart : Cond) ∈ gw_tbl := gw_p 62 rfl rfl
theorem tp_63 : (.selects RX11 yX11_countOf yX11_countOf : Cond) ∈ gw_tbl := gw_p 63 rfl rfl
theorem tw_0 : (.initialized "DoeRoeLaw" : Cond) ∈ gw_tbl := gw_ch ch_0_ok 0 rfl rfl
theorem tw_1 : (.initialized RX10 : Cond) ∈ gw_tbl := gw_ch ch_0_ok 1 rfl rfl
theorem tw_2 : (.initialized RX6 : Cond) ∈ gw_tbl := gw_ch ch_0_ok 2 rfl rfl
theorem tw_3 : (.initialized RX5 : Cond) ∈ gw_tbl := gw_ch ch_0_ok 3 rfl rfl
theorem tw_4 : (.initialized RX1 : Cond) ∈ gw_tbl := gw_ch ch_0_ok 4 rfl rfl
theorem tw_5 : (.initialized RX9 : Cond) ∈ gw_tbl := gw_ch ch_0_ok 5 rfl rfl
theorem tw_6 : (.initialized RX2 : Cond) ∈ gw_tbl := gw_ch ch_0_ok 6 rfl rfl
theorem tw_7 : (.initialized RX8 : Cond) ∈ gw_tbl := gw_ch ch_0_ok 7 rfl rfl
theorem tw_8 : (.initialized RX3 : Cond) ∈ gw_tbl := gw_ch ch_0_ok 8 rfl rfl
theorem tw_9 : (.initialized RX7 : Cond) ∈ gw_tbl := gw_ch ch_0_ok 9 rfl rfl
theorem tw_10 : (.initialized RJ9 : Cond) ∈ gw_tbl := gw_ch ch_0_ok 10 rfl rfl
theorem tw_11 : (.initialized RX0 : Cond) ∈ gw_tbl := gw_ch ch_0_ok 11 rfl rfl
theorem tw_12 : (.initialized RX4 : Cond) ∈ gw_tbl := gw_ch ch_0_ok 12 rfl rfl
theorem tw_13 : (.initialized RX11 : Cond) ∈ gw_tbl := gw_ch ch_0_ok 13 rfl rfl
theorem tw_14 : (.initialized RJ0 : Cond) ∈ gw_tbl := gw_ch ch_0_ok 14 rfl rfl
theorem tw_15 : (.initialized RJ1 : Cond) ∈ gw_tbl := gw_ch ch_0_ok 15 rfl rfl
theorem tw_16 : (.initialized RJ3 : Cond) ∈ gw_tbl := gw_ch ch_0_ok 16 rfl rfl
theorem tw_17 : (.initialized RJ2 : Cond) ∈ gw_tbl := gw_ch ch_0_ok 17 rfl rfl
theorem tw_18 : (.initialized RJ6 : Cond) ∈ gw_tbl := gw_ch ch_0_ok 18 rfl rfl
theorem tw_19 : (.classLink "DoeRoeLaw" 7 RX10 : Cond) ∈ gw_tbl := gw_ch ch_0_ok 19 rfl rfl
theorem tw_20 : (.instantiable RX10 13 : Cond) ∈ gw_tbl := gw_ch ch_0_ok 20 rfl rfl
theorem tw_21 : (.methodLink "DoeRoeLaw" 9 yX10_init : Cond) ∈ gw_tbl := gw_ch ch_0_ok 21 rfl rfl
theorem tw_22 : (.instanceMethod yX10_init : Cond) ∈ gw_tbl := gw_ch ch_0_ok 22 rfl rfl
theorem tw_23 : (.code yX10_init cX10_init 2 none : Cond) ∈ gw_tbl := gw_ch ch_0_ok 23 rfl rfl
theorem tw_24 : (.methodLink RX10 3 objectInit : Cond) ∈ gw_tbl := gw_ch ch_0_ok 24 rfl rfl
theorem tw_25 : (.instanceMethod objectInit : Cond) ∈ gw_tbl := gw_ch ch_0_ok 25 rfl rfl
theorem tw_26 : (Jvm.Cond.code ({ cls := "java/lang/Object", name := "<init>", desc := "()V" } : Jvm.MethodName) object_method_1_code (1 : Nat) (Option.none : Option Jvm.ClassFile.FieldType)) ∈ gw_tbl := gw_ch ch_0_ok 26 rfl rfl
theorem tw_27 : (.classLink RX10 9 RX6 : Cond) ∈ gw_tbl := gw_ch ch_0_ok 27 rfl rfl
theorem tw_28 : (Jvm.Cond.arrayOver (Jvm.ClassFile.FieldType.object "DoeRoe$Plain")) ∈ lw_tbl := lw_ch ch_0_ok 28 rfl
theorem tw_29 : (.instantiable RX6 0 : Cond) ∈ gw_tbl := gw_ch ch_0_ok 29 rfl rfl
theorem tw_30 : (.methodLinkNest RX10 11 yX6_init "DoeRoe" : Cond) ∈ lw_tbl := lw_ch ch_0_ok 30 rfl
theorem tw_31 : (.instanceMethod yX6_init : Cond) ∈ gw_tbl := gw_ch ch_0_ok 31 rfl rfl
theorem tw_32 : (.code yX6_init cX6_init 1 none : Cond) ∈ gw_tbl := gw_ch ch_1_ok 0 rfl rfl
theorem tw_33 : (.methodLink RX6 1 objectInit : Cond) ∈ gw_tbl := gw_ch ch_1_ok 1 rfl rfl
theorem tw_34 : (Jvm.Cond.superclass "DoeRoe$Plain" "java/lang/Object") ∈ gw_tbl := gw_ch ch_1_ok 2 rfl rfl
theorem tw_35 : (.classLink RX10 12 RX5 : Cond) ∈ gw_tbl := gw_ch ch_1_ok 3 rfl rfl
theorem tw_36 : (.instantiable RX5 0 : Cond) ∈ gw_tbl := gw_ch ch_1_ok 4 rfl rfl
theorem tw_37 : (.methodLinkNest RX10 14 yX5_init "DoeRoe" : Cond) ∈ lw_tbl := lw_ch ch_1_ok 5 rfl
theorem tw_38 : (.instanceMethod yX5_init : Cond) ∈ gw_tbl := gw_ch ch_1_ok 6 rfl rfl
theorem tw_39 : (.code yX5_init cX5_init 1 none : Cond) ∈ gw_tbl := gw_ch ch_1_ok 7 rfl rfl
theorem tw_40 : (.methodLinkNest RX5 1 yX6_init "DoeRoe" : Cond) ∈ lw_tbl := lw_ch ch_1_ok 8 rfl
theorem tw_41 : (Jvm.Cond.superclass "DoeRoe$Persons" "DoeRoe$Plain") ∈ gw_tbl := gw_ch ch_1_ok 9 rfl rfl
theorem tw_42 : (.classLink RX10 15 RX1 : Cond) ∈ gw_tbl := gw_ch ch_1_ok 10 rfl rfl
theorem tw_43 : (.instantiable RX1 0 : Cond) ∈ gw_tbl := gw_ch ch_1_ok 11 rfl rfl
theorem tw_44 : (.methodLinkNest RX10 17 yX1_init "DoeRoe" : Cond) ∈ lw_tbl := lw_ch ch_1_ok 12 rfl
theorem tw_45 : (.instanceMethod yX1_init : Cond) ∈ gw_tbl := gw_ch ch_1_ok 13 rfl rfl
theorem tw_46 : (.code yX1_init cX1_init 1 none : Cond) ∈ gw_tbl := gw_ch ch_1_ok 14 rfl rfl
theorem tw_47 : (.methodLinkNest RX1 1 yX6_init "DoeRoe" : Cond) ∈ lw_tbl := lw_ch ch_1_ok 15 rfl
theorem tw_48 : (Jvm.Cond.superclass "DoeRoe$Force" "DoeRoe$Plain") ∈ gw_tbl := gw_ch ch_1_ok 16 rfl rfl
theorem tw_49 : (.classLink RX10 18 RX9 : Cond) ∈ gw_tbl := gw_ch ch_1_ok 17 rfl rfl
theorem tw_50 : (.instantiable RX9 0 : Cond) ∈ gw_tbl := gw_ch ch_1_ok 18 rfl rfl
theorem tw_51 : (.methodLinkNest RX10 20 yX9_init "DoeRoe" : Cond) ∈ lw_tbl := lw_ch ch_1_ok 19 rfl
theorem tw_52 : (.instanceMethod yX9_init : Cond) ∈ gw_tbl := gw_ch ch_1_ok 20 rfl rfl
theorem tw_53 : (.code yX9_init cX9_init 1 none : Cond) ∈ gw_tbl := gw_ch ch_1_ok 21 rfl rfl
theorem tw_54 : (.methodLinkNest RX9 1 yX5_init "DoeRoe" : Cond) ∈ lw_tbl := lw_ch ch_1_ok 22 rfl
theorem tw_55 : (Jvm.Cond.superclass "DoeRoe$Time" "DoeRoe$Persons") ∈ gw_tbl := gw_ch ch_1_ok 23 rfl rfl
theorem tw_56 : (.classLink RX10 21 RX2 : Cond) ∈ gw_tbl := gw_ch ch_1_ok 24 rfl rfl
theorem tw_57 : (.instantiable RX2 0 : Cond) ∈ gw_tbl := gw_ch ch_1_ok 25 rfl rfl
theorem tw_58 : (.methodLinkNest RX10 23 yX2_init "DoeRoe" : Cond) ∈ lw_tbl := lw_ch ch_1_ok 26 rfl
theorem tw_59 : (.instanceMethod yX2_init : Cond) ∈ gw_tbl := gw_ch ch_1_ok 27 rfl rfl
theorem tw_60 : (.code yX2_init cX2_init 1 none : Cond) ∈ gw_tbl := gw_ch ch_1_ok 28 rfl rfl
theorem tw_61 : (.methodLinkNest RX2 1 yX6_init "DoeRoe" : Cond) ∈ lw_tbl := lw_ch ch_1_ok 29 rfl
theorem tw_62 : (Jvm.Cond.superclass "DoeRoe$Letter" "DoeRoe$Plain") ∈ gw_tbl := gw_ch ch_1_ok 30 rfl rfl
theorem tw_63 : (.classLink RX10 24 RX8 : Cond) ∈ gw_tbl := gw_ch ch_1_ok 31 rfl rfl
theorem tw_64 : (.instantiable RX8 0 : Cond) ∈ gw_tbl := gw_ch ch_2_ok 0 rfl rfl
theorem tw_65 : (.methodLinkNest RX10 26 yX8_init "DoeRoe" : Cond) ∈ lw_tbl := lw_ch ch_2_ok 1 rfl
theorem tw_66 : (.instanceMethod yX8_init : Cond) ∈ gw_tbl := gw_ch ch_2_ok 2 rfl rfl
theorem tw_67 : (.code yX8_init cX8_init 1 none : Cond) ∈ gw_tbl := gw_ch ch_2_ok 3 rfl rfl
theorem tw_68 : (.methodLinkNest RX8 1 yX1_init "DoeRoe" : Cond) ∈ lw_tbl := lw_ch ch_2_ok 4 rfl
theorem tw_69 : (Jvm.Cond.superclass "DoeRoe$Ship" "DoeRoe$Force") ∈ gw_tbl := gw_ch ch_2_ok 5 rfl rfl
theorem tw_70 : (.classLink RX10 27 RX3 : Cond) ∈ gw_tbl := gw_ch ch_2_ok 6 rfl rfl
theorem tw_71 : (.instantiable RX3 11 : Cond) ∈ gw_tbl := gw_ch ch_2_ok 7 rfl rfl
theorem tw_72 : (.methodLink RX10 29 yX3_init : Cond) ∈ gw_tbl := gw_ch ch_2_ok 8 rfl rfl
theorem tw_73 : (.instanceMethod yX3_init : Cond) ∈ gw_tbl := gw_ch ch_2_ok 9 rfl rfl
theorem tw_74 : (.code yX3_init cX3_init 2 none : Cond) ∈ gw_tbl := gw_ch ch_2_ok 10 rfl rfl
theorem tw_75 : (.methodLink RX3 3 objectInit : Cond) ∈ gw_tbl := gw_ch ch_2_ok 11 rfl rfl
theorem tw_76 : (.classLink RX3 15 RX6 : Cond) ∈ gw_tbl := gw_ch ch_2_ok 12 rfl rfl
theorem tw_77 : (.methodLinkNest RX3 17 yX6_init "DoeRoe" : Cond) ∈ lw_tbl := lw_ch ch_2_ok 13 rfl
theorem tw_78 : (.classLink RX3 22 RX7 : Cond) ∈ gw_tbl := gw_ch ch_2_ok 14 rfl rfl
theorem tw_79 : (.instantiable RX7 4 : Cond) ∈ gw_tbl := gw_ch ch_2_ok 15 rfl rfl
theorem tw_80 : (.methodLink RX3 24 yX7_init : Cond) ∈ gw_tbl := gw_ch ch_2_ok 16 rfl rfl
theorem tw_81 : (.instanceMethod yX7_init : Cond) ∈ gw_tbl := gw_ch ch_2_ok 17 rfl rfl
theorem tw_82 : (.code yX7_init cX7_init 3 none : Cond) ∈ gw_tbl := gw_ch ch_2_ok 18 rfl rfl
theorem tw_83 : (.methodLink RX7 1 objectInit : Cond) ∈ gw_tbl := gw_ch ch_2_ok 19 rfl rfl
theorem tw_84 : (.methodLink RX7 16 yJ9_max_7cf53 : Cond) ∈ gw_tbl := gw_ch ch_2_ok 20 rfl rfl
theorem tw_85 : (.static yJ9_max_7cf53 : Cond) ∈ gw_tbl := gw_ch ch_2_ok 21 rfl rfl
theorem tw_86 : (.code yJ9_max_7cf53 cJ9_max_7cf53 2 (some .int) : Cond) ∈ gw_tbl := gw_ch ch_2_ok 22 rfl rfl
theorem tw_87 : (.fieldLink RX7 7 "DoeRoe$Rows" "most" "I" : Cond) ∈ gw_tbl := gw_ch ch_2_ok 23 rfl rfl
theorem tw_88 : (.fieldLink RX7 13 "DoeRoe$Rows" "width" "I" : Cond) ∈ gw_tbl := gw_ch ch_2_ok 24 rfl rfl
theorem tw_89 : (.fieldLink RX7 22 "DoeRoe$Rows" "cells" "[I" : Cond) ∈ gw_tbl := gw_ch ch_2_ok 25 rfl rfl
theorem tw_90 : (.fieldLink RX7 26 "DoeRoe$Rows" "size" "I" : Cond) ∈ gw_tbl := gw_ch ch_2_ok 26 rfl rfl
theorem tw_91 : (.fieldLink RX10 78 "DoeRoe$Rows" "size" "I" : Cond) ∈ gw_tbl := gw_ch ch_2_ok 27 rfl rfl
theorem tw_92 : (.fieldLink RX4 52 "DoeRoe$Rows" "size" "I" : Cond) ∈ gw_tbl := gw_ch ch_2_ok 28 rfl rfl
theorem tw_93 : (.fieldLink RX3 77 "DoeRoe$Rows" "size" "I" : Cond) ∈ gw_tbl := gw_ch ch_2_ok 29 rfl rfl
theorem tw_94 : (Jvm.Cond.laysFinal "DoeRoe$Rows" "DoeRoe$Rows" "most" "I") ∈ gw_tbl := gw_ch ch_2_ok 30 rfl rfl
theorem tw_96 : (Jvm.Cond.laysFinal "DoeRoe$Rows" "DoeRoe$Rows" "width" "I") ∈ gw_tbl := gw_ch ch_3_ok 0 rfl rfl
theorem tw_98 : (Jvm.Cond.laysFinal "DoeRoe$Rows" "DoeRoe$Rows" "cells" "[I") ∈ gw_tbl := gw_ch ch_3_ok 2 rfl rfl
theorem tw_100 : (Jvm.Cond.lays "DoeRoe$Rows" "DoeRoe$Rows" "size" "I") ∈ gw_tbl := gw_ch ch_3_ok 4 rfl rfl
theorem tw_102 : (Jvm.Cond.superclass "DoeRoe$Rows" "java/lang/Object") ∈ gw_tbl := gw_ch ch_3_ok 6 rfl rfl
theorem tw_103 : (Jvm.Cond.arrayClass Jvm.ClassFile.FieldType.int) ∈ gw_tbl := gw_ch ch_3_ok 7 rfl rfl
theorem tw_104 : (.fieldLink RX3 9 "DoeRoe$Matter" "kinds" "[LDoeRoe$Plain;" : Cond) ∈ gw_tbl := gw_ch ch_3_ok 8 rfl rfl
theorem tw_105 : (.fieldLink RX3 18 "DoeRoe$Matter" "plain" "LDoeRoe$Plain;" : Cond) ∈ gw_tbl := gw_ch ch_3_ok 9 rfl rfl
theorem tw_106 : (.fieldLink RX3 27 "DoeRoe$Matter" "fictions" "LDoeRoe$Rows;" : Cond) ∈ gw_tbl := gw_ch ch_3_ok 10 rfl rfl
theorem tw_107 : (.fieldLink RX10 74 "DoeRoe$Matter" "fictions" "LDoeRoe$Rows;" : Cond) ∈ gw_tbl := gw_ch ch_3_ok 11 rfl rfl
theorem tw_108 : (.fieldLink RX4 48 "DoeRoe$Matter" "fictions" "LDoeRoe$Rows;" : Cond) ∈ gw_tbl := gw_ch ch_3_ok 12 rfl rfl
theorem tw_109 : (.fieldLink RX0 55 "DoeRoe$Matter" "fictions" "LDoeRoe$Rows;" : Cond) ∈ gw_tbl := gw_ch ch_3_ok 13 rfl rfl
theorem tw_110 : (.fieldLink RX3 31 "DoeRoe$Matter" "courts" "LDoeRoe$Rows;" : Cond) ∈ gw_tbl := gw_ch ch_3_ok 14 rfl rfl
theorem tw_111 : (.fieldLink RX10 105 "DoeRoe$Matter" "courts" "LDoeRoe$Rows;" : Cond) ∈ gw_tbl := gw_ch ch_3_ok 15 rfl rfl
theorem tw_112 : (.fieldLink RX0 65 "DoeRoe$Matter" "courts" "LDoeRoe$Rows;" : Cond) ∈ gw_tbl := gw_ch ch_3_ok 16 rfl rfl
theorem tw_113 : (.fieldLink RX3 34 "DoeRoe$Matter" "notes" "LDoeRoe$Rows;" : Cond) ∈ gw_tbl := gw_ch ch_3_ok 17 rfl rfl
theorem tw_114 : (.fieldLink RX10 212 "DoeRoe$Matter" "notes" "LDoeRoe$Rows;" : Cond) ∈ gw_tbl := gw_ch ch_3_ok 18 rfl rfl
theorem tw_115 : (.fieldLink RX3 37 "DoeRoe$Matter" "hearings" "LDoeRoe$Rows;" : Cond) ∈ gw_tbl := gw_ch ch_3_ok 19 rfl rfl
theorem tw_116 : (.fieldLink RX10 215 "DoeRoe$Matter" "hearings" "LDoeRoe$Rows;" : Cond) ∈ gw_tbl := gw_ch ch_3_ok 20 rfl rfl
theorem tw_117 : (.fieldLink RX3 40 "DoeRoe$Matter" "undos" "LDoeRoe$Rows;" : Cond) ∈ gw_tbl := gw_ch ch_3_ok 21 rfl rfl
theorem tw_118 : (.fieldLink RX10 99 "DoeRoe$Matter" "undos" "LDoeRoe$Rows;" : Cond) ∈ gw_tbl := gw_ch ch_3_ok 22 rfl rfl
theorem tw_119 : (.fieldLink RX3 43 "DoeRoe$Matter" "trueFacts" "I" : Cond) ∈ gw_tbl := gw_ch ch_3_ok 23 rfl rfl
theorem tw_120 : (.fieldLink RX0 72 "DoeRoe$Matter" "trueFacts" "I" : Cond) ∈ gw_tbl := gw_ch ch_3_ok 24 rfl rfl
theorem tw_121 : (.fieldLink RX10 172 "DoeRoe$Matter" "trueFacts" "I" : Cond) ∈ gw_tbl := gw_ch ch_3_ok 25 rfl rfl
theorem tw_122 : (.fieldLink RX4 18 "DoeRoe$Matter" "pleaded" "I" : Cond) ∈ gw_tbl := gw_ch ch_3_ok 26 rfl rfl
theorem tw_123 : (.fieldLink RX3 53 "DoeRoe$Matter" "pleaded" "I" : Cond) ∈ gw_tbl := gw_ch ch_3_ok 27 rfl rfl
theorem tw_124 : (.fieldLink RX10 122 "DoeRoe$Matter" "pleaded" "I" : Cond) ∈ gw_tbl := gw_ch ch_3_ok 28 rfl rfl
theorem tw_125 : (.fieldLink RX3 56 "DoeRoe$Matter" "steps" "I" : Cond) ∈ gw_tbl := gw_ch ch_3_ok 29 rfl rfl
theorem tw_126 : (.fieldLink RX4 76 "DoeRoe$Matter" "steps" "I" : Cond) ∈ gw_tbl := gw_ch ch_3_ok 30 rfl rfl
theorem tw_127 : (.fieldLink RX10 144 "DoeRoe$Matter" "steps" "I" : Cond) ∈ gw_tbl := gw_ch ch_3_ok 31 rfl rfl
theorem tw_128 : (.fieldLink RX3 59 "DoeRoe$Matter" "paid" "I" : Cond) ∈ gw_tbl := gw_ch ch_4_ok 0 rfl rfl
theorem tw_129 : (.fieldLink RX10 154 "DoeRoe$Matter" "paid" "I" : Cond) ∈ gw_tbl := gw_ch ch_4_ok 1 rfl rfl
theorem tw_130 : (Jvm.Cond.laysFinal "DoeRoe$Matter" "DoeRoe$Matter" "kinds" "[LDoeRoe$Plain;") ∈ gw_tbl := gw_ch ch_4_ok 2 rfl rfl
theorem tw_132 : (Jvm.Cond.laysFinal "DoeRoe$Matter" "DoeRoe$Matter" "plain" "LDoeRoe$Plain;") ∈ gw_tbl := gw_ch ch_4_ok 4 rfl rfl
theorem tw_134 : (Jvm.Cond.laysFinal "DoeRoe$Matter" "DoeRoe$Matter" "fictions" "LDoeRoe$Rows;") ∈ gw_tbl := gw_ch ch_4_ok 6 rfl rfl
theorem tw_136 : (Jvm.Cond.laysFinal "DoeRoe$Matter" "DoeRoe$Matter" "courts" "LDoeRoe$Rows;") ∈ gw_tbl := gw_ch ch_4_ok 8 rfl rfl
theorem tw_138 : (Jvm.Cond.laysFinal "DoeRoe$Matter" "DoeRoe$Matter" "notes" "LDoeRoe$Rows;") ∈ gw_tbl := gw_ch ch_4_ok 10 rfl rfl
theorem tw_140 : (Jvm.Cond.laysFinal "DoeRoe$Matter" "DoeRoe$Matter" "hearings" "LDoeRoe$Rows;") ∈ gw_tbl := gw_ch ch_4_ok 12 rfl rfl
theorem tw_142 : (Jvm.Cond.laysFinal "DoeRoe$Matter" "DoeRoe$Matter" "undos" "LDoeRoe$Rows;") ∈ gw_tbl := gw_ch ch_4_ok 14 rfl rfl
theorem tw_144 : (Jvm.Cond.lays "DoeRoe$Matter" "DoeRoe$Matter" "trueFacts" "I") ∈ gw_tbl := gw_ch ch_4_ok 16 rfl rfl
theorem tw_146 : (Jvm.Cond.lays "DoeRoe$Matter" "DoeRoe$Matter" "pleaded" "I") ∈ gw_tbl := gw_ch ch_4_ok 18 rfl rfl
theorem tw_148 : (Jvm.Cond.lays "DoeRoe$Matter" "DoeRoe$Matter" "steps" "I") ∈ gw_tbl := gw_ch ch_4_ok 20 rfl rfl
theorem tw_150 : (Jvm.Cond.lays "DoeRoe$Matter" "DoeRoe$Matter" "paid" "I") ∈ gw_tbl := gw_ch ch_4_ok 22 rfl rfl
theorem tw_152 : (Jvm.Cond.superclass "DoeRoe$Matter" "java/lang/Object") ∈ gw_tbl := gw_ch ch_4_ok 24 rfl rfl
theorem tw_153 : (.classLink RX10 45 RX0 : Cond) ∈ gw_tbl := gw_ch ch_4_ok 25 rfl rfl
theorem tw_154 : (.instantiable RX0 6 : Cond) ∈ gw_tbl := gw_ch ch_4_ok 26 rfl rfl
theorem tw_155 : (.methodLink RX10 47 yX0_init : Cond) ∈ gw_tbl := gw_ch ch_4_ok 27 rfl rfl
theorem tw_156 : (.instanceMethod yX0_init : Cond) ∈ gw_tbl := gw_ch ch_4_ok 28 rfl rfl
theorem tw_157 : (.code yX0_init cX0_init 1 none : Cond) ∈ gw_tbl := gw_ch ch_4_ok 29 rfl rfl
theorem tw_158 : (.methodLink RX0 3 objectInit : Cond) ∈ gw_tbl := gw_ch ch_4_ok 30 rfl rfl
theorem tw_159 : (.fieldLink RX0 9 "DoeRoe$BookText" "bytes" "[I" : Cond) ∈ gw_tbl := gw_ch ch_4_ok 31 rfl rfl
theorem tw_160 : (.fieldLink RX0 15 "DoeRoe$BookText" "length" "I" : Cond) ∈ gw_tbl := gw_ch ch_5_ok 0 rfl rfl
theorem tw_161 : (.fieldLink RX10 111 "DoeRoe$BookText" "length" "I" : Cond) ∈ gw_tbl := gw_ch ch_5_ok 1 rfl rfl
theorem tw_162 : (.fieldLink RX0 31 "DoeRoe$BookText" "token" "I" : Cond) ∈ gw_tbl := gw_ch ch_5_ok 2 rfl rfl
theorem tw_163 : (.fieldLink RX0 38 "DoeRoe$BookText" "place" "I" : Cond) ∈ gw_tbl := gw_ch ch_5_ok 3 rfl rfl
theorem tw_164 : (.fieldLink RX0 83 "DoeRoe$BookText" "number" "I" : Cond) ∈ gw_tbl := gw_ch ch_5_ok 4 rfl rfl
theorem tw_165 : (.fieldLink RX0 25 "DoeRoe$BookText" "next" "I" : Cond) ∈ gw_tbl := gw_ch ch_5_ok 5 rfl rfl
theorem tw_166 : (Jvm.Cond.laysFinal "DoeRoe$BookText" "DoeRoe$BookText" "bytes" "[I") ∈ gw_tbl := gw_ch ch_5_ok 6 rfl rfl
theorem tw_168 : (Jvm.Cond.lays "DoeRoe$BookText" "DoeRoe$BookText" "length" "I") ∈ gw_tbl := gw_ch ch_5_ok 8 rfl rfl
theorem tw_170 : (Jvm.Cond.lays "DoeRoe$BookText" "DoeRoe$BookText" "token" "I") ∈ gw_tbl := gw_ch ch_5_ok 10 rfl rfl
theorem tw_172 : (Jvm.Cond.lays "DoeRoe$BookText" "DoeRoe$BookText" "place" "I") ∈ gw_tbl := gw_ch ch_5_ok 12 rfl rfl
theorem tw_174 : (Jvm.Cond.lays "DoeRoe$BookText" "DoeRoe$BookText" "number" "I") ∈ gw_tbl := gw_ch ch_5_ok 14 rfl rfl
theorem tw_176 : (Jvm.Cond.lays "DoeRoe$BookText" "DoeRoe$BookText" "next" "I") ∈ gw_tbl := gw_ch ch_5_ok 16 rfl rfl
theorem tw_178 : (Jvm.Cond.superclass "DoeRoe$BookText" "java/lang/Object") ∈ gw_tbl := gw_ch ch_5_ok 18 rfl rfl
theorem tw_179 : (.classLink RX10 52 RX4 : Cond) ∈ gw_tbl := gw_ch ch_5_ok 19 rfl rfl
theorem tw_180 : (.instantiable RX4 2 : Cond) ∈ gw_tbl := gw_ch ch_5_ok 20 rfl rfl
theorem tw_181 : (.methodLink RX10 54 yX4_init : Cond) ∈ gw_tbl := gw_ch ch_5_ok 21 rfl rfl
theorem tw_182 : (.instanceMethod yX4_init : Cond) ∈ gw_tbl := gw_ch ch_5_ok 22 rfl rfl
theorem tw_183 : (.code yX4_init cX4_init 1 none : Cond) ∈ gw_tbl := gw_ch ch_5_ok 23 rfl rfl
theorem tw_184 : (.methodLink RX4 3 objectInit : Cond) ∈ gw_tbl := gw_ch ch_5_ok 24 rfl rfl
theorem tw_185 : (.fieldLink RX4 9 "DoeRoe$Paths" "rest" "[I" : Cond) ∈ gw_tbl := gw_ch ch_5_ok 25 rfl rfl
theorem tw_186 : (.fieldLink RX4 15 "DoeRoe$Paths" "first" "[I" : Cond) ∈ gw_tbl := gw_ch ch_5_ok 26 rfl rfl
theorem tw_187 : (Jvm.Cond.laysFinal "DoeRoe$Paths" "DoeRoe$Paths" "rest" "[I") ∈ gw_tbl := gw_ch ch_5_ok 27 rfl rfl
theorem tw_189 : (Jvm.Cond.laysFinal "DoeRoe$Paths" "DoeRoe$Paths" "first" "[I") ∈ gw_tbl := gw_ch ch_5_ok 29 rfl rfl
theorem tw_191 : (Jvm.Cond.superclass "DoeRoe$Paths" "java/lang/Object") ∈ gw_tbl := gw_ch ch_5_ok 31 rfl rfl
theorem tw_192 : (.fieldLink RX10 32 "DoeRoe" "matter" "LDoeRoe$Matter;" : Cond) ∈ gw_tbl := gw_ch ch_6_ok 0 rfl rfl
theorem tw_193 : (.fieldLink RX10 36 "DoeRoe" "draft" "LDoeRoe$Matter;" : Cond) ∈ gw_tbl := gw_ch ch_6_ok 1 rfl rfl
theorem tw_194 : (.fieldLink RX10 39 "DoeRoe" "firstImage" "LDoeRoe$Matter;" : Cond) ∈ gw_tbl := gw_ch ch_6_ok 2 rfl rfl
theorem tw_195 : (.fieldLink RX10 42 "DoeRoe" "secondImage" "LDoeRoe$Matter;" : Cond) ∈ gw_tbl := gw_ch ch_6_ok 3 rfl rfl
theorem tw_196 : (.fieldLink RX10 48 "DoeRoe" "text" "LDoeRoe$BookText;" : Cond) ∈ gw_tbl := gw_ch ch_6_ok 4 rfl rfl
theorem tw_197 : (.fieldLink RX10 55 "DoeRoe" "paths" "LDoeRoe$Paths;" : Cond) ∈ gw_tbl := gw_ch ch_6_ok 5 rfl rfl
theorem tw_198 : (.fieldLink RX10 256 "DoeRoe" "firstKept" "Z" : Cond) ∈ gw_tbl := gw_ch ch_6_ok 6 rfl rfl
theorem tw_199 : (.fieldLink RX10 260 "DoeRoe" "secondKept" "Z" : Cond) ∈ gw_tbl := gw_ch ch_6_ok 7 rfl rfl
theorem tw_200 : (.fieldLink RX10 59 "DoeRoe" "above" "J" : Cond) ∈ gw_tbl := gw_ch ch_6_ok 8 rfl rfl
theorem tw_201 : (.fieldLink RX10 63 "DoeRoe" "below" "J" : Cond) ∈ gw_tbl := gw_ch ch_6_ok 9 rfl rfl
theorem tw_202 : (.fieldLink RX10 263 "DoeRoe" "bads" "I" : Cond) ∈ gw_tbl := gw_ch ch_6_ok 10 rfl rfl
theorem tw_203 : (.fieldLink RX10 266 "DoeRoe" "nos" "I" : Cond) ∈ gw_tbl := gw_ch ch_6_ok 11 rfl rfl
theorem tw_204 : (.fieldLink RX10 269 "DoeRoe" "fulls" "I" : Cond) ∈ gw_tbl := gw_ch ch_6_ok 12 rfl rfl
theorem tw_205 : (Jvm.Cond.laysFinal "DoeRoe" "DoeRoe" "matter" "LDoeRoe$Matter;") ∈ gw_tbl := gw_ch ch_6_ok 13 rfl rfl
theorem tw_207 : (Jvm.Cond.laysFinal "DoeRoe" "DoeRoe" "draft" "LDoeRoe$Matter;") ∈ gw_tbl := gw_ch ch_6_ok 15 rfl rfl
theorem tw_209 : (Jvm.Cond.laysFinal "DoeRoe" "DoeRoe" "firstImage" "LDoeRoe$Matter;") ∈ gw_tbl := gw_ch ch_6_ok 17 rfl rfl
theorem tw_211 : (Jvm.Cond.laysFinal "DoeRoe" "DoeRoe" "secondImage" "LDoeRoe$Matter;") ∈ gw_tbl := gw_ch ch_6_ok 19 rfl rfl
theorem tw_213 : (Jvm.Cond.laysFinal "DoeRoe" "DoeRoe" "text" "LDoeRoe$BookText;") ∈ gw_tbl := gw_ch ch_6_ok 21 rfl rfl
theorem tw_215 : (Jvm.Cond.laysFinal "DoeRoe" "DoeRoe" "paths" "LDoeRoe$Paths;") ∈ gw_tbl := gw_ch ch_6_ok 23 rfl rfl
theorem tw_217 : (Jvm.Cond.lays "DoeRoe" "DoeRoe" "firstKept" "Z") ∈ gw_tbl := gw_ch ch_6_ok 25 rfl rfl
theorem tw_219 : (Jvm.Cond.lays "DoeRoe" "DoeRoe" "secondKept" "Z") ∈ gw_tbl := gw_ch ch_6_ok 27 rfl rfl
theorem tw_221 : (Jvm.Cond.lays "DoeRoe" "DoeRoe" "above" "J") ∈ gw_tbl := gw_ch ch_6_ok 29 rfl rfl
theorem tw_223 : (Jvm.Cond.lays "DoeRoe" "DoeRoe" "below" "J") ∈ gw_tbl := gw_ch ch_6_ok 31 rfl rfl
theorem tw_225 : (Jvm.Cond.lays "DoeRoe" "DoeRoe" "bads" "I") ∈ gw_tbl := gw_ch ch_7_ok 1 rfl rfl
theorem tw_227 : (Jvm.Cond.lays "DoeRoe" "DoeRoe" "nos" "I") ∈ gw_tbl := gw_ch ch_7_ok 3 rfl rfl
theorem tw_229 : (Jvm.Cond.lays "DoeRoe" "DoeRoe" "fulls" "I") ∈ gw_tbl := gw_ch ch_7_ok 5 rfl rfl
theorem tw_231 : (Jvm.Cond.superclass "DoeRoe" "java/lang/Object") ∈ gw_tbl := gw_ch ch_7_ok 7 rfl rfl
theorem tw_232 : (.methodLink "DoeRoeLaw" 13 yX10_book : Cond) ∈ gw_tbl := gw_ch ch_7_ok 8 rfl rfl
theorem tw_233 : (.instanceMethod yX10_book : Cond) ∈ gw_tbl := gw_ch ch_7_ok 9 rfl rfl
theorem tw_234 : (.selects RX10 yX10_book yX10_book : Cond) ∈ gw_tbl := gw_ch ch_7_ok 10 rfl rfl
theorem tw_235 : (.code yX10_book cX10_book 3 (some .int) : Cond) ∈ gw_tbl := gw_ch ch_7_ok 11 rfl rfl
theorem tw_236 : (.methodLink RX10 66 yX10_within : Cond) ∈ gw_tbl := gw_ch ch_7_ok 12 rfl rfl
theorem tw_237 : (.static yX10_within : Cond) ∈ gw_tbl := gw_ch ch_7_ok 13 rfl rfl
theorem tw_238 : (.code yX10_within cX10_within 3 (some .boolean) : Cond) ∈ gw_tbl := gw_ch ch_7_ok 14 rfl rfl
theorem tw_239 : (.methodLink RX10 70 yX10_refuseBad : Cond) ∈ gw_tbl := gw_ch ch_7_ok 15 rfl rfl
theorem tw_241 : (.instanceMethod yX10_refuseBad : Cond) ∈ gw_tbl := gw_ch ch_7_ok 17 rfl rfl
theorem tw_242 : (.code yX10_refuseBad cX10_refuseBad 1 (some .int) : Cond) ∈ gw_tbl := gw_ch ch_7_ok 18 rfl rfl
theorem tw_243 : (.methodLink RX10 84 yX3_begin : Cond) ∈ gw_tbl := gw_ch ch_7_ok 19 rfl rfl
theorem tw_244 : (.instanceMethod yX3_begin : Cond) ∈ gw_tbl := gw_ch ch_7_ok 20 rfl rfl
theorem tw_245 : (.selects RX3 yX3_begin yX3_begin : Cond) ∈ gw_tbl := gw_ch ch_7_ok 21 rfl rfl
theorem tw_246 : (.code yX3_begin cX3_begin 2 none : Cond) ∈ gw_tbl := gw_ch ch_7_ok 22 rfl rfl
theorem tw_247 : (.methodLink RX3 47 yX7_empty : Cond) ∈ gw_tbl := gw_ch ch_7_ok 23 rfl rfl
theorem tw_248 : (.instanceMethod yX7_empty : Cond) ∈ gw_tbl := gw_ch ch_7_ok 24 rfl rfl
theorem tw_249 : (.selects RX7 yX7_empty yX7_empty : Cond) ∈ gw_tbl := gw_ch ch_7_ok 25 rfl rfl
theorem tw_250 : (.code yX7_empty cX7_empty 1 none : Cond) ∈ gw_tbl := gw_ch ch_7_ok 26 rfl rfl
theorem tw_251 : (.methodLink RX3 50 yX3_beginSuit : Cond) ∈ gw_tbl := gw_ch ch_7_ok 27 rfl rfl
theorem tw_252 : (.instanceMethod yX3_beginSuit : Cond) ∈ gw_tbl := gw_ch ch_7_ok 28 rfl rfl
theorem tw_253 : (.selects RX3 yX3_beginSuit yX3_beginSuit : Cond) ∈ gw_tbl := gw_ch ch_7_ok 29 rfl rfl
theorem tw_254 : (.code yX3_beginSuit cX3_beginSuit 1 none : Cond) ∈ gw_tbl := gw_ch ch_7_ok 30 rfl rfl
theorem tw_255 : (.methodLink "DoeRoeLaw" 18 yX10_fiction : Cond) ∈ gw_tbl := gw_ch ch_7_ok 31 rfl rfl
theorem tw_256 : (.instanceMethod yX10_fiction : Cond) ∈ gw_tbl := gw_ch ch_8_ok 0 rfl rfl
theorem tw_257 : (.selects RX10 yX10_fiction yX10_fiction : Cond) ∈ gw_tbl := gw_ch ch_8_ok 1 rfl rfl
theorem tw_258 : (.code yX10_fiction cX10_fiction 5 (some .int) : Cond) ∈ gw_tbl := gw_ch ch_8_ok 2 rfl rfl
theorem tw_259 : (.methodLink RX10 88 yX7_isFull : Cond) ∈ gw_tbl := gw_ch ch_8_ok 3 rfl rfl
theorem tw_260 : (.instanceMethod yX7_isFull : Cond) ∈ gw_tbl := gw_ch ch_8_ok 4 rfl rfl
theorem tw_261 : (.selects RX7 yX7_isFull yX7_isFull : Cond) ∈ gw_tbl := gw_ch ch_8_ok 5 rfl rfl
theorem tw_262 : (.code yX7_isFull cX7_isFull 1 (some .boolean) : Cond) ∈ gw_tbl := gw_ch ch_8_ok 6 rfl rfl
theorem tw_263 : (.methodLink RX10 92 yX10_refuseFull : Cond) ∈ gw_tbl := gw_ch ch_8_ok 7 rfl rfl
theorem tw_265 : (.instanceMethod yX10_refuseFull : Cond) ∈ gw_tbl := gw_ch ch_8_ok 9 rfl rfl
theorem tw_266 : (.code yX10_refuseFull cX10_refuseFull 1 (some .int) : Cond) ∈ gw_tbl := gw_ch ch_8_ok 10 rfl rfl
theorem tw_267 : (.methodLink RX10 95 yX7_add : Cond) ∈ gw_tbl := gw_ch ch_8_ok 11 rfl rfl
theorem tw_268 : (.instanceMethod yX7_add : Cond) ∈ gw_tbl := gw_ch ch_8_ok 12 rfl rfl
theorem tw_269 : (.selects RX7 yX7_add yX7_add : Cond) ∈ gw_tbl := gw_ch ch_8_ok 13 rfl rfl
theorem tw_270 : (.code yX7_add cX7_add 5 none : Cond) ∈ gw_tbl := gw_ch ch_8_ok 14 rfl rfl
theorem tw_271 : (.methodLink RX7 29 yX7_isFull : Cond) ∈ gw_tbl := gw_ch ch_8_ok 15 rfl rfl
theorem tw_272 : (.methodLink RX7 33 yX7_put : Cond) ∈ gw_tbl := gw_ch ch_8_ok 16 rfl rfl
theorem tw_274 : (.instanceMethod yX7_put : Cond) ∈ gw_tbl := gw_ch ch_8_ok 18 rfl rfl
theorem tw_275 : (.code yX7_put cX7_put 5 none : Cond) ∈ gw_tbl := gw_ch ch_8_ok 19 rfl rfl
theorem tw_276 : (.methodLink RX10 102 yX7_empty : Cond) ∈ gw_tbl := gw_ch ch_8_ok 20 rfl rfl
theorem tw_277 : (.methodLink "DoeRoeLaw" 23 yX10_court : Cond) ∈ gw_tbl := gw_ch ch_8_ok 21 rfl rfl
theorem tw_278 : (.instanceMethod yX10_court : Cond) ∈ gw_tbl := gw_ch ch_8_ok 22 rfl rfl
theorem tw_279 : (.selects RX10 yX10_court yX10_court : Cond) ∈ gw_tbl := gw_ch ch_8_ok 23 rfl rfl
theorem tw_280 : (.code yX10_court cX10_court 3 (some .int) : Cond) ∈ gw_tbl := gw_ch ch_8_ok 24 rfl rfl
theorem tw_281 : (.methodLink "DoeRoeLaw" 28 yX10_type : Cond) ∈ gw_tbl := gw_ch ch_8_ok 25 rfl rfl
theorem tw_282 : (.instanceMethod yX10_type : Cond) ∈ gw_tbl := gw_ch ch_8_ok 26 rfl rfl
theorem tw_283 : (.selects RX10 yX10_type yX10_type : Cond) ∈ gw_tbl := gw_ch ch_8_ok 27 rfl rfl
theorem tw_284 : (.code yX10_type cX10_type 2 (some .int) : Cond) ∈ gw_tbl := gw_ch ch_8_ok 28 rfl rfl
theorem tw_285 : (.methodLink RX10 108 yX0_isFull : Cond) ∈ gw_tbl := gw_ch ch_8_ok 29 rfl rfl
theorem tw_286 : (.instanceMethod yX0_isFull : Cond) ∈ gw_tbl := gw_ch ch_8_ok 30 rfl rfl
theorem tw_287 : (.selects RX0 yX0_isFull yX0_isFull : Cond) ∈ gw_tbl := gw_ch ch_8_ok 31 rfl rfl
theorem tw_288 : (.code yX0_isFull cX0_isFull 1 (some .boolean) : Cond) ∈ gw_tbl := gw_ch ch_9_ok 0 rfl rfl
theorem tw_289 : (.methodLink RX10 109 yX0_add : Cond) ∈ gw_tbl := gw_ch ch_9_ok 1 rfl rfl
theorem tw_290 : (.instanceMethod yX0_add : Cond) ∈ gw_tbl := gw_ch ch_9_ok 2 rfl rfl
theorem tw_291 : (.selects RX0 yX0_add yX0_add : Cond) ∈ gw_tbl := gw_ch ch_9_ok 3 rfl rfl
theorem tw_292 : (.code yX0_add cX0_add 2 none : Cond) ∈ gw_tbl := gw_ch ch_9_ok 4 rfl rfl
theorem tw_293 : (.methodLink "DoeRoeLaw" 32 yX10_clear : Cond) ∈ gw_tbl := gw_ch ch_9_ok 5 rfl rfl
theorem tw_294 : (.instanceMethod yX10_clear : Cond) ∈ gw_tbl := gw_ch ch_9_ok 6 rfl rfl
theorem tw_295 : (.selects RX10 yX10_clear yX10_clear : Cond) ∈ gw_tbl := gw_ch ch_9_ok 7 rfl rfl
theorem tw_296 : (.code yX10_clear cX10_clear 2 (some .int) : Cond) ∈ gw_tbl := gw_ch ch_9_ok 8 rfl rfl
theorem tw_297 : (.methodLink "DoeRoeLaw" 37 yX10_read : Cond) ∈ gw_tbl := gw_ch ch_9_ok 9 rfl rfl
theorem tw_298 : (.instanceMethod yX10_read : Cond) ∈ gw_tbl := gw_ch ch_9_ok 10 rfl rfl
theorem tw_299 : (.selects RX10 yX10_read yX10_read : Cond) ∈ gw_tbl := gw_ch ch_9_ok 11 rfl rfl
theorem tw_300 : (.code yX10_read cX10_read 2 (some .int) : Cond) ∈ gw_tbl := gw_ch ch_9_ok 12 rfl rfl
theorem tw_301 : (.methodLink RX10 114 yX0_readInto : Cond) ∈ gw_tbl := gw_ch ch_9_ok 13 rfl rfl
theorem tw_302 : (.instanceMethod yX0_readInto : Cond) ∈ gw_tbl := gw_ch ch_9_ok 14 rfl rfl
theorem tw_303 : (.selects RX0 yX0_readInto yX0_readInto : Cond) ∈ gw_tbl := gw_ch ch_9_ok 15 rfl rfl
theorem tw_304 : (.code yX0_readInto cX0_readInto 3 (some .int) : Cond) ∈ gw_tbl := gw_ch ch_9_ok 16 rfl rfl
theorem tw_305 : (.methodLink RX0 19 yX3_begin : Cond) ∈ gw_tbl := gw_ch ch_9_ok 17 rfl rfl
theorem tw_306 : (.methodLink RX0 28 yX0_advance : Cond) ∈ gw_tbl := gw_ch ch_9_ok 18 rfl rfl
theorem tw_308 : (.instanceMethod yX0_advance : Cond) ∈ gw_tbl := gw_ch ch_9_ok 20 rfl rfl
theorem tw_309 : (.code yX0_advance cX0_advance 2 none : Cond) ∈ gw_tbl := gw_ch ch_9_ok 21 rfl rfl
theorem tw_310 : (.methodLink RX0 86 yX0_byteAt : Cond) ∈ gw_tbl := gw_ch ch_9_ok 22 rfl rfl
theorem tw_312 : (.instanceMethod yX0_byteAt : Cond) ∈ gw_tbl := gw_ch ch_9_ok 24 rfl rfl
theorem tw_313 : (.code yX0_byteAt cX0_byteAt 2 (some .int) : Cond) ∈ gw_tbl := gw_ch ch_9_ok 25 rfl rfl
theorem tw_314 : (.methodLink RX0 89 yX0_isLetter : Cond) ∈ gw_tbl := gw_ch ch_9_ok 26 rfl rfl
theorem tw_315 : (.static yX0_isLetter : Cond) ∈ gw_tbl := gw_ch ch_9_ok 27 rfl rfl
theorem tw_316 : (.code yX0_isLetter cX0_isLetter 1 (some .boolean) : Cond) ∈ gw_tbl := gw_ch ch_9_ok 28 rfl rfl
theorem tw_317 : (.methodLink RX0 93 yX0_advanceOverWord : Cond) ∈ gw_tbl := gw_ch ch_9_ok 29 rfl rfl
theorem tw_319 : (.instanceMethod yX0_advanceOverWord : Cond) ∈ gw_tbl := gw_ch ch_9_ok 31 rfl rfl
theorem tw_320 : (.code yX0_advanceOverWord cX0_advanceOverWord 1 none : Cond) ∈ gw_tbl := gw_ch ch_10_ok 0 rfl rfl
theorem tw_321 : (Jvm.Cond.stringRef "DoeRoe$BookText" (102 : Nat) "book") ∈ lw_tbl := lw_ch ch_10_ok 1 rfl
theorem tw_322 : (.methodLink RX0 104 yX0_standsThere : Cond) ∈ gw_tbl := gw_ch ch_10_ok 2 rfl rfl
theorem tw_324 : (.instanceMethod yX0_standsThere : Cond) ∈ gw_tbl := gw_ch ch_10_ok 4 rfl rfl
theorem tw_325 : (.code yX0_standsThere cX0_standsThere 3 (some .boolean) : Cond) ∈ gw_tbl := gw_ch ch_10_ok 5 rfl rfl
theorem tw_326 : (.methodLink RX0 112 yJ0_length_8abf5 : Cond) ∈ gw_tbl := gw_ch ch_10_ok 6 rfl rfl
theorem tw_327 : (.instanceMethod yJ0_length_8abf5 : Cond) ∈ gw_tbl := gw_ch ch_10_ok 7 rfl rfl
theorem tw_328 : (.selects RJ0 yJ0_length_8abf5 yJ0_length_8abf5 : Cond) ∈ gw_tbl := gw_ch ch_10_ok 8 rfl rfl
theorem tw_329 : (.code yJ0_length_8abf5 cJ0_length_8abf5 1 (some .int) : Cond) ∈ gw_tbl := gw_ch ch_10_ok 9 rfl rfl
theorem tw_330 : (.methodLink RJ0 335 yJ0_coder_7d493 : Cond) ∈ gw_tbl := gw_ch ch_10_ok 10 rfl rfl
theorem tw_331 : (.instanceMethod yJ0_coder_7d493 : Cond) ∈ gw_tbl := gw_ch ch_10_ok 11 rfl rfl
theorem tw_332 : (.selects RJ0 yJ0_coder_7d493 yJ0_coder_7d493 : Cond) ∈ gw_tbl := gw_ch ch_10_ok 12 rfl rfl
theorem tw_333 : (.code yJ0_coder_7d493 cJ0_coder_7d493 1 (some .byte) : Cond) ∈ gw_tbl := gw_ch ch_10_ok 13 rfl rfl
theorem tw_334 : (.fieldLink RJ0 38 "java/lang/String" "COMPACT_STRINGS" "Z" : Cond) ∈ gw_tbl := gw_ch ch_10_ok 14 rfl rfl
theorem tw_336 : (.methodLink RX0 116 yJ0_charAt_5068e : Cond) ∈ gw_tbl := gw_ch ch_10_ok 16 rfl rfl
theorem tw_337 : (.instanceMethod yJ0_charAt_5068e : Cond) ∈ gw_tbl := gw_ch ch_10_ok 17 rfl rfl
theorem tw_338 : (.selects RJ0 yJ0_charAt_5068e yJ0_charAt_5068e : Cond) ∈ gw_tbl := gw_ch ch_10_ok 18 rfl rfl
theorem tw_339 : (.code yJ0_charAt_5068e cJ0_charAt_5068e 2 (some .char) : Cond) ∈ gw_tbl := gw_ch ch_10_ok 19 rfl rfl
theorem tw_340 : (.methodLink RJ0 492 yJ0_isLatin1_aae02 : Cond) ∈ gw_tbl := gw_ch ch_10_ok 20 rfl rfl
theorem tw_341 : (.instanceMethod yJ0_isLatin1_aae02 : Cond) ∈ gw_tbl := gw_ch ch_10_ok 21 rfl rfl
theorem tw_342 : (.selects RJ0 yJ0_isLatin1_aae02 yJ0_isLatin1_aae02 : Cond) ∈ gw_tbl := gw_ch ch_10_ok 22 rfl rfl
theorem tw_343 : (.code yJ0_isLatin1_aae02 cJ0_isLatin1_aae02 1 (some .boolean) : Cond) ∈ gw_tbl := gw_ch ch_10_ok 23 rfl rfl
theorem tw_344 : (.methodLink RJ0 495 yJ1_charAt_3b067 : Cond) ∈ gw_tbl := gw_ch ch_10_ok 24 rfl rfl
theorem tw_345 : (.static yJ1_charAt_3b067 : Cond) ∈ gw_tbl := gw_ch ch_10_ok 25 rfl rfl
theorem tw_346 : (.code yJ1_charAt_3b067 cJ1_charAt_3b067 2 (some .char) : Cond) ∈ gw_tbl := gw_ch ch_10_ok 26 rfl rfl
theorem tw_347 : (.methodLink RJ1 9 yJ0_checkIndex_df160 : Cond) ∈ gw_tbl := gw_ch ch_10_ok 27 rfl rfl
theorem tw_348 : (.static yJ0_checkIndex_df160 : Cond) ∈ gw_tbl := gw_ch ch_10_ok 28 rfl rfl
theorem tw_349 : (.code yJ0_checkIndex_df160 cJ0_checkIndex_df160 2 none : Cond) ∈ gw_tbl := gw_ch ch_10_ok 29 rfl rfl
theorem tw_350 : (.fieldLink RJ0 1053 "jdk/internal/util/Preconditions" "SIOOBE_FORMATTER" "Ljava/util/function/BiFunction;" : Cond) ∈ gw_tbl := gw_ch ch_10_ok 30 rfl rfl
theorem tw_352 : (.methodLink RJ0 1059 yJ3_checkIndex_8e157 : Cond) ∈ gw_tbl := gw_ch ch_11_ok 0 rfl rfl
theorem tw_353 : (.static yJ3_checkIndex_8e157 : Cond) ∈ gw_tbl := gw_ch ch_11_ok 1 rfl rfl
theorem tw_354 : (.code yJ3_checkIndex_8e157 cJ3_checkIndex_8e157 3 (some .int) : Cond) ∈ gw_tbl := gw_ch ch_11_ok 2 rfl rfl
theorem tw_355 : (.methodLink RJ0 498 yJ2_charAt_3b067 : Cond) ∈ gw_tbl := gw_ch ch_11_ok 3 rfl rfl
theorem tw_356 : (.static yJ2_charAt_3b067 : Cond) ∈ gw_tbl := gw_ch ch_11_ok 4 rfl rfl
theorem tw_357 : (.code yJ2_charAt_3b067 cJ2_charAt_3b067 2 (some .char) : Cond) ∈ gw_tbl := gw_ch ch_11_ok 5 rfl rfl
theorem tw_358 : (.methodLink RJ2 67 yJ2_checkIndex_2214a : Cond) ∈ gw_tbl := gw_ch ch_11_ok 6 rfl rfl
theorem tw_359 : (.static yJ2_checkIndex_2214a : Cond) ∈ gw_tbl := gw_ch ch_11_ok 7 rfl rfl
theorem tw_360 : (.code yJ2_checkIndex_2214a cJ2_checkIndex_2214a 2 none : Cond) ∈ gw_tbl := gw_ch ch_11_ok 8 rfl rfl
theorem tw_361 : (.methodLink RJ2 48 yJ2_length_9d52b : Cond) ∈ gw_tbl := gw_ch ch_11_ok 9 rfl rfl
theorem tw_362 : (.static yJ2_length_9d52b : Cond) ∈ gw_tbl := gw_ch ch_11_ok 10 rfl rfl
theorem tw_363 : (.code yJ2_length_9d52b cJ2_length_9d52b 1 (some .int) : Cond) ∈ gw_tbl := gw_ch ch_11_ok 11 rfl rfl
theorem tw_364 : (.methodLink RJ2 414 yJ0_checkIndex_df160 : Cond) ∈ gw_tbl := gw_ch ch_11_ok 12 rfl rfl
theorem tw_365 : (.methodLink RJ2 71 yJ2_getChar_3b067 : Cond) ∈ gw_tbl := gw_ch ch_11_ok 13 rfl rfl
theorem tw_366 : (.static yJ2_getChar_3b067 : Cond) ∈ gw_tbl := gw_ch ch_11_ok 14 rfl rfl
theorem tw_367 : (.code yJ2_getChar_3b067 cJ2_getChar_3b067 2 (some .char) : Cond) ∈ gw_tbl := gw_ch ch_11_ok 15 rfl rfl
theorem tw_368 : (.fieldLink RJ2 44 "java/lang/StringUTF16" "$assertionsDisabled" "Z" : Cond) ∈ gw_tbl := gw_ch ch_11_ok 16 rfl rfl
theorem tw_370 : (.fieldLink RJ2 59 "java/lang/StringUTF16" "HI_BYTE_SHIFT" "I" : Cond) ∈ gw_tbl := gw_ch ch_11_ok 18 rfl rfl
theorem tw_372 : (.fieldLink RJ2 63 "java/lang/StringUTF16" "LO_BYTE_SHIFT" "I" : Cond) ∈ gw_tbl := gw_ch ch_11_ok 20 rfl rfl
theorem tw_374 : (Jvm.Cond.stringRef "DoeRoe$BookText" (108 : Nat) "fiction") ∈ lw_tbl := lw_ch ch_11_ok 22 rfl
theorem tw_375 : (Jvm.Cond.stringRef "DoeRoe$BookText" (110 : Nat) "court") ∈ lw_tbl := lw_ch ch_11_ok 23 rfl
theorem tw_376 : (.methodLink RX0 96 yX0_isFigure : Cond) ∈ gw_tbl := gw_ch ch_11_ok 24 rfl rfl
theorem tw_377 : (.static yX0_isFigure : Cond) ∈ gw_tbl := gw_ch ch_11_ok 25 rfl rfl
theorem tw_378 : (.code yX0_isFigure cX0_isFigure 1 (some .boolean) : Cond) ∈ gw_tbl := gw_ch ch_11_ok 26 rfl rfl
theorem tw_379 : (.methodLink RX0 99 yX0_advanceOverFigures : Cond) ∈ gw_tbl := gw_ch ch_11_ok 27 rfl rfl
theorem tw_381 : (.instanceMethod yX0_advanceOverFigures : Cond) ∈ gw_tbl := gw_ch ch_11_ok 29 rfl rfl
theorem tw_382 : (.code yX0_advanceOverFigures cX0_advanceOverFigures 1 none : Cond) ∈ gw_tbl := gw_ch ch_11_ok 30 rfl rfl
theorem tw_383 : (.methodLink RX0 34 yX0_takeItem : Cond) ∈ gw_tbl := gw_ch ch_11_ok 31 rfl rfl
theorem tw_385 : (.instanceMethod yX0_takeItem : Cond) ∈ gw_tbl := gw_ch ch_12_ok 1 rfl rfl
theorem tw_386 : (.code yX0_takeItem cX0_takeItem 4 (some .boolean) : Cond) ∈ gw_tbl := gw_ch ch_12_ok 2 rfl rfl
theorem tw_387 : (.methodLink RX0 41 yX0_mayBegin : Cond) ∈ gw_tbl := gw_ch ch_12_ok 3 rfl rfl
theorem tw_388 : (.static yX0_mayBegin : Cond) ∈ gw_tbl := gw_ch ch_12_ok 4 rfl rfl
theorem tw_389 : (.code yX0_mayBegin cX0_mayBegin 3 (some .boolean) : Cond) ∈ gw_tbl := gw_ch ch_12_ok 5 rfl rfl
theorem tw_390 : (.methodLink RX0 59 yX7_isFull : Cond) ∈ gw_tbl := gw_ch ch_12_ok 6 rfl rfl
theorem tw_391 : (.methodLink RX0 45 yX0_takeFiction : Cond) ∈ gw_tbl := gw_ch ch_12_ok 7 rfl rfl
theorem tw_393 : (.instanceMethod yX0_takeFiction : Cond) ∈ gw_tbl := gw_ch ch_12_ok 9 rfl rfl
theorem tw_394 : (.code yX0_takeFiction cX0_takeFiction 6 (some .boolean) : Cond) ∈ gw_tbl := gw_ch ch_12_ok 10 rfl rfl
theorem tw_395 : (.methodLink RX0 75 yX0_takeNumber : Cond) ∈ gw_tbl := gw_ch ch_12_ok 11 rfl rfl
theorem tw_397 : (.instanceMethod yX0_takeNumber : Cond) ∈ gw_tbl := gw_ch ch_12_ok 13 rfl rfl
theorem tw_398 : (.code yX0_takeNumber cX0_takeNumber 3 (some .int) : Cond) ∈ gw_tbl := gw_ch ch_12_ok 14 rfl rfl
theorem tw_399 : (.methodLink RX0 68 yX0_takeFacts : Cond) ∈ gw_tbl := gw_ch ch_12_ok 15 rfl rfl
theorem tw_401 : (.instanceMethod yX0_takeFacts : Cond) ∈ gw_tbl := gw_ch ch_12_ok 17 rfl rfl
theorem tw_402 : (.code yX0_takeFacts cX0_takeFacts 4 (some .int) : Cond) ∈ gw_tbl := gw_ch ch_12_ok 18 rfl rfl
theorem tw_403 : (.methodLink RX0 79 yX7_add : Cond) ∈ gw_tbl := gw_ch ch_12_ok 19 rfl rfl
theorem tw_404 : (.methodLink RX0 49 yX0_takeCourt : Cond) ∈ gw_tbl := gw_ch ch_12_ok 20 rfl rfl
theorem tw_406 : (.instanceMethod yX0_takeCourt : Cond) ∈ gw_tbl := gw_ch ch_12_ok 22 rfl rfl
theorem tw_407 : (.code yX0_takeCourt cX0_takeCourt 4 (some .boolean) : Cond) ∈ gw_tbl := gw_ch ch_12_ok 23 rfl rfl
theorem tw_408 : (.methodLink RX0 52 yX0_takeBook : Cond) ∈ gw_tbl := gw_ch ch_12_ok 24 rfl rfl
theorem tw_410 : (.instanceMethod yX0_takeBook : Cond) ∈ gw_tbl := gw_ch ch_12_ok 26 rfl rfl
theorem tw_411 : (.code yX0_takeBook cX0_takeBook 3 (some .boolean) : Cond) ∈ gw_tbl := gw_ch ch_12_ok 27 rfl rfl
theorem tw_412 : (.methodLink RX10 118 yX3_become : Cond) ∈ gw_tbl := gw_ch ch_12_ok 28 rfl rfl
theorem tw_413 : (.instanceMethod yX3_become : Cond) ∈ gw_tbl := gw_ch ch_12_ok 29 rfl rfl
theorem tw_414 : (.selects RX3 yX3_become yX3_become : Cond) ∈ gw_tbl := gw_ch ch_12_ok 30 rfl rfl
theorem tw_415 : (.code yX3_become cX3_become 2 none : Cond) ∈ gw_tbl := gw_ch ch_12_ok 31 rfl rfl
theorem tw_416 : (.methodLink RX3 62 yX7_become : Cond) ∈ gw_tbl := gw_ch ch_13_ok 0 rfl rfl
theorem tw_417 : (.instanceMethod yX7_become : Cond) ∈ gw_tbl := gw_ch ch_13_ok 1 rfl rfl
theorem tw_418 : (.selects RX7 yX7_become yX7_become : Cond) ∈ gw_tbl := gw_ch ch_13_ok 2 rfl rfl
theorem tw_419 : (.code yX7_become cX7_become 3 none : Cond) ∈ gw_tbl := gw_ch ch_13_ok 3 rfl rfl
theorem tw_420 : (Jvm.Cond.arrayClass Jvm.ClassFile.FieldType.byte) ∈ gw_tbl := gw_ch ch_13_ok 4 rfl rfl
theorem tw_421 : (.methodLink "DoeRoeLaw" 41 yX10_suit : Cond) ∈ gw_tbl := gw_ch ch_13_ok 5 rfl rfl
theorem tw_422 : (.instanceMethod yX10_suit : Cond) ∈ gw_tbl := gw_ch ch_13_ok 6 rfl rfl
theorem tw_423 : (.selects RX10 yX10_suit yX10_suit : Cond) ∈ gw_tbl := gw_ch ch_13_ok 7 rfl rfl
theorem tw_424 : (.code yX10_suit cX10_suit 2 (some .int) : Cond) ∈ gw_tbl := gw_ch ch_13_ok 8 rfl rfl
theorem tw_425 : (.methodLink RX10 125 yJ6_bitCount_0f7a4 : Cond) ∈ gw_tbl := gw_ch ch_13_ok 9 rfl rfl
theorem tw_426 : (.static yJ6_bitCount_0f7a4 : Cond) ∈ gw_tbl := gw_ch ch_13_ok 10 rfl rfl
theorem tw_427 : (.code yJ6_bitCount_0f7a4 cJ6_bitCount_0f7a4 1 (some .int) : Cond) ∈ gw_tbl := gw_ch ch_13_ok 11 rfl rfl
theorem tw_428 : (.constant RJ6 265 (1431655765) : Cond) ∈ gw_tbl := gw_ch ch_13_ok 12 rfl rfl
theorem tw_429 : (.constant RJ6 266 (858993459) : Cond) ∈ gw_tbl := gw_ch ch_13_ok 13 rfl rfl
theorem tw_430 : (.constant RJ6 267 (252645135) : Cond) ∈ gw_tbl := gw_ch ch_13_ok 14 rfl rfl
theorem tw_431 : (.methodLink RX10 131 yX3_beginSuit : Cond) ∈ gw_tbl := gw_ch ch_13_ok 15 rfl rfl
theorem tw_432 : (.methodLink "DoeRoeLaw" 45 yX10_plead : Cond) ∈ gw_tbl := gw_ch ch_13_ok 16 rfl rfl
theorem tw_433 : (.instanceMethod yX10_plead : Cond) ∈ gw_tbl := gw_ch ch_13_ok 17 rfl rfl
theorem tw_434 : (.selects RX10 yX10_plead yX10_plead : Cond) ∈ gw_tbl := gw_ch ch_13_ok 18 rfl rfl
theorem tw_435 : (.code yX10_plead cX10_plead 3 (some .int) : Cond) ∈ gw_tbl := gw_ch ch_13_ok 19 rfl rfl
theorem tw_436 : (.methodLink RX10 134 yX10_isFiction : Cond) ∈ gw_tbl := gw_ch ch_13_ok 20 rfl rfl
theorem tw_438 : (.instanceMethod yX10_isFiction : Cond) ∈ gw_tbl := gw_ch ch_13_ok 22 rfl rfl
theorem tw_439 : (.code yX10_isFiction cX10_isFiction 2 (some .boolean) : Cond) ∈ gw_tbl := gw_ch ch_13_ok 23 rfl rfl
theorem tw_440 : (.methodLink RX10 138 yX10_mayPlead : Cond) ∈ gw_tbl := gw_ch ch_13_ok 24 rfl rfl
theorem tw_442 : (.instanceMethod yX10_mayPlead : Cond) ∈ gw_tbl := gw_ch ch_13_ok 26 rfl rfl
theorem tw_443 : (.code yX10_mayPlead cX10_mayPlead 2 (some .boolean) : Cond) ∈ gw_tbl := gw_ch ch_13_ok 27 rfl rfl
theorem tw_444 : (.methodLink RX10 157 yX10_isPleaded : Cond) ∈ gw_tbl := gw_ch ch_13_ok 28 rfl rfl
theorem tw_446 : (.instanceMethod yX10_isPleaded : Cond) ∈ gw_tbl := gw_ch ch_13_ok 30 rfl rfl
theorem tw_447 : (.code yX10_isPleaded cX10_isPleaded 2 (some .boolean) : Cond) ∈ gw_tbl := gw_ch ch_13_ok 31 rfl rfl
theorem tw_448 : (.methodLink RX10 286 yX10_holds : Cond) ∈ gw_tbl := gw_ch ch_14_ok 0 rfl rfl
theorem tw_449 : (.static yX10_holds : Cond) ∈ gw_tbl := gw_ch ch_14_ok 1 rfl rfl
theorem tw_450 : (.code yX10_holds cX10_holds 2 (some .boolean) : Cond) ∈ gw_tbl := gw_ch ch_14_ok 2 rfl rfl
theorem tw_451 : (.methodLink RX10 169 yX10_supposed : Cond) ∈ gw_tbl := gw_ch ch_14_ok 3 rfl rfl
theorem tw_453 : (.instanceMethod yX10_supposed : Cond) ∈ gw_tbl := gw_ch ch_14_ok 5 rfl rfl
theorem tw_454 : (.code yX10_supposed cX10_supposed 1 (some .int) : Cond) ∈ gw_tbl := gw_ch ch_14_ok 6 rfl rfl
theorem tw_455 : (.methodLink RX10 199 yX3_factsWith : Cond) ∈ gw_tbl := gw_ch ch_14_ok 7 rfl rfl
theorem tw_456 : (.instanceMethod yX3_factsWith : Cond) ∈ gw_tbl := gw_ch ch_14_ok 8 rfl rfl
theorem tw_457 : (.selects RX3 yX3_factsWith yX3_factsWith : Cond) ∈ gw_tbl := gw_ch ch_14_ok 9 rfl rfl
theorem tw_458 : (.code yX3_factsWith cX3_factsWith 4 (some .int) : Cond) ∈ gw_tbl := gw_ch ch_14_ok 10 rfl rfl
theorem tw_459 : (.methodLinkNest RX3 108 yX10_holds "DoeRoe" : Cond) ∈ lw_tbl := lw_ch ch_14_ok 11 rfl
theorem tw_460 : (.methodLink RX3 80 yX7_cell : Cond) ∈ gw_tbl := gw_ch ch_14_ok 12 rfl rfl
theorem tw_461 : (.instanceMethod yX7_cell : Cond) ∈ gw_tbl := gw_ch ch_14_ok 13 rfl rfl
theorem tw_462 : (.selects RX7 yX7_cell yX7_cell : Cond) ∈ gw_tbl := gw_ch ch_14_ok 14 rfl rfl
theorem tw_463 : (.code yX7_cell cX7_cell 4 (some .int) : Cond) ∈ gw_tbl := gw_ch ch_14_ok 15 rfl rfl
theorem tw_464 : (.methodLink RX10 289 yX3_allowed : Cond) ∈ gw_tbl := gw_ch ch_14_ok 16 rfl rfl
theorem tw_465 : (.instanceMethod yX3_allowed : Cond) ∈ gw_tbl := gw_ch ch_14_ok 17 rfl rfl
theorem tw_466 : (.selects RX3 yX3_allowed yX3_allowed : Cond) ∈ gw_tbl := gw_ch ch_14_ok 18 rfl rfl
theorem tw_467 : (.code yX3_allowed cX3_allowed 7 (some .boolean) : Cond) ∈ gw_tbl := gw_ch ch_14_ok 19 rfl rfl
theorem tw_468 : (.methodLink RX3 87 yJ6_bitCount_0f7a4 : Cond) ∈ gw_tbl := gw_ch ch_14_ok 20 rfl rfl
theorem tw_469 : (.methodLink RX3 93 yX3_kindNumbered : Cond) ∈ gw_tbl := gw_ch ch_14_ok 21 rfl rfl
theorem tw_471 : (.instanceMethod yX3_kindNumbered : Cond) ∈ gw_tbl := gw_ch ch_14_ok 23 rfl rfl
theorem tw_472 : (.code yX3_kindNumbered cX3_kindNumbered 3 (some (.object "DoeRoe$Plain")) : Cond) ∈ gw_tbl := gw_ch ch_14_ok 24 rfl rfl
theorem tw_473 : (.methodLink RX3 97 yX6_allows : Cond) ∈ gw_tbl := gw_ch ch_14_ok 25 rfl rfl
theorem tw_474 : (.instanceMethod yX6_allows : Cond) ∈ gw_tbl := gw_ch ch_14_ok 26 rfl rfl
theorem tw_475 : (.selects RX6 yX6_allows yX6_allows : Cond) ∈ gw_tbl := gw_ch ch_14_ok 27 rfl rfl
theorem tw_476 : (Jvm.Cond.sameMethod "DoeRoe$Plain" "DoeRoe$Plain" "allows" "(III)Z") ∈ gw_tbl := gw_ch ch_14_ok 28 rfl rfl
theorem tw_477 : (.selects RX1 yX6_allows yX1_allows : Cond) ∈ gw_tbl := gw_ch ch_14_ok 29 rfl rfl
theorem tw_478 : (.instanceMethod yX1_allows : Cond) ∈ gw_tbl := gw_ch ch_14_ok 30 rfl rfl
theorem tw_479 : (.code yX1_allows cX1_allows 4 (some .boolean) : Cond) ∈ gw_tbl := gw_ch ch_14_ok 31 rfl rfl
theorem tw_480 : (.methodLink RX1 7 yX6_allows : Cond) ∈ gw_tbl := gw_ch ch_15_ok 0 rfl rfl
theorem tw_481 : (.selects RX2 yX6_allows yX2_allows : Cond) ∈ gw_tbl := gw_ch ch_15_ok 1 rfl rfl
theorem tw_482 : (.instanceMethod yX2_allows : Cond) ∈ gw_tbl := gw_ch ch_15_ok 2 rfl rfl
theorem tw_483 : (.code yX2_allows cX2_allows 4 (some .boolean) : Cond) ∈ gw_tbl := gw_ch ch_15_ok 3 rfl rfl
theorem tw_484 : (.methodLink RX2 7 yX6_allows : Cond) ∈ gw_tbl := gw_ch ch_15_ok 4 rfl rfl
theorem tw_485 : (.selects RX5 yX6_allows yX6_allows : Cond) ∈ gw_tbl := gw_ch ch_15_ok 5 rfl rfl
theorem tw_486 : (.selects RX8 yX6_allows yX1_allows : Cond) ∈ gw_tbl := gw_ch ch_15_ok 6 rfl rfl
theorem tw_487 : (.selects RX9 yX6_allows yX9_allows : Cond) ∈ gw_tbl := gw_ch ch_15_ok 7 rfl rfl
theorem tw_488 : (.instanceMethod yX9_allows : Cond) ∈ gw_tbl := gw_ch ch_15_ok 8 rfl rfl
theorem tw_489 : (.code yX9_allows cX9_allows 4 (some .boolean) : Cond) ∈ gw_tbl := gw_ch ch_15_ok 9 rfl rfl
theorem tw_490 : (.methodLink RX9 7 ⟨"DoeRoe$Persons", "allows", "(III)Z"⟩ : Cond) ∈ gw_tbl := gw_ch ch_15_ok 10 rfl rfl
theorem tw_491 : (Jvm.Cond.sameMethod "DoeRoe$Persons" "DoeRoe$Plain" "allows" "(III)Z") ∈ gw_tbl := gw_ch ch_15_ok 11 rfl rfl
theorem tw_492 : (.declares yX6_allows : Cond) ∈ lw_tbl := lw_ch ch_15_ok 12 rfl
theorem tw_493 : (.code yX6_allows cX6_allows 4 (some .boolean) : Cond) ∈ gw_tbl := gw_ch ch_15_ok 13 rfl rfl
theorem tw_494 : (.methodLink RX10 141 yX10_refuseNo : Cond) ∈ gw_tbl := gw_ch ch_15_ok 14 rfl rfl
theorem tw_496 : (.instanceMethod yX10_refuseNo : Cond) ∈ gw_tbl := gw_ch ch_15_ok 16 rfl rfl
theorem tw_497 : (.code yX10_refuseNo cX10_refuseNo 1 (some .int) : Cond) ∈ gw_tbl := gw_ch ch_15_ok 17 rfl rfl
theorem tw_498 : (.methodLink RX10 147 yX3_ownCost : Cond) ∈ gw_tbl := gw_ch ch_15_ok 18 rfl rfl
theorem tw_499 : (.instanceMethod yX3_ownCost : Cond) ∈ gw_tbl := gw_ch ch_15_ok 19 rfl rfl
theorem tw_500 : (.selects RX3 yX3_ownCost yX3_ownCost : Cond) ∈ gw_tbl := gw_ch ch_15_ok 20 rfl rfl
theorem tw_501 : (.code yX3_ownCost cX3_ownCost 3 (some .int) : Cond) ∈ gw_tbl := gw_ch ch_15_ok 21 rfl rfl
theorem tw_502 : (.methodLink RX3 101 yX6_cost : Cond) ∈ gw_tbl := gw_ch ch_15_ok 22 rfl rfl
theorem tw_503 : (.instanceMethod yX6_cost : Cond) ∈ gw_tbl := gw_ch ch_15_ok 23 rfl rfl
theorem tw_504 : (.selects RX6 yX6_cost yX6_cost : Cond) ∈ gw_tbl := gw_ch ch_15_ok 24 rfl rfl
theorem tw_505 : (Jvm.Cond.sameMethod "DoeRoe$Plain" "DoeRoe$Plain" "cost" "(II)I") ∈ gw_tbl := gw_ch ch_15_ok 25 rfl rfl
theorem tw_506 : (.selects RX1 yX6_cost yX1_cost : Cond) ∈ gw_tbl := gw_ch ch_15_ok 26 rfl rfl
theorem tw_507 : (.instanceMethod yX1_cost : Cond) ∈ gw_tbl := gw_ch ch_15_ok 27 rfl rfl
theorem tw_508 : (.code yX1_cost cX1_cost 3 (some .int) : Cond) ∈ gw_tbl := gw_ch ch_15_ok 28 rfl rfl
theorem tw_509 : (.methodLink RX1 11 yX6_cost : Cond) ∈ gw_tbl := gw_ch ch_15_ok 29 rfl rfl
theorem tw_510 : (.selects RX2 yX6_cost yX6_cost : Cond) ∈ gw_tbl := gw_ch ch_15_ok 30 rfl rfl
theorem tw_511 : (.selects RX5 yX6_cost yX5_cost : Cond) ∈ gw_tbl := gw_ch ch_15_ok 31 rfl rfl
theorem tw_512 : (.instanceMethod yX5_cost : Cond) ∈ gw_tbl := gw_ch ch_16_ok 0 rfl rfl
theorem tw_513 : (.code yX5_cost cX5_cost 4 (some .int) : Cond) ∈ gw_tbl := gw_ch ch_16_ok 1 rfl rfl
theorem tw_514 : (.methodLink RX5 7 yX6_cost : Cond) ∈ gw_tbl := gw_ch ch_16_ok 2 rfl rfl
theorem tw_515 : (.selects RX8 yX6_cost yX8_cost : Cond) ∈ gw_tbl := gw_ch ch_16_ok 3 rfl rfl
theorem tw_516 : (.instanceMethod yX8_cost : Cond) ∈ gw_tbl := gw_ch ch_16_ok 4 rfl rfl
theorem tw_517 : (.code yX8_cost cX8_cost 3 (some .int) : Cond) ∈ gw_tbl := gw_ch ch_16_ok 5 rfl rfl
theorem tw_518 : (.methodLink RX8 7 yX1_cost : Cond) ∈ gw_tbl := gw_ch ch_16_ok 6 rfl rfl
theorem tw_519 : (.selects RX9 yX6_cost yX5_cost : Cond) ∈ gw_tbl := gw_ch ch_16_ok 7 rfl rfl
theorem tw_520 : (.code yX6_cost cX6_cost 3 (some .int) : Cond) ∈ gw_tbl := gw_ch ch_16_ok 8 rfl rfl
theorem tw_521 : (.methodLink RX10 151 yX3_keepForUndo : Cond) ∈ gw_tbl := gw_ch ch_16_ok 9 rfl rfl
theorem tw_522 : (.instanceMethod yX3_keepForUndo : Cond) ∈ gw_tbl := gw_ch ch_16_ok 10 rfl rfl
theorem tw_523 : (.selects RX3 yX3_keepForUndo yX3_keepForUndo : Cond) ∈ gw_tbl := gw_ch ch_16_ok 11 rfl rfl
theorem tw_524 : (.code yX3_keepForUndo cX3_keepForUndo 1 none : Cond) ∈ gw_tbl := gw_ch ch_16_ok 12 rfl rfl
theorem tw_525 : (.methodLink RX3 66 yX7_isFull : Cond) ∈ gw_tbl := gw_ch ch_16_ok 13 rfl rfl
theorem tw_526 : (.methodLink RX3 70 yX7_dropFirst : Cond) ∈ gw_tbl := gw_ch ch_16_ok 14 rfl rfl
theorem tw_527 : (.instanceMethod yX7_dropFirst : Cond) ∈ gw_tbl := gw_ch ch_16_ok 15 rfl rfl
theorem tw_528 : (.selects RX7 yX7_dropFirst yX7_dropFirst : Cond) ∈ gw_tbl := gw_ch ch_16_ok 16 rfl rfl
theorem tw_529 : (.code yX7_dropFirst cX7_dropFirst 3 none : Cond) ∈ gw_tbl := gw_ch ch_16_ok 17 rfl rfl
theorem tw_530 : (.methodLink RX7 37 yX7_dropLast : Cond) ∈ gw_tbl := gw_ch ch_16_ok 18 rfl rfl
theorem tw_531 : (.instanceMethod yX7_dropLast : Cond) ∈ gw_tbl := gw_ch ch_16_ok 19 rfl rfl
theorem tw_532 : (.selects RX7 yX7_dropLast yX7_dropLast : Cond) ∈ gw_tbl := gw_ch ch_16_ok 20 rfl rfl
theorem tw_533 : (.code yX7_dropLast cX7_dropLast 1 none : Cond) ∈ gw_tbl := gw_ch ch_16_ok 21 rfl rfl
theorem tw_534 : (.methodLink RX3 73 yX7_add : Cond) ∈ gw_tbl := gw_ch ch_16_ok 22 rfl rfl
theorem tw_535 : (.methodLink "DoeRoeLaw" 49 yX10_deny : Cond) ∈ gw_tbl := gw_ch ch_16_ok 23 rfl rfl
theorem tw_536 : (.instanceMethod yX10_deny : Cond) ∈ gw_tbl := gw_ch ch_16_ok 24 rfl rfl
theorem tw_537 : (.selects RX10 yX10_deny yX10_deny : Cond) ∈ gw_tbl := gw_ch ch_16_ok 25 rfl rfl
theorem tw_538 : (.code yX10_deny cX10_deny 2 (some .int) : Cond) ∈ gw_tbl := gw_ch ch_16_ok 26 rfl rfl
theorem tw_539 : (.methodLink RX10 160 yX3_denialWins : Cond) ∈ gw_tbl := gw_ch ch_16_ok 27 rfl rfl
theorem tw_540 : (.instanceMethod yX3_denialWins : Cond) ∈ gw_tbl := gw_ch ch_16_ok 28 rfl rfl
theorem tw_541 : (.selects RX3 yX3_denialWins yX3_denialWins : Cond) ∈ gw_tbl := gw_ch ch_16_ok 29 rfl rfl
theorem tw_542 : (.code yX3_denialWins cX3_denialWins 3 (some .boolean) : Cond) ∈ gw_tbl := gw_ch ch_16_ok 30 rfl rfl
theorem tw_543 : (.methodLink RX3 104 yX6_losesWith : Cond) ∈ gw_tbl := gw_ch ch_16_ok 31 rfl rfl
theorem tw_544 : (.instanceMethod yX6_losesWith : Cond) ∈ gw_tbl := gw_ch ch_17_ok 0 rfl rfl
theorem tw_545 : (.selects RX6 yX6_losesWith yX6_losesWith : Cond) ∈ gw_tbl := gw_ch ch_17_ok 1 rfl rfl
theorem tw_546 : (Jvm.Cond.sameMethod "DoeRoe$Plain" "DoeRoe$Plain" "losesWith" "(I)Z") ∈ gw_tbl := gw_ch ch_17_ok 2 rfl rfl
theorem tw_547 : (.selects RX1 yX6_losesWith yX6_losesWith : Cond) ∈ gw_tbl := gw_ch ch_17_ok 3 rfl rfl
theorem tw_548 : (.selects RX2 yX6_losesWith yX6_losesWith : Cond) ∈ gw_tbl := gw_ch ch_17_ok 4 rfl rfl
theorem tw_549 : (.selects RX5 yX6_losesWith yX5_losesWith : Cond) ∈ gw_tbl := gw_ch ch_17_ok 5 rfl rfl
theorem tw_550 : (.instanceMethod yX5_losesWith : Cond) ∈ gw_tbl := gw_ch ch_17_ok 6 rfl rfl
theorem tw_551 : (.code yX5_losesWith cX5_losesWith 2 (some .boolean) : Cond) ∈ gw_tbl := gw_ch ch_17_ok 7 rfl rfl
theorem tw_552 : (.selects RX8 yX6_losesWith yX8_losesWith : Cond) ∈ gw_tbl := gw_ch ch_17_ok 8 rfl rfl
theorem tw_553 : (.instanceMethod yX8_losesWith : Cond) ∈ gw_tbl := gw_ch ch_17_ok 9 rfl rfl
theorem tw_554 : (.code yX8_losesWith cX8_losesWith 2 (some .boolean) : Cond) ∈ gw_tbl := gw_ch ch_17_ok 10 rfl rfl
theorem tw_555 : (.selects RX9 yX6_losesWith yX9_losesWith : Cond) ∈ gw_tbl := gw_ch ch_17_ok 11 rfl rfl
theorem tw_556 : (.instanceMethod yX9_losesWith : Cond) ∈ gw_tbl := gw_ch ch_17_ok 12 rfl rfl
theorem tw_557 : (.code yX9_losesWith cX9_losesWith 2 (some .boolean) : Cond) ∈ gw_tbl := gw_ch ch_17_ok 13 rfl rfl
theorem tw_558 : (.code yX6_losesWith cX6_losesWith 2 (some .boolean) : Cond) ∈ gw_tbl := gw_ch ch_17_ok 14 rfl rfl
theorem tw_559 : (.methodLink "DoeRoeLaw" 53 yX10_undo : Cond) ∈ gw_tbl := gw_ch ch_17_ok 15 rfl rfl
theorem tw_560 : (.instanceMethod yX10_undo : Cond) ∈ gw_tbl := gw_ch ch_17_ok 16 rfl rfl
theorem tw_561 : (.selects RX10 yX10_undo yX10_undo : Cond) ∈ gw_tbl := gw_ch ch_17_ok 17 rfl rfl
theorem tw_562 : (.code yX10_undo cX10_undo 1 (some .int) : Cond) ∈ gw_tbl := gw_ch ch_17_ok 18 rfl rfl
theorem tw_563 : (.methodLink RX10 163 yX3_takeBack : Cond) ∈ gw_tbl := gw_ch ch_17_ok 19 rfl rfl
theorem tw_564 : (.instanceMethod yX3_takeBack : Cond) ∈ gw_tbl := gw_ch ch_17_ok 20 rfl rfl
theorem tw_565 : (.selects RX3 yX3_takeBack yX3_takeBack : Cond) ∈ gw_tbl := gw_ch ch_17_ok 21 rfl rfl
theorem tw_566 : (.code yX3_takeBack cX3_takeBack 2 none : Cond) ∈ gw_tbl := gw_ch ch_17_ok 22 rfl rfl
theorem tw_567 : (.methodLink RX3 84 yX7_dropLast : Cond) ∈ gw_tbl := gw_ch ch_17_ok 23 rfl rfl
theorem tw_568 : (.methodLink "DoeRoeLaw" 57 yX10_of : Cond) ∈ gw_tbl := gw_ch ch_17_ok 24 rfl rfl
theorem tw_569 : (.instanceMethod yX10_of : Cond) ∈ gw_tbl := gw_ch ch_17_ok 25 rfl rfl
theorem tw_570 : (.selects RX10 yX10_of yX10_of : Cond) ∈ gw_tbl := gw_ch ch_17_ok 26 rfl rfl
theorem tw_571 : (.code yX10_of cX10_of 3 (some .int) : Cond) ∈ gw_tbl := gw_ch ch_17_ok 27 rfl rfl
theorem tw_572 : (.methodLink RX10 166 yX7_cell : Cond) ∈ gw_tbl := gw_ch ch_17_ok 28 rfl rfl
theorem tw_573 : (.methodLink "DoeRoeLaw" 61 yX10_now : Cond) ∈ gw_tbl := gw_ch ch_17_ok 29 rfl rfl
theorem tw_574 : (.instanceMethod yX10_now : Cond) ∈ gw_tbl := gw_ch ch_17_ok 30 rfl rfl
theorem tw_575 : (.selects RX10 yX10_now yX10_now : Cond) ∈ gw_tbl := gw_ch ch_17_ok 31 rfl rfl
theorem tw_576 : (.code yX10_now cX10_now 2 (some .int) : Cond) ∈ gw_tbl := gw_ch ch_18_ok 0 rfl rfl
theorem tw_577 : (.methodLink "DoeRoeLaw" 65 yX10_may : Cond) ∈ gw_tbl := gw_ch ch_18_ok 1 rfl rfl
theorem tw_578 : (.instanceMethod yX10_may : Cond) ∈ gw_tbl := gw_ch ch_18_ok 2 rfl rfl
theorem tw_579 : (.selects RX10 yX10_may yX10_may : Cond) ∈ gw_tbl := gw_ch ch_18_ok 3 rfl rfl
theorem tw_580 : (.code yX10_may cX10_may 3 (some .int) : Cond) ∈ gw_tbl := gw_ch ch_18_ok 4 rfl rfl
theorem tw_581 : (.methodLink "DoeRoeLaw" 69 yX10_hear : Cond) ∈ gw_tbl := gw_ch ch_18_ok 5 rfl rfl
theorem tw_582 : (.instanceMethod yX10_hear : Cond) ∈ gw_tbl := gw_ch ch_18_ok 6 rfl rfl
theorem tw_583 : (.selects RX10 yX10_hear yX10_hear : Cond) ∈ gw_tbl := gw_ch ch_18_ok 7 rfl rfl
theorem tw_584 : (.code yX10_hear cX10_hear 1 (some .int) : Cond) ∈ gw_tbl := gw_ch ch_18_ok 8 rfl rfl
theorem tw_585 : (.methodLink RX10 175 yX3_hearing : Cond) ∈ gw_tbl := gw_ch ch_18_ok 9 rfl rfl
theorem tw_586 : (.instanceMethod yX3_hearing : Cond) ∈ gw_tbl := gw_ch ch_18_ok 10 rfl rfl
theorem tw_587 : (.selects RX3 yX3_hearing yX3_hearing : Cond) ∈ gw_tbl := gw_ch ch_18_ok 11 rfl rfl
theorem tw_588 : (.code yX3_hearing cX3_hearing 4 (some .int) : Cond) ∈ gw_tbl := gw_ch ch_18_ok 12 rfl rfl
theorem tw_589 : (.methodLink RX3 115 yX3_courtHears : Cond) ∈ gw_tbl := gw_ch ch_18_ok 13 rfl rfl
theorem tw_590 : (.instanceMethod yX3_courtHears : Cond) ∈ gw_tbl := gw_ch ch_18_ok 14 rfl rfl
theorem tw_591 : (.selects RX3 yX3_courtHears yX3_courtHears : Cond) ∈ gw_tbl := gw_ch ch_18_ok 15 rfl rfl
theorem tw_592 : (.code yX3_courtHears cX3_courtHears 3 (some .boolean) : Cond) ∈ gw_tbl := gw_ch ch_18_ok 16 rfl rfl
theorem tw_593 : (.methodLink "DoeRoeLaw" 73 yX10_least : Cond) ∈ gw_tbl := gw_ch ch_18_ok 17 rfl rfl
theorem tw_594 : (.instanceMethod yX10_least : Cond) ∈ gw_tbl := gw_ch ch_18_ok 18 rfl rfl
theorem tw_595 : (.selects RX10 yX10_least yX10_least : Cond) ∈ gw_tbl := gw_ch ch_18_ok 19 rfl rfl
theorem tw_596 : (.code yX10_least cX10_least 5 (some .int) : Cond) ∈ gw_tbl := gw_ch ch_18_ok 20 rfl rfl
theorem tw_597 : (.methodLink RX10 178 yX10_isCourt : Cond) ∈ gw_tbl := gw_ch ch_18_ok 21 rfl rfl
theorem tw_599 : (.instanceMethod yX10_isCourt : Cond) ∈ gw_tbl := gw_ch ch_18_ok 23 rfl rfl
theorem tw_600 : (.code yX10_isCourt cX10_isCourt 2 (some .boolean) : Cond) ∈ gw_tbl := gw_ch ch_18_ok 24 rfl rfl
theorem tw_601 : (.methodLink RX10 181 yX4_measure : Cond) ∈ gw_tbl := gw_ch ch_18_ok 25 rfl rfl
theorem tw_602 : (.instanceMethod yX4_measure : Cond) ∈ gw_tbl := gw_ch ch_18_ok 26 rfl rfl
theorem tw_603 : (.selects RX4 yX4_measure yX4_measure : Cond) ∈ gw_tbl := gw_ch ch_18_ok 27 rfl rfl
theorem tw_604 : (.code yX4_measure cX4_measure 6 (some .int) : Cond) ∈ gw_tbl := gw_ch ch_18_ok 28 rfl rfl
theorem tw_605 : (.methodLink RX4 24 yX4_allFictions : Cond) ∈ gw_tbl := gw_ch ch_18_ok 29 rfl rfl
theorem tw_606 : (.static yX4_allFictions : Cond) ∈ gw_tbl := gw_ch ch_18_ok 30 rfl rfl
theorem tw_607 : (.code yX4_allFictions cX4_allFictions 1 (some .int) : Cond) ∈ gw_tbl := gw_ch ch_18_ok 31 rfl rfl
theorem tw_608 : (.methodLink RX4 28 yX4_settle : Cond) ∈ gw_tbl := gw_ch ch_19_ok 0 rfl rfl
theorem tw_610 : (.instanceMethod yX4_settle : Cond) ∈ gw_tbl := gw_ch ch_19_ok 2 rfl rfl
theorem tw_611 : (.code yX4_settle cX4_settle 12 none : Cond) ∈ gw_tbl := gw_ch ch_19_ok 3 rfl rfl
theorem tw_612 : (.methodLink RX4 36 yX3_factsWith : Cond) ∈ gw_tbl := gw_ch ch_19_ok 4 rfl rfl
theorem tw_613 : (.methodLink RX4 65 yX3_courtHears : Cond) ∈ gw_tbl := gw_ch ch_19_ok 5 rfl rfl
theorem tw_614 : (.methodLink RX4 68 yX4_keep : Cond) ∈ gw_tbl := gw_ch ch_19_ok 6 rfl rfl
theorem tw_616 : (.instanceMethod yX4_keep : Cond) ∈ gw_tbl := gw_ch ch_19_ok 8 rfl rfl
theorem tw_617 : (.code yX4_keep cX4_keep 4 none : Cond) ∈ gw_tbl := gw_ch ch_19_ok 9 rfl rfl
theorem tw_618 : (.methodLink RX4 44 yX4_stepAt : Cond) ∈ gw_tbl := gw_ch ch_19_ok 10 rfl rfl
theorem tw_619 : (.static yX4_stepAt : Cond) ∈ gw_tbl := gw_ch ch_19_ok 11 rfl rfl
theorem tw_620 : (.code yX4_stepAt cX4_stepAt 2 (some .int) : Cond) ∈ gw_tbl := gw_ch ch_19_ok 12 rfl rfl
theorem tw_621 : (.methodLink RX4 79 yJ6_bitCount_0f7a4 : Cond) ∈ gw_tbl := gw_ch ch_19_ok 13 rfl rfl
theorem tw_622 : (.methodLink RX4 32 yX4_at : Cond) ∈ gw_tbl := gw_ch ch_19_ok 14 rfl rfl
theorem tw_623 : (.static yX4_at : Cond) ∈ gw_tbl := gw_ch ch_19_ok 15 rfl rfl
theorem tw_624 : (.code yX4_at cX4_at 2 (some .int) : Cond) ∈ gw_tbl := gw_ch ch_19_ok 16 rfl rfl
theorem tw_625 : (.methodLinkNest RX4 57 yX10_holds "DoeRoe" : Cond) ∈ lw_tbl := lw_ch ch_19_ok 17 rfl
theorem tw_626 : (.methodLink RX4 61 yX3_allowed : Cond) ∈ gw_tbl := gw_ch ch_19_ok 18 rfl rfl
theorem tw_627 : (.methodLink RX4 72 yX3_ownCost : Cond) ∈ gw_tbl := gw_ch ch_19_ok 19 rfl rfl
theorem tw_628 : (.methodLink RX10 185 yX4_fictionAt : Cond) ∈ gw_tbl := gw_ch ch_19_ok 20 rfl rfl
theorem tw_629 : (.instanceMethod yX4_fictionAt : Cond) ∈ gw_tbl := gw_ch ch_19_ok 21 rfl rfl
theorem tw_630 : (.selects RX4 yX4_fictionAt yX4_fictionAt : Cond) ∈ gw_tbl := gw_ch ch_19_ok 22 rfl rfl
theorem tw_631 : (.code yX4_fictionAt cX4_fictionAt 6 (some .int) : Cond) ∈ gw_tbl := gw_ch ch_19_ok 23 rfl rfl
theorem tw_632 : (.methodLink "DoeRoeLaw" 78 yX10_ever : Cond) ∈ gw_tbl := gw_ch ch_19_ok 24 rfl rfl
theorem tw_633 : (.instanceMethod yX10_ever : Cond) ∈ gw_tbl := gw_ch ch_19_ok 25 rfl rfl
theorem tw_634 : (.selects RX10 yX10_ever yX10_ever : Cond) ∈ gw_tbl := gw_ch ch_19_ok 26 rfl rfl
theorem tw_635 : (.code yX10_ever cX10_ever 1 (some .int) : Cond) ∈ gw_tbl := gw_ch ch_19_ok 27 rfl rfl
theorem tw_636 : (.methodLink RX10 189 yX4_reachable : Cond) ∈ gw_tbl := gw_ch ch_19_ok 28 rfl rfl
theorem tw_637 : (.instanceMethod yX4_reachable : Cond) ∈ gw_tbl := gw_ch ch_19_ok 29 rfl rfl
theorem tw_638 : (.selects RX4 yX4_reachable yX4_reachable : Cond) ∈ gw_tbl := gw_ch ch_19_ok 30 rfl rfl
theorem tw_639 : (.code yX4_reachable cX4_reachable 8 (some .int) : Cond) ∈ gw_tbl := gw_ch ch_19_ok 31 rfl rfl
theorem tw_640 : (.methodLink RX4 40 yX4_setsBehind : Cond) ∈ gw_tbl := gw_ch ch_20_ok 0 rfl rfl
theorem tw_642 : (.instanceMethod yX4_setsBehind : Cond) ∈ gw_tbl := gw_ch ch_20_ok 2 rfl rfl
theorem tw_643 : (.code yX4_setsBehind cX4_setsBehind 8 (some .long) : Cond) ∈ gw_tbl := gw_ch ch_20_ok 3 rfl rfl
theorem tw_644 : (.methodLink "DoeRoeLaw" 82 yX10_contradict : Cond) ∈ gw_tbl := gw_ch ch_20_ok 4 rfl rfl
theorem tw_645 : (.instanceMethod yX10_contradict : Cond) ∈ gw_tbl := gw_ch ch_20_ok 5 rfl rfl
theorem tw_646 : (.selects RX10 yX10_contradict yX10_contradict : Cond) ∈ gw_tbl := gw_ch ch_20_ok 6 rfl rfl
theorem tw_647 : (.code yX10_contradict cX10_contradict 1 (some .int) : Cond) ∈ gw_tbl := gw_ch ch_20_ok 7 rfl rfl
theorem tw_648 : (.methodLink RX10 192 yX10_pairsIn : Cond) ∈ gw_tbl := gw_ch ch_20_ok 8 rfl rfl
theorem tw_649 : (.static yX10_pairsIn : Cond) ∈ gw_tbl := gw_ch ch_20_ok 9 rfl rfl
theorem tw_650 : (.code yX10_pairsIn cX10_pairsIn 3 (some .int) : Cond) ∈ gw_tbl := gw_ch ch_20_ok 10 rfl rfl
theorem tw_651 : (.methodLink "DoeRoeLaw" 86 yX10_giveUp : Cond) ∈ gw_tbl := gw_ch ch_20_ok 11 rfl rfl
theorem tw_652 : (.instanceMethod yX10_giveUp : Cond) ∈ gw_tbl := gw_ch ch_20_ok 12 rfl rfl
theorem tw_653 : (.selects RX10 yX10_giveUp yX10_giveUp : Cond) ∈ gw_tbl := gw_ch ch_20_ok 13 rfl rfl
theorem tw_654 : (.code yX10_giveUp cX10_giveUp 3 (some .int) : Cond) ∈ gw_tbl := gw_ch ch_20_ok 14 rfl rfl
theorem tw_655 : (.methodLink RX10 195 yX10_fewer : Cond) ∈ gw_tbl := gw_ch ch_20_ok 15 rfl rfl
theorem tw_656 : (.static yX10_fewer : Cond) ∈ gw_tbl := gw_ch ch_20_ok 16 rfl rfl
theorem tw_657 : (.code yX10_fewer cX10_fewer 2 (some .boolean) : Cond) ∈ gw_tbl := gw_ch ch_20_ok 17 rfl rfl
theorem tw_658 : (.methodLink RX10 202 yX10_contradictIn : Cond) ∈ gw_tbl := gw_ch ch_20_ok 18 rfl rfl
theorem tw_659 : (.static yX10_contradictIn : Cond) ∈ gw_tbl := gw_ch ch_20_ok 19 rfl rfl
theorem tw_660 : (.code yX10_contradictIn cX10_contradictIn 1 (some .boolean) : Cond) ∈ gw_tbl := gw_ch ch_20_ok 20 rfl rfl
theorem tw_661 : (.methodLink "DoeRoeLaw" 90 yX10_denial : Cond) ∈ gw_tbl := gw_ch ch_20_ok 21 rfl rfl
theorem tw_662 : (.instanceMethod yX10_denial : Cond) ∈ gw_tbl := gw_ch ch_20_ok 22 rfl rfl
theorem tw_663 : (.selects RX10 yX10_denial yX10_denial : Cond) ∈ gw_tbl := gw_ch ch_20_ok 23 rfl rfl
theorem tw_664 : (.code yX10_denial cX10_denial 7 (some .int) : Cond) ∈ gw_tbl := gw_ch ch_20_ok 24 rfl rfl
theorem tw_665 : (.methodLink RX10 205 yX10_gainOfOne : Cond) ∈ gw_tbl := gw_ch ch_20_ok 25 rfl rfl
theorem tw_666 : (.static yX10_gainOfOne : Cond) ∈ gw_tbl := gw_ch ch_20_ok 26 rfl rfl
theorem tw_667 : (.code yX10_gainOfOne cX10_gainOfOne 3 (some .int) : Cond) ∈ gw_tbl := gw_ch ch_20_ok 27 rfl rfl
theorem tw_668 : (.methodLink RX10 209 yX10_gainOfOther : Cond) ∈ gw_tbl := gw_ch ch_20_ok 28 rfl rfl
theorem tw_669 : (.static yX10_gainOfOther : Cond) ∈ gw_tbl := gw_ch ch_20_ok 29 rfl rfl
theorem tw_670 : (.code yX10_gainOfOther cX10_gainOfOther 3 (some .int) : Cond) ∈ gw_tbl := gw_ch ch_20_ok 30 rfl rfl
theorem tw_671 : (.methodLink "DoeRoeLaw" 94 yX10_fees : Cond) ∈ gw_tbl := gw_ch ch_20_ok 31 rfl rfl
theorem tw_672 : (.instanceMethod yX10_fees : Cond) ∈ gw_tbl := gw_ch ch_21_ok 0 rfl rfl
theorem tw_673 : (.selects RX10 yX10_fees yX10_fees : Cond) ∈ gw_tbl := gw_ch ch_21_ok 1 rfl rfl
theorem tw_674 : (.code yX10_fees cX10_fees 7 (some .int) : Cond) ∈ gw_tbl := gw_ch ch_21_ok 2 rfl rfl
theorem tw_675 : (.methodLink "DoeRoeLaw" 98 yX10_rule : Cond) ∈ gw_tbl := gw_ch ch_21_ok 3 rfl rfl
theorem tw_676 : (.instanceMethod yX10_rule : Cond) ∈ gw_tbl := gw_ch ch_21_ok 4 rfl rfl
theorem tw_677 : (.selects RX10 yX10_rule yX10_rule : Cond) ∈ gw_tbl := gw_ch ch_21_ok 5 rfl rfl
theorem tw_678 : (.code yX10_rule cX10_rule 2 (some .int) : Cond) ∈ gw_tbl := gw_ch ch_21_ok 6 rfl rfl
theorem tw_679 : (.methodLink "DoeRoeLaw" 102 yX10_note : Cond) ∈ gw_tbl := gw_ch ch_21_ok 7 rfl rfl
theorem tw_680 : (.instanceMethod yX10_note : Cond) ∈ gw_tbl := gw_ch ch_21_ok 8 rfl rfl
theorem tw_681 : (.selects RX10 yX10_note yX10_note : Cond) ∈ gw_tbl := gw_ch ch_21_ok 9 rfl rfl
theorem tw_682 : (.code yX10_note cX10_note 4 (some .int) : Cond) ∈ gw_tbl := gw_ch ch_21_ok 10 rfl rfl
theorem tw_683 : (.methodLink "DoeRoeLaw" 106 yX10_heard : Cond) ∈ gw_tbl := gw_ch ch_21_ok 11 rfl rfl
theorem tw_684 : (.instanceMethod yX10_heard : Cond) ∈ gw_tbl := gw_ch ch_21_ok 12 rfl rfl
theorem tw_685 : (.selects RX10 yX10_heard yX10_heard : Cond) ∈ gw_tbl := gw_ch ch_21_ok 13 rfl rfl
theorem tw_686 : (.code yX10_heard cX10_heard 3 (some .int) : Cond) ∈ gw_tbl := gw_ch ch_21_ok 14 rfl rfl
theorem tw_687 : (.methodLink "DoeRoeLaw" 110 yX10_forget : Cond) ∈ gw_tbl := gw_ch ch_21_ok 15 rfl rfl
theorem tw_688 : (.instanceMethod yX10_forget : Cond) ∈ gw_tbl := gw_ch ch_21_ok 16 rfl rfl
theorem tw_689 : (.selects RX10 yX10_forget yX10_forget : Cond) ∈ gw_tbl := gw_ch ch_21_ok 17 rfl rfl
theorem tw_690 : (.code yX10_forget cX10_forget 4 (some .int) : Cond) ∈ gw_tbl := gw_ch ch_21_ok 18 rfl rfl
theorem tw_691 : (.methodLink "DoeRoeLaw" 114 yX10_is : Cond) ∈ gw_tbl := gw_ch ch_21_ok 19 rfl rfl
theorem tw_692 : (.instanceMethod yX10_is : Cond) ∈ gw_tbl := gw_ch ch_21_ok 20 rfl rfl
theorem tw_693 : (.selects RX10 yX10_is yX10_is : Cond) ∈ gw_tbl := gw_ch ch_21_ok 21 rfl rfl
theorem tw_694 : (.code yX10_is cX10_is 2 (some .int) : Cond) ∈ gw_tbl := gw_ch ch_21_ok 22 rfl rfl
theorem tw_695 : (.methodLink RX10 218 yX3_kindsByNotes : Cond) ∈ gw_tbl := gw_ch ch_21_ok 23 rfl rfl
theorem tw_696 : (.instanceMethod yX3_kindsByNotes : Cond) ∈ gw_tbl := gw_ch ch_21_ok 24 rfl rfl
theorem tw_697 : (.selects RX3 yX3_kindsByNotes yX3_kindsByNotes : Cond) ∈ gw_tbl := gw_ch ch_21_ok 25 rfl rfl
theorem tw_698 : (.code yX3_kindsByNotes cX3_kindsByNotes 4 (some .int) : Cond) ∈ gw_tbl := gw_ch ch_21_ok 26 rfl rfl
theorem tw_699 : (.methodLink RX3 124 yX3_fitsNotes : Cond) ∈ gw_tbl := gw_ch ch_21_ok 27 rfl rfl
theorem tw_701 : (.instanceMethod yX3_fitsNotes : Cond) ∈ gw_tbl := gw_ch ch_21_ok 29 rfl rfl
theorem tw_702 : (.code yX3_fitsNotes cX3_fitsNotes 4 (some .boolean) : Cond) ∈ gw_tbl := gw_ch ch_21_ok 30 rfl rfl
theorem tw_703 : (.methodLink RX3 136 yX3_costAs : Cond) ∈ gw_tbl := gw_ch ch_21_ok 31 rfl rfl
theorem tw_705 : (.instanceMethod yX3_costAs : Cond) ∈ gw_tbl := gw_ch ch_22_ok 1 rfl rfl
theorem tw_706 : (.code yX3_costAs cX3_costAs 4 (some .int) : Cond) ∈ gw_tbl := gw_ch ch_22_ok 2 rfl rfl
theorem tw_707 : (.methodLink "DoeRoeLaw" 118 yX10_look : Cond) ∈ gw_tbl := gw_ch ch_22_ok 3 rfl rfl
theorem tw_708 : (.instanceMethod yX10_look : Cond) ∈ gw_tbl := gw_ch ch_22_ok 4 rfl rfl
theorem tw_709 : (.selects RX10 yX10_look yX10_look : Cond) ∈ gw_tbl := gw_ch ch_22_ok 5 rfl rfl
theorem tw_710 : (.code yX10_look cX10_look 7 (some .int) : Cond) ∈ gw_tbl := gw_ch ch_22_ok 6 rfl rfl
theorem tw_711 : (.methodLink RX10 221 yX3_mostAlike : Cond) ∈ gw_tbl := gw_ch ch_22_ok 7 rfl rfl
theorem tw_712 : (.instanceMethod yX3_mostAlike : Cond) ∈ gw_tbl := gw_ch ch_22_ok 8 rfl rfl
theorem tw_713 : (.selects RX3 yX3_mostAlike yX3_mostAlike : Cond) ∈ gw_tbl := gw_ch ch_22_ok 9 rfl rfl
theorem tw_714 : (.code yX3_mostAlike cX3_mostAlike 6 (some .int) : Cond) ∈ gw_tbl := gw_ch ch_22_ok 10 rfl rfl
theorem tw_715 : (.methodLink RX3 127 yX3_alikeWith : Cond) ∈ gw_tbl := gw_ch ch_22_ok 11 rfl rfl
theorem tw_717 : (.instanceMethod yX3_alikeWith : Cond) ∈ gw_tbl := gw_ch ch_22_ok 13 rfl rfl
theorem tw_718 : (.code yX3_alikeWith cX3_alikeWith 8 (some .int) : Cond) ∈ gw_tbl := gw_ch ch_22_ok 14 rfl rfl
theorem tw_719 : (.methodLink RX3 131 yJ9_max_7cf53 : Cond) ∈ gw_tbl := gw_ch ch_22_ok 15 rfl rfl
theorem tw_720 : (.methodLink "DoeRoeLaw" 122 yX10_truth : Cond) ∈ gw_tbl := gw_ch ch_22_ok 16 rfl rfl
theorem tw_721 : (.instanceMethod yX10_truth : Cond) ∈ gw_tbl := gw_ch ch_22_ok 17 rfl rfl
theorem tw_722 : (.selects RX10 yX10_truth yX10_truth : Cond) ∈ gw_tbl := gw_ch ch_22_ok 18 rfl rfl
theorem tw_723 : (.code yX10_truth cX10_truth 6 (some .int) : Cond) ∈ gw_tbl := gw_ch ch_22_ok 19 rfl rfl
theorem tw_724 : (.methodLink RX10 225 yX3_fitsHearings : Cond) ∈ gw_tbl := gw_ch ch_22_ok 20 rfl rfl
theorem tw_725 : (.instanceMethod yX3_fitsHearings : Cond) ∈ gw_tbl := gw_ch ch_22_ok 21 rfl rfl
theorem tw_726 : (.selects RX3 yX3_fitsHearings yX3_fitsHearings : Cond) ∈ gw_tbl := gw_ch ch_22_ok 22 rfl rfl
theorem tw_727 : (.code yX3_fitsHearings cX3_fitsHearings 4 (some .boolean) : Cond) ∈ gw_tbl := gw_ch ch_22_ok 23 rfl rfl
theorem tw_728 : (.methodLink "DoeRoeLaw" 126 yX10_odds : Cond) ∈ gw_tbl := gw_ch ch_22_ok 24 rfl rfl
theorem tw_729 : (.instanceMethod yX10_odds : Cond) ∈ gw_tbl := gw_ch ch_22_ok 25 rfl rfl
theorem tw_730 : (.selects RX10 yX10_odds yX10_odds : Cond) ∈ gw_tbl := gw_ch ch_22_ok 26 rfl rfl
theorem tw_731 : (.code yX10_odds cX10_odds 9 (some .int) : Cond) ∈ gw_tbl := gw_ch ch_22_ok 27 rfl rfl
theorem tw_732 : (.methodLink RX10 228 yX3_pleadedThatLose : Cond) ∈ gw_tbl := gw_ch ch_22_ok 28 rfl rfl
theorem tw_733 : (.instanceMethod yX3_pleadedThatLose : Cond) ∈ gw_tbl := gw_ch ch_22_ok 29 rfl rfl
theorem tw_734 : (.selects RX3 yX3_pleadedThatLose yX3_pleadedThatLose : Cond) ∈ gw_tbl := gw_ch ch_22_ok 30 rfl rfl
theorem tw_735 : (.code yX3_pleadedThatLose cX3_pleadedThatLose 3 (some .int) : Cond) ∈ gw_tbl := gw_ch ch_22_ok 31 rfl rfl
theorem tw_736 : (.methodLink RX3 112 yX3_denialWins : Cond) ∈ gw_tbl := gw_ch ch_23_ok 0 rfl rfl
theorem tw_737 : (.methodLink RX10 231 yX3_courtHears : Cond) ∈ gw_tbl := gw_ch ch_23_ok 1 rfl rfl
theorem tw_738 : (.methodLink RX10 234 yX10_power : Cond) ∈ gw_tbl := gw_ch ch_23_ok 2 rfl rfl
theorem tw_739 : (.static yX10_power : Cond) ∈ gw_tbl := gw_ch ch_23_ok 3 rfl rfl
theorem tw_740 : (.code yX10_power cX10_power 5 (some .long) : Cond) ∈ gw_tbl := gw_ch ch_23_ok 4 rfl rfl
theorem tw_741 : (.methodLink RX10 238 yX10_keepFraction : Cond) ∈ gw_tbl := gw_ch ch_23_ok 5 rfl rfl
theorem tw_743 : (.instanceMethod yX10_keepFraction : Cond) ∈ gw_tbl := gw_ch ch_23_ok 7 rfl rfl
theorem tw_744 : (.code yX10_keepFraction cX10_keepFraction 7 none : Cond) ∈ gw_tbl := gw_ch ch_23_ok 8 rfl rfl
theorem tw_745 : (.methodLink RX10 292 yX10_commonDivisor : Cond) ∈ gw_tbl := gw_ch ch_23_ok 9 rfl rfl
theorem tw_746 : (.static yX10_commonDivisor : Cond) ∈ gw_tbl := gw_ch ch_23_ok 10 rfl rfl
theorem tw_747 : (.code yX10_commonDivisor cX10_commonDivisor 11 (some .long) : Cond) ∈ gw_tbl := gw_ch ch_23_ok 11 rfl rfl
theorem tw_748 : (.methodLink "DoeRoeLaw" 130 yX10_terms : Cond) ∈ gw_tbl := gw_ch ch_23_ok 12 rfl rfl
theorem tw_749 : (.instanceMethod yX10_terms : Cond) ∈ gw_tbl := gw_ch ch_23_ok 13 rfl rfl
theorem tw_750 : (.selects RX10 yX10_terms yX10_terms : Cond) ∈ gw_tbl := gw_ch ch_23_ok 14 rfl rfl
theorem tw_751 : (.code yX10_terms cX10_terms 10 (some .int) : Cond) ∈ gw_tbl := gw_ch ch_23_ok 15 rfl rfl
theorem tw_752 : (.constant RX10 242 (999999) : Cond) ∈ gw_tbl := gw_ch ch_23_ok 16 rfl rfl
theorem tw_753 : (.constantLong RX10 243 (1103515245) : Cond) ∈ gw_tbl := gw_ch ch_23_ok 17 rfl rfl
theorem tw_754 : (.constantLong RX10 245 (12345) : Cond) ∈ gw_tbl := gw_ch ch_23_ok 18 rfl rfl
theorem tw_755 : (.constantLong RX10 247 (2147483648) : Cond) ∈ gw_tbl := gw_ch ch_23_ok 19 rfl rfl
theorem tw_756 : (.constantLong RX10 249 (65536) : Cond) ∈ gw_tbl := gw_ch ch_23_ok 20 rfl rfl
theorem tw_757 : (.constantLong RX10 251 (6) : Cond) ∈ gw_tbl := gw_ch ch_23_ok 21 rfl rfl
theorem tw_758 : (.methodLink RX10 253 yX3_afterTerm : Cond) ∈ gw_tbl := gw_ch ch_23_ok 22 rfl rfl
theorem tw_759 : (.instanceMethod yX3_afterTerm : Cond) ∈ gw_tbl := gw_ch ch_23_ok 23 rfl rfl
theorem tw_760 : (.selects RX3 yX3_afterTerm yX3_afterTerm : Cond) ∈ gw_tbl := gw_ch ch_23_ok 24 rfl rfl
theorem tw_761 : (.code yX3_afterTerm cX3_afterTerm 4 (some .int) : Cond) ∈ gw_tbl := gw_ch ch_23_ok 25 rfl rfl
theorem tw_762 : (.methodLink RX3 118 yX3_factsWith : Cond) ∈ gw_tbl := gw_ch ch_23_ok 26 rfl rfl
theorem tw_763 : (.methodLink RX3 121 yX3_allowed : Cond) ∈ gw_tbl := gw_ch ch_23_ok 27 rfl rfl
theorem tw_764 : (.methodLink "DoeRoeLaw" 134 yX10_part : Cond) ∈ gw_tbl := gw_ch ch_23_ok 28 rfl rfl
theorem tw_765 : (.instanceMethod yX10_part : Cond) ∈ gw_tbl := gw_ch ch_23_ok 29 rfl rfl
theorem tw_766 : (.selects RX10 yX10_part yX10_part : Cond) ∈ gw_tbl := gw_ch ch_23_ok 30 rfl rfl
theorem tw_767 : (.code yX10_part cX10_part 2 (some .long) : Cond) ∈ gw_tbl := gw_ch ch_23_ok 31 rfl rfl
theorem tw_768 : (.methodLink "DoeRoeLaw" 139 yX10_image : Cond) ∈ gw_tbl := gw_ch ch_24_ok 0 rfl rfl
theorem tw_769 : (.instanceMethod yX10_image : Cond) ∈ gw_tbl := gw_ch ch_24_ok 1 rfl rfl
theorem tw_770 : (.selects RX10 yX10_image yX10_image : Cond) ∈ gw_tbl := gw_ch ch_24_ok 2 rfl rfl
theorem tw_771 : (.code yX10_image cX10_image 2 (some .int) : Cond) ∈ gw_tbl := gw_ch ch_24_ok 3 rfl rfl
theorem tw_772 : (.methodLink "DoeRoeLaw" 143 yX10_from : Cond) ∈ gw_tbl := gw_ch ch_24_ok 4 rfl rfl
theorem tw_773 : (.instanceMethod yX10_from : Cond) ∈ gw_tbl := gw_ch ch_24_ok 5 rfl rfl
theorem tw_774 : (.selects RX10 yX10_from yX10_from : Cond) ∈ gw_tbl := gw_ch ch_24_ok 6 rfl rfl
theorem tw_775 : (.code yX10_from cX10_from 2 (some .int) : Cond) ∈ gw_tbl := gw_ch ch_24_ok 7 rfl rfl
theorem tw_776 : (.methodLink "DoeRoeLaw" 147 yX10_status : Cond) ∈ gw_tbl := gw_ch ch_24_ok 8 rfl rfl
theorem tw_777 : (.instanceMethod yX10_status : Cond) ∈ gw_tbl := gw_ch ch_24_ok 9 rfl rfl
theorem tw_778 : (.selects RX10 yX10_status yX10_status : Cond) ∈ gw_tbl := gw_ch ch_24_ok 10 rfl rfl
theorem tw_779 : (.code yX10_status cX10_status 2 (some .int) : Cond) ∈ gw_tbl := gw_ch ch_24_ok 11 rfl rfl
theorem tw_780 : (.methodLink "DoeRoeLaw" 151 yX10_count : Cond) ∈ gw_tbl := gw_ch ch_24_ok 12 rfl rfl
theorem tw_781 : (.instanceMethod yX10_count : Cond) ∈ gw_tbl := gw_ch ch_24_ok 13 rfl rfl
theorem tw_782 : (.selects RX10 yX10_count yX10_count : Cond) ∈ gw_tbl := gw_ch ch_24_ok 14 rfl rfl
theorem tw_783 : (.code yX10_count cX10_count 2 (some .int) : Cond) ∈ gw_tbl := gw_ch ch_24_ok 15 rfl rfl
theorem tw_784 : (.methodLink "DoeRoeLaw" 155 yX10_digest : Cond) ∈ gw_tbl := gw_ch ch_24_ok 16 rfl rfl
theorem tw_785 : (.instanceMethod yX10_digest : Cond) ∈ gw_tbl := gw_ch ch_24_ok 17 rfl rfl
theorem tw_786 : (.selects RX10 yX10_digest yX10_digest : Cond) ∈ gw_tbl := gw_ch ch_24_ok 18 rfl rfl
theorem tw_787 : (.code yX10_digest cX10_digest 4 (some .long) : Cond) ∈ gw_tbl := gw_ch ch_24_ok 19 rfl rfl
theorem tw_788 : (.constantLong RX10 272 (1283) : Cond) ∈ gw_tbl := gw_ch ch_24_ok 20 rfl rfl
theorem tw_789 : (.constantLong RX10 274 (31) : Cond) ∈ gw_tbl := gw_ch ch_24_ok 21 rfl rfl
theorem tw_790 : (.methodLink RX10 276 yX10_count : Cond) ∈ gw_tbl := gw_ch ch_24_ok 22 rfl rfl
theorem tw_791 : (.methodLink RX10 279 yX10_now : Cond) ∈ gw_tbl := gw_ch ch_24_ok 23 rfl rfl
theorem tw_792 : (.methodLink RX10 282 yX7_digestFrom : Cond) ∈ gw_tbl := gw_ch ch_24_ok 24 rfl rfl
theorem tw_793 : (.instanceMethod yX7_digestFrom : Cond) ∈ gw_tbl := gw_ch ch_24_ok 25 rfl rfl
theorem tw_794 : (.selects RX7 yX7_digestFrom yX7_digestFrom : Cond) ∈ gw_tbl := gw_ch ch_24_ok 26 rfl rfl
theorem tw_795 : (.code yX7_digestFrom cX7_digestFrom 7 (some .long) : Cond) ∈ gw_tbl := gw_ch ch_24_ok 27 rfl rfl
theorem tw_796 : (.constantLong RX7 40 (31) : Cond) ∈ gw_tbl := gw_ch ch_24_ok 28 rfl rfl
theorem tw_797 : (.methodLink RX7 42 yX7_cell : Cond) ∈ gw_tbl := gw_ch ch_24_ok 29 rfl rfl
theorem tw_798 : (.classLink "DoeRoeLaw" 10 RX11 : Cond) ∈ gw_tbl := gw_ch ch_24_ok 30 rfl rfl
theorem tw_799 : (.instantiable RX11 22 : Cond) ∈ gw_tbl := gw_ch ch_24_ok 31 rfl rfl
theorem tw_800 : (.methodLink "DoeRoeLaw" 12 yX11_init : Cond) ∈ gw_tbl := gw_ch ch_25_ok 0 rfl rfl
theorem tw_801 : (.instanceMethod yX11_init : Cond) ∈ gw_tbl := gw_ch ch_25_ok 1 rfl rfl
theorem tw_802 : (.code yX11_init cX11_init 1 none : Cond) ∈ gw_tbl := gw_ch ch_25_ok 2 rfl rfl
theorem tw_803 : (.methodLink RX11 1 objectInit : Cond) ∈ gw_tbl := gw_ch ch_25_ok 3 rfl rfl
theorem tw_804 : (.fieldLink RX11 7 "DoeRoeModel" "row" "[I" : Cond) ∈ gw_tbl := gw_ch ch_25_ok 4 rfl rfl
theorem tw_805 : (.fieldLink RX11 13 "DoeRoeModel" "isKept" "[Z" : Cond) ∈ gw_tbl := gw_ch ch_25_ok 5 rfl rfl
theorem tw_806 : (.fieldLink RX11 17 "DoeRoeModel" "refused" "[I" : Cond) ∈ gw_tbl := gw_ch ch_25_ok 6 rfl rfl
theorem tw_807 : (.fieldLink RX11 212 "DoeRoeModel" "above" "J" : Cond) ∈ gw_tbl := gw_ch ch_25_ok 7 rfl rfl
theorem tw_808 : (.fieldLink RX11 20 "DoeRoeModel" "below" "J" : Cond) ∈ gw_tbl := gw_ch ch_25_ok 8 rfl rfl
theorem tw_809 : (.fieldLink RX11 24 "DoeRoeModel" "text" "[I" : Cond) ∈ gw_tbl := gw_ch ch_25_ok 9 rfl rfl
theorem tw_810 : (.fieldLink RX11 68 "DoeRoeModel" "length" "I" : Cond) ∈ gw_tbl := gw_ch ch_25_ok 10 rfl rfl
theorem tw_811 : (.fieldLink RX11 27 "DoeRoeModel" "words" "[I" : Cond) ∈ gw_tbl := gw_ch ch_25_ok 11 rfl rfl
theorem tw_812 : (.fieldLink RX11 75 "DoeRoeModel" "at" "I" : Cond) ∈ gw_tbl := gw_ch ch_25_ok 12 rfl rfl
theorem tw_813 : (.fieldLink RX11 72 "DoeRoeModel" "behind" "I" : Cond) ∈ gw_tbl := gw_ch ch_25_ok 13 rfl rfl
theorem tw_814 : (.fieldLink RX11 111 "DoeRoeModel" "readTrue" "I" : Cond) ∈ gw_tbl := gw_ch ch_25_ok 14 rfl rfl
theorem tw_815 : (.fieldLink RX11 30 "DoeRoeModel" "readFictions" "[I" : Cond) ∈ gw_tbl := gw_ch ch_25_ok 15 rfl rfl
theorem tw_816 : (.fieldLink RX11 95 "DoeRoeModel" "readMany" "I" : Cond) ∈ gw_tbl := gw_ch ch_25_ok 16 rfl rfl
theorem tw_817 : (.fieldLink RX11 33 "DoeRoeModel" "readCourts" "[I" : Cond) ∈ gw_tbl := gw_ch ch_25_ok 17 rfl rfl
theorem tw_818 : (.fieldLink RX11 105 "DoeRoeModel" "readCourtMany" "I" : Cond) ∈ gw_tbl := gw_ch ch_25_ok 18 rfl rfl
theorem tw_819 : (.fieldLink RX11 36 "DoeRoeModel" "choices" "[I" : Cond) ∈ gw_tbl := gw_ch ch_25_ok 19 rfl rfl
theorem tw_820 : (.fieldLink RX11 39 "DoeRoeModel" "pleadedBy" "[I" : Cond) ∈ gw_tbl := gw_ch ch_25_ok 20 rfl rfl
theorem tw_821 : (.fieldLink RX11 42 "DoeRoeModel" "costs" "[I" : Cond) ∈ gw_tbl := gw_ch ch_25_ok 21 rfl rfl
theorem tw_822 : (.fieldLink RX11 172 "DoeRoeModel" "rowSize" "I" : Cond) ∈ gw_tbl := gw_ch ch_25_ok 22 rfl rfl
theorem tw_823 : (.fieldLink RX11 168 "DoeRoeModel" "isBegun" "Z" : Cond) ∈ gw_tbl := gw_ch ch_25_ok 23 rfl rfl
theorem tw_824 : (.fieldLink RX11 45 "DoeRoeModel" "bestRow" "[I" : Cond) ∈ gw_tbl := gw_ch ch_25_ok 24 rfl rfl
theorem tw_825 : (.fieldLink RX11 181 "DoeRoeModel" "bestSize" "I" : Cond) ∈ gw_tbl := gw_ch ch_25_ok 25 rfl rfl
theorem tw_826 : (Jvm.Cond.laysFinal "DoeRoeModel" "DoeRoeModel" "row" "[I") ∈ gw_tbl := gw_ch ch_25_ok 26 rfl rfl
theorem tw_828 : (Jvm.Cond.laysFinal "DoeRoeModel" "DoeRoeModel" "isKept" "[Z") ∈ gw_tbl := gw_ch ch_25_ok 28 rfl rfl
theorem tw_830 : (Jvm.Cond.laysFinal "DoeRoeModel" "DoeRoeModel" "refused" "[I") ∈ gw_tbl := gw_ch ch_25_ok 30 rfl rfl
theorem tw_832 : (Jvm.Cond.lays "DoeRoeModel" "DoeRoeModel" "above" "J") ∈ gw_tbl := gw_ch ch_26_ok 0 rfl rfl
theorem tw_834 : (Jvm.Cond.lays "DoeRoeModel" "DoeRoeModel" "below" "J") ∈ gw_tbl := gw_ch ch_26_ok 2 rfl rfl
theorem tw_836 : (Jvm.Cond.laysFinal "DoeRoeModel" "DoeRoeModel" "text" "[I") ∈ gw_tbl := gw_ch ch_26_ok 4 rfl rfl
theorem tw_838 : (Jvm.Cond.lays "DoeRoeModel" "DoeRoeModel" "length" "I") ∈ gw_tbl := gw_ch ch_26_ok 6 rfl rfl
theorem tw_840 : (Jvm.Cond.laysFinal "DoeRoeModel" "DoeRoeModel" "words" "[I") ∈ gw_tbl := gw_ch ch_26_ok 8 rfl rfl
theorem tw_842 : (Jvm.Cond.lays "DoeRoeModel" "DoeRoeModel" "at" "I") ∈ gw_tbl := gw_ch ch_26_ok 10 rfl rfl
theorem tw_844 : (Jvm.Cond.lays "DoeRoeModel" "DoeRoeModel" "behind" "I") ∈ gw_tbl := gw_ch ch_26_ok 12 rfl rfl
theorem tw_846 : (Jvm.Cond.lays "DoeRoeModel" "DoeRoeModel" "readTrue" "I") ∈ gw_tbl := gw_ch ch_26_ok 14 rfl rfl
theorem tw_848 : (Jvm.Cond.laysFinal "DoeRoeModel" "DoeRoeModel" "readFictions" "[I") ∈ gw_tbl := gw_ch ch_26_ok 16 rfl rfl
theorem tw_850 : (Jvm.Cond.lays "DoeRoeModel" "DoeRoeModel" "readMany" "I") ∈ gw_tbl := gw_ch ch_26_ok 18 rfl rfl
theorem tw_852 : (Jvm.Cond.laysFinal "DoeRoeModel" "DoeRoeModel" "readCourts" "[I") ∈ gw_tbl := gw_ch ch_26_ok 20 rfl rfl
theorem tw_854 : (Jvm.Cond.lays "DoeRoeModel" "DoeRoeModel" "readCourtMany" "I") ∈ gw_tbl := gw_ch ch_26_ok 22 rfl rfl
theorem tw_856 : (Jvm.Cond.laysFinal "DoeRoeModel" "DoeRoeModel" "choices" "[I") ∈ gw_tbl := gw_ch ch_26_ok 24 rfl rfl
theorem tw_858 : (Jvm.Cond.laysFinal "DoeRoeModel" "DoeRoeModel" "pleadedBy" "[I") ∈ gw_tbl := gw_ch ch_26_ok 26 rfl rfl
theorem tw_860 : (Jvm.Cond.laysFinal "DoeRoeModel" "DoeRoeModel" "costs" "[I") ∈ gw_tbl := gw_ch ch_26_ok 28 rfl rfl
theorem tw_862 : (Jvm.Cond.lays "DoeRoeModel" "DoeRoeModel" "rowSize" "I") ∈ gw_tbl := gw_ch ch_26_ok 30 rfl rfl
theorem tw_864 : (Jvm.Cond.lays "DoeRoeModel" "DoeRoeModel" "isBegun" "Z") ∈ gw_tbl := gw_ch ch_27_ok 0 rfl rfl
theorem tw_866 : (Jvm.Cond.laysFinal "DoeRoeModel" "DoeRoeModel" "bestRow" "[I") ∈ gw_tbl := gw_ch ch_27_ok 2 rfl rfl
theorem tw_868 : (Jvm.Cond.lays "DoeRoeModel" "DoeRoeModel" "bestSize" "I") ∈ gw_tbl := gw_ch ch_27_ok 4 rfl rfl
theorem tw_870 : (Jvm.Cond.superclass "DoeRoeModel" "java/lang/Object") ∈ gw_tbl := gw_ch ch_27_ok 6 rfl rfl
theorem tw_871 : (Jvm.Cond.arrayClass Jvm.ClassFile.FieldType.boolean) ∈ gw_tbl := gw_ch ch_27_ok 7 rfl rfl
theorem tw_872 : (.methodLink "DoeRoeLaw" 17 yX11_book : Cond) ∈ gw_tbl := gw_ch ch_27_ok 8 rfl rfl
theorem tw_873 : (.instanceMethod yX11_book : Cond) ∈ gw_tbl := gw_ch ch_27_ok 9 rfl rfl
theorem tw_874 : (.selects RX11 yX11_book yX11_book : Cond) ∈ gw_tbl := gw_ch ch_27_ok 10 rfl rfl
theorem tw_875 : (.code yX11_book cX11_book 3 (some .int) : Cond) ∈ gw_tbl := gw_ch ch_27_ok 11 rfl rfl
theorem tw_876 : (.methodLink RX11 52 yX11_in : Cond) ∈ gw_tbl := gw_ch ch_27_ok 12 rfl rfl
theorem tw_877 : (.static yX11_in : Cond) ∈ gw_tbl := gw_ch ch_27_ok 13 rfl rfl
theorem tw_878 : (.code yX11_in cX11_in 3 (some .boolean) : Cond) ∈ gw_tbl := gw_ch ch_27_ok 14 rfl rfl
theorem tw_879 : (.methodLink RX11 48 yX11_refuse : Cond) ∈ gw_tbl := gw_ch ch_27_ok 15 rfl rfl
theorem tw_881 : (.instanceMethod yX11_refuse : Cond) ∈ gw_tbl := gw_ch ch_27_ok 17 rfl rfl
theorem tw_882 : (.code yX11_refuse cX11_refuse 2 (some .int) : Cond) ∈ gw_tbl := gw_ch ch_27_ok 18 rfl rfl
theorem tw_883 : (.methodLink RX11 56 yX11_layBook : Cond) ∈ gw_tbl := gw_ch ch_27_ok 19 rfl rfl
theorem tw_885 : (.instanceMethod yX11_layBook : Cond) ∈ gw_tbl := gw_ch ch_27_ok 21 rfl rfl
theorem tw_886 : (.code yX11_layBook cX11_layBook 3 none : Cond) ∈ gw_tbl := gw_ch ch_27_ok 22 rfl rfl
theorem tw_887 : (.methodLink "DoeRoeLaw" 22 yX11_fiction : Cond) ∈ gw_tbl := gw_ch ch_27_ok 23 rfl rfl
theorem tw_888 : (.instanceMethod yX11_fiction : Cond) ∈ gw_tbl := gw_ch ch_27_ok 24 rfl rfl
theorem tw_889 : (.selects RX11 yX11_fiction yX11_fiction : Cond) ∈ gw_tbl := gw_ch ch_27_ok 25 rfl rfl
theorem tw_890 : (.code yX11_fiction cX11_fiction 5 (some .int) : Cond) ∈ gw_tbl := gw_ch ch_27_ok 26 rfl rfl
theorem tw_891 : (.methodLink RX11 60 yX11_addFiction : Cond) ∈ gw_tbl := gw_ch ch_27_ok 27 rfl rfl
theorem tw_893 : (.instanceMethod yX11_addFiction : Cond) ∈ gw_tbl := gw_ch ch_27_ok 29 rfl rfl
theorem tw_894 : (.code yX11_addFiction cX11_addFiction 6 none : Cond) ∈ gw_tbl := gw_ch ch_27_ok 30 rfl rfl
theorem tw_895 : (.methodLink "DoeRoeLaw" 27 yX11_court : Cond) ∈ gw_tbl := gw_ch ch_27_ok 31 rfl rfl
theorem tw_896 : (.instanceMethod yX11_court : Cond) ∈ gw_tbl := gw_ch ch_28_ok 0 rfl rfl
theorem tw_897 : (.selects RX11 yX11_court yX11_court : Cond) ∈ gw_tbl := gw_ch ch_28_ok 1 rfl rfl
theorem tw_898 : (.code yX11_court cX11_court 3 (some .int) : Cond) ∈ gw_tbl := gw_ch ch_28_ok 2 rfl rfl
theorem tw_899 : (.methodLink RX11 64 yX11_addCourt : Cond) ∈ gw_tbl := gw_ch ch_28_ok 3 rfl rfl
theorem tw_901 : (.instanceMethod yX11_addCourt : Cond) ∈ gw_tbl := gw_ch ch_28_ok 5 rfl rfl
theorem tw_902 : (.code yX11_addCourt cX11_addCourt 3 none : Cond) ∈ gw_tbl := gw_ch ch_28_ok 6 rfl rfl
theorem tw_903 : (.methodLink "DoeRoeLaw" 31 yX11_type : Cond) ∈ gw_tbl := gw_ch ch_28_ok 7 rfl rfl
theorem tw_904 : (.instanceMethod yX11_type : Cond) ∈ gw_tbl := gw_ch ch_28_ok 8 rfl rfl
theorem tw_905 : (.selects RX11 yX11_type yX11_type : Cond) ∈ gw_tbl := gw_ch ch_28_ok 9 rfl rfl
theorem tw_906 : (.code yX11_type cX11_type 2 (some .int) : Cond) ∈ gw_tbl := gw_ch ch_28_ok 10 rfl rfl
theorem tw_907 : (.methodLink "DoeRoeLaw" 36 yX11_clear : Cond) ∈ gw_tbl := gw_ch ch_28_ok 11 rfl rfl
theorem tw_908 : (.instanceMethod yX11_clear : Cond) ∈ gw_tbl := gw_ch ch_28_ok 12 rfl rfl
theorem tw_909 : (.selects RX11 yX11_clear yX11_clear : Cond) ∈ gw_tbl := gw_ch ch_28_ok 13 rfl rfl
theorem tw_910 : (.code yX11_clear cX11_clear 2 (some .int) : Cond) ∈ gw_tbl := gw_ch ch_28_ok 14 rfl rfl
theorem tw_911 : (.methodLink "DoeRoeLaw" 40 yX11_read : Cond) ∈ gw_tbl := gw_ch ch_28_ok 15 rfl rfl
theorem tw_912 : (.instanceMethod yX11_read : Cond) ∈ gw_tbl := gw_ch ch_28_ok 16 rfl rfl
theorem tw_913 : (.selects RX11 yX11_read yX11_read : Cond) ∈ gw_tbl := gw_ch ch_28_ok 17 rfl rfl
theorem tw_914 : (.code yX11_read cX11_read 3 (some .int) : Cond) ∈ gw_tbl := gw_ch ch_28_ok 18 rfl rfl
theorem tw_915 : (.methodLink RX11 121 yX11_readItems : Cond) ∈ gw_tbl := gw_ch ch_28_ok 19 rfl rfl
theorem tw_917 : (.instanceMethod yX11_readItems : Cond) ∈ gw_tbl := gw_ch ch_28_ok 21 rfl rfl
theorem tw_918 : (.code yX11_readItems cX11_readItems 4 (some .int) : Cond) ∈ gw_tbl := gw_ch ch_28_ok 22 rfl rfl
theorem tw_919 : (.methodLink RX11 88 yX11_next : Cond) ∈ gw_tbl := gw_ch ch_28_ok 23 rfl rfl
theorem tw_921 : (.instanceMethod yX11_next : Cond) ∈ gw_tbl := gw_ch ch_28_ok 25 rfl rfl
theorem tw_922 : (.code yX11_next cX11_next 1 none : Cond) ∈ gw_tbl := gw_ch ch_28_ok 26 rfl rfl
theorem tw_923 : (.methodLink RX11 78 yX11_isLetter : Cond) ∈ gw_tbl := gw_ch ch_28_ok 27 rfl rfl
theorem tw_925 : (.instanceMethod yX11_isLetter : Cond) ∈ gw_tbl := gw_ch ch_28_ok 29 rfl rfl
theorem tw_926 : (.code yX11_isLetter cX11_isLetter 2 (some .boolean) : Cond) ∈ gw_tbl := gw_ch ch_28_ok 30 rfl rfl
theorem tw_927 : (.methodLink RX11 82 yX11_isFigure : Cond) ∈ gw_tbl := gw_ch ch_28_ok 31 rfl rfl
theorem tw_929 : (.instanceMethod yX11_isFigure : Cond) ∈ gw_tbl := gw_ch ch_29_ok 1 rfl rfl
theorem tw_930 : (.code yX11_isFigure cX11_isFigure 2 (some .boolean) : Cond) ∈ gw_tbl := gw_ch ch_29_ok 2 rfl rfl
theorem tw_931 : (.methodLink RX11 108 yX11_wordHere : Cond) ∈ gw_tbl := gw_ch ch_29_ok 3 rfl rfl
theorem tw_933 : (.instanceMethod yX11_wordHere : Cond) ∈ gw_tbl := gw_ch ch_29_ok 5 rfl rfl
theorem tw_934 : (.code yX11_wordHere cX11_wordHere 2 (some .int) : Cond) ∈ gw_tbl := gw_ch ch_29_ok 6 rfl rfl
theorem tw_935 : (.methodLink RX11 85 yX11_isWord : Cond) ∈ gw_tbl := gw_ch ch_29_ok 7 rfl rfl
theorem tw_937 : (.instanceMethod yX11_isWord : Cond) ∈ gw_tbl := gw_ch ch_29_ok 9 rfl rfl
theorem tw_938 : (.code yX11_isWord cX11_isWord 5 (some .boolean) : Cond) ∈ gw_tbl := gw_ch ch_29_ok 10 rfl rfl
theorem tw_939 : (.methodLink RX11 101 yX11_facts : Cond) ∈ gw_tbl := gw_ch ch_29_ok 11 rfl rfl
theorem tw_941 : (.instanceMethod yX11_facts : Cond) ∈ gw_tbl := gw_ch ch_29_ok 13 rfl rfl
theorem tw_942 : (.code yX11_facts cX11_facts 3 (some .int) : Cond) ∈ gw_tbl := gw_ch ch_29_ok 14 rfl rfl
theorem tw_943 : (.methodLink RX11 91 yX11_numberHere : Cond) ∈ gw_tbl := gw_ch ch_29_ok 15 rfl rfl
theorem tw_945 : (.instanceMethod yX11_numberHere : Cond) ∈ gw_tbl := gw_ch ch_29_ok 17 rfl rfl
theorem tw_946 : (.code yX11_numberHere cX11_numberHere 4 (some .int) : Cond) ∈ gw_tbl := gw_ch ch_29_ok 18 rfl rfl
theorem tw_947 : (.methodLink RX11 114 yX11_readsFiction : Cond) ∈ gw_tbl := gw_ch ch_29_ok 19 rfl rfl
theorem tw_949 : (.instanceMethod yX11_readsFiction : Cond) ∈ gw_tbl := gw_ch ch_29_ok 21 rfl rfl
theorem tw_950 : (.code yX11_readsFiction cX11_readsFiction 5 (some .boolean) : Cond) ∈ gw_tbl := gw_ch ch_29_ok 22 rfl rfl
theorem tw_951 : (.methodLink RX11 98 yX11_number : Cond) ∈ gw_tbl := gw_ch ch_29_ok 23 rfl rfl
theorem tw_953 : (.instanceMethod yX11_number : Cond) ∈ gw_tbl := gw_ch ch_29_ok 25 rfl rfl
theorem tw_954 : (.code yX11_number cX11_number 3 (some .int) : Cond) ∈ gw_tbl := gw_ch ch_29_ok 26 rfl rfl
theorem tw_955 : (.methodLink RX11 118 yX11_readsCourt : Cond) ∈ gw_tbl := gw_ch ch_29_ok 27 rfl rfl
theorem tw_957 : (.instanceMethod yX11_readsCourt : Cond) ∈ gw_tbl := gw_ch ch_29_ok 29 rfl rfl
theorem tw_958 : (.code yX11_readsCourt cX11_readsCourt 3 (some .boolean) : Cond) ∈ gw_tbl := gw_ch ch_29_ok 30 rfl rfl
theorem tw_959 : (.methodLink "DoeRoeLaw" 44 yX11_suit : Cond) ∈ gw_tbl := gw_ch ch_29_ok 31 rfl rfl
theorem tw_960 : (.instanceMethod yX11_suit : Cond) ∈ gw_tbl := gw_ch ch_30_ok 0 rfl rfl
theorem tw_961 : (.selects RX11 yX11_suit yX11_suit : Cond) ∈ gw_tbl := gw_ch ch_30_ok 1 rfl rfl
theorem tw_962 : (.code yX11_suit cX11_suit 3 (some .int) : Cond) ∈ gw_tbl := gw_ch ch_30_ok 2 rfl rfl
theorem tw_963 : (.methodLink RX11 132 yX11_bits : Cond) ∈ gw_tbl := gw_ch ch_30_ok 3 rfl rfl
theorem tw_964 : (.static yX11_bits : Cond) ∈ gw_tbl := gw_ch ch_30_ok 4 rfl rfl
theorem tw_965 : (.code yX11_bits cX11_bits 3 (some .int) : Cond) ∈ gw_tbl := gw_ch ch_30_ok 5 rfl rfl
theorem tw_966 : (.methodLink "DoeRoeLaw" 48 yX11_plead : Cond) ∈ gw_tbl := gw_ch ch_30_ok 6 rfl rfl
theorem tw_967 : (.instanceMethod yX11_plead : Cond) ∈ gw_tbl := gw_ch ch_30_ok 7 rfl rfl
theorem tw_968 : (.selects RX11 yX11_plead yX11_plead : Cond) ∈ gw_tbl := gw_ch ch_30_ok 8 rfl rfl
theorem tw_969 : (.code yX11_plead cX11_plead 3 (some .int) : Cond) ∈ gw_tbl := gw_ch ch_30_ok 9 rfl rfl
theorem tw_970 : (.methodLink RX11 141 yX11_isFiction : Cond) ∈ gw_tbl := gw_ch ch_30_ok 10 rfl rfl
theorem tw_972 : (.instanceMethod yX11_isFiction : Cond) ∈ gw_tbl := gw_ch ch_30_ok 12 rfl rfl
theorem tw_973 : (.code yX11_isFiction cX11_isFiction 2 (some .boolean) : Cond) ∈ gw_tbl := gw_ch ch_30_ok 13 rfl rfl
theorem tw_974 : (.methodLink RX11 144 yX11_mayPlead : Cond) ∈ gw_tbl := gw_ch ch_30_ok 14 rfl rfl
theorem tw_976 : (.instanceMethod yX11_mayPlead : Cond) ∈ gw_tbl := gw_ch ch_30_ok 16 rfl rfl
theorem tw_977 : (.code yX11_mayPlead cX11_mayPlead 7 (some .boolean) : Cond) ∈ gw_tbl := gw_ch ch_30_ok 17 rfl rfl
theorem tw_978 : (.methodLink RX11 135 yX11_supposedBy : Cond) ∈ gw_tbl := gw_ch ch_30_ok 18 rfl rfl
theorem tw_980 : (.instanceMethod yX11_supposedBy : Cond) ∈ gw_tbl := gw_ch ch_30_ok 20 rfl rfl
theorem tw_981 : (.code yX11_supposedBy cX11_supposedBy 4 (some .int) : Cond) ∈ gw_tbl := gw_ch ch_30_ok 21 rfl rfl
theorem tw_982 : (.methodLink RX11 124 yX11_has : Cond) ∈ gw_tbl := gw_ch ch_30_ok 22 rfl rfl
theorem tw_983 : (.static yX11_has : Cond) ∈ gw_tbl := gw_ch ch_30_ok 23 rfl rfl
theorem tw_984 : (.code yX11_has cX11_has 2 (some .boolean) : Cond) ∈ gw_tbl := gw_ch ch_30_ok 24 rfl rfl
theorem tw_985 : (.methodLink RX11 147 yX11_keepPast : Cond) ∈ gw_tbl := gw_ch ch_30_ok 25 rfl rfl
theorem tw_987 : (.instanceMethod yX11_keepPast : Cond) ∈ gw_tbl := gw_ch ch_30_ok 27 rfl rfl
theorem tw_988 : (.code yX11_keepPast cX11_keepPast 2 none : Cond) ∈ gw_tbl := gw_ch ch_30_ok 28 rfl rfl
theorem tw_989 : (.methodLink RX11 150 yX11_pleadAt : Cond) ∈ gw_tbl := gw_ch ch_30_ok 29 rfl rfl
theorem tw_991 : (.instanceMethod yX11_pleadAt : Cond) ∈ gw_tbl := gw_ch ch_30_ok 31 rfl rfl
theorem tw_992 : (.code yX11_pleadAt cX11_pleadAt 3 none : Cond) ∈ gw_tbl := gw_ch ch_31_ok 0 rfl rfl
theorem tw_993 : (.methodLink RX11 138 yX11_cost : Cond) ∈ gw_tbl := gw_ch ch_31_ok 1 rfl rfl
theorem tw_995 : (.instanceMethod yX11_cost : Cond) ∈ gw_tbl := gw_ch ch_31_ok 3 rfl rfl
theorem tw_996 : (.code yX11_cost cX11_cost 3 (some .int) : Cond) ∈ gw_tbl := gw_ch ch_31_ok 4 rfl rfl
theorem tw_997 : (.methodLink RX11 128 yX11_costBy : Cond) ∈ gw_tbl := gw_ch ch_31_ok 5 rfl rfl
theorem tw_998 : (.static yX11_costBy : Cond) ∈ gw_tbl := gw_ch ch_31_ok 6 rfl rfl
theorem tw_999 : (.code yX11_costBy cX11_costBy 3 (some .int) : Cond) ∈ gw_tbl := gw_ch ch_31_ok 7 rfl rfl
theorem tw_1000 : (.methodLink "DoeRoeLaw" 52 yX11_deny : Cond) ∈ gw_tbl := gw_ch ch_31_ok 8 rfl rfl
theorem tw_1001 : (.instanceMethod yX11_deny : Cond) ∈ gw_tbl := gw_ch ch_31_ok 9 rfl rfl
theorem tw_1002 : (.selects RX11 yX11_deny yX11_deny : Cond) ∈ gw_tbl := gw_ch ch_31_ok 10 rfl rfl
theorem tw_1003 : (.code yX11_deny cX11_deny 2 (some .int) : Cond) ∈ gw_tbl := gw_ch ch_31_ok 11 rfl rfl
theorem tw_1004 : (.methodLink RX11 156 yX11_denyAt : Cond) ∈ gw_tbl := gw_ch ch_31_ok 12 rfl rfl
theorem tw_1006 : (.instanceMethod yX11_denyAt : Cond) ∈ gw_tbl := gw_ch ch_31_ok 14 rfl rfl
theorem tw_1007 : (.code yX11_denyAt cX11_denyAt 3 (some .int) : Cond) ∈ gw_tbl := gw_ch ch_31_ok 15 rfl rfl
theorem tw_1008 : (.methodLink RX11 153 yX11_wins : Cond) ∈ gw_tbl := gw_ch ch_31_ok 16 rfl rfl
theorem tw_1010 : (.instanceMethod yX11_wins : Cond) ∈ gw_tbl := gw_ch ch_31_ok 18 rfl rfl
theorem tw_1011 : (.code yX11_wins cX11_wins 3 (some .boolean) : Cond) ∈ gw_tbl := gw_ch ch_31_ok 19 rfl rfl
theorem tw_1012 : (.methodLink "DoeRoeLaw" 56 yX11_undo : Cond) ∈ gw_tbl := gw_ch ch_31_ok 20 rfl rfl
theorem tw_1013 : (.instanceMethod yX11_undo : Cond) ∈ gw_tbl := gw_ch ch_31_ok 21 rfl rfl
theorem tw_1014 : (.selects RX11 yX11_undo yX11_undo : Cond) ∈ gw_tbl := gw_ch ch_31_ok 22 rfl rfl
theorem tw_1015 : (.code yX11_undo cX11_undo 2 (some .int) : Cond) ∈ gw_tbl := gw_ch ch_31_ok 23 rfl rfl
theorem tw_1016 : (.methodLink "DoeRoeLaw" 60 yX11_of : Cond) ∈ gw_tbl := gw_ch ch_31_ok 24 rfl rfl
theorem tw_1017 : (.instanceMethod yX11_of : Cond) ∈ gw_tbl := gw_ch ch_31_ok 25 rfl rfl
theorem tw_1018 : (.selects RX11 yX11_of yX11_of : Cond) ∈ gw_tbl := gw_ch ch_31_ok 26 rfl rfl
theorem tw_1019 : (.code yX11_of cX11_of 3 (some .int) : Cond) ∈ gw_tbl := gw_ch ch_31_ok 27 rfl rfl
theorem tw_1020 : (.methodLink "DoeRoeLaw" 64 yX11_now : Cond) ∈ gw_tbl := gw_ch ch_31_ok 28 rfl rfl
theorem tw_1021 : (.instanceMethod yX11_now : Cond) ∈ gw_tbl := gw_ch ch_31_ok 29 rfl rfl
theorem tw_1022 : (.selects RX11 yX11_now yX11_now : Cond) ∈ gw_tbl := gw_ch ch_31_ok 30 rfl rfl
theorem tw_1023 : (.code yX11_now cX11_now 2 (some .int) : Cond) ∈ gw_tbl := gw_ch ch_31_ok 31 rfl rfl
theorem tw_1024 : (.methodLink RX11 159 yX11_nowOf : Cond) ∈ gw_tbl := gw_ch ch_32_ok 0 rfl rfl
theorem tw_1026 : (.instanceMethod yX11_nowOf : Cond) ∈ gw_tbl := gw_ch ch_32_ok 2 rfl rfl
theorem tw_1027 : (.code yX11_nowOf cX11_nowOf 2 (some .int) : Cond) ∈ gw_tbl := gw_ch ch_32_ok 3 rfl rfl
theorem tw_1028 : (.methodLink "DoeRoeLaw" 68 yX11_may : Cond) ∈ gw_tbl := gw_ch ch_32_ok 4 rfl rfl
theorem tw_1029 : (.instanceMethod yX11_may : Cond) ∈ gw_tbl := gw_ch ch_32_ok 5 rfl rfl
theorem tw_1030 : (.selects RX11 yX11_may yX11_may : Cond) ∈ gw_tbl := gw_ch ch_32_ok 6 rfl rfl
theorem tw_1031 : (.code yX11_may cX11_may 3 (some .int) : Cond) ∈ gw_tbl := gw_ch ch_32_ok 7 rfl rfl
theorem tw_1032 : (.methodLink "DoeRoeLaw" 72 yX11_hear : Cond) ∈ gw_tbl := gw_ch ch_32_ok 8 rfl rfl
theorem tw_1033 : (.instanceMethod yX11_hear : Cond) ∈ gw_tbl := gw_ch ch_32_ok 9 rfl rfl
theorem tw_1034 : (.selects RX11 yX11_hear yX11_hear : Cond) ∈ gw_tbl := gw_ch ch_32_ok 10 rfl rfl
theorem tw_1035 : (.code yX11_hear cX11_hear 1 (some .int) : Cond) ∈ gw_tbl := gw_ch ch_32_ok 11 rfl rfl
theorem tw_1036 : (.methodLink RX11 165 yX11_hearBy : Cond) ∈ gw_tbl := gw_ch ch_32_ok 12 rfl rfl
theorem tw_1038 : (.instanceMethod yX11_hearBy : Cond) ∈ gw_tbl := gw_ch ch_32_ok 14 rfl rfl
theorem tw_1039 : (.code yX11_hearBy cX11_hearBy 4 (some .int) : Cond) ∈ gw_tbl := gw_ch ch_32_ok 15 rfl rfl
theorem tw_1040 : (.methodLink RX11 162 yX11_hears : Cond) ∈ gw_tbl := gw_ch ch_32_ok 16 rfl rfl
theorem tw_1042 : (.instanceMethod yX11_hears : Cond) ∈ gw_tbl := gw_ch ch_32_ok 18 rfl rfl
theorem tw_1043 : (.code yX11_hears cX11_hears 3 (some .boolean) : Cond) ∈ gw_tbl := gw_ch ch_32_ok 19 rfl rfl
theorem tw_1044 : (.methodLink "DoeRoeLaw" 77 yX11_least : Cond) ∈ gw_tbl := gw_ch ch_32_ok 20 rfl rfl
theorem tw_1045 : (.instanceMethod yX11_least : Cond) ∈ gw_tbl := gw_ch ch_32_ok 21 rfl rfl
theorem tw_1046 : (.selects RX11 yX11_least yX11_least : Cond) ∈ gw_tbl := gw_ch ch_32_ok 22 rfl rfl
theorem tw_1047 : (.code yX11_least cX11_least 5 (some .int) : Cond) ∈ gw_tbl := gw_ch ch_32_ok 23 rfl rfl
theorem tw_1048 : (.methodLink RX11 184 yX11_isCourt : Cond) ∈ gw_tbl := gw_ch ch_32_ok 24 rfl rfl
theorem tw_1050 : (.instanceMethod yX11_isCourt : Cond) ∈ gw_tbl := gw_ch ch_32_ok 26 rfl rfl
theorem tw_1051 : (.code yX11_isCourt cX11_isCourt 2 (some .boolean) : Cond) ∈ gw_tbl := gw_ch ch_32_ok 27 rfl rfl
theorem tw_1052 : (.methodLink RX11 187 yX11_badTen : Cond) ∈ gw_tbl := gw_ch ch_32_ok 28 rfl rfl
theorem tw_1054 : (.instanceMethod yX11_badTen : Cond) ∈ gw_tbl := gw_ch ch_32_ok 30 rfl rfl
theorem tw_1055 : (.code yX11_badTen cX11_badTen 1 (some .int) : Cond) ∈ gw_tbl := gw_ch ch_32_ok 31 rfl rfl
theorem tw_1056 : (.methodLink RX11 190 yX11_bestTo : Cond) ∈ gw_tbl := gw_ch ch_33_ok 0 rfl rfl
theorem tw_1058 : (.instanceMethod yX11_bestTo : Cond) ∈ gw_tbl := gw_ch ch_33_ok 2 rfl rfl
theorem tw_1059 : (.code yX11_bestTo cX11_bestTo 6 (some .int) : Cond) ∈ gw_tbl := gw_ch ch_33_ok 3 rfl rfl
theorem tw_1060 : (.methodLink RX11 175 yX11_beginRows : Cond) ∈ gw_tbl := gw_ch ch_33_ok 4 rfl rfl
theorem tw_1062 : (.instanceMethod yX11_beginRows : Cond) ∈ gw_tbl := gw_ch ch_33_ok 6 rfl rfl
theorem tw_1063 : (.code yX11_beginRows cX11_beginRows 1 none : Cond) ∈ gw_tbl := gw_ch ch_33_ok 7 rfl rfl
theorem tw_1064 : (.methodLink RX11 178 yX11_nextRow : Cond) ∈ gw_tbl := gw_ch ch_33_ok 8 rfl rfl
theorem tw_1066 : (.instanceMethod yX11_nextRow : Cond) ∈ gw_tbl := gw_ch ch_33_ok 10 rfl rfl
theorem tw_1067 : (.code yX11_nextRow cX11_nextRow 2 (some .boolean) : Cond) ∈ gw_tbl := gw_ch ch_33_ok 11 rfl rfl
theorem tw_1068 : (.methodLink "DoeRoeLaw" 81 yX11_ever : Cond) ∈ gw_tbl := gw_ch ch_33_ok 12 rfl rfl
theorem tw_1069 : (.instanceMethod yX11_ever : Cond) ∈ gw_tbl := gw_ch ch_33_ok 13 rfl rfl
theorem tw_1070 : (.selects RX11 yX11_ever yX11_ever : Cond) ∈ gw_tbl := gw_ch ch_33_ok 14 rfl rfl
theorem tw_1071 : (.code yX11_ever cX11_ever 2 (some .int) : Cond) ∈ gw_tbl := gw_ch ch_33_ok 15 rfl rfl
theorem tw_1072 : (.methodLink "DoeRoeLaw" 85 yX11_contradict : Cond) ∈ gw_tbl := gw_ch ch_33_ok 16 rfl rfl
theorem tw_1073 : (.instanceMethod yX11_contradict : Cond) ∈ gw_tbl := gw_ch ch_33_ok 17 rfl rfl
theorem tw_1074 : (.selects RX11 yX11_contradict yX11_contradict : Cond) ∈ gw_tbl := gw_ch ch_33_ok 18 rfl rfl
theorem tw_1075 : (.code yX11_contradict cX11_contradict 1 (some .int) : Cond) ∈ gw_tbl := gw_ch ch_33_ok 19 rfl rfl
theorem tw_1076 : (.methodLink RX11 193 yX11_pairsOf : Cond) ∈ gw_tbl := gw_ch ch_33_ok 20 rfl rfl
theorem tw_1077 : (.static yX11_pairsOf : Cond) ∈ gw_tbl := gw_ch ch_33_ok 21 rfl rfl
theorem tw_1078 : (.code yX11_pairsOf cX11_pairsOf 3 (some .int) : Cond) ∈ gw_tbl := gw_ch ch_33_ok 22 rfl rfl
theorem tw_1079 : (.methodLink "DoeRoeLaw" 89 yX11_giveUp : Cond) ∈ gw_tbl := gw_ch ch_33_ok 23 rfl rfl
theorem tw_1080 : (.instanceMethod yX11_giveUp : Cond) ∈ gw_tbl := gw_ch ch_33_ok 24 rfl rfl
theorem tw_1081 : (.selects RX11 yX11_giveUp yX11_giveUp : Cond) ∈ gw_tbl := gw_ch ch_33_ok 25 rfl rfl
theorem tw_1082 : (.code yX11_giveUp cX11_giveUp 4 (some .int) : Cond) ∈ gw_tbl := gw_ch ch_33_ok 26 rfl rfl
theorem tw_1083 : (.methodLink "DoeRoeLaw" 93 yX11_denial : Cond) ∈ gw_tbl := gw_ch ch_33_ok 27 rfl rfl
theorem tw_1084 : (.instanceMethod yX11_denial : Cond) ∈ gw_tbl := gw_ch ch_33_ok 28 rfl rfl
theorem tw_1085 : (.selects RX11 yX11_denial yX11_denial : Cond) ∈ gw_tbl := gw_ch ch_33_ok 29 rfl rfl
theorem tw_1086 : (.code yX11_denial cX11_denial 8 (some .int) : Cond) ∈ gw_tbl := gw_ch ch_33_ok 30 rfl rfl
theorem tw_1087 : (.methodLink RX11 196 yX11_oneGets : Cond) ∈ gw_tbl := gw_ch ch_33_ok 31 rfl rfl
theorem tw_1088 : (.static yX11_oneGets : Cond) ∈ gw_tbl := gw_ch ch_34_ok 0 rfl rfl
theorem tw_1089 : (.code yX11_oneGets cX11_oneGets 3 (some .int) : Cond) ∈ gw_tbl := gw_ch ch_34_ok 1 rfl rfl
theorem tw_1090 : (.methodLink RX11 200 yX11_otherGets : Cond) ∈ gw_tbl := gw_ch ch_34_ok 2 rfl rfl
theorem tw_1091 : (.static yX11_otherGets : Cond) ∈ gw_tbl := gw_ch ch_34_ok 3 rfl rfl
theorem tw_1092 : (.code yX11_otherGets cX11_otherGets 3 (some .int) : Cond) ∈ gw_tbl := gw_ch ch_34_ok 4 rfl rfl
theorem tw_1093 : (.methodLink "DoeRoeLaw" 97 yX11_fees : Cond) ∈ gw_tbl := gw_ch ch_34_ok 5 rfl rfl
theorem tw_1094 : (.instanceMethod yX11_fees : Cond) ∈ gw_tbl := gw_ch ch_34_ok 6 rfl rfl
theorem tw_1095 : (.selects RX11 yX11_fees yX11_fees : Cond) ∈ gw_tbl := gw_ch ch_34_ok 7 rfl rfl
theorem tw_1096 : (.code yX11_fees cX11_fees 7 (some .int) : Cond) ∈ gw_tbl := gw_ch ch_34_ok 8 rfl rfl
theorem tw_1097 : (.methodLink "DoeRoeLaw" 101 yX11_rule : Cond) ∈ gw_tbl := gw_ch ch_34_ok 9 rfl rfl
theorem tw_1098 : (.instanceMethod yX11_rule : Cond) ∈ gw_tbl := gw_ch ch_34_ok 10 rfl rfl
theorem tw_1099 : (.selects RX11 yX11_rule yX11_rule : Cond) ∈ gw_tbl := gw_ch ch_34_ok 11 rfl rfl
theorem tw_1100 : (.code yX11_rule cX11_rule 2 (some .int) : Cond) ∈ gw_tbl := gw_ch ch_34_ok 12 rfl rfl
theorem tw_1101 : (.methodLink "DoeRoeLaw" 105 yX11_note : Cond) ∈ gw_tbl := gw_ch ch_34_ok 13 rfl rfl
theorem tw_1102 : (.instanceMethod yX11_note : Cond) ∈ gw_tbl := gw_ch ch_34_ok 14 rfl rfl
theorem tw_1103 : (.selects RX11 yX11_note yX11_note : Cond) ∈ gw_tbl := gw_ch ch_34_ok 15 rfl rfl
theorem tw_1104 : (.code yX11_note cX11_note 5 (some .int) : Cond) ∈ gw_tbl := gw_ch ch_34_ok 16 rfl rfl
theorem tw_1105 : (.methodLink "DoeRoeLaw" 109 yX11_heard : Cond) ∈ gw_tbl := gw_ch ch_34_ok 17 rfl rfl
theorem tw_1106 : (.instanceMethod yX11_heard : Cond) ∈ gw_tbl := gw_ch ch_34_ok 18 rfl rfl
theorem tw_1107 : (.selects RX11 yX11_heard yX11_heard : Cond) ∈ gw_tbl := gw_ch ch_34_ok 19 rfl rfl
theorem tw_1108 : (.code yX11_heard cX11_heard 3 (some .int) : Cond) ∈ gw_tbl := gw_ch ch_34_ok 20 rfl rfl
theorem tw_1109 : (.methodLink "DoeRoeLaw" 113 yX11_forget : Cond) ∈ gw_tbl := gw_ch ch_34_ok 21 rfl rfl
theorem tw_1110 : (.instanceMethod yX11_forget : Cond) ∈ gw_tbl := gw_ch ch_34_ok 22 rfl rfl
theorem tw_1111 : (.selects RX11 yX11_forget yX11_forget : Cond) ∈ gw_tbl := gw_ch ch_34_ok 23 rfl rfl
theorem tw_1112 : (.code yX11_forget cX11_forget 4 (some .int) : Cond) ∈ gw_tbl := gw_ch ch_34_ok 24 rfl rfl
theorem tw_1113 : (.methodLink "DoeRoeLaw" 117 yX11_is : Cond) ∈ gw_tbl := gw_ch ch_34_ok 25 rfl rfl
theorem tw_1114 : (.instanceMethod yX11_is : Cond) ∈ gw_tbl := gw_ch ch_34_ok 26 rfl rfl
theorem tw_1115 : (.selects RX11 yX11_is yX11_is : Cond) ∈ gw_tbl := gw_ch ch_34_ok 27 rfl rfl
theorem tw_1116 : (.code yX11_is cX11_is 2 (some .int) : Cond) ∈ gw_tbl := gw_ch ch_34_ok 28 rfl rfl
theorem tw_1117 : (.methodLink RX11 203 yX11_kindsOf : Cond) ∈ gw_tbl := gw_ch ch_34_ok 29 rfl rfl
theorem tw_1119 : (.instanceMethod yX11_kindsOf : Cond) ∈ gw_tbl := gw_ch ch_34_ok 31 rfl rfl
theorem tw_1120 : (.code yX11_kindsOf cX11_kindsOf 7 (some .int) : Cond) ∈ gw_tbl := gw_ch ch_35_ok 0 rfl rfl
theorem tw_1121 : (.methodLink "DoeRoeLaw" 121 yX11_look : Cond) ∈ gw_tbl := gw_ch ch_35_ok 1 rfl rfl
theorem tw_1122 : (.instanceMethod yX11_look : Cond) ∈ gw_tbl := gw_ch ch_35_ok 2 rfl rfl
theorem tw_1123 : (.selects RX11 yX11_look yX11_look : Cond) ∈ gw_tbl := gw_ch ch_35_ok 3 rfl rfl
theorem tw_1124 : (.code yX11_look cX11_look 7 (some .int) : Cond) ∈ gw_tbl := gw_ch ch_35_ok 4 rfl rfl
theorem tw_1125 : (.methodLink RX11 206 yX11_mostAlike : Cond) ∈ gw_tbl := gw_ch ch_35_ok 5 rfl rfl
theorem tw_1127 : (.instanceMethod yX11_mostAlike : Cond) ∈ gw_tbl := gw_ch ch_35_ok 7 rfl rfl
theorem tw_1128 : (.code yX11_mostAlike cX11_mostAlike 8 (some .int) : Cond) ∈ gw_tbl := gw_ch ch_35_ok 8 rfl rfl
theorem tw_1129 : (.methodLink "DoeRoeLaw" 125 yX11_truth : Cond) ∈ gw_tbl := gw_ch ch_35_ok 9 rfl rfl
theorem tw_1130 : (.instanceMethod yX11_truth : Cond) ∈ gw_tbl := gw_ch ch_35_ok 10 rfl rfl
theorem tw_1131 : (.selects RX11 yX11_truth yX11_truth : Cond) ∈ gw_tbl := gw_ch ch_35_ok 11 rfl rfl
theorem tw_1132 : (.code yX11_truth cX11_truth 6 (some .int) : Cond) ∈ gw_tbl := gw_ch ch_35_ok 12 rfl rfl
theorem tw_1133 : (.methodLink RX11 209 yX11_mayBeTrue : Cond) ∈ gw_tbl := gw_ch ch_35_ok 13 rfl rfl
theorem tw_1135 : (.instanceMethod yX11_mayBeTrue : Cond) ∈ gw_tbl := gw_ch ch_35_ok 15 rfl rfl
theorem tw_1136 : (.code yX11_mayBeTrue cX11_mayBeTrue 4 (some .boolean) : Cond) ∈ gw_tbl := gw_ch ch_35_ok 16 rfl rfl
theorem tw_1137 : (.methodLink "DoeRoeLaw" 129 yX11_odds : Cond) ∈ gw_tbl := gw_ch ch_35_ok 17 rfl rfl
theorem tw_1138 : (.instanceMethod yX11_odds : Cond) ∈ gw_tbl := gw_ch ch_35_ok 18 rfl rfl
theorem tw_1139 : (.selects RX11 yX11_odds yX11_odds : Cond) ∈ gw_tbl := gw_ch ch_35_ok 19 rfl rfl
theorem tw_1140 : (.code yX11_odds cX11_odds 12 (some .int) : Cond) ∈ gw_tbl := gw_ch ch_35_ok 20 rfl rfl
theorem tw_1141 : (.methodLink RX11 215 yX11_tellPart : Cond) ∈ gw_tbl := gw_ch ch_35_ok 21 rfl rfl
theorem tw_1143 : (.instanceMethod yX11_tellPart : Cond) ∈ gw_tbl := gw_ch ch_35_ok 23 rfl rfl
theorem tw_1144 : (.code yX11_tellPart cX11_tellPart 11 none : Cond) ∈ gw_tbl := gw_ch ch_35_ok 24 rfl rfl
theorem tw_1145 : (.methodLink "DoeRoeLaw" 133 yX11_terms : Cond) ∈ gw_tbl := gw_ch ch_35_ok 25 rfl rfl
theorem tw_1146 : (.instanceMethod yX11_terms : Cond) ∈ gw_tbl := gw_ch ch_35_ok 26 rfl rfl
theorem tw_1147 : (.selects RX11 yX11_terms yX11_terms : Cond) ∈ gw_tbl := gw_ch ch_35_ok 27 rfl rfl
theorem tw_1148 : (.code yX11_terms cX11_terms 7 (some .int) : Cond) ∈ gw_tbl := gw_ch ch_35_ok 28 rfl rfl
theorem tw_1149 : (.constant RX11 219 (999999) : Cond) ∈ gw_tbl := gw_ch ch_35_ok 29 rfl rfl
theorem tw_1150 : (.constantLong RX11 220 (1103515245) : Cond) ∈ gw_tbl := gw_ch ch_35_ok 30 rfl rfl
theorem tw_1151 : (.constantLong RX11 222 (12345) : Cond) ∈ gw_tbl := gw_ch ch_35_ok 31 rfl rfl
theorem tw_1152 : (.constantLong RX11 224 (2147483648) : Cond) ∈ gw_tbl := gw_ch ch_36_ok 0 rfl rfl
theorem tw_1153 : (.constantLong RX11 226 (65536) : Cond) ∈ gw_tbl := gw_ch ch_36_ok 1 rfl rfl
theorem tw_1154 : (.constantLong RX11 228 (6) : Cond) ∈ gw_tbl := gw_ch ch_36_ok 2 rfl rfl
theorem tw_1155 : (.methodLink "DoeRoeLaw" 138 yX11_part : Cond) ∈ gw_tbl := gw_ch ch_36_ok 3 rfl rfl
theorem tw_1156 : (.instanceMethod yX11_part : Cond) ∈ gw_tbl := gw_ch ch_36_ok 4 rfl rfl
theorem tw_1157 : (.selects RX11 yX11_part yX11_part : Cond) ∈ gw_tbl := gw_ch ch_36_ok 5 rfl rfl
theorem tw_1158 : (.code yX11_part cX11_part 2 (some .long) : Cond) ∈ gw_tbl := gw_ch ch_36_ok 6 rfl rfl
theorem tw_1159 : (.methodLink "DoeRoeLaw" 142 yX11_image : Cond) ∈ gw_tbl := gw_ch ch_36_ok 7 rfl rfl
theorem tw_1160 : (.instanceMethod yX11_image : Cond) ∈ gw_tbl := gw_ch ch_36_ok 8 rfl rfl
theorem tw_1161 : (.selects RX11 yX11_image yX11_image : Cond) ∈ gw_tbl := gw_ch ch_36_ok 9 rfl rfl
theorem tw_1162 : (.code yX11_image cX11_image 3 (some .int) : Cond) ∈ gw_tbl := gw_ch ch_36_ok 10 rfl rfl
theorem tw_1163 : (.methodLink "DoeRoeLaw" 146 yX11_from : Cond) ∈ gw_tbl := gw_ch ch_36_ok 11 rfl rfl
theorem tw_1164 : (.instanceMethod yX11_from : Cond) ∈ gw_tbl := gw_ch ch_36_ok 12 rfl rfl
theorem tw_1165 : (.selects RX11 yX11_from yX11_from : Cond) ∈ gw_tbl := gw_ch ch_36_ok 13 rfl rfl
theorem tw_1166 : (.code yX11_from cX11_from 3 (some .int) : Cond) ∈ gw_tbl := gw_ch ch_36_ok 14 rfl rfl
theorem tw_1167 : (.methodLink "DoeRoeLaw" 150 yX11_status : Cond) ∈ gw_tbl := gw_ch ch_36_ok 15 rfl rfl
theorem tw_1168 : (.instanceMethod yX11_status : Cond) ∈ gw_tbl := gw_ch ch_36_ok 16 rfl rfl
theorem tw_1169 : (.selects RX11 yX11_status yX11_status : Cond) ∈ gw_tbl := gw_ch ch_36_ok 17 rfl rfl
theorem tw_1170 : (.code yX11_status cX11_status 2 (some .int) : Cond) ∈ gw_tbl := gw_ch ch_36_ok 18 rfl rfl
theorem tw_1171 : (.methodLink "DoeRoeLaw" 154 yX11_count : Cond) ∈ gw_tbl := gw_ch ch_36_ok 19 rfl rfl
theorem tw_1172 : (.instanceMethod yX11_count : Cond) ∈ gw_tbl := gw_ch ch_36_ok 20 rfl rfl
theorem tw_1173 : (.selects RX11 yX11_count yX11_count : Cond) ∈ gw_tbl := gw_ch ch_36_ok 21 rfl rfl
theorem tw_1174 : (.code yX11_count cX11_count 2 (some .int) : Cond) ∈ gw_tbl := gw_ch ch_36_ok 22 rfl rfl
theorem tw_1175 : (.methodLink RX11 230 yX11_countOf : Cond) ∈ gw_tbl := gw_ch ch_36_ok 23 rfl rfl
theorem tw_1177 : (.instanceMethod yX11_countOf : Cond) ∈ gw_tbl := gw_ch ch_36_ok 25 rfl rfl
theorem tw_1178 : (.code yX11_countOf cX11_countOf 2 (some .int) : Cond) ∈ gw_tbl := gw_ch ch_36_ok 26 rfl rfl
theorem tw_1179 : (.methodLink "DoeRoeLaw" 159 yX11_digest : Cond) ∈ gw_tbl := gw_ch ch_36_ok 27 rfl rfl
theorem tw_1180 : (.instanceMethod yX11_digest : Cond) ∈ gw_tbl := gw_ch ch_36_ok 28 rfl rfl
theorem tw_1181 : (.selects RX11 yX11_digest yX11_digest : Cond) ∈ gw_tbl := gw_ch ch_36_ok 29 rfl rfl
theorem tw_1182 : (.code yX11_digest cX11_digest 4 (some .long) : Cond) ∈ gw_tbl := gw_ch ch_36_ok 30 rfl rfl
theorem tw_1183 : (.constantLong RX11 233 (1283) : Cond) ∈ gw_tbl := gw_ch ch_36_ok 31 rfl rfl
theorem tw_1184 : (.constantLong RX11 235 (31) : Cond) ∈ gw_tbl := gw_ch ch_37_ok 0 rfl rfl
theorem tw_1185 : (Jvm.Cond.sameMethod "DoeRoe$Force" "DoeRoe$Force" "cost" "(II)I") ∈ gw_tbl := gw_ch ch_37_ok 1 rfl rfl
theorem tw_1186 : (Jvm.Cond.castable "DoeRoe$Persons" "DoeRoe$Plain") ∈ lw_tbl := lw_ch ch_37_ok 2 rfl
theorem tw_1187 : (Jvm.Cond.castable "DoeRoe$Force" "DoeRoe$Plain") ∈ lw_tbl := lw_ch ch_37_ok 3 rfl
theorem tw_1188 : (Jvm.Cond.castable "DoeRoe$Time" "DoeRoe$Plain") ∈ lw_tbl := lw_ch ch_37_ok 4 rfl
theorem tw_1189 : (Jvm.Cond.castable "DoeRoe$Letter" "DoeRoe$Plain") ∈ lw_tbl := lw_ch ch_37_ok 5 rfl
theorem tw_1190 : (Jvm.Cond.castable "DoeRoe$Ship" "DoeRoe$Plain") ∈ lw_tbl := lw_ch ch_37_ok 6 rfl
theorem tw_1191 : (.fieldLink RJ0 9 "java/lang/String" "value" "[B" : Cond) ∈ gw_tbl := gw_ch ch_37_ok 7 rfl rfl
theorem tw_1192 : (.fieldLink RJ0 15 "java/lang/String" "coder" "B" : Cond) ∈ gw_tbl := gw_ch ch_37_ok 8 rfl rfl
theorem inZ0 : ∀ w ∈ wsX00, w ∈ gw_tbl := fun w h => by
  rcases List.mem_map.mp h with ⟨k, hk, rfl⟩
  have hk := List.mem_range.mp hk
  match k, hk with
  | 0, _ => exact tw_166
  | 1, _ => exact tw_168
  | 2, _ => exact tw_170
  | 3, _ => exact tw_172
  | 4, _ => exact tw_174
  | 5, _ => exact tw_176
theorem inZ1 : ∀ w ∈ wsX10, w ∈ gw_tbl := fun w h => nomatch h
theorem inZ2 : ∀ w ∈ wsX20, w ∈ gw_tbl := fun w h => nomatch h
theorem inZ3 : ∀ w ∈ wsX30, w ∈ gw_tbl := fun w h => by
  rcases List.mem_map.mp h with ⟨k, hk, rfl⟩
  have hk := List.mem_range.mp hk
  match k, hk with
  | 0, _ => exact tw_130
  | 1, _ => exact tw_132
  | 2, _ => exact tw_134
  | 3, _ => exact tw_136
  | 4, _ => exact tw_138
  | 5, _ => exact tw_140
  | 6, _ => exact tw_142
  | 7, _ => exact tw_144
  | 8, _ => exact tw_146
  | 9, _ => exact tw_148
  | 10, _ => exact tw_150
theorem inZ4 : ∀ w ∈ wsX40, w ∈ gw_tbl := fun w h => by
  rcases List.mem_map.mp h with ⟨k, hk, rfl⟩
  have hk := List.mem_range.mp hk
  match k, hk with
  | 0, _ => exact tw_187
  | 1, _ => exact tw_189
theorem inZ5 : ∀ w ∈ wsX50, w ∈ gw_tbl := fun w h => nomatch h
theorem inZ6 : ∀ w ∈ wsX60, w ∈ gw_tbl := fun w h => nomatch h
theorem inZ7 : ∀ w ∈ wsX70, w ∈ gw_tbl := fun w h => by
  rcases List.mem_map.mp h with ⟨k, hk, rfl⟩
  have hk := List.mem_range.mp hk
  match k, hk with
  | 0, _ => exact tw_94
  | 1, _ => exact tw_96
  | 2, _ => exact tw_98
  | 3, _ => exact tw_100
theorem inZ8 : ∀ w ∈ wsX80, w ∈ gw_tbl := fun w h => nomatch h
theorem inZ9 : ∀ w ∈ wsX90, w ∈ gw_tbl := fun w h => nomatch h
theorem inZ10 : ∀ w ∈ wsX100, w ∈ gw_tbl := fun w h => by
  rcases List.mem_map.mp h with ⟨k, hk, rfl⟩
  have hk := List.mem_range.mp hk
  match k, hk with
  | 0, _ => exact tw_205
  | 1, _ => exact tw_207
  | 2, _ => exact tw_209
  | 3, _ => exact tw_211
  | 4, _ => exact tw_213
  | 5, _ => exact tw_215
  | 6, _ => exact tw_217
  | 7, _ => exact tw_219
  | 8, _ => exact tw_221
  | 9, _ => exact tw_223
  | 10, _ => exact tw_225
  | 11, _ => exact tw_227
  | 12, _ => exact tw_229
theorem inZ11 : ∀ w ∈ wsX110, w ∈ gw_tbl := fun w h => by
  rcases List.mem_map.mp h with ⟨k, hk, rfl⟩
  have hk := List.mem_range.mp hk
  match k, hk with
  | 0, _ => exact tw_826
  | 1, _ => exact tw_828
  | 2, _ => exact tw_830
  | 3, _ => exact tw_832
  | 4, _ => exact tw_834
  | 5, _ => exact tw_836
  | 6, _ => exact tw_838
  | 7, _ => exact tw_840
  | 8, _ => exact tw_842
  | 9, _ => exact tw_844
  | 10, _ => exact tw_846
  | 11, _ => exact tw_848
  | 12, _ => exact tw_850
  | 13, _ => exact tw_852
  | 14, _ => exact tw_854
  | 15, _ => exact tw_856
  | 16, _ => exact tw_858
  | 17, _ => exact tw_860
  | 18, _ => exact tw_862
  | 19, _ => exact tw_864
  | 20, _ => exact tw_866
  | 21, _ => exact tw_868
  | n + 22, h => exact absurd h (by omega)
end
section
/-! our own rows: a method's bytecode is held against a plain function of ours ('its picture', an Option); hm: the picture answers z -/
def nm {α β : Type} (x : α) (k : α → Option β) : Option β := k x
def ald {β : Type} (f : Nat → Int32) (n : Nat) (i : Int32) (k : Int32 → Option β) : Option β := if i < 0 ∨ n ≤ i.toNatClampNeg then none else k (f i.toNatClampNeg)
def ast {β : Type} (n : Nat) (i : Int32) (k : Option β) : Option β := if i < 0 ∨ n ≤ i.toNatClampNeg then none else k
def nzl {β : Type} (y : Int64) (k : Option β) : Option β := if y = 0 then none else k
def nzi {β : Type} (y : Int32) (k : Option β) : Option β := if y = 0 then none else k
def zo {β : Type} (x : Int32) (k : Option β) : Option β := if x = 0 ∨ x = 1 then k else none
def FU : Nat := 1000000
def nw_l : List Cond := [(.methodLinkNest RX10 11 yX6_init "DoeRoe" : Cond), (.methodLinkNest RX10 14 yX5_init "DoeRoe" : Cond), (.methodLinkNest RX5 1 yX6_init "DoeRoe" : Cond), (.methodLinkNest RX10 17 yX1_init "DoeRoe" : Cond), (.methodLinkNest RX1 1 yX6_init "DoeRoe" : Cond), (.methodLinkNest RX10 20 yX9_init "DoeRoe" : Cond), (.methodLinkNest RX9 1 yX5_init "DoeRoe" : Cond), (.methodLinkNest RX10 23 yX2_init "DoeRoe" : Cond), (.methodLinkNest RX2 1 yX6_init "DoeRoe" : Cond), (.methodLinkNest RX10 26 yX8_init "DoeRoe" : Cond), (.methodLinkNest RX8 1 yX1_init "DoeRoe" : Cond), (.methodLinkNest RX3 17 yX6_init "DoeRoe" : Cond), (.methodLinkNest RX3 108 yX10_holds "DoeRoe" : Cond), (.declares yX6_allows : Cond), (.methodLinkNest RX4 57 yX10_holds "DoeRoe" : Cond), (Jvm.Cond.castable "DoeRoe$Persons" "DoeRoe$Plain"), (Jvm.Cond.castable "DoeRoe$Force" "DoeRoe$Plain"), (Jvm.Cond.castable "DoeRoe$Time" "DoeRoe$Plain"), (Jvm.Cond.castable "DoeRoe$Letter" "DoeRoe$Plain"), (Jvm.Cond.castable "DoeRoe$Ship" "DoeRoe$Plain")]
theorem nw_l_in : ∀ w ∈ nw_l, w ∈ lw_tbl := by
  intro w h
  simp only [nw_l, List.mem_cons, List.not_mem_nil, or_false] at h
  rcases h with rfl | rfl | rfl | rfl | rfl | rfl | rfl | rfl | rfl | rfl | rfl | rfl | rfl | rfl | rfl | rfl | rfl | rfl | rfl | rfl
  all_goals first | exact tw_30 | exact tw_37 | exact tw_40 | exact tw_44 | exact tw_47 | exact tw_51 | exact tw_54 | exact tw_58 | exact tw_61 | exact tw_65 | exact tw_68 | exact tw_77 | exact tw_459 | exact tw_492 | exact tw_625 | exact tw_1186 | exact tw_1187 | exact tw_1188 | exact tw_1189 | exact tw_1190
def NW (U : State) : Prop := ∀ w ∈ nw_l, va_Nw w U
theorem NW.warm {s U : State} (hW : s.WarmedH U.vm) (h : NW s) : NW U := by
  intro w hw
  have h1 := h w hw
  simp only [nw_l, List.mem_cons, List.not_mem_nil, or_false] at hw
  rcases hw with rfl | rfl | rfl | rfl | rfl | rfl | rfl | rfl | rfl | rfl | rfl | rfl | rfl | rfl | rfl | rfl | rfl | rfl | rfl | rfl
  all_goals first | exact va_Nw.warmM hW h1 | exact va_Nw.warmC hW h1 | exact va_Nw.warmD hW h1
theorem NW.calling {U : State} {g : JFrame} {mk : MethodId} {a : Array Value} (h : NW U) : NW (U.calling g mk a) := by
  intro w hw
  have h1 := h w hw
  refine va_Nw.same ?_ (rfl : U.vm = (U.calling g mk a).vm) h1
  simp only [nw_l, List.mem_cons, List.not_mem_nil, or_false] at hw
  rcases hw with rfl | rfl | rfl | rfl | rfl | rfl | rfl | rfl | rfl | rfl | rfl | rfl | rfl | rfl | rfl | rfl | rfl | rfl | rfl | rfl <;> rfl
abbrev CS : Type := Nat → ClassId
abbrev tyz (cs : CS) : List (ClassId × FieldType) := [(cs 0, .int), (cs 1, .boolean), (cs 2, .object "DoeRoe$Plain")]
def PcR (D : va_G) (cs : CS) (ws : va_W) (av : List Value) : Array Value → State → Prop := va_Pc av (fun U => NW U ∧ va_P D classes ws U.heap ∧ va_K D classes (tyz cs) U)
def PcW (D : va_G) (cs : CS) (sz : Nat) (ws : va_W) (av : List Value) : Array Value → State → Prop := va_Pc av (fun U => NW U ∧ U.heap.size = sz ∧ va_P D classes ws U.heap ∧ va_K D classes (tyz cs) U ∧ va_D (fun _ => True) ws)
def BW (D : va_G) (cs : CS) (A : Nat → Prop) {σ : Type} (wf : σ → va_W) : σ → State → Prop := fun u t => va_P D classes (wf u) t.heap ∧ va_K D classes (tyz cs) t ∧ va_D A (wf u)
abbrev QWi (D : va_G) (cs : CS) (A : Nat → Prop) {σ : Type} (wf : σ → va_W) (z : Int32 × σ) := va_Qi (fun r u => (r, u) = z) (BW D cs A wf) A
abbrev QWl (D : va_G) (cs : CS) (A : Nat → Prop) {σ : Type} (wf : σ → va_W) (z : Int64 × σ) := va_Ql (fun r u => (r, u) = z) (BW D cs A wf) A
abbrev QWv (D : va_G) (cs : CS) (A : Nat → Prop) {σ : Type} (wf : σ → va_W) (z : σ) := va_Qv (fun u => u = z) (BW D cs A wf) A
abbrev QRi (z : Int32) := vp_Si (fun r => r = z)
abbrev QRl (z : Int64) := vp_Sl (fun r => r = z)
abbrev NoF : Addr → Prop := fun _ => False
theorem PcR_blind {D : va_G} {cs : CS} {ws : va_W} {av : List Value} : FrameBlind (PcR D cs ws av) := by
  intro a U g mk h
  obtain ⟨h0, h1, h2, h3⟩ := h
  exact ⟨h0, h1.calling, h2, va_K.moved (u := U) (U := U.calling g mk a) (Vm.Alike.refl U.vm) h3⟩
theorem PcW_blind {D : va_G} {cs : CS} {sz : Nat} {ws : va_W} {av : List Value} : FrameBlind (PcW D cs sz ws av) := by
  intro a U g mk h
  obtain ⟨h0, h1, h2, h3, h4, h5⟩ := h
  exact ⟨h0, h1.calling, h2, h3, va_K.moved (u := U) (U := U.calling g mk a) (Vm.Alike.refl U.vm) h4, h5⟩
/-- what a method's walk knows of its frame -/
def EV (p : Program) (s : State) (m : MethodId) (args : Array Value) (meth : Method) (c : Code) (cc : ByteArray) (nL : Nat) (own : String) (ret : Option FieldType) (D : va_G) (cs : CS) : Prop :=
  p.tables.exec = Jvm.exec ∧ c.code = cc ∧ meth.sig.returnType = ret ∧ c.maxLocals = nL ∧ s.vm.findClass own = some m.cls ∧ meth.locks = false ∧ (∀ w ∈ gw_tbl, w.before args s = true) ∧ NW s ∧ va_K D classes (tyz cs) s
/-- words of a call -/
def CWV (own : String) (idx : Nat) (C : String) (y : MethodName) (bytes : ByteArray) (maxL : Nat) (ret : Option FieldType) (n : Nat) : Prop :=
  Cond.methodLink own idx y ∈ gw_tbl ∧ Cond.instanceMethod y ∈ gw_tbl ∧ Cond.selects C y y ∈ gw_tbl ∧ Cond.initialized y.cls ∈ gw_tbl ∧ Cond.code y bytes maxL ret ∈ gw_tbl ∧ (y.cls ≠ "java/lang/invoke/MethodHandle" ∧ y.cls ≠ "java/lang/invoke/VarHandle" ∧ (parseMethodDescriptor y.desc).map (fun d => d.parameters.length) = some n)
def CWS (own : String) (idx : Nat) (y : MethodName) (bytes : ByteArray) (maxL : Nat) (ret : Option FieldType) (n : Nat) : Prop :=
  Cond.methodLink own idx y ∈ gw_tbl ∧ Cond.static y ∈ gw_tbl ∧ Cond.initialized y.cls ∈ gw_tbl ∧ Cond.code y bytes maxL ret ∈ gw_tbl ∧ (y.cls ≠ "java/lang/invoke/MethodHandle" ∧ y.cls ≠ "java/lang/invoke/VarHandle" ∧ (parseMethodDescriptor y.desc).map (fun d => d.parameters.length) = some n)
def CWN (own : String) (idx : Nat) (y : MethodName) (host : String) (bytes : ByteArray) (maxL : Nat) (ret : Option FieldType) (n : Nat) : Prop :=
  Cond.methodLinkNest own idx y host ∈ nw_l ∧ Cond.static y ∈ gw_tbl ∧ Cond.initialized y.cls ∈ gw_tbl ∧ Cond.code y bytes maxL ret ∈ gw_tbl ∧ (y.cls ≠ "java/lang/invoke/MethodHandle" ∧ y.cls ≠ "java/lang/invoke/VarHandle" ∧ (parseMethodDescriptor y.desc).map (fun d => d.parameters.length) = some n)
abbrev RoomOk (rm R : Room) (maxL : Nat) : Prop := rm.frames + 1 ≤ R.frames ∧ 8 + (maxL + 11) + rm.locals ≤ R.locals
theorem gw_pay {s : State} {args : Array Value} {z : Cond} (hT : ∀ w ∈ gw_tbl, w.before args s = true) (hz : z ∈ gw_tbl) : ∀ w ∈ z :: gw_tbl, ∀ (a' : Array Value) (U : State), s.WarmedH U.vm → w.before a' U = true := by
  intro w hw a' U hW
  have h : w ∈ gw_tbl := by
    rcases List.mem_cons.mp hw with rfl | h
    · exact hz
    · exact h
  exact word_at hW (gw_good h) (hT w h)
theorem CWV.mk {R : Room} {s : State} {args : Array Value} {own C : String} {idx maxL n : Nat} {y : MethodName} {bytes : ByteArray} {ret : Option FieldType} {rm : Room} {mc ms : Nat} (hT : ∀ w ∈ gw_tbl, w.before args s = true) (cw : CWV own idx C y bytes maxL ret n) (h1 : rm.cells = mc) (h2 : rm.slots = ms) (hr : RoomOk rm R maxL) : CallW R s args own C idx y bytes maxL ret (Cond.code y bytes maxL ret :: gw_tbl) rm mc ms n := by
  obtain ⟨a1, a2, a3, a4, a5, a6, a7, a8⟩ := cw
  refine ⟨⟨h1, h2, hr.1, hr.2, gw_pay hT a5, List.mem_cons_self, hT _ a5, hT _ a4, ⟨a6, a7⟩, fun sig h => ?_, hT _ a1⟩, hT _ a2, hT _ a3⟩
  rw [h] at a8
  exact (Option.some.inj a8).symm
theorem CWS.mk {R : Room} {s : State} {args : Array Value} {own : String} {idx maxL n : Nat} {y : MethodName} {bytes : ByteArray} {ret : Option FieldType} {rm : Room} {mc ms : Nat} (hT : ∀ w ∈ gw_tbl, w.before args s = true) (cw : CWS own idx y bytes maxL ret n) (h1 : rm.cells = mc) (h2 : rm.slots = ms) (hr : RoomOk rm R maxL) : CallB R s args own idx y bytes maxL ret (Cond.code y bytes maxL ret :: gw_tbl) rm mc ms n ∧ (Cond.static y).before args s = true := by
  obtain ⟨a1, a2, a4, a5, a6, a7, a8⟩ := cw
  refine ⟨⟨h1, h2, hr.1, hr.2, gw_pay hT a5, List.mem_cons_self, hT _ a5, hT _ a4, ⟨a6, a7⟩, fun sig h => ?_, hT _ a1⟩, hT _ a2⟩
  rw [h] at a8
  exact (Option.some.inj a8).symm
theorem CWN.mk {R : Room} {s : State} {args : Array Value} {own host : String} {idx maxL n : Nat} {y : MethodName} {bytes : ByteArray} {ret : Option FieldType} {rm : Room} {mc ms : Nat} (hT : ∀ w ∈ gw_tbl, w.before args s = true) (hN : NW s) (cw : CWN own idx y host bytes maxL ret n) (h1 : rm.cells = mc) (h2 : rm.slots = ms) (hr : RoomOk rm R maxL) : va_CN R s args own idx y host bytes maxL ret (Cond.code y bytes maxL ret :: gw_tbl) rm mc ms n ∧ (Cond.static y).before args s = true ∧ True := by
  obtain ⟨a1, a2, a4, a5, a6, a7, a8⟩ := cw
  refine ⟨⟨⟨h1, h2, hr.1, hr.2, gw_pay hT a5, List.mem_cons_self⟩, hT _ a5, hT _ a4, ⟨a6, a7⟩, fun sig h => ?_, va_Nw.use rfl (hN _ a1)⟩, hT _ a2, trivial⟩
  rw [h] at a8
  exact (Option.some.inj a8).symm
section KX
variable {p : Program} {l : Launch} {e : Env} {R : Room} {s : State} {m : MethodId} {args : Array Value} {below : List Frame} {meth : Method} {c : Code} {H : Heap} {locs : List Loc} {cells slots : Nat} {Q : State → Prop} {cc : ByteArray} {pc : Nat} {ls : Array Slot} {rest : List Value} {D : va_G} {cs : CS} {ws : va_W} {A : Nat → Prop} {H0 : Heap} {β : Type} {z : β} {nL : Nat} {own : String} {ret0 : Option FieldType}
theorem xi_nm {x : Int32} {k : Int32 → Option β} (hm : nm x k = some z) (kk : ∀ y : Int32, k y = some z → W p l e R s m args below meth c H locs cells slots Q (F0 m pc ls (.int y :: rest))) : W p l e R s m args below meth c H locs cells slots Q (F0 m pc ls (.int x :: rest)) := kk x hm
theorem xl_nm {x : Int64} {k : Int64 → Option β} (hm : nm x k = some z) (kk : ∀ y : Int64, k y = some z → W p l e R s m args below meth c H locs cells slots Q (F0 m pc ls (.long y :: rest))) : W p l e R s m args below meth c H locs cells slots Q (F0 m pc ls (.long x :: rest)) := kk x hm
theorem x_icmp_eq (hx : p.tables.exec = Jvm.exec) (hb : c.code = cc) {x y : Int32} {off : Int} {tgt : Nat} (hdg : decode cc pc = .ok (.if_icmp .eq off, 3)) (ht : (pc : Int) + off = (tgt : Int)) {a b : Option β} (hm : (if x = y then a else b) = some z) (kt : a = some z → W p l e R s m args below meth c H locs cells slots Q (F0 m tgt ls rest)) (kf : b = some z → W p l e R s m args below meth c H locs cells slots Q (F0 m (pc + 3) ls rest)) : W p l e R s m args below meth c H locs cells slots Q (F0 m pc ls (.int y :: .int x :: rest)) :=
  lv_icmp_eq hx hb hdg ht (fun h => kt (by rw [if_pos h] at hm; exact hm)) (fun h => kf (by rw [if_neg h] at hm; exact hm))
theorem x_if_eq (hx : p.tables.exec = Jvm.exec) (hb : c.code = cc) {x : Int32} {off : Int} {tgt : Nat} (hdg : decode cc pc = .ok (.ifCond .eq off, 3)) (ht : (pc : Int) + off = (tgt : Int)) {a b : Option β} (hm : (if x = 0 then a else b) = some z) (kt : a = some z → W p l e R s m args below meth c H locs cells slots Q (F0 m tgt ls rest)) (kf : b = some z → W p l e R s m args below meth c H locs cells slots Q (F0 m (pc + 3) ls rest)) : W p l e R s m args below meth c H locs cells slots Q (F0 m pc ls (.int x :: rest)) :=
  lv_if_eq hx hb hdg ht (fun h => kt (by rw [if_pos h] at hm; exact hm)) (fun h => kf (by rw [if_neg h] at hm; exact hm))
theorem x_icmp_ne (hx : p.tables.exec = Jvm.exec) (hb : c.code = cc) {x y : Int32} {off : Int} {tgt : Nat} (hdg : decode cc pc = .ok (.if_icmp .ne off, 3)) (ht : (pc : Int) + off = (tgt : Int)) {a b : Option β} (hm : (if x = y then b else a) = some z) (kt : a = some z → W p l e R s m args below meth c H locs cells slots Q (F0 m tgt ls rest)) (kf : b = some z → W p l e R s m args below meth c H locs cells slots Q (F0 m (pc + 3) ls rest)) : W p l e R s m args below meth c H locs cells slots Q (F0 m pc ls (.int y :: .int x :: rest)) :=
  lv_icmp_ne hx hb hdg ht (fun h => kt (by rw [if_neg h] at hm; exact hm)) (fun h => kf (by rw [if_pos h] at hm; exact hm))
theorem x_if_ne (hx : p.tables.exec = Jvm.exec) (hb : c.code = cc) {x : Int32} {off : Int} {tgt : Nat} (hdg : decode cc pc = .ok (.ifCond .ne off, 3)) (ht : (pc : Int) + off = (tgt : Int)) {a b : Option β} (hm : (if x = 0 then b else a) = some z) (kt : a = some z → W p l e R s m args below meth c H locs cells slots Q (F0 m tgt ls rest)) (kf : b = some z → W p l e R s m args below meth c H locs cells slots Q (F0 m (pc + 3) ls rest)) : W p l e R s m args below meth c H locs cells slots Q (F0 m pc ls (.int x :: rest)) :=
  lv_if_ne hx hb hdg ht (fun h => kt (by rw [if_neg h] at hm; exact hm)) (fun h => kf (by rw [if_pos h] at hm; exact hm))
theorem x_icmp_lt (hx : p.tables.exec = Jvm.exec) (hb : c.code = cc) {x y : Int32} {off : Int} {tgt : Nat} (hdg : decode cc pc = .ok (.if_icmp .lt off, 3)) (ht : (pc : Int) + off = (tgt : Int)) {a b : Option β} (hm : (if x < y then a else b) = some z) (kt : a = some z → W p l e R s m args below meth c H locs cells slots Q (F0 m tgt ls rest)) (kf : b = some z → W p l e R s m args below meth c H locs cells slots Q (F0 m (pc + 3) ls rest)) : W p l e R s m args below meth c H locs cells slots Q (F0 m pc ls (.int y :: .int x :: rest)) :=
  lv_icmp_lt hx hb hdg ht (fun h => kt (by rw [if_pos h] at hm; exact hm)) (fun h => kf (by rw [if_neg h] at hm; exact hm))
theorem x_if_lt (hx : p.tables.exec = Jvm.exec) (hb : c.code = cc) {x : Int32} {off : Int} {tgt : Nat} (hdg : decode cc pc = .ok (.ifCond .lt off, 3)) (ht : (pc : Int) + off = (tgt : Int)) {a b : Option β} (hm : (if x < 0 then a else b) = some z) (kt : a = some z → W p l e R s m args below meth c H locs cells slots Q (F0 m tgt ls rest)) (kf : b = some z → W p l e R s m args below meth c H locs cells slots Q (F0 m (pc + 3) ls rest)) : W p l e R s m args below meth c H locs cells slots Q (F0 m pc ls (.int x :: rest)) :=
  lv_if_lt hx hb hdg ht (fun h => kt (by rw [if_pos h] at hm; exact hm)) (fun h => kf (by rw [if_neg h] at hm; exact hm))
theorem x_icmp_ge (hx : p.tables.exec = Jvm.exec) (hb : c.code = cc) {x y : Int32} {off : Int} {tgt : Nat} (hdg : decode cc pc = .ok (.if_icmp .ge off, 3)) (ht : (pc : Int) + off = (tgt : Int)) {a b : Option β} (hm : (if y ≤ x then a else b) = some z) (kt : a = some z → W p l e R s m args below meth c H locs cells slots Q (F0 m tgt ls rest)) (kf : b = some z → W p l e R s m args below meth c H locs cells slots Q (F0 m (pc + 3) ls rest)) : W p l e R s m args below meth c H locs cells slots Q (F0 m pc ls (.int y :: .int x :: rest)) :=
  lv_icmp_ge hx hb hdg ht (fun h => kt (by rw [if_pos h] at hm; exact hm)) (fun h => kf (by rw [if_neg h] at hm; exact hm))
theorem x_if_ge (hx : p.tables.exec = Jvm.exec) (hb : c.code = cc) {x : Int32} {off : Int} {tgt : Nat} (hdg : decode cc pc = .ok (.ifCond .ge off, 3)) (ht : (pc : Int) + off = (tgt : Int)) {a b : Option β} (hm : (if 0 ≤ x then a else b) = some z) (kt : a = some z → W p l e R s m args below meth c H locs cells slots Q (F0 m tgt ls rest)) (kf : b = some z → W p l e R s m args below meth c H locs cells slots Q (F0 m (pc + 3) ls rest)) : W p l e R s m args below meth c H locs cells slots Q (F0 m pc ls (.int x :: rest)) :=
  lv_if_ge hx hb hdg ht (fun h => kt (by rw [if_pos h] at hm; exact hm)) (fun h => kf (by rw [if_neg h] at hm; exact hm))
theorem x_icmp_gt (hx : p.tables.exec = Jvm.exec) (hb : c.code = cc) {x y : Int32} {off : Int} {tgt : Nat} (hdg : decode cc pc = .ok (.if_icmp .gt off, 3)) (ht : (pc : Int) + off = (tgt : Int)) {a b : Option β} (hm : (if y < x then a else b) = some z) (kt : a = some z → W p l e R s m args below meth c H locs cells slots Q (F0 m tgt ls rest)) (kf : b = some z → W p l e R s m args below meth c H locs cells slots Q (F0 m (pc + 3) ls rest)) : W p l e R s m args below meth c H locs cells slots Q (F0 m pc ls (.int y :: .int x :: rest)) :=
  lv_icmp_gt hx hb hdg ht (fun h => kt (by rw [if_pos h] at hm; exact hm)) (fun h => kf (by rw [if_neg h] at hm; exact hm))
theorem x_if_gt (hx : p.tables.exec = Jvm.exec) (hb : c.code = cc) {x : Int32} {off : Int} {tgt : Nat} (hdg : decode cc pc = .ok (.ifCond .gt off, 3)) (ht : (pc : Int) + off = (tgt : Int)) {a b : Option β} (hm : (if 0 < x then a else b) = some z) (kt : a = some z → W p l e R s m args below meth c H locs cells slots Q (F0 m tgt ls rest)) (kf : b = some z → W p l e R s m args below meth c H locs cells slots Q (F0 m (pc + 3) ls rest)) : W p l e R s m args below meth c H locs cells slots Q (F0 m pc ls (.int x :: rest)) :=
  lv_if_gt hx hb hdg ht (fun h => kt (by rw [if_pos h] at hm; exact hm)) (fun h => kf (by rw [if_neg h] at hm; exact hm))
theorem x_icmp_le (hx : p.tables.exec = Jvm.exec) (hb : c.code = cc) {x y : Int32} {off : Int} {tgt : Nat} (hdg : decode cc pc = .ok (.if_icmp .le off, 3)) (ht : (pc : Int) + off = (tgt : Int)) {a b : Option β} (hm : (if x ≤ y then a else b) = some z) (kt : a = some z → W p l e R s m args below meth c H locs cells slots Q (F0 m tgt ls rest)) (kf : b = some z → W p l e R s m args below meth c H locs cells slots Q (F0 m (pc + 3) ls rest)) : W p l e R s m args below meth c H locs cells slots Q (F0 m pc ls (.int y :: .int x :: rest)) :=
  lv_icmp_le hx hb hdg ht (fun h => kt (by rw [if_pos h] at hm; exact hm)) (fun h => kf (by rw [if_neg h] at hm; exact hm))
theorem x_if_le (hx : p.tables.exec = Jvm.exec) (hb : c.code = cc) {x : Int32} {off : Int} {tgt : Nat} (hdg : decode cc pc = .ok (.ifCond .le off, 3)) (ht : (pc : Int) + off = (tgt : Int)) {a b : Option β} (hm : (if x ≤ 0 then a else b) = some z) (kt : a = some z → W p l e R s m args below meth c H locs cells slots Q (F0 m tgt ls rest)) (kf : b = some z → W p l e R s m args below meth c H locs cells slots Q (F0 m (pc + 3) ls rest)) : W p l e R s m args below meth c H locs cells slots Q (F0 m pc ls (.int x :: rest)) :=
  lv_if_le hx hb hdg ht (fun h => kt (by rw [if_pos h] at hm; exact hm)) (fun h => kf (by rw [if_neg h] at hm; exact hm))
theorem x_iald (hx : p.tables.exec = Jvm.exec) (hb : c.code = cc) (hK : va_K D classes (tyz cs) s) (hP : va_P D classes ws H) {a : Nat} (q0 : Nat) {n : Nat} {f : Nat → Int32} (ha : ws[q0]? = some (a, .inl (cs 0, n, .inl f))) {i : Int32} {k : Int32 → Option β} (hm : ald f n i k = some z) (hdg : decode cc pc = .ok (.iaload, 1))
    (kk : ∀ v : Int32, k v = some z → W p l e R s m args below meth c H locs cells slots Q (F0 m (pc + 1) ls (.int v :: rest))) : W p l e R s m args below meth c H locs cells slots Q (F0 m pc ls (.int i :: .ref a :: rest)) := by
  unfold ald at hm
  by_cases hc : i < 0 ∨ n ≤ i.toNatClampNeg
  · rw [if_pos hc] at hm; cases hm
  · rw [if_neg hc] at hm
    exact va_iald hx hb hK hP q0 0 ha rfl hc hdg (kk _ hm)
theorem x_zald (hx : p.tables.exec = Jvm.exec) (hb : c.code = cc) (hK : va_K D classes (tyz cs) s) (hP : va_P D classes ws H) {a : Nat} (q0 : Nat) {n : Nat} {f : Nat → Int32} (ha : ws[q0]? = some (a, .inl (cs 1, n, .inl f))) {i : Int32} {k : Int32 → Option β} (hm : ald f n i k = some z) (hdg : decode cc pc = .ok (.baload, 1))
    (kk : ∀ v : Int32, k v = some z → W p l e R s m args below meth c H locs cells slots Q (F0 m (pc + 1) ls (.int v :: rest))) : W p l e R s m args below meth c H locs cells slots Q (F0 m pc ls (.int i :: .ref a :: rest)) := by
  unfold ald at hm
  by_cases hc : i < 0 ∨ n ≤ i.toNatClampNeg
  · rw [if_pos hc] at hm; cases hm
  · rw [if_neg hc] at hm
    exact va_zald hx hb hK hP q0 1 ha rfl hc hdg (kk _ hm)
/-- a store into an int row: the world as 'wf' has it behind -/
theorem x_iast (hx : p.tables.exec = Jvm.exec) (hb : c.code = cc) (hK : va_K D classes (tyz cs) s) (hP : va_P D classes ws H) (hD : va_D A ws) (hS : va_S A H0 H locs) {a : Nat} (q0 : Nat) {n : Nat} {f : Nat → Int32} (ha : ws[q0]? = some (a, .inl (cs 0, n, .inl f))) {i x : Int32} {σ : Type} (g : Nat → σ) (wf : σ → va_W) (hw : ∀ j, ws.set q0 (a, .inl (cs 0, n, .inl (upd f j x))) = wf (g j)) {k : σ → Option β} (hm : ast n i (nm (g i.toNatClampNeg) k) = some z) (hdg : decode cc pc = .ok (.iastore, 1))
    (kk : ∀ (u : σ) (H1 : Heap) (locs1 : List Loc), k u = some z → va_P D classes (wf u) H1 → va_D A (wf u) → va_S A H0 H1 locs1 → W p l e R s m args below meth c H1 locs1 cells slots Q (F0 m (pc + 1) ls rest)) : W p l e R s m args below meth c H locs cells slots Q (F0 m pc ls (.int x :: .int i :: .ref a :: rest)) := by
  unfold ast at hm
  by_cases hc : i < 0 ∨ n ≤ i.toNatClampNeg
  · rw [if_pos hc] at hm; cases hm
  · rw [if_neg hc] at hm
    refine va_iast hx hb hK hP hD hS q0 0 ha rfl hc hdg (fun H1 locs1 hP hD hS => ?_)
    rw [hw] at hP hD
    exact kk _ H1 locs1 hm hP hD hS
theorem x_zast (hx : p.tables.exec = Jvm.exec) (hb : c.code = cc) (hK : va_K D classes (tyz cs) s) (hP : va_P D classes ws H) (hD : va_D A ws) (hS : va_S A H0 H locs) {a : Nat} (q0 : Nat) {n : Nat} {f : Nat → Int32} (ha : ws[q0]? = some (a, .inl (cs 1, n, .inl f))) {i x : Int32} (h01 : vp_nar .boolean x = x) {σ : Type} (g : Nat → σ) (wf : σ → va_W) (hw : ∀ j, ws.set q0 (a, .inl (cs 1, n, .inl (upd f j x))) = wf (g j)) {k : σ → Option β} (hm : ast n i (nm (g i.toNatClampNeg) k) = some z) (hdg : decode cc pc = .ok (.bastore, 1))
    (kk : ∀ (u : σ) (H1 : Heap) (locs1 : List Loc), k u = some z → va_P D classes (wf u) H1 → va_D A (wf u) → va_S A H0 H1 locs1 → W p l e R s m args below meth c H1 locs1 cells slots Q (F0 m (pc + 1) ls rest)) : W p l e R s m args below meth c H locs cells slots Q (F0 m pc ls (.int x :: .int i :: .ref a :: rest)) := by
  unfold ast at hm
  by_cases hc : i < 0 ∨ n ≤ i.toNatClampNeg
  · rw [if_pos hc] at hm; cases hm
  · rw [if_neg hc] at hm
    refine va_zast hx hb hK hP hD hS q0 1 ha rfl hc hdg (fun H1 locs1 hP hD hS => ?_)
    rw [h01, hw] at hP hD
    exact kk _ H1 locs1 hm hP hD hS
theorem x_lrem {x y : Int64} {k : Option β} (hx : p.tables.exec = Jvm.exec) (hb : c.code = cc) (hm : nzl y k = some z) (hdg : decode cc pc = .ok (.lrem, 1)) (kk : k = some z → W p l e R s m args below meth c H locs cells slots Q (F0 m (pc + 1) ls (.long (x - x / y * y) :: rest))) : W p l e R s m args below meth c H locs cells slots Q (F0 m pc ls (.long y :: .long x :: rest)) := by
  unfold nzl at hm
  by_cases hc : y = 0
  · rw [if_pos hc] at hm; cases hm
  · rw [if_neg hc] at hm
    exact lv_lrem hx hb hdg hc (kk hm)
theorem x_ldiv {x y : Int64} {k : Option β} (hx : p.tables.exec = Jvm.exec) (hb : c.code = cc) (hm : nzl y k = some z) (hdg : decode cc pc = .ok (.ldiv, 1)) (kk : k = some z → W p l e R s m args below meth c H locs cells slots Q (F0 m (pc + 1) ls (.long (x / y) :: rest))) : W p l e R s m args below meth c H locs cells slots Q (F0 m pc ls (.long y :: .long x :: rest)) := by
  unfold nzl at hm
  by_cases hc : y = 0
  · rw [if_pos hc] at hm; cases hm
  · rw [if_neg hc] at hm
    exact lv_ldiv hx hb hdg hc (kk hm)
theorem ob_some {α : Type} {f : Option α} {k : α → Option β} (hm : f.bind k = some z) : ∃ r, f = some r ∧ k r = some z := by
  cases h : f with
  | none => rw [h] at hm; cases hm
  | some r => rw [h] at hm; exact ⟨r, rfl, hm⟩
theorem run_drop {mc ms : Nat} {g : JFrame} {Qa : State → Outcome → State → Prop} {free : Addr → Prop} (h : va_Run p l e R s m args below meth c H locs cells slots mc ms g rest Qa free) : CallRun p l e R s m args below meth c H locs cells slots mc ms g rest Qa free := by
  intro T hT X
  obtain ⟨v, st₀, t, T', L, h0, X', hL, e1, e2, hq, st⟩ := h T hT X
  exact ⟨v, st₀, t, T', L, h0, X', hL, e1, hq, st⟩
theorem pcR_at {wc : va_W} {av : List Value} (hN : NW s) (hK : va_K D classes (tyz cs) s) (hP : va_P D classes wc H) : ∀ U : State, U.heap = H → s.WarmedH U.vm → PcR D cs wc av av.toArray U := by
  intro U hU hW
  exact ⟨rfl, hN.warm hW, by rw [hU]; exact hP, va_K.moved hW.alike hK⟩
theorem pcW_at {wc : va_W} {av : List Value} (hN : NW s) (hK : va_K D classes (tyz cs) s) (hP : va_P D classes wc H) (hD : va_D A wc) : ∀ U : State, U.heap = H → s.WarmedH U.vm → PcW D cs H.size wc av av.toArray U := by
  intro U hU hW
  exact ⟨rfl, hN.warm hW, by rw [hU], by rw [hU]; exact hP, va_K.moved hW.alike hK, hD.weaken (fun _ _ _ _ => trivial)⟩
variable {y : MethodName} {bytes : ByteArray} {maxL n idx : Nat} {ret : Option FieldType} {rm : Room} {C : String} {b : Addr} {As : List Value} {wc wr : va_W} {st0 : List Value}
theorem fm_of {α : Type} {is : List Nat} {g : Nat → Option α} {w : List α} (h : is.map g = w.map some) : is.filterMap g = w := by
  have h1 : is.filterMap g = (is.map g).filterMap id := by rw [List.filterMap_map]; rfl
  rw [h1, h, List.filterMap_map]
  have h2 : (id ∘ some : α → Option α) = some := rfl
  rw [h2]
  exact List.filterMap_some
theorem xV_i {f : Option Int32} {k : Int32 → Option β} (hx : p.tables.exec = Jvm.exec) (hb : c.code = cc) (hml : c.maxLocals = nL) (hown : s.vm.findClass own = some m.cls) (hT : ∀ w ∈ gw_tbl, w.before args s = true) (hN : NW s) (hK : va_K D classes (tyz cs) s) (hP : va_P D classes wc H) (cw : CWV own idx C y bytes maxL ret n) (hm : f.bind k = some z) (hM : ∀ r, f = some r → Met l y (Cond.code y bytes maxL ret :: gw_tbl) rm (PcR D cs wc (.ref b :: As)) (QRi r) 0 0 NoF) (h0 : rm.cells = 0 ∧ rm.slots = 0) (hr : RoomOk rm R maxL) (q0 : Nat) {ci : Nat} {q : vw_C} {fs : List Value} (hc : classes[ci]? = some q) (he : wc[q0]? = some (b, .inr (ci, fs))) (hC : q.1 = C) (hls : ls.size = nL) (hn : As.length = n) (hst : st0 = As.reverse ++ .ref b :: rest) (hW : (rest.map fun v => v.category).sum ≤ 8) (hdg : decode cc pc = .ok (.invokevirtual idx, 3)) (hcl : cells ≤ R.cells ∧ slots ≤ R.slots)
    (kk : ∀ r : Int32, k r = some z → W p l e R s m args below meth c H locs cells slots Q (F0 m (pc + 3) ls (.int r :: rest))) : W p l e R s m args below meth c H locs cells slots Q (F0 m pc ls st0) := by
  obtain ⟨r, hf, hm⟩ := ob_some hm
  refine vp_callSi (run_drop (va_runV (n := n) (b := b) (As := As) (rest := rest) ⟨hx, hb, hml, hown, hT⟩ (hM r hf) (CWV.mk hT cw h0.1 h0.2 hr) ⟨PcR_blind, (by rw [← hC]; exact va_recv hK hP hc he), pcR_at hN hK hP⟩ rfl hn hls hst (lv_room hW) hdg hcl)) (fun r' hr' => ?_)
  subst hr'
  exact kk _ hm
theorem xV_l {f : Option Int64} {k : Int64 → Option β} (hx : p.tables.exec = Jvm.exec) (hb : c.code = cc) (hml : c.maxLocals = nL) (hown : s.vm.findClass own = some m.cls) (hT : ∀ w ∈ gw_tbl, w.before args s = true) (hN : NW s) (hK : va_K D classes (tyz cs) s) (hP : va_P D classes wc H) (cw : CWV own idx C y bytes maxL ret n) (hm : f.bind k = some z) (hM : ∀ r, f = some r → Met l y (Cond.code y bytes maxL ret :: gw_tbl) rm (PcR D cs wc (.ref b :: As)) (QRl r) 0 0 NoF) (h0 : rm.cells = 0 ∧ rm.slots = 0) (hr : RoomOk rm R maxL) (q0 : Nat) {ci : Nat} {q : vw_C} {fs : List Value} (hc : classes[ci]? = some q) (he : wc[q0]? = some (b, .inr (ci, fs))) (hC : q.1 = C) (hls : ls.size = nL) (hn : As.length = n) (hst : st0 = As.reverse ++ .ref b :: rest) (hW : (rest.map fun v => v.category).sum ≤ 8) (hdg : decode cc pc = .ok (.invokevirtual idx, 3)) (hcl : cells ≤ R.cells ∧ slots ≤ R.slots)
    (kk : ∀ r : Int64, k r = some z → W p l e R s m args below meth c H locs cells slots Q (F0 m (pc + 3) ls (.long r :: rest))) : W p l e R s m args below meth c H locs cells slots Q (F0 m pc ls st0) := by
  obtain ⟨r, hf, hm⟩ := ob_some hm
  refine vp_callSl (run_drop (va_runV (n := n) (b := b) (As := As) (rest := rest) ⟨hx, hb, hml, hown, hT⟩ (hM r hf) (CWV.mk hT cw h0.1 h0.2 hr) ⟨PcR_blind, (by rw [← hC]; exact va_recv hK hP hc he), pcR_at hN hK hP⟩ rfl hn hls hst (lv_room hW) hdg hcl)) (fun r' hr' => ?_)
  subst hr'
  exact kk _ hm
theorem xS_i {f : Option Int32} {k : Int32 → Option β} (hx : p.tables.exec = Jvm.exec) (hb : c.code = cc) (hml : c.maxLocals = nL) (hown : s.vm.findClass own = some m.cls) (hT : ∀ w ∈ gw_tbl, w.before args s = true) (hN : NW s) (hK : va_K D classes (tyz cs) s) (hP : va_P D classes wc H) (cw : CWS own idx y bytes maxL ret n) (hm : f.bind k = some z) (hM : ∀ r, f = some r → Met l y (Cond.code y bytes maxL ret :: gw_tbl) rm (PcR D cs wc As) (QRi r) 0 0 NoF) (h0 : rm.cells = 0 ∧ rm.slots = 0) (hr : RoomOk rm R maxL)  (hls : ls.size = nL) (hn : As.length = n) (hst : st0 = As.reverse ++ rest) (hW : (rest.map fun v => v.category).sum ≤ 8) (hdg : decode cc pc = .ok (.invokestatic idx, 3)) (hcl : cells ≤ R.cells ∧ slots ≤ R.slots)
    (kk : ∀ r : Int32, k r = some z → W p l e R s m args below meth c H locs cells slots Q (F0 m (pc + 3) ls (.int r :: rest))) : W p l e R s m args below meth c H locs cells slots Q (F0 m pc ls st0) := by
  obtain ⟨r, hf, hm⟩ := ob_some hm
  refine vp_callSi (run_drop (va_runS (n := n) (As := As) (rest := rest) ⟨hx, hb, hml, hown, hT⟩ (hM r hf) (CWS.mk hT cw h0.1 h0.2 hr) ⟨PcR_blind, pcR_at hN hK hP⟩ rfl hn hls hst (lv_room hW) hdg hcl)) (fun r' hr' => ?_)
  subst hr'
  exact kk _ hm
theorem xS_l {f : Option Int64} {k : Int64 → Option β} (hx : p.tables.exec = Jvm.exec) (hb : c.code = cc) (hml : c.maxLocals = nL) (hown : s.vm.findClass own = some m.cls) (hT : ∀ w ∈ gw_tbl, w.before args s = true) (hN : NW s) (hK : va_K D classes (tyz cs) s) (hP : va_P D classes wc H) (cw : CWS own idx y bytes maxL ret n) (hm : f.bind k = some z) (hM : ∀ r, f = some r → Met l y (Cond.code y bytes maxL ret :: gw_tbl) rm (PcR D cs wc As) (QRl r) 0 0 NoF) (h0 : rm.cells = 0 ∧ rm.slots = 0) (hr : RoomOk rm R maxL)  (hls : ls.size = nL) (hn : As.length = n) (hst : st0 = As.reverse ++ rest) (hW : (rest.map fun v => v.category).sum ≤ 8) (hdg : decode cc pc = .ok (.invokestatic idx, 3)) (hcl : cells ≤ R.cells ∧ slots ≤ R.slots)
    (kk : ∀ r : Int64, k r = some z → W p l e R s m args below meth c H locs cells slots Q (F0 m (pc + 3) ls (.long r :: rest))) : W p l e R s m args below meth c H locs cells slots Q (F0 m pc ls st0) := by
  obtain ⟨r, hf, hm⟩ := ob_some hm
  refine vp_callSl (run_drop (va_runS (n := n) (As := As) (rest := rest) ⟨hx, hb, hml, hown, hT⟩ (hM r hf) (CWS.mk hT cw h0.1 h0.2 hr) ⟨PcR_blind, pcR_at hN hK hP⟩ rfl hn hls hst (lv_room hW) hdg hcl)) (fun r' hr' => ?_)
  subst hr'
  exact kk _ hm
theorem xN_i {f : Option Int32} {k : Int32 → Option β} (hx : p.tables.exec = Jvm.exec) (hb : c.code = cc) (hml : c.maxLocals = nL) (hown : s.vm.findClass own = some m.cls) (hT : ∀ w ∈ gw_tbl, w.before args s = true) (hN : NW s) (hK : va_K D classes (tyz cs) s) (hP : va_P D classes wc H) {host : String} (cw : CWN own idx y host bytes maxL ret n) (hm : f.bind k = some z) (hM : ∀ r, f = some r → Met l y (Cond.code y bytes maxL ret :: gw_tbl) rm (PcR D cs wc As) (QRi r) 0 0 NoF) (h0 : rm.cells = 0 ∧ rm.slots = 0) (hr : RoomOk rm R maxL)  (hls : ls.size = nL) (hn : As.length = n) (hst : st0 = As.reverse ++ rest) (hW : (rest.map fun v => v.category).sum ≤ 8) (hdg : decode cc pc = .ok (.invokestatic idx, 3)) (hcl : cells ≤ R.cells ∧ slots ≤ R.slots)
    (kk : ∀ r : Int32, k r = some z → W p l e R s m args below meth c H locs cells slots Q (F0 m (pc + 3) ls (.int r :: rest))) : W p l e R s m args below meth c H locs cells slots Q (F0 m pc ls st0) := by
  obtain ⟨r, hf, hm⟩ := ob_some hm
  refine vp_callSi (run_drop (va_runSN (n := n) (As := As) (rest := rest) ⟨hx, hb, hml, hown, hT⟩ (hM r hf) (CWN.mk hT hN cw h0.1 h0.2 hr) ⟨PcR_blind, pcR_at hN hK hP⟩ rfl hn hls hst (lv_room hW) hdg hcl)) (fun r' hr' => ?_)
  subst hr'
  exact kk _ hm
theorem xN_l {f : Option Int64} {k : Int64 → Option β} (hx : p.tables.exec = Jvm.exec) (hb : c.code = cc) (hml : c.maxLocals = nL) (hown : s.vm.findClass own = some m.cls) (hT : ∀ w ∈ gw_tbl, w.before args s = true) (hN : NW s) (hK : va_K D classes (tyz cs) s) (hP : va_P D classes wc H) {host : String} (cw : CWN own idx y host bytes maxL ret n) (hm : f.bind k = some z) (hM : ∀ r, f = some r → Met l y (Cond.code y bytes maxL ret :: gw_tbl) rm (PcR D cs wc As) (QRl r) 0 0 NoF) (h0 : rm.cells = 0 ∧ rm.slots = 0) (hr : RoomOk rm R maxL)  (hls : ls.size = nL) (hn : As.length = n) (hst : st0 = As.reverse ++ rest) (hW : (rest.map fun v => v.category).sum ≤ 8) (hdg : decode cc pc = .ok (.invokestatic idx, 3)) (hcl : cells ≤ R.cells ∧ slots ≤ R.slots)
    (kk : ∀ r : Int64, k r = some z → W p l e R s m args below meth c H locs cells slots Q (F0 m (pc + 3) ls (.long r :: rest))) : W p l e R s m args below meth c H locs cells slots Q (F0 m pc ls st0) := by
  obtain ⟨r, hf, hm⟩ := ob_some hm
  refine vp_callSl (run_drop (va_runSN (n := n) (As := As) (rest := rest) ⟨hx, hb, hml, hown, hT⟩ (hM r hf) (CWN.mk hT hN cw h0.1 h0.2 hr) ⟨PcR_blind, pcR_at hN hK hP⟩ rfl hn hls hst (lv_room hW) hdg hcl)) (fun r' hr' => ?_)
  subst hr'
  exact kk _ hm
theorem xVW_i {σ : Type} {wf wg : σ → va_W} {f : Option (Int32 × σ)} {k : (Int32 × σ) → Option β} (hx : p.tables.exec = Jvm.exec) (hb : c.code = cc) (hml : c.maxLocals = nL) (hown : s.vm.findClass own = some m.cls) (hT : ∀ w ∈ gw_tbl, w.before args s = true) (hN : NW s) (hK : va_K D classes (tyz cs) s) (hP : va_P D classes ws H) (hD : va_D A ws) (hS : va_S A H0 H locs) (hA : ∀ q : Nat, H0.size ≤ q → A q) (cw : CWV own idx C y bytes maxL ret n) (hm : f.bind k = some z) (hM : ∀ r, f = some r → Met l y (Cond.code y bytes maxL ret :: gw_tbl) rm (PcW D cs H.size wc (.ref b :: As)) (QWi D cs (va_A wc H.size) wf r) 0 0 (va_A wc H.size)) (h0 : rm.cells = 0 ∧ rm.slots = 0) (hr : RoomOk rm R maxL)
    (isC isR isQ : List Nat) (hC1 : isC.map (fun i => ws[i]?) = wc.map some) (hC2 : va_nd isC = true) (hR1 : isR.map (fun i => ws[i]?) = wr.map some) (hR2 : va_nd isR = true) (hdis : ∀ i ∈ isR, i ∉ isC) (hQ1 : ∀ u, isQ.map (fun i => (wr ++ wf u)[i]?) = (wg u).map some) (hQ2 : va_nd isQ = true) (q0 : Nat) {ci : Nat} {q : vw_C} {fs : List Value} (hc : classes[ci]? = some q) (he : wc[q0]? = some (b, .inr (ci, fs))) (hC : q.1 = C) (hls : ls.size = nL) (hn : As.length = n) (hst : st0 = As.reverse ++ .ref b :: rest) (hW : (rest.map fun v => v.category).sum ≤ 8) (hdg : decode cc pc = .ok (.invokevirtual idx, 3)) (hcl : cells ≤ R.cells ∧ slots ≤ R.slots)
    (kk : ∀ (r : Int32) (u : σ) (H1 : Heap) (locs1 : List Loc), k (r, u) = some z → va_P D classes (wg u) H1 → va_D A (wg u) → va_S A H0 H1 locs1 → W p l e R s m args below meth c H1 locs1 cells slots Q (F0 m (pc + 3) ls (.int r :: rest))) : W p l e R s m args below meth c H locs cells slots Q (F0 m pc ls st0) := by
  obtain ⟨r0, hf, hm⟩ := ob_some hm
  have hPc : va_P D classes wc H := hP.sub isC (fm_of hC1)
  have hDc := hD.sub isC hC2 hC1
  have hFc := va_free hD hS hA isC hC1
  refine va_calli (va_runV (n := n) (b := b) (As := As) (rest := rest) ⟨hx, hb, hml, hown, hT⟩ (hM r0 hf) (CWV.mk hT cw h0.1 h0.2 hr) ⟨PcW_blind, (by rw [← hC]; exact va_recv hK hPc hc he), pcW_at hN hK hPc hDc⟩ rfl hn hls hst (lv_room hW) hdg hcl) hS (fun q _ h => hFc q h) hFc (fun r u t H1 locs1 ht hvm hp hB hz1 hk1 hS1 => ?_)
  cases hp
  obtain ⟨hP1, hK1, hD1⟩ := hB
  rw [ht] at hP1
  obtain ⟨hP2, hD2⟩ := va_join hP hD isC isR hC1 hR1 hR2 hdis hk1 hFc hP1 hD1
  exact kk _ _ _ _ hm (hP2.sub isQ (fm_of (hQ1 _))) (hD2.sub isQ hQ2 (hQ1 _)) hS1
theorem xVW_l {σ : Type} {wf wg : σ → va_W} {f : Option (Int64 × σ)} {k : (Int64 × σ) → Option β} (hx : p.tables.exec = Jvm.exec) (hb : c.code = cc) (hml : c.maxLocals = nL) (hown : s.vm.findClass own = some m.cls) (hT : ∀ w ∈ gw_tbl, w.before args s = true) (hN : NW s) (hK : va_K D classes (tyz cs) s) (hP : va_P D classes ws H) (hD : va_D A ws) (hS : va_S A H0 H locs) (hA : ∀ q : Nat, H0.size ≤ q → A q) (cw : CWV own idx C y bytes maxL ret n) (hm : f.bind k = some z) (hM : ∀ r, f = some r → Met l y (Cond.code y bytes maxL ret :: gw_tbl) rm (PcW D cs H.size wc (.ref b :: As)) (QWl D cs (va_A wc H.size) wf r) 0 0 (va_A wc H.size)) (h0 : rm.cells = 0 ∧ rm.slots = 0) (hr : RoomOk rm R maxL)
    (isC isR isQ : List Nat) (hC1 : isC.map (fun i => ws[i]?) = wc.map some) (hC2 : va_nd isC = true) (hR1 : isR.map (fun i => ws[i]?) = wr.map some) (hR2 : va_nd isR = true) (hdis : ∀ i ∈ isR, i ∉ isC) (hQ1 : ∀ u, isQ.map (fun i => (wr ++ wf u)[i]?) = (wg u).map some) (hQ2 : va_nd isQ = true) (q0 : Nat) {ci : Nat} {q : vw_C} {fs : List Value} (hc : classes[ci]? = some q) (he : wc[q0]? = some (b, .inr (ci, fs))) (hC : q.1 = C) (hls : ls.size = nL) (hn : As.length = n) (hst : st0 = As.reverse ++ .ref b :: rest) (hW : (rest.map fun v => v.category).sum ≤ 8) (hdg : decode cc pc = .ok (.invokevirtual idx, 3)) (hcl : cells ≤ R.cells ∧ slots ≤ R.slots)
    (kk : ∀ (r : Int64) (u : σ) (H1 : Heap) (locs1 : List Loc), k (r, u) = some z → va_P D classes (wg u) H1 → va_D A (wg u) → va_S A H0 H1 locs1 → W p l e R s m args below meth c H1 locs1 cells slots Q (F0 m (pc + 3) ls (.long r :: rest))) : W p l e R s m args below meth c H locs cells slots Q (F0 m pc ls st0) := by
  obtain ⟨r0, hf, hm⟩ := ob_some hm
  have hPc : va_P D classes wc H := hP.sub isC (fm_of hC1)
  have hDc := hD.sub isC hC2 hC1
  have hFc := va_free hD hS hA isC hC1
  refine va_calll (va_runV (n := n) (b := b) (As := As) (rest := rest) ⟨hx, hb, hml, hown, hT⟩ (hM r0 hf) (CWV.mk hT cw h0.1 h0.2 hr) ⟨PcW_blind, (by rw [← hC]; exact va_recv hK hPc hc he), pcW_at hN hK hPc hDc⟩ rfl hn hls hst (lv_room hW) hdg hcl) hS (fun q _ h => hFc q h) hFc (fun r u t H1 locs1 ht hvm hp hB hz1 hk1 hS1 => ?_)
  cases hp
  obtain ⟨hP1, hK1, hD1⟩ := hB
  rw [ht] at hP1
  obtain ⟨hP2, hD2⟩ := va_join hP hD isC isR hC1 hR1 hR2 hdis hk1 hFc hP1 hD1
  exact kk _ _ _ _ hm (hP2.sub isQ (fm_of (hQ1 _))) (hD2.sub isQ hQ2 (hQ1 _)) hS1
theorem xVW_v {σ : Type} {wf wg : σ → va_W} {f : Option (σ)} {k : σ → Option β} (hx : p.tables.exec = Jvm.exec) (hb : c.code = cc) (hml : c.maxLocals = nL) (hown : s.vm.findClass own = some m.cls) (hT : ∀ w ∈ gw_tbl, w.before args s = true) (hN : NW s) (hK : va_K D classes (tyz cs) s) (hP : va_P D classes ws H) (hD : va_D A ws) (hS : va_S A H0 H locs) (hA : ∀ q : Nat, H0.size ≤ q → A q) (cw : CWV own idx C y bytes maxL ret n) (hm : f.bind k = some z) (hM : ∀ r, f = some r → Met l y (Cond.code y bytes maxL ret :: gw_tbl) rm (PcW D cs H.size wc (.ref b :: As)) (QWv D cs (va_A wc H.size) wf r) 0 0 (va_A wc H.size)) (h0 : rm.cells = 0 ∧ rm.slots = 0) (hr : RoomOk rm R maxL)
    (isC isR isQ : List Nat) (hC1 : isC.map (fun i => ws[i]?) = wc.map some) (hC2 : va_nd isC = true) (hR1 : isR.map (fun i => ws[i]?) = wr.map some) (hR2 : va_nd isR = true) (hdis : ∀ i ∈ isR, i ∉ isC) (hQ1 : ∀ u, isQ.map (fun i => (wr ++ wf u)[i]?) = (wg u).map some) (hQ2 : va_nd isQ = true) (q0 : Nat) {ci : Nat} {q : vw_C} {fs : List Value} (hc : classes[ci]? = some q) (he : wc[q0]? = some (b, .inr (ci, fs))) (hC : q.1 = C) (hls : ls.size = nL) (hn : As.length = n) (hst : st0 = As.reverse ++ .ref b :: rest) (hW : (rest.map fun v => v.category).sum ≤ 8) (hdg : decode cc pc = .ok (.invokevirtual idx, 3)) (hcl : cells ≤ R.cells ∧ slots ≤ R.slots)
    (kk : ∀ (u : σ) (H1 : Heap) (locs1 : List Loc), k u = some z → va_P D classes (wg u) H1 → va_D A (wg u) → va_S A H0 H1 locs1 → W p l e R s m args below meth c H1 locs1 cells slots Q (F0 m (pc + 3) ls (rest))) : W p l e R s m args below meth c H locs cells slots Q (F0 m pc ls st0) := by
  obtain ⟨r0, hf, hm⟩ := ob_some hm
  have hPc : va_P D classes wc H := hP.sub isC (fm_of hC1)
  have hDc := hD.sub isC hC2 hC1
  have hFc := va_free hD hS hA isC hC1
  refine va_callv (va_runV (n := n) (b := b) (As := As) (rest := rest) ⟨hx, hb, hml, hown, hT⟩ (hM r0 hf) (CWV.mk hT cw h0.1 h0.2 hr) ⟨PcW_blind, (by rw [← hC]; exact va_recv hK hPc hc he), pcW_at hN hK hPc hDc⟩ rfl hn hls hst (lv_room hW) hdg hcl) hS (fun q _ h => hFc q h) hFc (fun u t H1 locs1 ht hvm hp hB hz1 hk1 hS1 => ?_)
  subst hp
  obtain ⟨hP1, hK1, hD1⟩ := hB
  rw [ht] at hP1
  obtain ⟨hP2, hD2⟩ := va_join hP hD isC isR hC1 hR1 hR2 hdis hk1 hFc hP1 hD1
  exact kk  _ _ _ hm (hP2.sub isQ (fm_of (hQ1 _))) (hD2.sub isQ hQ2 (hQ1 _)) hS1
theorem xSW_i {σ : Type} {wf wg : σ → va_W} {f : Option (Int32 × σ)} {k : (Int32 × σ) → Option β} (hx : p.tables.exec = Jvm.exec) (hb : c.code = cc) (hml : c.maxLocals = nL) (hown : s.vm.findClass own = some m.cls) (hT : ∀ w ∈ gw_tbl, w.before args s = true) (hN : NW s) (hK : va_K D classes (tyz cs) s) (hP : va_P D classes ws H) (hD : va_D A ws) (hS : va_S A H0 H locs) (hA : ∀ q : Nat, H0.size ≤ q → A q) (cw : CWS own idx y bytes maxL ret n) (hm : f.bind k = some z) (hM : ∀ r, f = some r → Met l y (Cond.code y bytes maxL ret :: gw_tbl) rm (PcW D cs H.size wc As) (QWi D cs (va_A wc H.size) wf r) 0 0 (va_A wc H.size)) (h0 : rm.cells = 0 ∧ rm.slots = 0) (hr : RoomOk rm R maxL)
    (isC isR isQ : List Nat) (hC1 : isC.map (fun i => ws[i]?) = wc.map some) (hC2 : va_nd isC = true) (hR1 : isR.map (fun i => ws[i]?) = wr.map some) (hR2 : va_nd isR = true) (hdis : ∀ i ∈ isR, i ∉ isC) (hQ1 : ∀ u, isQ.map (fun i => (wr ++ wf u)[i]?) = (wg u).map some) (hQ2 : va_nd isQ = true)  (hls : ls.size = nL) (hn : As.length = n) (hst : st0 = As.reverse ++ rest) (hW : (rest.map fun v => v.category).sum ≤ 8) (hdg : decode cc pc = .ok (.invokestatic idx, 3)) (hcl : cells ≤ R.cells ∧ slots ≤ R.slots)
    (kk : ∀ (r : Int32) (u : σ) (H1 : Heap) (locs1 : List Loc), k (r, u) = some z → va_P D classes (wg u) H1 → va_D A (wg u) → va_S A H0 H1 locs1 → W p l e R s m args below meth c H1 locs1 cells slots Q (F0 m (pc + 3) ls (.int r :: rest))) : W p l e R s m args below meth c H locs cells slots Q (F0 m pc ls st0) := by
  obtain ⟨r0, hf, hm⟩ := ob_some hm
  have hPc : va_P D classes wc H := hP.sub isC (fm_of hC1)
  have hDc := hD.sub isC hC2 hC1
  have hFc := va_free hD hS hA isC hC1
  refine va_calli (va_runS (n := n) (As := As) (rest := rest) ⟨hx, hb, hml, hown, hT⟩ (hM r0 hf) (CWS.mk hT cw h0.1 h0.2 hr) ⟨PcW_blind, pcW_at hN hK hPc hDc⟩ rfl hn hls hst (lv_room hW) hdg hcl) hS (fun q _ h => hFc q h) hFc (fun r u t H1 locs1 ht hvm hp hB hz1 hk1 hS1 => ?_)
  cases hp
  obtain ⟨hP1, hK1, hD1⟩ := hB
  rw [ht] at hP1
  obtain ⟨hP2, hD2⟩ := va_join hP hD isC isR hC1 hR1 hR2 hdis hk1 hFc hP1 hD1
  exact kk _ _ _ _ hm (hP2.sub isQ (fm_of (hQ1 _))) (hD2.sub isQ hQ2 (hQ1 _)) hS1
theorem xSW_l {σ : Type} {wf wg : σ → va_W} {f : Option (Int64 × σ)} {k : (Int64 × σ) → Option β} (hx : p.tables.exec = Jvm.exec) (hb : c.code = cc) (hml : c.maxLocals = nL) (hown : s.vm.findClass own = some m.cls) (hT : ∀ w ∈ gw_tbl, w.before args s = true) (hN : NW s) (hK : va_K D classes (tyz cs) s) (hP : va_P D classes ws H) (hD : va_D A ws) (hS : va_S A H0 H locs) (hA : ∀ q : Nat, H0.size ≤ q → A q) (cw : CWS own idx y bytes maxL ret n) (hm : f.bind k = some z) (hM : ∀ r, f = some r → Met l y (Cond.code y bytes maxL ret :: gw_tbl) rm (PcW D cs H.size wc As) (QWl D cs (va_A wc H.size) wf r) 0 0 (va_A wc H.size)) (h0 : rm.cells = 0 ∧ rm.slots = 0) (hr : RoomOk rm R maxL)
    (isC isR isQ : List Nat) (hC1 : isC.map (fun i => ws[i]?) = wc.map some) (hC2 : va_nd isC = true) (hR1 : isR.map (fun i => ws[i]?) = wr.map some) (hR2 : va_nd isR = true) (hdis : ∀ i ∈ isR, i ∉ isC) (hQ1 : ∀ u, isQ.map (fun i => (wr ++ wf u)[i]?) = (wg u).map some) (hQ2 : va_nd isQ = true)  (hls : ls.size = nL) (hn : As.length = n) (hst : st0 = As.reverse ++ rest) (hW : (rest.map fun v => v.category).sum ≤ 8) (hdg : decode cc pc = .ok (.invokestatic idx, 3)) (hcl : cells ≤ R.cells ∧ slots ≤ R.slots)
    (kk : ∀ (r : Int64) (u : σ) (H1 : Heap) (locs1 : List Loc), k (r, u) = some z → va_P D classes (wg u) H1 → va_D A (wg u) → va_S A H0 H1 locs1 → W p l e R s m args below meth c H1 locs1 cells slots Q (F0 m (pc + 3) ls (.long r :: rest))) : W p l e R s m args below meth c H locs cells slots Q (F0 m pc ls st0) := by
  obtain ⟨r0, hf, hm⟩ := ob_some hm
  have hPc : va_P D classes wc H := hP.sub isC (fm_of hC1)
  have hDc := hD.sub isC hC2 hC1
  have hFc := va_free hD hS hA isC hC1
  refine va_calll (va_runS (n := n) (As := As) (rest := rest) ⟨hx, hb, hml, hown, hT⟩ (hM r0 hf) (CWS.mk hT cw h0.1 h0.2 hr) ⟨PcW_blind, pcW_at hN hK hPc hDc⟩ rfl hn hls hst (lv_room hW) hdg hcl) hS (fun q _ h => hFc q h) hFc (fun r u t H1 locs1 ht hvm hp hB hz1 hk1 hS1 => ?_)
  cases hp
  obtain ⟨hP1, hK1, hD1⟩ := hB
  rw [ht] at hP1
  obtain ⟨hP2, hD2⟩ := va_join hP hD isC isR hC1 hR1 hR2 hdis hk1 hFc hP1 hD1
  exact kk _ _ _ _ hm (hP2.sub isQ (fm_of (hQ1 _))) (hD2.sub isQ hQ2 (hQ1 _)) hS1
theorem xSW_v {σ : Type} {wf wg : σ → va_W} {f : Option (σ)} {k : σ → Option β} (hx : p.tables.exec = Jvm.exec) (hb : c.code = cc) (hml : c.maxLocals = nL) (hown : s.vm.findClass own = some m.cls) (hT : ∀ w ∈ gw_tbl, w.before args s = true) (hN : NW s) (hK : va_K D classes (tyz cs) s) (hP : va_P D classes ws H) (hD : va_D A ws) (hS : va_S A H0 H locs) (hA : ∀ q : Nat, H0.size ≤ q → A q) (cw : CWS own idx y bytes maxL ret n) (hm : f.bind k = some z) (hM : ∀ r, f = some r → Met l y (Cond.code y bytes maxL ret :: gw_tbl) rm (PcW D cs H.size wc As) (QWv D cs (va_A wc H.size) wf r) 0 0 (va_A wc H.size)) (h0 : rm.cells = 0 ∧ rm.slots = 0) (hr : RoomOk rm R maxL)
    (isC isR isQ : List Nat) (hC1 : isC.map (fun i => ws[i]?) = wc.map some) (hC2 : va_nd isC = true) (hR1 : isR.map (fun i => ws[i]?) = wr.map some) (hR2 : va_nd isR = true) (hdis : ∀ i ∈ isR, i ∉ isC) (hQ1 : ∀ u, isQ.map (fun i => (wr ++ wf u)[i]?) = (wg u).map some) (hQ2 : va_nd isQ = true)  (hls : ls.size = nL) (hn : As.length = n) (hst : st0 = As.reverse ++ rest) (hW : (rest.map fun v => v.category).sum ≤ 8) (hdg : decode cc pc = .ok (.invokestatic idx, 3)) (hcl : cells ≤ R.cells ∧ slots ≤ R.slots)
    (kk : ∀ (u : σ) (H1 : Heap) (locs1 : List Loc), k u = some z → va_P D classes (wg u) H1 → va_D A (wg u) → va_S A H0 H1 locs1 → W p l e R s m args below meth c H1 locs1 cells slots Q (F0 m (pc + 3) ls (rest))) : W p l e R s m args below meth c H locs cells slots Q (F0 m pc ls st0) := by
  obtain ⟨r0, hf, hm⟩ := ob_some hm
  have hPc : va_P D classes wc H := hP.sub isC (fm_of hC1)
  have hDc := hD.sub isC hC2 hC1
  have hFc := va_free hD hS hA isC hC1
  refine va_callv (va_runS (n := n) (As := As) (rest := rest) ⟨hx, hb, hml, hown, hT⟩ (hM r0 hf) (CWS.mk hT cw h0.1 h0.2 hr) ⟨PcW_blind, pcW_at hN hK hPc hDc⟩ rfl hn hls hst (lv_room hW) hdg hcl) hS (fun q _ h => hFc q h) hFc (fun u t H1 locs1 ht hvm hp hB hz1 hk1 hS1 => ?_)
  subst hp
  obtain ⟨hP1, hK1, hD1⟩ := hB
  rw [ht] at hP1
  obtain ⟨hP2, hD2⟩ := va_join hP hD isC isR hC1 hR1 hR2 hdis hk1 hFc hP1 hD1
  exact kk  _ _ _ hm (hP2.sub isQ (fm_of (hQ1 _))) (hD2.sub isQ hQ2 (hQ1 _)) hS1
theorem xNW_i {σ : Type} {wf wg : σ → va_W} {f : Option (Int32 × σ)} {k : (Int32 × σ) → Option β} (hx : p.tables.exec = Jvm.exec) (hb : c.code = cc) (hml : c.maxLocals = nL) (hown : s.vm.findClass own = some m.cls) (hT : ∀ w ∈ gw_tbl, w.before args s = true) (hN : NW s) (hK : va_K D classes (tyz cs) s) (hP : va_P D classes ws H) (hD : va_D A ws) (hS : va_S A H0 H locs) (hA : ∀ q : Nat, H0.size ≤ q → A q) {host : String} (cw : CWN own idx y host bytes maxL ret n) (hm : f.bind k = some z) (hM : ∀ r, f = some r → Met l y (Cond.code y bytes maxL ret :: gw_tbl) rm (PcW D cs H.size wc As) (QWi D cs (va_A wc H.size) wf r) 0 0 (va_A wc H.size)) (h0 : rm.cells = 0 ∧ rm.slots = 0) (hr : RoomOk rm R maxL)
    (isC isR isQ : List Nat) (hC1 : isC.map (fun i => ws[i]?) = wc.map some) (hC2 : va_nd isC = true) (hR1 : isR.map (fun i => ws[i]?) = wr.map some) (hR2 : va_nd isR = true) (hdis : ∀ i ∈ isR, i ∉ isC) (hQ1 : ∀ u, isQ.map (fun i => (wr ++ wf u)[i]?) = (wg u).map some) (hQ2 : va_nd isQ = true)  (hls : ls.size = nL) (hn : As.length = n) (hst : st0 = As.reverse ++ rest) (hW : (rest.map fun v => v.category).sum ≤ 8) (hdg : decode cc pc = .ok (.invokestatic idx, 3)) (hcl : cells ≤ R.cells ∧ slots ≤ R.slots)
    (kk : ∀ (r : Int32) (u : σ) (H1 : Heap) (locs1 : List Loc), k (r, u) = some z → va_P D classes (wg u) H1 → va_D A (wg u) → va_S A H0 H1 locs1 → W p l e R s m args below meth c H1 locs1 cells slots Q (F0 m (pc + 3) ls (.int r :: rest))) : W p l e R s m args below meth c H locs cells slots Q (F0 m pc ls st0) := by
  obtain ⟨r0, hf, hm⟩ := ob_some hm
  have hPc : va_P D classes wc H := hP.sub isC (fm_of hC1)
  have hDc := hD.sub isC hC2 hC1
  have hFc := va_free hD hS hA isC hC1
  refine va_calli (va_runSN (n := n) (As := As) (rest := rest) ⟨hx, hb, hml, hown, hT⟩ (hM r0 hf) (CWN.mk hT hN cw h0.1 h0.2 hr) ⟨PcW_blind, pcW_at hN hK hPc hDc⟩ rfl hn hls hst (lv_room hW) hdg hcl) hS (fun q _ h => hFc q h) hFc (fun r u t H1 locs1 ht hvm hp hB hz1 hk1 hS1 => ?_)
  cases hp
  obtain ⟨hP1, hK1, hD1⟩ := hB
  rw [ht] at hP1
  obtain ⟨hP2, hD2⟩ := va_join hP hD isC isR hC1 hR1 hR2 hdis hk1 hFc hP1 hD1
  exact kk _ _ _ _ hm (hP2.sub isQ (fm_of (hQ1 _))) (hD2.sub isQ hQ2 (hQ1 _)) hS1
theorem xNW_l {σ : Type} {wf wg : σ → va_W} {f : Option (Int64 × σ)} {k : (Int64 × σ) → Option β} (hx : p.tables.exec = Jvm.exec) (hb : c.code = cc) (hml : c.maxLocals = nL) (hown : s.vm.findClass own = some m.cls) (hT : ∀ w ∈ gw_tbl, w.before args s = true) (hN : NW s) (hK : va_K D classes (tyz cs) s) (hP : va_P D classes ws H) (hD : va_D A ws) (hS : va_S A H0 H locs) (hA : ∀ q : Nat, H0.size ≤ q → A q) {host : String} (cw : CWN own idx y host bytes maxL ret n) (hm : f.bind k = some z) (hM : ∀ r, f = some r → Met l y (Cond.code y bytes maxL ret :: gw_tbl) rm (PcW D cs H.size wc As) (QWl D cs (va_A wc H.size) wf r) 0 0 (va_A wc H.size)) (h0 : rm.cells = 0 ∧ rm.slots = 0) (hr : RoomOk rm R maxL)
    (isC isR isQ : List Nat) (hC1 : isC.map (fun i => ws[i]?) = wc.map some) (hC2 : va_nd isC = true) (hR1 : isR.map (fun i => ws[i]?) = wr.map some) (hR2 : va_nd isR = true) (hdis : ∀ i ∈ isR, i ∉ isC) (hQ1 : ∀ u, isQ.map (fun i => (wr ++ wf u)[i]?) = (wg u).map some) (hQ2 : va_nd isQ = true)  (hls : ls.size = nL) (hn : As.length = n) (hst : st0 = As.reverse ++ rest) (hW : (rest.map fun v => v.category).sum ≤ 8) (hdg : decode cc pc = .ok (.invokestatic idx, 3)) (hcl : cells ≤ R.cells ∧ slots ≤ R.slots)
    (kk : ∀ (r : Int64) (u : σ) (H1 : Heap) (locs1 : List Loc), k (r, u) = some z → va_P D classes (wg u) H1 → va_D A (wg u) → va_S A H0 H1 locs1 → W p l e R s m args below meth c H1 locs1 cells slots Q (F0 m (pc + 3) ls (.long r :: rest))) : W p l e R s m args below meth c H locs cells slots Q (F0 m pc ls st0) := by
  obtain ⟨r0, hf, hm⟩ := ob_some hm
  have hPc : va_P D classes wc H := hP.sub isC (fm_of hC1)
  have hDc := hD.sub isC hC2 hC1
  have hFc := va_free hD hS hA isC hC1
  refine va_calll (va_runSN (n := n) (As := As) (rest := rest) ⟨hx, hb, hml, hown, hT⟩ (hM r0 hf) (CWN.mk hT hN cw h0.1 h0.2 hr) ⟨PcW_blind, pcW_at hN hK hPc hDc⟩ rfl hn hls hst (lv_room hW) hdg hcl) hS (fun q _ h => hFc q h) hFc (fun r u t H1 locs1 ht hvm hp hB hz1 hk1 hS1 => ?_)
  cases hp
  obtain ⟨hP1, hK1, hD1⟩ := hB
  rw [ht] at hP1
  obtain ⟨hP2, hD2⟩ := va_join hP hD isC isR hC1 hR1 hR2 hdis hk1 hFc hP1 hD1
  exact kk _ _ _ _ hm (hP2.sub isQ (fm_of (hQ1 _))) (hD2.sub isQ hQ2 (hQ1 _)) hS1
theorem xNW_v {σ : Type} {wf wg : σ → va_W} {f : Option (σ)} {k : σ → Option β} (hx : p.tables.exec = Jvm.exec) (hb : c.code = cc) (hml : c.maxLocals = nL) (hown : s.vm.findClass own = some m.cls) (hT : ∀ w ∈ gw_tbl, w.before args s = true) (hN : NW s) (hK : va_K D classes (tyz cs) s) (hP : va_P D classes ws H) (hD : va_D A ws) (hS : va_S A H0 H locs) (hA : ∀ q : Nat, H0.size ≤ q → A q) {host : String} (cw : CWN own idx y host bytes maxL ret n) (hm : f.bind k = some z) (hM : ∀ r, f = some r → Met l y (Cond.code y bytes maxL ret :: gw_tbl) rm (PcW D cs H.size wc As) (QWv D cs (va_A wc H.size) wf r) 0 0 (va_A wc H.size)) (h0 : rm.cells = 0 ∧ rm.slots = 0) (hr : RoomOk rm R maxL)
    (isC isR isQ : List Nat) (hC1 : isC.map (fun i => ws[i]?) = wc.map some) (hC2 : va_nd isC = true) (hR1 : isR.map (fun i => ws[i]?) = wr.map some) (hR2 : va_nd isR = true) (hdis : ∀ i ∈ isR, i ∉ isC) (hQ1 : ∀ u, isQ.map (fun i => (wr ++ wf u)[i]?) = (wg u).map some) (hQ2 : va_nd isQ = true)  (hls : ls.size = nL) (hn : As.length = n) (hst : st0 = As.reverse ++ rest) (hW : (rest.map fun v => v.category).sum ≤ 8) (hdg : decode cc pc = .ok (.invokestatic idx, 3)) (hcl : cells ≤ R.cells ∧ slots ≤ R.slots)
    (kk : ∀ (u : σ) (H1 : Heap) (locs1 : List Loc), k u = some z → va_P D classes (wg u) H1 → va_D A (wg u) → va_S A H0 H1 locs1 → W p l e R s m args below meth c H1 locs1 cells slots Q (F0 m (pc + 3) ls (rest))) : W p l e R s m args below meth c H locs cells slots Q (F0 m pc ls st0) := by
  obtain ⟨r0, hf, hm⟩ := ob_some hm
  have hPc : va_P D classes wc H := hP.sub isC (fm_of hC1)
  have hDc := hD.sub isC hC2 hC1
  have hFc := va_free hD hS hA isC hC1
  refine va_callv (va_runSN (n := n) (As := As) (rest := rest) ⟨hx, hb, hml, hown, hT⟩ (hM r0 hf) (CWN.mk hT hN cw h0.1 h0.2 hr) ⟨PcW_blind, pcW_at hN hK hPc hDc⟩ rfl hn hls hst (lv_room hW) hdg hcl) hS (fun q _ h => hFc q h) hFc (fun u t H1 locs1 ht hvm hp hB hz1 hk1 hS1 => ?_)
  subst hp
  obtain ⟨hP1, hK1, hD1⟩ := hB
  rw [ht] at hP1
  obtain ⟨hP2, hD2⟩ := va_join hP hD isC isR hC1 hR1 hR2 hdis hk1 hFc hP1 hD1
  exact kk  _ _ _ hm (hP2.sub isQ (fm_of (hQ1 _))) (hD2.sub isQ hQ2 (hQ1 _)) hS1
end KX
section KM
variable {l : Launch} {y : MethodName} {bytes : ByteArray} {maxL : Nat} {ret : Option FieldType} {rm : Room} {D : va_G} {cs : CS} {ws : va_W} {av : List Value}
theorem met_R {Qc : Array Value → State → Outcome → State → Prop} (hy : plainName y.cls = true) (hav : (lg_sl av).length ≤ maxL)
    (body : ∀ (p : Program) (e : Env) (s : State) (m : MethodId) (below : List Frame) (meth : Method) (c : Code), EV p s m av.toArray meth c bytes maxL y.cls ret D cs → va_P D classes ws s.heap → ∀ ls : Array Slot, lv_has ls maxL (lv_args 0 av) →
      W p l e rm s m av.toArray below meth c s.heap [] 0 0 (MQ below Qc av.toArray s 0 0 NoF) (F0 m 0 ls [])) : Met l y (Cond.code y bytes maxL ret :: gw_tbl) rm (PcR D cs ws av) Qc 0 0 NoF := by
  refine Met.ofW (cc := bytes) (maxL := maxL) (ret := ret) hy rfl ?_
  intro p e s m args below meth c s₁ B hml hv
  obtain ⟨rfl, hN, hP, hK⟩ := hv
  have hts := atoms_spec (ws := Cond.code y bytes maxL ret :: gw_tbl) B.pre
  rw [lg_entry_eq]
  exact body p e s m below meth c ⟨B.exec, B.bytes, B.returns, hml, findClass_of_methodNamed B.named, B.notSynchronized, fun w h => hts w (List.mem_cons_of_mem _ h), hN, hK⟩ hP _ (lv_entry av hav)
theorem met_W {Qc : Array Value → State → Outcome → State → Prop} {sz : Nat} (hy : plainName y.cls = true) (hav : (lg_sl av).length ≤ maxL)
    (body : ∀ (p : Program) (e : Env) (s : State) (m : MethodId) (below : List Frame) (meth : Method) (c : Code), EV p s m av.toArray meth c bytes maxL y.cls ret D cs → va_P D classes ws s.heap → va_D (va_A ws sz) ws → va_S (va_A ws sz) s.heap s.heap [] → (∀ q : Nat, s.heap.size ≤ q → va_A ws sz q) → ∀ ls : Array Slot, lv_has ls maxL (lv_args 0 av) →
      W p l e rm s m av.toArray below meth c s.heap [] 0 0 (MQ below Qc av.toArray s 0 0 (va_A ws sz)) (F0 m 0 ls [])) : Met l y (Cond.code y bytes maxL ret :: gw_tbl) rm (PcW D cs sz ws av) Qc 0 0 (va_A ws sz) := by
  refine Met.ofW (cc := bytes) (maxL := maxL) (ret := ret) hy rfl ?_
  intro p e s m args below meth c s₁ B hml hv
  obtain ⟨rfl, hN, hsz, hP, hK, hD⟩ := hv
  have hts := atoms_spec (ws := Cond.code y bytes maxL ret :: gw_tbl) B.pre
  rw [lg_entry_eq]
  subst hsz
  exact body p e s m below meth c ⟨B.exec, B.bytes, B.returns, hml, findClass_of_methodNamed B.named, B.notSynchronized, fun w h => hts w (List.mem_cons_of_mem _ h), hN, hK⟩ hP hD.self va_S.rf (fun q h => Or.inr h) _ (lv_entry av hav)
end KM
section KE
variable {p : Program} {l : Launch} {e : Env} {R : Room} {s : State} {m : MethodId} {args : Array Value} {below : List Frame} {meth : Method} {c : Code} {H : Heap} {locs : List Loc} {cc : ByteArray} {pc : Nat} {ls : Array Slot} {D : va_G} {cs : CS} {A : Nat → Prop} {σ : Type} {wf : σ → va_W}
theorem x_iretR {v z : Int32} (hx : p.tables.exec = Jvm.exec) (hb : c.code = cc) (hr : meth.sig.returnType = some .int) (hlk : meth.locks = false) (hm : some v = some z) (hdg : decode cc pc = .ok (.ireturn, 1)) : W p l e R s m args below meth c s.heap [] 0 0 (MQ below (QRi z) args s 0 0 NoF) (F0 m pc ls [.int v]) :=
  W.iret hx hb hr (fun t ht _ => ⟨v, rfl, Option.some.inj hm, ht⟩) (fun _ h => nomatch h) hdg hlk
theorem nar_zo {v : Int32} (h : v = 0 ∨ v = 1) : narrow .boolean (.int v) = .int v := by rcases h with rfl | rfl <;> decide +kernel
theorem x_zretR {v z : Int32} (hx : p.tables.exec = Jvm.exec) (hb : c.code = cc) (hr : meth.sig.returnType = some .boolean) (hlk : meth.locks = false) (hm : zo v (some v) = some z) (hdg : decode cc pc = .ok (.ireturn, 1)) : W p l e R s m args below meth c s.heap [] 0 0 (MQ below (QRi z) args s 0 0 NoF) (F0 m pc ls [.int v]) := by
  unfold zo at hm
  by_cases hc : v = 0 ∨ v = 1
  · rw [if_pos hc] at hm
    exact W.zret hx hb hr (nar_zo hc) (fun t ht _ => ⟨v, rfl, Option.some.inj hm, ht⟩) (fun _ h => nomatch h) hdg hlk
  · rw [if_neg hc] at hm; cases hm
theorem x_lretR {v z : Int64} (hx : p.tables.exec = Jvm.exec) (hb : c.code = cc) (hr : meth.sig.returnType = some .long) (hlk : meth.locks = false) (hm : some v = some z) (hdg : decode cc pc = .ok (.lreturn, 1)) : W p l e R s m args below meth c s.heap [] 0 0 (MQ below (QRl z) args s 0 0 NoF) (F0 m pc ls [.long v]) :=
  W.lret hx hb hr (fun t ht _ => ⟨v, rfl, Option.some.inj hm, ht⟩) (fun _ h => nomatch h) hdg hlk
theorem x_iretW {v : Int32} {u : σ} {z : Int32 × σ} (hx : p.tables.exec = Jvm.exec) (hb : c.code = cc) (hr : meth.sig.returnType = some .int) (hlk : meth.locks = false) (hK : va_K D classes (tyz cs) s) (hP : va_P D classes (wf u) H) (hD : va_D A (wf u)) (hS : va_S A s.heap H locs) (hm : some (v, u) = some z) (hdg : decode cc pc = .ok (.ireturn, 1)) : W p l e R s m args below meth c H locs 0 0 (MQ below (QWi D cs A wf z) args s 0 0 A) (F0 m pc ls [.int v]) :=
  W.iret hx hb hr (fun t ht hW => ⟨⟨v, u, rfl, Option.some.inj hm, by rw [ht]; exact hP, va_K.moved hW.alike hK, hD⟩, hS.F ht⟩) hS.2.2 hdg hlk
theorem x_zretW {v : Int32} {u : σ} {z : Int32 × σ} (hx : p.tables.exec = Jvm.exec) (hb : c.code = cc) (hr : meth.sig.returnType = some .boolean) (hlk : meth.locks = false) (hK : va_K D classes (tyz cs) s) (hP : va_P D classes (wf u) H) (hD : va_D A (wf u)) (hS : va_S A s.heap H locs) (hm : zo v (some (v, u)) = some z) (hdg : decode cc pc = .ok (.ireturn, 1)) : W p l e R s m args below meth c H locs 0 0 (MQ below (QWi D cs A wf z) args s 0 0 A) (F0 m pc ls [.int v]) := by
  unfold zo at hm
  by_cases hc : v = 0 ∨ v = 1
  · rw [if_pos hc] at hm
    exact W.zret hx hb hr (nar_zo hc) (fun t ht hW => ⟨⟨v, u, rfl, Option.some.inj hm, by rw [ht]; exact hP, va_K.moved hW.alike hK, hD⟩, hS.F ht⟩) hS.2.2 hdg hlk
  · rw [if_neg hc] at hm; cases hm
theorem x_lretW {v : Int64} {u : σ} {z : Int64 × σ} (hx : p.tables.exec = Jvm.exec) (hb : c.code = cc) (hr : meth.sig.returnType = some .long) (hlk : meth.locks = false) (hK : va_K D classes (tyz cs) s) (hP : va_P D classes (wf u) H) (hD : va_D A (wf u)) (hS : va_S A s.heap H locs) (hm : some (v, u) = some z) (hdg : decode cc pc = .ok (.lreturn, 1)) : W p l e R s m args below meth c H locs 0 0 (MQ below (QWl D cs A wf z) args s 0 0 A) (F0 m pc ls [.long v]) :=
  W.lret hx hb hr (fun t ht hW => ⟨⟨v, u, rfl, Option.some.inj hm, by rw [ht]; exact hP, va_K.moved hW.alike hK, hD⟩, hS.F ht⟩) hS.2.2 hdg hlk
theorem x_vretW {u z : σ} (hx : p.tables.exec = Jvm.exec) (hb : c.code = cc) (hr : meth.sig.returnType = none) (hlk : meth.locks = false) (hK : va_K D classes (tyz cs) s) (hP : va_P D classes (wf u) H) (hD : va_D A (wf u)) (hS : va_S A s.heap H locs) (hm : some u = some z) (hdg : decode cc pc = .ok (.return_, 1)) : W p l e R s m args below meth c H locs 0 0 (MQ below (QWv D cs A wf z) args s 0 0 A) (F0 m pc ls []) :=
  W.vret hx hb hr (fun t ht hW => ⟨⟨u, rfl, Option.some.inj hm, by rw [ht]; exact hP, va_K.moved hW.alike hK, hD⟩, hS.F ht⟩) hS.2.2 hdg hlk
end KE
end
section
section KY
variable {p : Program} {l : Launch} {e : Env} {R : Room} {s : State} {m : MethodId} {args : Array Value} {below : List Frame} {meth : Method} {c : Code} {H : Heap} {locs : List Loc} {cells slots : Nat} {Q : State → Prop} {cc : ByteArray} {pc : Nat} {ls : Array Slot} {rest : List Value} {β : Type} {z : β}
theorem x_iinc {nL i k : Nat} {n : Int} {x v0 : Int32} {lv : List (Nat × Value)} {lv' : Int32 → List (Nat × Value)} (hx : p.tables.exec = Jvm.exec) (hb : c.code = cc) (hdg : decode cc pc = .ok (.iinc i n, 3)) (h : lv_has ls nL lv) (hk : lv[k]? = some (i, .int x)) (hn : i < nL) (hv : Int32.ofInt n = v0) (hl : ∀ y, (i, Value.int y) :: lv.filter (fun q => !(q.1 == i) && !(q.1 + 1 == i && q.2.category == 2)) = lv' y) {kf : Int32 → Option β} (hm : nm (x + v0) kf = some z)
    (kk : ∀ (y : Int32) (ls1 : Array Slot), kf y = some z → lv_has ls1 nL (lv' y) → W p l e R s m args below meth c H locs cells slots Q (F0 m (pc + 3) ls1 rest)) : W p l e R s m args below meth c H locs cells slots Q (F0 m pc ls rest) :=
  lv_iinc (v := x + v0) hx hb hdg h hk (by rw [hv]) hn (hl _) (fun ls1 h1 => kk _ ls1 hm h1)
theorem lgc_le {x y : Int64} : lg_cmp x y ≤ 0 ↔ x ≤ y := by
  unfold lg_cmp
  have t : y < x ↔ y.toInt < x.toInt := Int64.lt_iff_toInt_lt
  have t2 : x ≤ y ↔ x.toInt ≤ y.toInt := Int64.le_iff_toInt_le
  by_cases h : y < x
  · rw [if_pos h]
    exact ⟨fun q => absurd q (by decide), fun q => by rw [t] at h; rw [t2] at q; omega⟩
  · rw [if_neg h]
    by_cases h2 : x = y
    · rw [if_pos h2]
      exact ⟨fun _ => by rw [t2, h2]; omega, fun _ => by decide⟩
    · rw [if_neg h2]
      exact ⟨fun _ => by rw [t] at h; rw [t2]; omega, fun _ => by decide⟩
theorem lgc_eq {x y : Int64} : lg_cmp x y = 0 ↔ x = y := by
  unfold lg_cmp
  have t : y < x ↔ y.toInt < x.toInt := Int64.lt_iff_toInt_lt
  by_cases h : y < x
  · rw [if_pos h]
    exact ⟨fun q => absurd q (by decide), fun q => by rw [t, q] at h; omega⟩
  · rw [if_neg h]
    by_cases h2 : x = y
    · rw [if_pos h2]
      exact ⟨fun _ => h2, fun _ => rfl⟩
    · rw [if_neg h2]
      exact ⟨fun q => absurd q (by decide), fun q => absurd q h2⟩
theorem x_lcmp_le (hx : p.tables.exec = Jvm.exec) (hb : c.code = cc) {x y : Int64} {off : Int} {tgt : Nat} (hdg : decode cc pc = .ok (.lcmp, 1)) (hdg2 : decode cc (pc + 1) = .ok (.ifCond .le off, 3)) (ht : ((pc + 1 : Nat) : Int) + off = (tgt : Int)) {a b : Option β} (hm : (if x ≤ y then a else b) = some z) (kt : a = some z → W p l e R s m args below meth c H locs cells slots Q (F0 m tgt ls rest)) (kf : b = some z → W p l e R s m args below meth c H locs cells slots Q (F0 m (pc + 1 + 3) ls rest)) : W p l e R s m args below meth c H locs cells slots Q (F0 m pc ls (.long y :: .long x :: rest)) :=
  W.lcmp hx hb hdg (lv_if_le hx hb hdg2 ht (fun h => kt (by rw [if_pos (lgc_le.mp h)] at hm; exact hm)) (fun h => kf (by rw [if_neg (fun q => h (lgc_le.mpr q))] at hm; exact hm)))
theorem x_lcmp_eq (hx : p.tables.exec = Jvm.exec) (hb : c.code = cc) {x y : Int64} {off : Int} {tgt : Nat} (hdg : decode cc pc = .ok (.lcmp, 1)) (hdg2 : decode cc (pc + 1) = .ok (.ifCond .eq off, 3)) (ht : ((pc + 1 : Nat) : Int) + off = (tgt : Int)) {a b : Option β} (hm : (if x = y then a else b) = some z) (kt : a = some z → W p l e R s m args below meth c H locs cells slots Q (F0 m tgt ls rest)) (kf : b = some z → W p l e R s m args below meth c H locs cells slots Q (F0 m (pc + 1 + 3) ls rest)) : W p l e R s m args below meth c H locs cells slots Q (F0 m pc ls (.long y :: .long x :: rest)) :=
  W.lcmp hx hb hdg (lv_if_eq hx hb hdg2 ht (fun h => kt (by rw [if_pos (lgc_eq.mp h)] at hm; exact hm)) (fun h => kf (by rw [if_neg (fun q => h (lgc_eq.mpr q))] at hm; exact hm)))
theorem x_lcmp_ne (hx : p.tables.exec = Jvm.exec) (hb : c.code = cc) {x y : Int64} {off : Int} {tgt : Nat} (hdg : decode cc pc = .ok (.lcmp, 1)) (hdg2 : decode cc (pc + 1) = .ok (.ifCond .ne off, 3)) (ht : ((pc + 1 : Nat) : Int) + off = (tgt : Int)) {a b : Option β} (hm : (if x = y then b else a) = some z) (kt : a = some z → W p l e R s m args below meth c H locs cells slots Q (F0 m tgt ls rest)) (kf : b = some z → W p l e R s m args below meth c H locs cells slots Q (F0 m (pc + 1 + 3) ls rest)) : W p l e R s m args below meth c H locs cells slots Q (F0 m pc ls (.long y :: .long x :: rest)) :=
  W.lcmp hx hb hdg (lv_if_ne hx hb hdg2 ht (fun h => kt (by rw [if_neg (fun q => h (lgc_eq.mpr q))] at hm; exact hm)) (fun h => kf (by rw [if_pos (lgc_eq.mp h)] at hm; exact hm)))
theorem sw_c {x k : Int32} {a b : Option β} (hm : (if x = k then a else b) = some z) : (x = k ∧ a = some z) ∨ (¬ x = k ∧ b = some z) := by
  by_cases h : x = k
  · rw [if_pos h] at hm; exact Or.inl ⟨h, hm⟩
  · rw [if_neg h] at hm; exact Or.inr ⟨h, hm⟩
end KY

theorem sw_out_0_4 {x : Int32} (h0 : ¬ x = (0 : Int32)) (h1 : ¬ x = (1 : Int32)) (h2 : ¬ x = (2 : Int32)) (h3 : ¬ x = (3 : Int32)) : x.toInt < 0 ∨ 3 < x.toInt := by
  have q0 := lv_neT h0 (show (0 : Int32).toInt = 0 by decide)
  have q1 := lv_neT h1 (show (1 : Int32).toInt = 1 by decide)
  have q2 := lv_neT h2 (show (2 : Int32).toInt = 2 by decide)
  have q3 := lv_neT h3 (show (3 : Int32).toInt = 3 by decide)
  omega
theorem sw_out_0_7 {x : Int32} (h0 : ¬ x = (0 : Int32)) (h1 : ¬ x = (1 : Int32)) (h2 : ¬ x = (2 : Int32)) (h3 : ¬ x = (3 : Int32)) (h4 : ¬ x = (4 : Int32)) (h5 : ¬ x = (5 : Int32)) (h6 : ¬ x = (6 : Int32)) : x.toInt < 0 ∨ 6 < x.toInt := by
  have q0 := lv_neT h0 (show (0 : Int32).toInt = 0 by decide)
  have q1 := lv_neT h1 (show (1 : Int32).toInt = 1 by decide)
  have q2 := lv_neT h2 (show (2 : Int32).toInt = 2 by decide)
  have q3 := lv_neT h3 (show (3 : Int32).toInt = 3 by decide)
  have q4 := lv_neT h4 (show (4 : Int32).toInt = 4 by decide)
  have q5 := lv_neT h5 (show (5 : Int32).toInt = 5 by decide)
  have q6 := lv_neT h6 (show (6 : Int32).toInt = 6 by decide)
  omega
theorem sw_out_1_5 {x : Int32} (h0 : ¬ x = (1 : Int32)) (h1 : ¬ x = (2 : Int32)) (h2 : ¬ x = (3 : Int32)) (h3 : ¬ x = (4 : Int32)) (h4 : ¬ x = (5 : Int32)) : x.toInt < 1 ∨ 5 < x.toInt := by
  have q0 := lv_neT h0 (show (1 : Int32).toInt = 1 by decide)
  have q1 := lv_neT h1 (show (2 : Int32).toInt = 2 by decide)
  have q2 := lv_neT h2 (show (3 : Int32).toInt = 3 by decide)
  have q3 := lv_neT h3 (show (4 : Int32).toInt = 4 by decide)
  have q4 := lv_neT h4 (show (5 : Int32).toInt = 5 by decide)
  omega
theorem sw_out_2_4 {x : Int32} (h0 : ¬ x = (2 : Int32)) (h1 : ¬ x = (3 : Int32)) (h2 : ¬ x = (4 : Int32)) (h3 : ¬ x = (5 : Int32)) : x.toInt < 2 ∨ 5 < x.toInt := by
  have q0 := lv_neT h0 (show (2 : Int32).toInt = 2 by decide)
  have q1 := lv_neT h1 (show (3 : Int32).toInt = 3 by decide)
  have q2 := lv_neT h2 (show (4 : Int32).toInt = 4 by decide)
  have q3 := lv_neT h3 (show (5 : Int32).toInt = 5 by decide)
  omega
abbrev MS : Type := (Nat → Nat → Int32) × (Nat → Int32) × (Nat → Int64)
def mI (S : MS) (k : Nat) (x : Int32) : MS := (S.1, (fun j => if j = k then x else S.2.1 j), S.2.2)
def mL (S : MS) (k : Nat) (x : Int64) : MS := (S.1, S.2.1, fun j => if j = k then x else S.2.2 j)
def mA (S : MS) (k i : Nat) (x : Int32) : MS := ((fun j => if j = k then upd (S.1 k) i x else S.1 j), S.2.1, S.2.2)
abbrev WM (cs : CS) (ad : Nat → Nat) (S : MS) : va_W := [((ad 22), .inr (11, [.ref (ad 0), .ref (ad 1), .ref (ad 2), .long (S.2.2 3), .long (S.2.2 4), .ref (ad 5), .int (S.2.1 6), .ref (ad 7), .int (S.2.1 8), .int (S.2.1 9), .int (S.2.1 10), .ref (ad 11), .int (S.2.1 12), .ref (ad 13), .int (S.2.1 14), .ref (ad 15), .ref (ad 16), .ref (ad 17), .int (S.2.1 18), .int (S.2.1 19), .ref (ad 20), .int (S.2.1 21)])), ((ad 0), .inl (cs 0, 288, .inl (S.1 0))), ((ad 1), .inl (cs 1, 2, .inl (S.1 1))), ((ad 2), .inl (cs 0, 3, .inl (S.1 2))), ((ad 5), .inl (cs 0, 150, .inl (S.1 5))), ((ad 7), .inl (cs 0, 21, .inl (S.1 7))), ((ad 11), .inl (cs 0, 24, .inl (S.1 11))), ((ad 13), .inl (cs 0, 8, .inl (S.1 13))), ((ad 15), .inl (cs 0, 7, .inl (S.1 15))), ((ad 16), .inl (cs 0, 7, .inl (S.1 16))), ((ad 17), .inl (cs 0, 7, .inl (S.1 17))), ((ad 20), .inl (cs 0, 6, .inl (S.1 20)))]
abbrev RS : Type := Int32 × (Nat → Int32)
abbrev MT : Type := (Nat → RS) × (Nat → Int32)
abbrev TX : Type := (Nat → Int32) × (Nat → Int32)
abbrev PA : Type := (Nat → Int32) × (Nat → Int32)
abbrev CT : Type := (Nat → MT) × TX × PA × (Nat → Int32) × (Nat → Int64)
def tR (M : MT) (i : Nat) (r : RS) : MT := ((fun j => if j = i then r else M.1 j), M.2)
def tI (M : MT) (k : Nat) (x : Int32) : MT := (M.1, fun j => if j = k then x else M.2 j)
def xI (T : TX) (k : Nat) (x : Int32) : TX := (T.1, fun j => if j = k then x else T.2 j)
def cM (C : CT) (i : Nat) (m : MT) : CT := ((fun j => if j = i then m else C.1 j), C.2)
def cT (C : CT) (t : TX) : CT := (C.1, t, C.2.2)
def cP (C : CT) (t : PA) : CT := (C.1, C.2.1, t, C.2.2.2)
def cI (C : CT) (k : Nat) (x : Int32) : CT := (C.1, C.2.1, C.2.2.1, (fun j => if j = k then x else C.2.2.2.1 j), C.2.2.2.2)
def cL (C : CT) (k : Nat) (x : Int64) : CT := (C.1, C.2.1, C.2.2.1, C.2.2.2.1, fun j => if j = k then x else C.2.2.2.2 j)
abbrev WR (cs : CS) (ad : Nat → Nat) (b : Nat) (mo wi : Int32) (nn : Nat) (S : RS) : va_W := [((ad b), .inr (7, [.int mo, .int wi, .ref (ad (b + 1)), .int (S.1)])), ((ad (b + 1)), .inl (cs 0, nn, .inl (S.2)))]
abbrev WR2 (cs : CS) (ad : Nat → Nat) (b b2 : Nat) (mo wi : Int32) (nn : Nat) (O : RS) (S : RS) : va_W := [((ad b), .inr (7, [.int mo, .int wi, .ref (ad (b + 1)), .int (S.1)])), ((ad (b + 1)), .inl (cs 0, nn, .inl (S.2))), ((ad b2), .inr (7, [.int mo, .int wi, .ref (ad (b2 + 1)), .int (O.1)])), ((ad (b2 + 1)), .inl (cs 0, nn, .inl (O.2)))]
abbrev WT (cs : CS) (ad : Nat → Nat) (b : Nat) (S : MT) : va_W := [((ad b), .inr (3, [.ref (ad 1), .ref (ad (b + 1)), .ref (ad (b + 2)), .ref (ad (b + 4)), .ref (ad (b + 6)), .ref (ad (b + 8)), .ref (ad (b + 10)), .int (S.2 7), .int (S.2 8), .int (S.2 9), .int (S.2 10)])), ((ad (b + 1)), .inr (6, [])), ((ad (b + 2)), .inr (7, [.int (6 : Int32), .int (4 : Int32), .ref (ad (b + 3)), .int ((S.1 0).1)])), ((ad (b + 3)), .inl (cs 0, 24, .inl ((S.1 0).2))), ((ad (b + 4)), .inr (7, [.int (4 : Int32), .int (2 : Int32), .ref (ad (b + 5)), .int ((S.1 1).1)])), ((ad (b + 5)), .inl (cs 0, 8, .inl ((S.1 1).2))), ((ad (b + 6)), .inr (7, [.int (6 : Int32), .int (3 : Int32), .ref (ad (b + 7)), .int ((S.1 2).1)])), ((ad (b + 7)), .inl (cs 0, 18, .inl ((S.1 2).2))), ((ad (b + 8)), .inr (7, [.int (6 : Int32), .int (2 : Int32), .ref (ad (b + 9)), .int ((S.1 3).1)])), ((ad (b + 9)), .inl (cs 0, 12, .inl ((S.1 3).2))), ((ad (b + 10)), .inr (7, [.int (8 : Int32), .int (3 : Int32), .ref (ad (b + 11)), .int ((S.1 4).1)])), ((ad (b + 11)), .inl (cs 0, 24, .inl ((S.1 4).2))), ((ad 1), .inl (cs 2, 6, .inr (.inr (.inr (.inr (fun k => some (ad (2 + k)))))))), ((ad 2), .inr (6, [])), ((ad 3), .inr (5, [])), ((ad 4), .inr (1, [])), ((ad 5), .inr (9, [])), ((ad 6), .inr (2, [])), ((ad 7), .inr (8, []))]
abbrev WT2 (cs : CS) (ad : Nat → Nat) (b b2 : Nat) (O : MT) (S : MT) : va_W := [((ad b), .inr (3, [.ref (ad 1), .ref (ad (b + 1)), .ref (ad (b + 2)), .ref (ad (b + 4)), .ref (ad (b + 6)), .ref (ad (b + 8)), .ref (ad (b + 10)), .int (S.2 7), .int (S.2 8), .int (S.2 9), .int (S.2 10)])), ((ad (b + 1)), .inr (6, [])), ((ad (b + 2)), .inr (7, [.int (6 : Int32), .int (4 : Int32), .ref (ad (b + 3)), .int ((S.1 0).1)])), ((ad (b + 3)), .inl (cs 0, 24, .inl ((S.1 0).2))), ((ad (b + 4)), .inr (7, [.int (4 : Int32), .int (2 : Int32), .ref (ad (b + 5)), .int ((S.1 1).1)])), ((ad (b + 5)), .inl (cs 0, 8, .inl ((S.1 1).2))), ((ad (b + 6)), .inr (7, [.int (6 : Int32), .int (3 : Int32), .ref (ad (b + 7)), .int ((S.1 2).1)])), ((ad (b + 7)), .inl (cs 0, 18, .inl ((S.1 2).2))), ((ad (b + 8)), .inr (7, [.int (6 : Int32), .int (2 : Int32), .ref (ad (b + 9)), .int ((S.1 3).1)])), ((ad (b + 9)), .inl (cs 0, 12, .inl ((S.1 3).2))), ((ad (b + 10)), .inr (7, [.int (8 : Int32), .int (3 : Int32), .ref (ad (b + 11)), .int ((S.1 4).1)])), ((ad (b + 11)), .inl (cs 0, 24, .inl ((S.1 4).2))), ((ad b2), .inr (3, [.ref (ad 1), .ref (ad (b2 + 1)), .ref (ad (b2 + 2)), .ref (ad (b2 + 4)), .ref (ad (b2 + 6)), .ref (ad (b2 + 8)), .ref (ad (b2 + 10)), .int (O.2 7), .int (O.2 8), .int (O.2 9), .int (O.2 10)])), ((ad (b2 + 1)), .inr (6, [])), ((ad (b2 + 2)), .inr (7, [.int (6 : Int32), .int (4 : Int32), .ref (ad (b2 + 3)), .int ((O.1 0).1)])), ((ad (b2 + 3)), .inl (cs 0, 24, .inl ((O.1 0).2))), ((ad (b2 + 4)), .inr (7, [.int (4 : Int32), .int (2 : Int32), .ref (ad (b2 + 5)), .int ((O.1 1).1)])), ((ad (b2 + 5)), .inl (cs 0, 8, .inl ((O.1 1).2))), ((ad (b2 + 6)), .inr (7, [.int (6 : Int32), .int (3 : Int32), .ref (ad (b2 + 7)), .int ((O.1 2).1)])), ((ad (b2 + 7)), .inl (cs 0, 18, .inl ((O.1 2).2))), ((ad (b2 + 8)), .inr (7, [.int (6 : Int32), .int (2 : Int32), .ref (ad (b2 + 9)), .int ((O.1 3).1)])), ((ad (b2 + 9)), .inl (cs 0, 12, .inl ((O.1 3).2))), ((ad (b2 + 10)), .inr (7, [.int (8 : Int32), .int (3 : Int32), .ref (ad (b2 + 11)), .int ((O.1 4).1)])), ((ad (b2 + 11)), .inl (cs 0, 24, .inl ((O.1 4).2)))]
section KL
variable {p : Program} {l : Launch} {e : Env} {R : Room} {s : State} {m : MethodId} {args : Array Value} {below : List Frame} {meth : Method} {c : Code} {H : Heap} {locs : List Loc} {cells slots : Nat} {Q : State → Prop} {cc : ByteArray} {pc : Nat} {ls : Array Slot} {rest : List Value} {D : va_G} {cs : CS} {ws : va_W} {A : Nat → Prop} {H0 : Heap} {β : Type} {z : β}
theorem gf_X10_32 (hx : p.tables.exec = Jvm.exec) (hb : c.code = cc) (hT : ∀ w ∈ gw_tbl, w.before args s = true) (hown : s.vm.findClass RX10 = some m.cls) (hK : va_K D classes (tyz cs) s) (hP : va_P D classes ws H) {a : Nat} (q0 : Nat) {fs : List Value} (he : ws[q0]? = some (a, .inr (10, fs))) {v : Value} (hv : fs[0]? = some v) (hdg : decode cc pc = .ok (.getfield 32, 3)) (kk : W p l e R s m args below meth c H locs cells slots Q (F0 m (pc + 3) ls (v :: rest))) : W p l e R s m args below meth c H locs cells slots Q (F0 m pc ls (.ref a :: rest)) :=
  va_get (C := RX10) (T := TX10) (N := 13) (ci := 10) hx hb hT inZ10 hown hK hP q0 he rfl 0 (by decide) (hT _ tw_192) (fun _ h => h) hv hdg kk
theorem gf_X10_36 (hx : p.tables.exec = Jvm.exec) (hb : c.code = cc) (hT : ∀ w ∈ gw_tbl, w.before args s = true) (hown : s.vm.findClass RX10 = some m.cls) (hK : va_K D classes (tyz cs) s) (hP : va_P D classes ws H) {a : Nat} (q0 : Nat) {fs : List Value} (he : ws[q0]? = some (a, .inr (10, fs))) {v : Value} (hv : fs[1]? = some v) (hdg : decode cc pc = .ok (.getfield 36, 3)) (kk : W p l e R s m args below meth c H locs cells slots Q (F0 m (pc + 3) ls (v :: rest))) : W p l e R s m args below meth c H locs cells slots Q (F0 m pc ls (.ref a :: rest)) :=
  va_get (C := RX10) (T := TX10) (N := 13) (ci := 10) hx hb hT inZ10 hown hK hP q0 he rfl 1 (by decide) (hT _ tw_193) (fun _ h => h) hv hdg kk
theorem gf_X10_39 (hx : p.tables.exec = Jvm.exec) (hb : c.code = cc) (hT : ∀ w ∈ gw_tbl, w.before args s = true) (hown : s.vm.findClass RX10 = some m.cls) (hK : va_K D classes (tyz cs) s) (hP : va_P D classes ws H) {a : Nat} (q0 : Nat) {fs : List Value} (he : ws[q0]? = some (a, .inr (10, fs))) {v : Value} (hv : fs[2]? = some v) (hdg : decode cc pc = .ok (.getfield 39, 3)) (kk : W p l e R s m args below meth c H locs cells slots Q (F0 m (pc + 3) ls (v :: rest))) : W p l e R s m args below meth c H locs cells slots Q (F0 m pc ls (.ref a :: rest)) :=
  va_get (C := RX10) (T := TX10) (N := 13) (ci := 10) hx hb hT inZ10 hown hK hP q0 he rfl 2 (by decide) (hT _ tw_194) (fun _ h => h) hv hdg kk
theorem gf_X10_42 (hx : p.tables.exec = Jvm.exec) (hb : c.code = cc) (hT : ∀ w ∈ gw_tbl, w.before args s = true) (hown : s.vm.findClass RX10 = some m.cls) (hK : va_K D classes (tyz cs) s) (hP : va_P D classes ws H) {a : Nat} (q0 : Nat) {fs : List Value} (he : ws[q0]? = some (a, .inr (10, fs))) {v : Value} (hv : fs[3]? = some v) (hdg : decode cc pc = .ok (.getfield 42, 3)) (kk : W p l e R s m args below meth c H locs cells slots Q (F0 m (pc + 3) ls (v :: rest))) : W p l e R s m args below meth c H locs cells slots Q (F0 m pc ls (.ref a :: rest)) :=
  va_get (C := RX10) (T := TX10) (N := 13) (ci := 10) hx hb hT inZ10 hown hK hP q0 he rfl 3 (by decide) (hT _ tw_195) (fun _ h => h) hv hdg kk
theorem gf_X10_48 (hx : p.tables.exec = Jvm.exec) (hb : c.code = cc) (hT : ∀ w ∈ gw_tbl, w.before args s = true) (hown : s.vm.findClass RX10 = some m.cls) (hK : va_K D classes (tyz cs) s) (hP : va_P D classes ws H) {a : Nat} (q0 : Nat) {fs : List Value} (he : ws[q0]? = some (a, .inr (10, fs))) {v : Value} (hv : fs[4]? = some v) (hdg : decode cc pc = .ok (.getfield 48, 3)) (kk : W p l e R s m args below meth c H locs cells slots Q (F0 m (pc + 3) ls (v :: rest))) : W p l e R s m args below meth c H locs cells slots Q (F0 m pc ls (.ref a :: rest)) :=
  va_get (C := RX10) (T := TX10) (N := 13) (ci := 10) hx hb hT inZ10 hown hK hP q0 he rfl 4 (by decide) (hT _ tw_196) (fun _ h => h) hv hdg kk
theorem gf_X10_55 (hx : p.tables.exec = Jvm.exec) (hb : c.code = cc) (hT : ∀ w ∈ gw_tbl, w.before args s = true) (hown : s.vm.findClass RX10 = some m.cls) (hK : va_K D classes (tyz cs) s) (hP : va_P D classes ws H) {a : Nat} (q0 : Nat) {fs : List Value} (he : ws[q0]? = some (a, .inr (10, fs))) {v : Value} (hv : fs[5]? = some v) (hdg : decode cc pc = .ok (.getfield 55, 3)) (kk : W p l e R s m args below meth c H locs cells slots Q (F0 m (pc + 3) ls (v :: rest))) : W p l e R s m args below meth c H locs cells slots Q (F0 m pc ls (.ref a :: rest)) :=
  va_get (C := RX10) (T := TX10) (N := 13) (ci := 10) hx hb hT inZ10 hown hK hP q0 he rfl 5 (by decide) (hT _ tw_197) (fun _ h => h) hv hdg kk
theorem gf_X10_59 (hx : p.tables.exec = Jvm.exec) (hb : c.code = cc) (hT : ∀ w ∈ gw_tbl, w.before args s = true) (hown : s.vm.findClass RX10 = some m.cls) (hK : va_K D classes (tyz cs) s) (hP : va_P D classes ws H) {a : Nat} (q0 : Nat) {fs : List Value} (he : ws[q0]? = some (a, .inr (10, fs))) {v : Value} (hv : fs[8]? = some v) (hdg : decode cc pc = .ok (.getfield 59, 3)) (kk : W p l e R s m args below meth c H locs cells slots Q (F0 m (pc + 3) ls (v :: rest))) : W p l e R s m args below meth c H locs cells slots Q (F0 m pc ls (.ref a :: rest)) :=
  va_get (C := RX10) (T := TX10) (N := 13) (ci := 10) hx hb hT inZ10 hown hK hP q0 he rfl 8 (by decide) (hT _ tw_200) (fun _ h => h) hv hdg kk
theorem pf_X10_59 (hx : p.tables.exec = Jvm.exec) (hb : c.code = cc) (hT : ∀ w ∈ gw_tbl, w.before args s = true) (hown : s.vm.findClass RX10 = some m.cls) (hK : va_K D classes (tyz cs) s) (hP : va_P D classes ws H) (hD : va_D A ws) (hS : va_S A H0 H locs) {a : Nat} (q0 : Nat) {fs : List Value} (he : ws[q0]? = some (a, .inr (10, fs))) {v : Value} (hl : 8 < fs.length) (hn : narrow .long v = v) (hf : fits .long v = true) {σ : Type} {u0 : σ} {wf : σ → va_W} (hw : ws.set q0 (a, .inr (10, fs.set 8 v)) = wf u0) {k : σ → Option β} (hm : nm u0 k = some z) (hdg : decode cc pc = .ok (.putfield 59, 3)) (kk : ∀ (u : σ) (H1 : Heap) (locs1 : List Loc), k u = some z → va_P D classes (wf u) H1 → va_D A (wf u) → va_S A H0 H1 locs1 → W p l e R s m args below meth c H1 locs1 cells slots Q (F0 m (pc + 3) ls rest)) : W p l e R s m args below meth c H locs cells slots Q (F0 m pc ls (v :: .ref a :: rest)) :=
  va_put (C := RX10) (T := TX10) (N := 13) (ci := 10) (ty := .long) hx hb hT inZ10 tyX10 tyX10_ok nmX10 hown hK hP hD hS q0 he rfl 8 (by decide) (hT _ tw_200) (fun _ h => h) rfl (by decide +kernel) hn hf hl hdg (fun H1 locs1 hP hD hS => kk u0 H1 locs1 hm (hw ▸ hP) (hw ▸ hD) hS)
theorem gf_X10_63 (hx : p.tables.exec = Jvm.exec) (hb : c.code = cc) (hT : ∀ w ∈ gw_tbl, w.before args s = true) (hown : s.vm.findClass RX10 = some m.cls) (hK : va_K D classes (tyz cs) s) (hP : va_P D classes ws H) {a : Nat} (q0 : Nat) {fs : List Value} (he : ws[q0]? = some (a, .inr (10, fs))) {v : Value} (hv : fs[9]? = some v) (hdg : decode cc pc = .ok (.getfield 63, 3)) (kk : W p l e R s m args below meth c H locs cells slots Q (F0 m (pc + 3) ls (v :: rest))) : W p l e R s m args below meth c H locs cells slots Q (F0 m pc ls (.ref a :: rest)) :=
  va_get (C := RX10) (T := TX10) (N := 13) (ci := 10) hx hb hT inZ10 hown hK hP q0 he rfl 9 (by decide) (hT _ tw_201) (fun _ h => h) hv hdg kk
theorem pf_X10_63 (hx : p.tables.exec = Jvm.exec) (hb : c.code = cc) (hT : ∀ w ∈ gw_tbl, w.before args s = true) (hown : s.vm.findClass RX10 = some m.cls) (hK : va_K D classes (tyz cs) s) (hP : va_P D classes ws H) (hD : va_D A ws) (hS : va_S A H0 H locs) {a : Nat} (q0 : Nat) {fs : List Value} (he : ws[q0]? = some (a, .inr (10, fs))) {v : Value} (hl : 9 < fs.length) (hn : narrow .long v = v) (hf : fits .long v = true) {σ : Type} {u0 : σ} {wf : σ → va_W} (hw : ws.set q0 (a, .inr (10, fs.set 9 v)) = wf u0) {k : σ → Option β} (hm : nm u0 k = some z) (hdg : decode cc pc = .ok (.putfield 63, 3)) (kk : ∀ (u : σ) (H1 : Heap) (locs1 : List Loc), k u = some z → va_P D classes (wf u) H1 → va_D A (wf u) → va_S A H0 H1 locs1 → W p l e R s m args below meth c H1 locs1 cells slots Q (F0 m (pc + 3) ls rest)) : W p l e R s m args below meth c H locs cells slots Q (F0 m pc ls (v :: .ref a :: rest)) :=
  va_put (C := RX10) (T := TX10) (N := 13) (ci := 10) (ty := .long) hx hb hT inZ10 tyX10 tyX10_ok nmX10 hown hK hP hD hS q0 he rfl 9 (by decide) (hT _ tw_201) (fun _ h => h) rfl (by decide +kernel) hn hf hl hdg (fun H1 locs1 hP hD hS => kk u0 H1 locs1 hm (hw ▸ hP) (hw ▸ hD) hS)
theorem gf_X10_74 (hx : p.tables.exec = Jvm.exec) (hb : c.code = cc) (hT : ∀ w ∈ gw_tbl, w.before args s = true) (hown : s.vm.findClass RX10 = some m.cls) (hK : va_K D classes (tyz cs) s) (hP : va_P D classes ws H) {a : Nat} (q0 : Nat) {fs : List Value} (he : ws[q0]? = some (a, .inr (3, fs))) {v : Value} (hv : fs[2]? = some v) (hdg : decode cc pc = .ok (.getfield 74, 3)) (kk : W p l e R s m args below meth c H locs cells slots Q (F0 m (pc + 3) ls (v :: rest))) : W p l e R s m args below meth c H locs cells slots Q (F0 m pc ls (.ref a :: rest)) :=
  va_get (C := RX3) (T := TX3) (N := 11) (ci := 3) hx hb hT inZ3 hown hK hP q0 he rfl 2 (by decide) (hT _ tw_107) (fun _ h => h) hv hdg kk
theorem gf_X10_78 (hx : p.tables.exec = Jvm.exec) (hb : c.code = cc) (hT : ∀ w ∈ gw_tbl, w.before args s = true) (hown : s.vm.findClass RX10 = some m.cls) (hK : va_K D classes (tyz cs) s) (hP : va_P D classes ws H) {a : Nat} (q0 : Nat) {fs : List Value} (he : ws[q0]? = some (a, .inr (7, fs))) {v : Value} (hv : fs[3]? = some v) (hdg : decode cc pc = .ok (.getfield 78, 3)) (kk : W p l e R s m args below meth c H locs cells slots Q (F0 m (pc + 3) ls (v :: rest))) : W p l e R s m args below meth c H locs cells slots Q (F0 m pc ls (.ref a :: rest)) :=
  va_get (C := RX7) (T := TX7) (N := 4) (ci := 7) hx hb hT inZ7 hown hK hP q0 he rfl 3 (by decide) (hT _ tw_91) (fun _ h => h) hv hdg kk
theorem gf_X10_99 (hx : p.tables.exec = Jvm.exec) (hb : c.code = cc) (hT : ∀ w ∈ gw_tbl, w.before args s = true) (hown : s.vm.findClass RX10 = some m.cls) (hK : va_K D classes (tyz cs) s) (hP : va_P D classes ws H) {a : Nat} (q0 : Nat) {fs : List Value} (he : ws[q0]? = some (a, .inr (3, fs))) {v : Value} (hv : fs[6]? = some v) (hdg : decode cc pc = .ok (.getfield 99, 3)) (kk : W p l e R s m args below meth c H locs cells slots Q (F0 m (pc + 3) ls (v :: rest))) : W p l e R s m args below meth c H locs cells slots Q (F0 m pc ls (.ref a :: rest)) :=
  va_get (C := RX3) (T := TX3) (N := 11) (ci := 3) hx hb hT inZ3 hown hK hP q0 he rfl 6 (by decide) (hT _ tw_118) (fun _ h => h) hv hdg kk
theorem gf_X10_105 (hx : p.tables.exec = Jvm.exec) (hb : c.code = cc) (hT : ∀ w ∈ gw_tbl, w.before args s = true) (hown : s.vm.findClass RX10 = some m.cls) (hK : va_K D classes (tyz cs) s) (hP : va_P D classes ws H) {a : Nat} (q0 : Nat) {fs : List Value} (he : ws[q0]? = some (a, .inr (3, fs))) {v : Value} (hv : fs[3]? = some v) (hdg : decode cc pc = .ok (.getfield 105, 3)) (kk : W p l e R s m args below meth c H locs cells slots Q (F0 m (pc + 3) ls (v :: rest))) : W p l e R s m args below meth c H locs cells slots Q (F0 m pc ls (.ref a :: rest)) :=
  va_get (C := RX3) (T := TX3) (N := 11) (ci := 3) hx hb hT inZ3 hown hK hP q0 he rfl 3 (by decide) (hT _ tw_111) (fun _ h => h) hv hdg kk
theorem gf_X10_111 (hx : p.tables.exec = Jvm.exec) (hb : c.code = cc) (hT : ∀ w ∈ gw_tbl, w.before args s = true) (hown : s.vm.findClass RX10 = some m.cls) (hK : va_K D classes (tyz cs) s) (hP : va_P D classes ws H) {a : Nat} (q0 : Nat) {fs : List Value} (he : ws[q0]? = some (a, .inr (0, fs))) {v : Value} (hv : fs[1]? = some v) (hdg : decode cc pc = .ok (.getfield 111, 3)) (kk : W p l e R s m args below meth c H locs cells slots Q (F0 m (pc + 3) ls (v :: rest))) : W p l e R s m args below meth c H locs cells slots Q (F0 m pc ls (.ref a :: rest)) :=
  va_get (C := RX0) (T := TX0) (N := 6) (ci := 0) hx hb hT inZ0 hown hK hP q0 he rfl 1 (by decide) (hT _ tw_161) (fun _ h => h) hv hdg kk
theorem pf_X10_111 (hx : p.tables.exec = Jvm.exec) (hb : c.code = cc) (hT : ∀ w ∈ gw_tbl, w.before args s = true) (hown : s.vm.findClass RX10 = some m.cls) (hK : va_K D classes (tyz cs) s) (hP : va_P D classes ws H) (hD : va_D A ws) (hS : va_S A H0 H locs) {a : Nat} (q0 : Nat) {fs : List Value} (he : ws[q0]? = some (a, .inr (0, fs))) {v : Value} (hl : 1 < fs.length) (hn : narrow .int v = v) (hf : fits .int v = true) {σ : Type} {u0 : σ} {wf : σ → va_W} (hw : ws.set q0 (a, .inr (0, fs.set 1 v)) = wf u0) {k : σ → Option β} (hm : nm u0 k = some z) (hdg : decode cc pc = .ok (.putfield 111, 3)) (kk : ∀ (u : σ) (H1 : Heap) (locs1 : List Loc), k u = some z → va_P D classes (wf u) H1 → va_D A (wf u) → va_S A H0 H1 locs1 → W p l e R s m args below meth c H1 locs1 cells slots Q (F0 m (pc + 3) ls rest)) : W p l e R s m args below meth c H locs cells slots Q (F0 m pc ls (v :: .ref a :: rest)) :=
  va_put (C := RX0) (T := TX0) (N := 6) (ci := 0) (ty := .int) hx hb hT inZ0 tyX0 tyX0_ok nmX0 hown hK hP hD hS q0 he rfl 1 (by decide) (hT _ tw_161) (fun _ h => h) rfl (by decide +kernel) hn hf hl hdg (fun H1 locs1 hP hD hS => kk u0 H1 locs1 hm (hw ▸ hP) (hw ▸ hD) hS)
theorem gf_X10_122 (hx : p.tables.exec = Jvm.exec) (hb : c.code = cc) (hT : ∀ w ∈ gw_tbl, w.before args s = true) (hown : s.vm.findClass RX10 = some m.cls) (hK : va_K D classes (tyz cs) s) (hP : va_P D classes ws H) {a : Nat} (q0 : Nat) {fs : List Value} (he : ws[q0]? = some (a, .inr (3, fs))) {v : Value} (hv : fs[8]? = some v) (hdg : decode cc pc = .ok (.getfield 122, 3)) (kk : W p l e R s m args below meth c H locs cells slots Q (F0 m (pc + 3) ls (v :: rest))) : W p l e R s m args below meth c H locs cells slots Q (F0 m pc ls (.ref a :: rest)) :=
  va_get (C := RX3) (T := TX3) (N := 11) (ci := 3) hx hb hT inZ3 hown hK hP q0 he rfl 8 (by decide) (hT _ tw_124) (fun _ h => h) hv hdg kk
theorem pf_X10_122 (hx : p.tables.exec = Jvm.exec) (hb : c.code = cc) (hT : ∀ w ∈ gw_tbl, w.before args s = true) (hown : s.vm.findClass RX10 = some m.cls) (hK : va_K D classes (tyz cs) s) (hP : va_P D classes ws H) (hD : va_D A ws) (hS : va_S A H0 H locs) {a : Nat} (q0 : Nat) {fs : List Value} (he : ws[q0]? = some (a, .inr (3, fs))) {v : Value} (hl : 8 < fs.length) (hn : narrow .int v = v) (hf : fits .int v = true) {σ : Type} {u0 : σ} {wf : σ → va_W} (hw : ws.set q0 (a, .inr (3, fs.set 8 v)) = wf u0) {k : σ → Option β} (hm : nm u0 k = some z) (hdg : decode cc pc = .ok (.putfield 122, 3)) (kk : ∀ (u : σ) (H1 : Heap) (locs1 : List Loc), k u = some z → va_P D classes (wf u) H1 → va_D A (wf u) → va_S A H0 H1 locs1 → W p l e R s m args below meth c H1 locs1 cells slots Q (F0 m (pc + 3) ls rest)) : W p l e R s m args below meth c H locs cells slots Q (F0 m pc ls (v :: .ref a :: rest)) :=
  va_put (C := RX3) (T := TX3) (N := 11) (ci := 3) (ty := .int) hx hb hT inZ3 tyX3 tyX3_ok nmX3 hown hK hP hD hS q0 he rfl 8 (by decide) (hT _ tw_124) (fun _ h => h) rfl (by decide +kernel) hn hf hl hdg (fun H1 locs1 hP hD hS => kk u0 H1 locs1 hm (hw ▸ hP) (hw ▸ hD) hS)
theorem gf_X10_144 (hx : p.tables.exec = Jvm.exec) (hb : c.code = cc) (hT : ∀ w ∈ gw_tbl, w.before args s = true) (hown : s.vm.findClass RX10 = some m.cls) (hK : va_K D classes (tyz cs) s) (hP : va_P D classes ws H) {a : Nat} (q0 : Nat) {fs : List Value} (he : ws[q0]? = some (a, .inr (3, fs))) {v : Value} (hv : fs[9]? = some v) (hdg : decode cc pc = .ok (.getfield 144, 3)) (kk : W p l e R s m args below meth c H locs cells slots Q (F0 m (pc + 3) ls (v :: rest))) : W p l e R s m args below meth c H locs cells slots Q (F0 m pc ls (.ref a :: rest)) :=
  va_get (C := RX3) (T := TX3) (N := 11) (ci := 3) hx hb hT inZ3 hown hK hP q0 he rfl 9 (by decide) (hT _ tw_127) (fun _ h => h) hv hdg kk
theorem pf_X10_144 (hx : p.tables.exec = Jvm.exec) (hb : c.code = cc) (hT : ∀ w ∈ gw_tbl, w.before args s = true) (hown : s.vm.findClass RX10 = some m.cls) (hK : va_K D classes (tyz cs) s) (hP : va_P D classes ws H) (hD : va_D A ws) (hS : va_S A H0 H locs) {a : Nat} (q0 : Nat) {fs : List Value} (he : ws[q0]? = some (a, .inr (3, fs))) {v : Value} (hl : 9 < fs.length) (hn : narrow .int v = v) (hf : fits .int v = true) {σ : Type} {u0 : σ} {wf : σ → va_W} (hw : ws.set q0 (a, .inr (3, fs.set 9 v)) = wf u0) {k : σ → Option β} (hm : nm u0 k = some z) (hdg : decode cc pc = .ok (.putfield 144, 3)) (kk : ∀ (u : σ) (H1 : Heap) (locs1 : List Loc), k u = some z → va_P D classes (wf u) H1 → va_D A (wf u) → va_S A H0 H1 locs1 → W p l e R s m args below meth c H1 locs1 cells slots Q (F0 m (pc + 3) ls rest)) : W p l e R s m args below meth c H locs cells slots Q (F0 m pc ls (v :: .ref a :: rest)) :=
  va_put (C := RX3) (T := TX3) (N := 11) (ci := 3) (ty := .int) hx hb hT inZ3 tyX3 tyX3_ok nmX3 hown hK hP hD hS q0 he rfl 9 (by decide) (hT _ tw_127) (fun _ h => h) rfl (by decide +kernel) hn hf hl hdg (fun H1 locs1 hP hD hS => kk u0 H1 locs1 hm (hw ▸ hP) (hw ▸ hD) hS)
theorem gf_X10_154 (hx : p.tables.exec = Jvm.exec) (hb : c.code = cc) (hT : ∀ w ∈ gw_tbl, w.before args s = true) (hown : s.vm.findClass RX10 = some m.cls) (hK : va_K D classes (tyz cs) s) (hP : va_P D classes ws H) {a : Nat} (q0 : Nat) {fs : List Value} (he : ws[q0]? = some (a, .inr (3, fs))) {v : Value} (hv : fs[10]? = some v) (hdg : decode cc pc = .ok (.getfield 154, 3)) (kk : W p l e R s m args below meth c H locs cells slots Q (F0 m (pc + 3) ls (v :: rest))) : W p l e R s m args below meth c H locs cells slots Q (F0 m pc ls (.ref a :: rest)) :=
  va_get (C := RX3) (T := TX3) (N := 11) (ci := 3) hx hb hT inZ3 hown hK hP q0 he rfl 10 (by decide) (hT _ tw_129) (fun _ h => h) hv hdg kk
theorem pf_X10_154 (hx : p.tables.exec = Jvm.exec) (hb : c.code = cc) (hT : ∀ w ∈ gw_tbl, w.before args s = true) (hown : s.vm.findClass RX10 = some m.cls) (hK : va_K D classes (tyz cs) s) (hP : va_P D classes ws H) (hD : va_D A ws) (hS : va_S A H0 H locs) {a : Nat} (q0 : Nat) {fs : List Value} (he : ws[q0]? = some (a, .inr (3, fs))) {v : Value} (hl : 10 < fs.length) (hn : narrow .int v = v) (hf : fits .int v = true) {σ : Type} {u0 : σ} {wf : σ → va_W} (hw : ws.set q0 (a, .inr (3, fs.set 10 v)) = wf u0) {k : σ → Option β} (hm : nm u0 k = some z) (hdg : decode cc pc = .ok (.putfield 154, 3)) (kk : ∀ (u : σ) (H1 : Heap) (locs1 : List Loc), k u = some z → va_P D classes (wf u) H1 → va_D A (wf u) → va_S A H0 H1 locs1 → W p l e R s m args below meth c H1 locs1 cells slots Q (F0 m (pc + 3) ls rest)) : W p l e R s m args below meth c H locs cells slots Q (F0 m pc ls (v :: .ref a :: rest)) :=
  va_put (C := RX3) (T := TX3) (N := 11) (ci := 3) (ty := .int) hx hb hT inZ3 tyX3 tyX3_ok nmX3 hown hK hP hD hS q0 he rfl 10 (by decide) (hT _ tw_129) (fun _ h => h) rfl (by decide +kernel) hn hf hl hdg (fun H1 locs1 hP hD hS => kk u0 H1 locs1 hm (hw ▸ hP) (hw ▸ hD) hS)
theorem gf_X10_172 (hx : p.tables.exec = Jvm.exec) (hb : c.code = cc) (hT : ∀ w ∈ gw_tbl, w.before args s = true) (hown : s.vm.findClass RX10 = some m.cls) (hK : va_K D classes (tyz cs) s) (hP : va_P D classes ws H) {a : Nat} (q0 : Nat) {fs : List Value} (he : ws[q0]? = some (a, .inr (3, fs))) {v : Value} (hv : fs[7]? = some v) (hdg : decode cc pc = .ok (.getfield 172, 3)) (kk : W p l e R s m args below meth c H locs cells slots Q (F0 m (pc + 3) ls (v :: rest))) : W p l e R s m args below meth c H locs cells slots Q (F0 m pc ls (.ref a :: rest)) :=
  va_get (C := RX3) (T := TX3) (N := 11) (ci := 3) hx hb hT inZ3 hown hK hP q0 he rfl 7 (by decide) (hT _ tw_121) (fun _ h => h) hv hdg kk
theorem gf_X10_212 (hx : p.tables.exec = Jvm.exec) (hb : c.code = cc) (hT : ∀ w ∈ gw_tbl, w.before args s = true) (hown : s.vm.findClass RX10 = some m.cls) (hK : va_K D classes (tyz cs) s) (hP : va_P D classes ws H) {a : Nat} (q0 : Nat) {fs : List Value} (he : ws[q0]? = some (a, .inr (3, fs))) {v : Value} (hv : fs[4]? = some v) (hdg : decode cc pc = .ok (.getfield 212, 3)) (kk : W p l e R s m args below meth c H locs cells slots Q (F0 m (pc + 3) ls (v :: rest))) : W p l e R s m args below meth c H locs cells slots Q (F0 m pc ls (.ref a :: rest)) :=
  va_get (C := RX3) (T := TX3) (N := 11) (ci := 3) hx hb hT inZ3 hown hK hP q0 he rfl 4 (by decide) (hT _ tw_114) (fun _ h => h) hv hdg kk
theorem gf_X10_215 (hx : p.tables.exec = Jvm.exec) (hb : c.code = cc) (hT : ∀ w ∈ gw_tbl, w.before args s = true) (hown : s.vm.findClass RX10 = some m.cls) (hK : va_K D classes (tyz cs) s) (hP : va_P D classes ws H) {a : Nat} (q0 : Nat) {fs : List Value} (he : ws[q0]? = some (a, .inr (3, fs))) {v : Value} (hv : fs[5]? = some v) (hdg : decode cc pc = .ok (.getfield 215, 3)) (kk : W p l e R s m args below meth c H locs cells slots Q (F0 m (pc + 3) ls (v :: rest))) : W p l e R s m args below meth c H locs cells slots Q (F0 m pc ls (.ref a :: rest)) :=
  va_get (C := RX3) (T := TX3) (N := 11) (ci := 3) hx hb hT inZ3 hown hK hP q0 he rfl 5 (by decide) (hT _ tw_116) (fun _ h => h) hv hdg kk
theorem gf_X10_256 (hx : p.tables.exec = Jvm.exec) (hb : c.code = cc) (hT : ∀ w ∈ gw_tbl, w.before args s = true) (hown : s.vm.findClass RX10 = some m.cls) (hK : va_K D classes (tyz cs) s) (hP : va_P D classes ws H) {a : Nat} (q0 : Nat) {fs : List Value} (he : ws[q0]? = some (a, .inr (10, fs))) {v : Value} (hv : fs[6]? = some v) (hdg : decode cc pc = .ok (.getfield 256, 3)) (kk : W p l e R s m args below meth c H locs cells slots Q (F0 m (pc + 3) ls (v :: rest))) : W p l e R s m args below meth c H locs cells slots Q (F0 m pc ls (.ref a :: rest)) :=
  va_get (C := RX10) (T := TX10) (N := 13) (ci := 10) hx hb hT inZ10 hown hK hP q0 he rfl 6 (by decide) (hT _ tw_198) (fun _ h => h) hv hdg kk
theorem pf_X10_256 (hx : p.tables.exec = Jvm.exec) (hb : c.code = cc) (hT : ∀ w ∈ gw_tbl, w.before args s = true) (hown : s.vm.findClass RX10 = some m.cls) (hK : va_K D classes (tyz cs) s) (hP : va_P D classes ws H) (hD : va_D A ws) (hS : va_S A H0 H locs) {a : Nat} (q0 : Nat) {fs : List Value} (he : ws[q0]? = some (a, .inr (10, fs))) {v : Value} (hl : 6 < fs.length) (hn : narrow .boolean v = v) (hf : fits .boolean v = true) {σ : Type} {u0 : σ} {wf : σ → va_W} (hw : ws.set q0 (a, .inr (10, fs.set 6 v)) = wf u0) {k : σ → Option β} (hm : nm u0 k = some z) (hdg : decode cc pc = .ok (.putfield 256, 3)) (kk : ∀ (u : σ) (H1 : Heap) (locs1 : List Loc), k u = some z → va_P D classes (wf u) H1 → va_D A (wf u) → va_S A H0 H1 locs1 → W p l e R s m args below meth c H1 locs1 cells slots Q (F0 m (pc + 3) ls rest)) : W p l e R s m args below meth c H locs cells slots Q (F0 m pc ls (v :: .ref a :: rest)) :=
  va_put (C := RX10) (T := TX10) (N := 13) (ci := 10) (ty := .boolean) hx hb hT inZ10 tyX10 tyX10_ok nmX10 hown hK hP hD hS q0 he rfl 6 (by decide) (hT _ tw_198) (fun _ h => h) rfl (by decide +kernel) hn hf hl hdg (fun H1 locs1 hP hD hS => kk u0 H1 locs1 hm (hw ▸ hP) (hw ▸ hD) hS)
theorem gf_X10_260 (hx : p.tables.exec = Jvm.exec) (hb : c.code = cc) (hT : ∀ w ∈ gw_tbl, w.before args s = true) (hown : s.vm.findClass RX10 = some m.cls) (hK : va_K D classes (tyz cs) s) (hP : va_P D classes ws H) {a : Nat} (q0 : Nat) {fs : List Value} (he : ws[q0]? = some (a, .inr (10, fs))) {v : Value} (hv : fs[7]? = some v) (hdg : decode cc pc = .ok (.getfield 260, 3)) (kk : W p l e R s m args below meth c H locs cells slots Q (F0 m (pc + 3) ls (v :: rest))) : W p l e R s m args below meth c H locs cells slots Q (F0 m pc ls (.ref a :: rest)) :=
  va_get (C := RX10) (T := TX10) (N := 13) (ci := 10) hx hb hT inZ10 hown hK hP q0 he rfl 7 (by decide) (hT _ tw_199) (fun _ h => h) hv hdg kk
theorem pf_X10_260 (hx : p.tables.exec = Jvm.exec) (hb : c.code = cc) (hT : ∀ w ∈ gw_tbl, w.before args s = true) (hown : s.vm.findClass RX10 = some m.cls) (hK : va_K D classes (tyz cs) s) (hP : va_P D classes ws H) (hD : va_D A ws) (hS : va_S A H0 H locs) {a : Nat} (q0 : Nat) {fs : List Value} (he : ws[q0]? = some (a, .inr (10, fs))) {v : Value} (hl : 7 < fs.length) (hn : narrow .boolean v = v) (hf : fits .boolean v = true) {σ : Type} {u0 : σ} {wf : σ → va_W} (hw : ws.set q0 (a, .inr (10, fs.set 7 v)) = wf u0) {k : σ → Option β} (hm : nm u0 k = some z) (hdg : decode cc pc = .ok (.putfield 260, 3)) (kk : ∀ (u : σ) (H1 : Heap) (locs1 : List Loc), k u = some z → va_P D classes (wf u) H1 → va_D A (wf u) → va_S A H0 H1 locs1 → W p l e R s m args below meth c H1 locs1 cells slots Q (F0 m (pc + 3) ls rest)) : W p l e R s m args below meth c H locs cells slots Q (F0 m pc ls (v :: .ref a :: rest)) :=
  va_put (C := RX10) (T := TX10) (N := 13) (ci := 10) (ty := .boolean) hx hb hT inZ10 tyX10 tyX10_ok nmX10 hown hK hP hD hS q0 he rfl 7 (by decide) (hT _ tw_199) (fun _ h => h) rfl (by decide +kernel) hn hf hl hdg (fun H1 locs1 hP hD hS => kk u0 H1 locs1 hm (hw ▸ hP) (hw ▸ hD) hS)
theorem gf_X10_263 (hx : p.tables.exec = Jvm.exec) (hb : c.code = cc) (hT : ∀ w ∈ gw_tbl, w.before args s = true) (hown : s.vm.findClass RX10 = some m.cls) (hK : va_K D classes (tyz cs) s) (hP : va_P D classes ws H) {a : Nat} (q0 : Nat) {fs : List Value} (he : ws[q0]? = some (a, .inr (10, fs))) {v : Value} (hv : fs[10]? = some v) (hdg : decode cc pc = .ok (.getfield 263, 3)) (kk : W p l e R s m args below meth c H locs cells slots Q (F0 m (pc + 3) ls (v :: rest))) : W p l e R s m args below meth c H locs cells slots Q (F0 m pc ls (.ref a :: rest)) :=
  va_get (C := RX10) (T := TX10) (N := 13) (ci := 10) hx hb hT inZ10 hown hK hP q0 he rfl 10 (by decide) (hT _ tw_202) (fun _ h => h) hv hdg kk
theorem pf_X10_263 (hx : p.tables.exec = Jvm.exec) (hb : c.code = cc) (hT : ∀ w ∈ gw_tbl, w.before args s = true) (hown : s.vm.findClass RX10 = some m.cls) (hK : va_K D classes (tyz cs) s) (hP : va_P D classes ws H) (hD : va_D A ws) (hS : va_S A H0 H locs) {a : Nat} (q0 : Nat) {fs : List Value} (he : ws[q0]? = some (a, .inr (10, fs))) {v : Value} (hl : 10 < fs.length) (hn : narrow .int v = v) (hf : fits .int v = true) {σ : Type} {u0 : σ} {wf : σ → va_W} (hw : ws.set q0 (a, .inr (10, fs.set 10 v)) = wf u0) {k : σ → Option β} (hm : nm u0 k = some z) (hdg : decode cc pc = .ok (.putfield 263, 3)) (kk : ∀ (u : σ) (H1 : Heap) (locs1 : List Loc), k u = some z → va_P D classes (wf u) H1 → va_D A (wf u) → va_S A H0 H1 locs1 → W p l e R s m args below meth c H1 locs1 cells slots Q (F0 m (pc + 3) ls rest)) : W p l e R s m args below meth c H locs cells slots Q (F0 m pc ls (v :: .ref a :: rest)) :=
  va_put (C := RX10) (T := TX10) (N := 13) (ci := 10) (ty := .int) hx hb hT inZ10 tyX10 tyX10_ok nmX10 hown hK hP hD hS q0 he rfl 10 (by decide) (hT _ tw_202) (fun _ h => h) rfl (by decide +kernel) hn hf hl hdg (fun H1 locs1 hP hD hS => kk u0 H1 locs1 hm (hw ▸ hP) (hw ▸ hD) hS)
theorem gf_X10_266 (hx : p.tables.exec = Jvm.exec) (hb : c.code = cc) (hT : ∀ w ∈ gw_tbl, w.before args s = true) (hown : s.vm.findClass RX10 = some m.cls) (hK : va_K D classes (tyz cs) s) (hP : va_P D classes ws H) {a : Nat} (q0 : Nat) {fs : List Value} (he : ws[q0]? = some (a, .inr (10, fs))) {v : Value} (hv : fs[11]? = some v) (hdg : decode cc pc = .ok (.getfield 266, 3)) (kk : W p l e R s m args below meth c H locs cells slots Q (F0 m (pc + 3) ls (v :: rest))) : W p l e R s m args below meth c H locs cells slots Q (F0 m pc ls (.ref a :: rest)) :=
  va_get (C := RX10) (T := TX10) (N := 13) (ci := 10) hx hb hT inZ10 hown hK hP q0 he rfl 11 (by decide) (hT _ tw_203) (fun _ h => h) hv hdg kk
theorem pf_X10_266 (hx : p.tables.exec = Jvm.exec) (hb : c.code = cc) (hT : ∀ w ∈ gw_tbl, w.before args s = true) (hown : s.vm.findClass RX10 = some m.cls) (hK : va_K D classes (tyz cs) s) (hP : va_P D classes ws H) (hD : va_D A ws) (hS : va_S A H0 H locs) {a : Nat} (q0 : Nat) {fs : List Value} (he : ws[q0]? = some (a, .inr (10, fs))) {v : Value} (hl : 11 < fs.length) (hn : narrow .int v = v) (hf : fits .int v = true) {σ : Type} {u0 : σ} {wf : σ → va_W} (hw : ws.set q0 (a, .inr (10, fs.set 11 v)) = wf u0) {k : σ → Option β} (hm : nm u0 k = some z) (hdg : decode cc pc = .ok (.putfield 266, 3)) (kk : ∀ (u : σ) (H1 : Heap) (locs1 : List Loc), k u = some z → va_P D classes (wf u) H1 → va_D A (wf u) → va_S A H0 H1 locs1 → W p l e R s m args below meth c H1 locs1 cells slots Q (F0 m (pc + 3) ls rest)) : W p l e R s m args below meth c H locs cells slots Q (F0 m pc ls (v :: .ref a :: rest)) :=
  va_put (C := RX10) (T := TX10) (N := 13) (ci := 10) (ty := .int) hx hb hT inZ10 tyX10 tyX10_ok nmX10 hown hK hP hD hS q0 he rfl 11 (by decide) (hT _ tw_203) (fun _ h => h) rfl (by decide +kernel) hn hf hl hdg (fun H1 locs1 hP hD hS => kk u0 H1 locs1 hm (hw ▸ hP) (hw ▸ hD) hS)
theorem gf_X10_269 (hx : p.tables.exec = Jvm.exec) (hb : c.code = cc) (hT : ∀ w ∈ gw_tbl, w.before args s = true) (hown : s.vm.findClass RX10 = some m.cls) (hK : va_K D classes (tyz cs) s) (hP : va_P D classes ws H) {a : Nat} (q0 : Nat) {fs : List Value} (he : ws[q0]? = some (a, .inr (10, fs))) {v : Value} (hv : fs[12]? = some v) (hdg : decode cc pc = .ok (.getfield 269, 3)) (kk : W p l e R s m args below meth c H locs cells slots Q (F0 m (pc + 3) ls (v :: rest))) : W p l e R s m args below meth c H locs cells slots Q (F0 m pc ls (.ref a :: rest)) :=
  va_get (C := RX10) (T := TX10) (N := 13) (ci := 10) hx hb hT inZ10 hown hK hP q0 he rfl 12 (by decide) (hT _ tw_204) (fun _ h => h) hv hdg kk
theorem pf_X10_269 (hx : p.tables.exec = Jvm.exec) (hb : c.code = cc) (hT : ∀ w ∈ gw_tbl, w.before args s = true) (hown : s.vm.findClass RX10 = some m.cls) (hK : va_K D classes (tyz cs) s) (hP : va_P D classes ws H) (hD : va_D A ws) (hS : va_S A H0 H locs) {a : Nat} (q0 : Nat) {fs : List Value} (he : ws[q0]? = some (a, .inr (10, fs))) {v : Value} (hl : 12 < fs.length) (hn : narrow .int v = v) (hf : fits .int v = true) {σ : Type} {u0 : σ} {wf : σ → va_W} (hw : ws.set q0 (a, .inr (10, fs.set 12 v)) = wf u0) {k : σ → Option β} (hm : nm u0 k = some z) (hdg : decode cc pc = .ok (.putfield 269, 3)) (kk : ∀ (u : σ) (H1 : Heap) (locs1 : List Loc), k u = some z → va_P D classes (wf u) H1 → va_D A (wf u) → va_S A H0 H1 locs1 → W p l e R s m args below meth c H1 locs1 cells slots Q (F0 m (pc + 3) ls rest)) : W p l e R s m args below meth c H locs cells slots Q (F0 m pc ls (v :: .ref a :: rest)) :=
  va_put (C := RX10) (T := TX10) (N := 13) (ci := 10) (ty := .int) hx hb hT inZ10 tyX10 tyX10_ok nmX10 hown hK hP hD hS q0 he rfl 12 (by decide) (hT _ tw_204) (fun _ h => h) rfl (by decide +kernel) hn hf hl hdg (fun H1 locs1 hP hD hS => kk u0 H1 locs1 hm (hw ▸ hP) (hw ▸ hD) hS)
theorem gf_X3_9 (hx : p.tables.exec = Jvm.exec) (hb : c.code = cc) (hT : ∀ w ∈ gw_tbl, w.before args s = true) (hown : s.vm.findClass RX3 = some m.cls) (hK : va_K D classes (tyz cs) s) (hP : va_P D classes ws H) {a : Nat} (q0 : Nat) {fs : List Value} (he : ws[q0]? = some (a, .inr (3, fs))) {v : Value} (hv : fs[0]? = some v) (hdg : decode cc pc = .ok (.getfield 9, 3)) (kk : W p l e R s m args below meth c H locs cells slots Q (F0 m (pc + 3) ls (v :: rest))) : W p l e R s m args below meth c H locs cells slots Q (F0 m pc ls (.ref a :: rest)) :=
  va_get (C := RX3) (T := TX3) (N := 11) (ci := 3) hx hb hT inZ3 hown hK hP q0 he rfl 0 (by decide) (hT _ tw_104) (fun _ h => h) hv hdg kk
theorem gf_X3_18 (hx : p.tables.exec = Jvm.exec) (hb : c.code = cc) (hT : ∀ w ∈ gw_tbl, w.before args s = true) (hown : s.vm.findClass RX3 = some m.cls) (hK : va_K D classes (tyz cs) s) (hP : va_P D classes ws H) {a : Nat} (q0 : Nat) {fs : List Value} (he : ws[q0]? = some (a, .inr (3, fs))) {v : Value} (hv : fs[1]? = some v) (hdg : decode cc pc = .ok (.getfield 18, 3)) (kk : W p l e R s m args below meth c H locs cells slots Q (F0 m (pc + 3) ls (v :: rest))) : W p l e R s m args below meth c H locs cells slots Q (F0 m pc ls (.ref a :: rest)) :=
  va_get (C := RX3) (T := TX3) (N := 11) (ci := 3) hx hb hT inZ3 hown hK hP q0 he rfl 1 (by decide) (hT _ tw_105) (fun _ h => h) hv hdg kk
theorem gf_X3_27 (hx : p.tables.exec = Jvm.exec) (hb : c.code = cc) (hT : ∀ w ∈ gw_tbl, w.before args s = true) (hown : s.vm.findClass RX3 = some m.cls) (hK : va_K D classes (tyz cs) s) (hP : va_P D classes ws H) {a : Nat} (q0 : Nat) {fs : List Value} (he : ws[q0]? = some (a, .inr (3, fs))) {v : Value} (hv : fs[2]? = some v) (hdg : decode cc pc = .ok (.getfield 27, 3)) (kk : W p l e R s m args below meth c H locs cells slots Q (F0 m (pc + 3) ls (v :: rest))) : W p l e R s m args below meth c H locs cells slots Q (F0 m pc ls (.ref a :: rest)) :=
  va_get (C := RX3) (T := TX3) (N := 11) (ci := 3) hx hb hT inZ3 hown hK hP q0 he rfl 2 (by decide) (hT _ tw_106) (fun _ h => h) hv hdg kk
theorem gf_X3_31 (hx : p.tables.exec = Jvm.exec) (hb : c.code = cc) (hT : ∀ w ∈ gw_tbl, w.before args s = true) (hown : s.vm.findClass RX3 = some m.cls) (hK : va_K D classes (tyz cs) s) (hP : va_P D classes ws H) {a : Nat} (q0 : Nat) {fs : List Value} (he : ws[q0]? = some (a, .inr (3, fs))) {v : Value} (hv : fs[3]? = some v) (hdg : decode cc pc = .ok (.getfield 31, 3)) (kk : W p l e R s m args below meth c H locs cells slots Q (F0 m (pc + 3) ls (v :: rest))) : W p l e R s m args below meth c H locs cells slots Q (F0 m pc ls (.ref a :: rest)) :=
  va_get (C := RX3) (T := TX3) (N := 11) (ci := 3) hx hb hT inZ3 hown hK hP q0 he rfl 3 (by decide) (hT _ tw_110) (fun _ h => h) hv hdg kk
theorem gf_X3_34 (hx : p.tables.exec = Jvm.exec) (hb : c.code = cc) (hT : ∀ w ∈ gw_tbl, w.before args s = true) (hown : s.vm.findClass RX3 = some m.cls) (hK : va_K D classes (tyz cs) s) (hP : va_P D classes ws H) {a : Nat} (q0 : Nat) {fs : List Value} (he : ws[q0]? = some (a, .inr (3, fs))) {v : Value} (hv : fs[4]? = some v) (hdg : decode cc pc = .ok (.getfield 34, 3)) (kk : W p l e R s m args below meth c H locs cells slots Q (F0 m (pc + 3) ls (v :: rest))) : W p l e R s m args below meth c H locs cells slots Q (F0 m pc ls (.ref a :: rest)) :=
  va_get (C := RX3) (T := TX3) (N := 11) (ci := 3) hx hb hT inZ3 hown hK hP q0 he rfl 4 (by decide) (hT _ tw_113) (fun _ h => h) hv hdg kk
theorem gf_X3_37 (hx : p.tables.exec = Jvm.exec) (hb : c.code = cc) (hT : ∀ w ∈ gw_tbl, w.before args s = true) (hown : s.vm.findClass RX3 = some m.cls) (hK : va_K D classes (tyz cs) s) (hP : va_P D classes ws H) {a : Nat} (q0 : Nat) {fs : List Value} (he : ws[q0]? = some (a, .inr (3, fs))) {v : Value} (hv : fs[5]? = some v) (hdg : decode cc pc = .ok (.getfield 37, 3)) (kk : W p l e R s m args below meth c H locs cells slots Q (F0 m (pc + 3) ls (v :: rest))) : W p l e R s m args below meth c H locs cells slots Q (F0 m pc ls (.ref a :: rest)) :=
  va_get (C := RX3) (T := TX3) (N := 11) (ci := 3) hx hb hT inZ3 hown hK hP q0 he rfl 5 (by decide) (hT _ tw_115) (fun _ h => h) hv hdg kk
theorem gf_X3_40 (hx : p.tables.exec = Jvm.exec) (hb : c.code = cc) (hT : ∀ w ∈ gw_tbl, w.before args s = true) (hown : s.vm.findClass RX3 = some m.cls) (hK : va_K D classes (tyz cs) s) (hP : va_P D classes ws H) {a : Nat} (q0 : Nat) {fs : List Value} (he : ws[q0]? = some (a, .inr (3, fs))) {v : Value} (hv : fs[6]? = some v) (hdg : decode cc pc = .ok (.getfield 40, 3)) (kk : W p l e R s m args below meth c H locs cells slots Q (F0 m (pc + 3) ls (v :: rest))) : W p l e R s m args below meth c H locs cells slots Q (F0 m pc ls (.ref a :: rest)) :=
  va_get (C := RX3) (T := TX3) (N := 11) (ci := 3) hx hb hT inZ3 hown hK hP q0 he rfl 6 (by decide) (hT _ tw_117) (fun _ h => h) hv hdg kk
theorem gf_X3_43 (hx : p.tables.exec = Jvm.exec) (hb : c.code = cc) (hT : ∀ w ∈ gw_tbl, w.before args s = true) (hown : s.vm.findClass RX3 = some m.cls) (hK : va_K D classes (tyz cs) s) (hP : va_P D classes ws H) {a : Nat} (q0 : Nat) {fs : List Value} (he : ws[q0]? = some (a, .inr (3, fs))) {v : Value} (hv : fs[7]? = some v) (hdg : decode cc pc = .ok (.getfield 43, 3)) (kk : W p l e R s m args below meth c H locs cells slots Q (F0 m (pc + 3) ls (v :: rest))) : W p l e R s m args below meth c H locs cells slots Q (F0 m pc ls (.ref a :: rest)) :=
  va_get (C := RX3) (T := TX3) (N := 11) (ci := 3) hx hb hT inZ3 hown hK hP q0 he rfl 7 (by decide) (hT _ tw_119) (fun _ h => h) hv hdg kk
theorem pf_X3_43 (hx : p.tables.exec = Jvm.exec) (hb : c.code = cc) (hT : ∀ w ∈ gw_tbl, w.before args s = true) (hown : s.vm.findClass RX3 = some m.cls) (hK : va_K D classes (tyz cs) s) (hP : va_P D classes ws H) (hD : va_D A ws) (hS : va_S A H0 H locs) {a : Nat} (q0 : Nat) {fs : List Value} (he : ws[q0]? = some (a, .inr (3, fs))) {v : Value} (hl : 7 < fs.length) (hn : narrow .int v = v) (hf : fits .int v = true) {σ : Type} {u0 : σ} {wf : σ → va_W} (hw : ws.set q0 (a, .inr (3, fs.set 7 v)) = wf u0) {k : σ → Option β} (hm : nm u0 k = some z) (hdg : decode cc pc = .ok (.putfield 43, 3)) (kk : ∀ (u : σ) (H1 : Heap) (locs1 : List Loc), k u = some z → va_P D classes (wf u) H1 → va_D A (wf u) → va_S A H0 H1 locs1 → W p l e R s m args below meth c H1 locs1 cells slots Q (F0 m (pc + 3) ls rest)) : W p l e R s m args below meth c H locs cells slots Q (F0 m pc ls (v :: .ref a :: rest)) :=
  va_put (C := RX3) (T := TX3) (N := 11) (ci := 3) (ty := .int) hx hb hT inZ3 tyX3 tyX3_ok nmX3 hown hK hP hD hS q0 he rfl 7 (by decide) (hT _ tw_119) (fun _ h => h) rfl (by decide +kernel) hn hf hl hdg (fun H1 locs1 hP hD hS => kk u0 H1 locs1 hm (hw ▸ hP) (hw ▸ hD) hS)
theorem gf_X3_53 (hx : p.tables.exec = Jvm.exec) (hb : c.code = cc) (hT : ∀ w ∈ gw_tbl, w.before args s = true) (hown : s.vm.findClass RX3 = some m.cls) (hK : va_K D classes (tyz cs) s) (hP : va_P D classes ws H) {a : Nat} (q0 : Nat) {fs : List Value} (he : ws[q0]? = some (a, .inr (3, fs))) {v : Value} (hv : fs[8]? = some v) (hdg : decode cc pc = .ok (.getfield 53, 3)) (kk : W p l e R s m args below meth c H locs cells slots Q (F0 m (pc + 3) ls (v :: rest))) : W p l e R s m args below meth c H locs cells slots Q (F0 m pc ls (.ref a :: rest)) :=
  va_get (C := RX3) (T := TX3) (N := 11) (ci := 3) hx hb hT inZ3 hown hK hP q0 he rfl 8 (by decide) (hT _ tw_123) (fun _ h => h) hv hdg kk
theorem pf_X3_53 (hx : p.tables.exec = Jvm.exec) (hb : c.code = cc) (hT : ∀ w ∈ gw_tbl, w.before args s = true) (hown : s.vm.findClass RX3 = some m.cls) (hK : va_K D classes (tyz cs) s) (hP : va_P D classes ws H) (hD : va_D A ws) (hS : va_S A H0 H locs) {a : Nat} (q0 : Nat) {fs : List Value} (he : ws[q0]? = some (a, .inr (3, fs))) {v : Value} (hl : 8 < fs.length) (hn : narrow .int v = v) (hf : fits .int v = true) {σ : Type} {u0 : σ} {wf : σ → va_W} (hw : ws.set q0 (a, .inr (3, fs.set 8 v)) = wf u0) {k : σ → Option β} (hm : nm u0 k = some z) (hdg : decode cc pc = .ok (.putfield 53, 3)) (kk : ∀ (u : σ) (H1 : Heap) (locs1 : List Loc), k u = some z → va_P D classes (wf u) H1 → va_D A (wf u) → va_S A H0 H1 locs1 → W p l e R s m args below meth c H1 locs1 cells slots Q (F0 m (pc + 3) ls rest)) : W p l e R s m args below meth c H locs cells slots Q (F0 m pc ls (v :: .ref a :: rest)) :=
  va_put (C := RX3) (T := TX3) (N := 11) (ci := 3) (ty := .int) hx hb hT inZ3 tyX3 tyX3_ok nmX3 hown hK hP hD hS q0 he rfl 8 (by decide) (hT _ tw_123) (fun _ h => h) rfl (by decide +kernel) hn hf hl hdg (fun H1 locs1 hP hD hS => kk u0 H1 locs1 hm (hw ▸ hP) (hw ▸ hD) hS)
theorem gf_X3_56 (hx : p.tables.exec = Jvm.exec) (hb : c.code = cc) (hT : ∀ w ∈ gw_tbl, w.before args s = true) (hown : s.vm.findClass RX3 = some m.cls) (hK : va_K D classes (tyz cs) s) (hP : va_P D classes ws H) {a : Nat} (q0 : Nat) {fs : List Value} (he : ws[q0]? = some (a, .inr (3, fs))) {v : Value} (hv : fs[9]? = some v) (hdg : decode cc pc = .ok (.getfield 56, 3)) (kk : W p l e R s m args below meth c H locs cells slots Q (F0 m (pc + 3) ls (v :: rest))) : W p l e R s m args below meth c H locs cells slots Q (F0 m pc ls (.ref a :: rest)) :=
  va_get (C := RX3) (T := TX3) (N := 11) (ci := 3) hx hb hT inZ3 hown hK hP q0 he rfl 9 (by decide) (hT _ tw_125) (fun _ h => h) hv hdg kk
theorem pf_X3_56 (hx : p.tables.exec = Jvm.exec) (hb : c.code = cc) (hT : ∀ w ∈ gw_tbl, w.before args s = true) (hown : s.vm.findClass RX3 = some m.cls) (hK : va_K D classes (tyz cs) s) (hP : va_P D classes ws H) (hD : va_D A ws) (hS : va_S A H0 H locs) {a : Nat} (q0 : Nat) {fs : List Value} (he : ws[q0]? = some (a, .inr (3, fs))) {v : Value} (hl : 9 < fs.length) (hn : narrow .int v = v) (hf : fits .int v = true) {σ : Type} {u0 : σ} {wf : σ → va_W} (hw : ws.set q0 (a, .inr (3, fs.set 9 v)) = wf u0) {k : σ → Option β} (hm : nm u0 k = some z) (hdg : decode cc pc = .ok (.putfield 56, 3)) (kk : ∀ (u : σ) (H1 : Heap) (locs1 : List Loc), k u = some z → va_P D classes (wf u) H1 → va_D A (wf u) → va_S A H0 H1 locs1 → W p l e R s m args below meth c H1 locs1 cells slots Q (F0 m (pc + 3) ls rest)) : W p l e R s m args below meth c H locs cells slots Q (F0 m pc ls (v :: .ref a :: rest)) :=
  va_put (C := RX3) (T := TX3) (N := 11) (ci := 3) (ty := .int) hx hb hT inZ3 tyX3 tyX3_ok nmX3 hown hK hP hD hS q0 he rfl 9 (by decide) (hT _ tw_125) (fun _ h => h) rfl (by decide +kernel) hn hf hl hdg (fun H1 locs1 hP hD hS => kk u0 H1 locs1 hm (hw ▸ hP) (hw ▸ hD) hS)
theorem gf_X3_59 (hx : p.tables.exec = Jvm.exec) (hb : c.code = cc) (hT : ∀ w ∈ gw_tbl, w.before args s = true) (hown : s.vm.findClass RX3 = some m.cls) (hK : va_K D classes (tyz cs) s) (hP : va_P D classes ws H) {a : Nat} (q0 : Nat) {fs : List Value} (he : ws[q0]? = some (a, .inr (3, fs))) {v : Value} (hv : fs[10]? = some v) (hdg : decode cc pc = .ok (.getfield 59, 3)) (kk : W p l e R s m args below meth c H locs cells slots Q (F0 m (pc + 3) ls (v :: rest))) : W p l e R s m args below meth c H locs cells slots Q (F0 m pc ls (.ref a :: rest)) :=
  va_get (C := RX3) (T := TX3) (N := 11) (ci := 3) hx hb hT inZ3 hown hK hP q0 he rfl 10 (by decide) (hT _ tw_128) (fun _ h => h) hv hdg kk
theorem pf_X3_59 (hx : p.tables.exec = Jvm.exec) (hb : c.code = cc) (hT : ∀ w ∈ gw_tbl, w.before args s = true) (hown : s.vm.findClass RX3 = some m.cls) (hK : va_K D classes (tyz cs) s) (hP : va_P D classes ws H) (hD : va_D A ws) (hS : va_S A H0 H locs) {a : Nat} (q0 : Nat) {fs : List Value} (he : ws[q0]? = some (a, .inr (3, fs))) {v : Value} (hl : 10 < fs.length) (hn : narrow .int v = v) (hf : fits .int v = true) {σ : Type} {u0 : σ} {wf : σ → va_W} (hw : ws.set q0 (a, .inr (3, fs.set 10 v)) = wf u0) {k : σ → Option β} (hm : nm u0 k = some z) (hdg : decode cc pc = .ok (.putfield 59, 3)) (kk : ∀ (u : σ) (H1 : Heap) (locs1 : List Loc), k u = some z → va_P D classes (wf u) H1 → va_D A (wf u) → va_S A H0 H1 locs1 → W p l e R s m args below meth c H1 locs1 cells slots Q (F0 m (pc + 3) ls rest)) : W p l e R s m args below meth c H locs cells slots Q (F0 m pc ls (v :: .ref a :: rest)) :=
  va_put (C := RX3) (T := TX3) (N := 11) (ci := 3) (ty := .int) hx hb hT inZ3 tyX3 tyX3_ok nmX3 hown hK hP hD hS q0 he rfl 10 (by decide) (hT _ tw_128) (fun _ h => h) rfl (by decide +kernel) hn hf hl hdg (fun H1 locs1 hP hD hS => kk u0 H1 locs1 hm (hw ▸ hP) (hw ▸ hD) hS)
theorem gf_X3_77 (hx : p.tables.exec = Jvm.exec) (hb : c.code = cc) (hT : ∀ w ∈ gw_tbl, w.before args s = true) (hown : s.vm.findClass RX3 = some m.cls) (hK : va_K D classes (tyz cs) s) (hP : va_P D classes ws H) {a : Nat} (q0 : Nat) {fs : List Value} (he : ws[q0]? = some (a, .inr (7, fs))) {v : Value} (hv : fs[3]? = some v) (hdg : decode cc pc = .ok (.getfield 77, 3)) (kk : W p l e R s m args below meth c H locs cells slots Q (F0 m (pc + 3) ls (v :: rest))) : W p l e R s m args below meth c H locs cells slots Q (F0 m pc ls (.ref a :: rest)) :=
  va_get (C := RX7) (T := TX7) (N := 4) (ci := 7) hx hb hT inZ7 hown hK hP q0 he rfl 3 (by decide) (hT _ tw_93) (fun _ h => h) hv hdg kk
theorem gf_X7_7 (hx : p.tables.exec = Jvm.exec) (hb : c.code = cc) (hT : ∀ w ∈ gw_tbl, w.before args s = true) (hown : s.vm.findClass RX7 = some m.cls) (hK : va_K D classes (tyz cs) s) (hP : va_P D classes ws H) {a : Nat} (q0 : Nat) {fs : List Value} (he : ws[q0]? = some (a, .inr (7, fs))) {v : Value} (hv : fs[0]? = some v) (hdg : decode cc pc = .ok (.getfield 7, 3)) (kk : W p l e R s m args below meth c H locs cells slots Q (F0 m (pc + 3) ls (v :: rest))) : W p l e R s m args below meth c H locs cells slots Q (F0 m pc ls (.ref a :: rest)) :=
  va_get (C := RX7) (T := TX7) (N := 4) (ci := 7) hx hb hT inZ7 hown hK hP q0 he rfl 0 (by decide) (hT _ tw_87) (fun _ h => h) hv hdg kk
theorem gf_X7_13 (hx : p.tables.exec = Jvm.exec) (hb : c.code = cc) (hT : ∀ w ∈ gw_tbl, w.before args s = true) (hown : s.vm.findClass RX7 = some m.cls) (hK : va_K D classes (tyz cs) s) (hP : va_P D classes ws H) {a : Nat} (q0 : Nat) {fs : List Value} (he : ws[q0]? = some (a, .inr (7, fs))) {v : Value} (hv : fs[1]? = some v) (hdg : decode cc pc = .ok (.getfield 13, 3)) (kk : W p l e R s m args below meth c H locs cells slots Q (F0 m (pc + 3) ls (v :: rest))) : W p l e R s m args below meth c H locs cells slots Q (F0 m pc ls (.ref a :: rest)) :=
  va_get (C := RX7) (T := TX7) (N := 4) (ci := 7) hx hb hT inZ7 hown hK hP q0 he rfl 1 (by decide) (hT _ tw_88) (fun _ h => h) hv hdg kk
theorem gf_X7_22 (hx : p.tables.exec = Jvm.exec) (hb : c.code = cc) (hT : ∀ w ∈ gw_tbl, w.before args s = true) (hown : s.vm.findClass RX7 = some m.cls) (hK : va_K D classes (tyz cs) s) (hP : va_P D classes ws H) {a : Nat} (q0 : Nat) {fs : List Value} (he : ws[q0]? = some (a, .inr (7, fs))) {v : Value} (hv : fs[2]? = some v) (hdg : decode cc pc = .ok (.getfield 22, 3)) (kk : W p l e R s m args below meth c H locs cells slots Q (F0 m (pc + 3) ls (v :: rest))) : W p l e R s m args below meth c H locs cells slots Q (F0 m pc ls (.ref a :: rest)) :=
  va_get (C := RX7) (T := TX7) (N := 4) (ci := 7) hx hb hT inZ7 hown hK hP q0 he rfl 2 (by decide) (hT _ tw_89) (fun _ h => h) hv hdg kk
theorem gf_X7_26 (hx : p.tables.exec = Jvm.exec) (hb : c.code = cc) (hT : ∀ w ∈ gw_tbl, w.before args s = true) (hown : s.vm.findClass RX7 = some m.cls) (hK : va_K D classes (tyz cs) s) (hP : va_P D classes ws H) {a : Nat} (q0 : Nat) {fs : List Value} (he : ws[q0]? = some (a, .inr (7, fs))) {v : Value} (hv : fs[3]? = some v) (hdg : decode cc pc = .ok (.getfield 26, 3)) (kk : W p l e R s m args below meth c H locs cells slots Q (F0 m (pc + 3) ls (v :: rest))) : W p l e R s m args below meth c H locs cells slots Q (F0 m pc ls (.ref a :: rest)) :=
  va_get (C := RX7) (T := TX7) (N := 4) (ci := 7) hx hb hT inZ7 hown hK hP q0 he rfl 3 (by decide) (hT _ tw_90) (fun _ h => h) hv hdg kk
theorem pf_X7_26 (hx : p.tables.exec = Jvm.exec) (hb : c.code = cc) (hT : ∀ w ∈ gw_tbl, w.before args s = true) (hown : s.vm.findClass RX7 = some m.cls) (hK : va_K D classes (tyz cs) s) (hP : va_P D classes ws H) (hD : va_D A ws) (hS : va_S A H0 H locs) {a : Nat} (q0 : Nat) {fs : List Value} (he : ws[q0]? = some (a, .inr (7, fs))) {v : Value} (hl : 3 < fs.length) (hn : narrow .int v = v) (hf : fits .int v = true) {σ : Type} {u0 : σ} {wf : σ → va_W} (hw : ws.set q0 (a, .inr (7, fs.set 3 v)) = wf u0) {k : σ → Option β} (hm : nm u0 k = some z) (hdg : decode cc pc = .ok (.putfield 26, 3)) (kk : ∀ (u : σ) (H1 : Heap) (locs1 : List Loc), k u = some z → va_P D classes (wf u) H1 → va_D A (wf u) → va_S A H0 H1 locs1 → W p l e R s m args below meth c H1 locs1 cells slots Q (F0 m (pc + 3) ls rest)) : W p l e R s m args below meth c H locs cells slots Q (F0 m pc ls (v :: .ref a :: rest)) :=
  va_put (C := RX7) (T := TX7) (N := 4) (ci := 7) (ty := .int) hx hb hT inZ7 tyX7 tyX7_ok nmX7 hown hK hP hD hS q0 he rfl 3 (by decide) (hT _ tw_90) (fun _ h => h) rfl (by decide +kernel) hn hf hl hdg (fun H1 locs1 hP hD hS => kk u0 H1 locs1 hm (hw ▸ hP) (hw ▸ hD) hS)
theorem gf_X4_9 (hx : p.tables.exec = Jvm.exec) (hb : c.code = cc) (hT : ∀ w ∈ gw_tbl, w.before args s = true) (hown : s.vm.findClass RX4 = some m.cls) (hK : va_K D classes (tyz cs) s) (hP : va_P D classes ws H) {a : Nat} (q0 : Nat) {fs : List Value} (he : ws[q0]? = some (a, .inr (4, fs))) {v : Value} (hv : fs[0]? = some v) (hdg : decode cc pc = .ok (.getfield 9, 3)) (kk : W p l e R s m args below meth c H locs cells slots Q (F0 m (pc + 3) ls (v :: rest))) : W p l e R s m args below meth c H locs cells slots Q (F0 m pc ls (.ref a :: rest)) :=
  va_get (C := RX4) (T := TX4) (N := 2) (ci := 4) hx hb hT inZ4 hown hK hP q0 he rfl 0 (by decide) (hT _ tw_185) (fun _ h => h) hv hdg kk
theorem gf_X4_15 (hx : p.tables.exec = Jvm.exec) (hb : c.code = cc) (hT : ∀ w ∈ gw_tbl, w.before args s = true) (hown : s.vm.findClass RX4 = some m.cls) (hK : va_K D classes (tyz cs) s) (hP : va_P D classes ws H) {a : Nat} (q0 : Nat) {fs : List Value} (he : ws[q0]? = some (a, .inr (4, fs))) {v : Value} (hv : fs[1]? = some v) (hdg : decode cc pc = .ok (.getfield 15, 3)) (kk : W p l e R s m args below meth c H locs cells slots Q (F0 m (pc + 3) ls (v :: rest))) : W p l e R s m args below meth c H locs cells slots Q (F0 m pc ls (.ref a :: rest)) :=
  va_get (C := RX4) (T := TX4) (N := 2) (ci := 4) hx hb hT inZ4 hown hK hP q0 he rfl 1 (by decide) (hT _ tw_186) (fun _ h => h) hv hdg kk
theorem gf_X4_18 (hx : p.tables.exec = Jvm.exec) (hb : c.code = cc) (hT : ∀ w ∈ gw_tbl, w.before args s = true) (hown : s.vm.findClass RX4 = some m.cls) (hK : va_K D classes (tyz cs) s) (hP : va_P D classes ws H) {a : Nat} (q0 : Nat) {fs : List Value} (he : ws[q0]? = some (a, .inr (3, fs))) {v : Value} (hv : fs[8]? = some v) (hdg : decode cc pc = .ok (.getfield 18, 3)) (kk : W p l e R s m args below meth c H locs cells slots Q (F0 m (pc + 3) ls (v :: rest))) : W p l e R s m args below meth c H locs cells slots Q (F0 m pc ls (.ref a :: rest)) :=
  va_get (C := RX3) (T := TX3) (N := 11) (ci := 3) hx hb hT inZ3 hown hK hP q0 he rfl 8 (by decide) (hT _ tw_122) (fun _ h => h) hv hdg kk
theorem gf_X4_48 (hx : p.tables.exec = Jvm.exec) (hb : c.code = cc) (hT : ∀ w ∈ gw_tbl, w.before args s = true) (hown : s.vm.findClass RX4 = some m.cls) (hK : va_K D classes (tyz cs) s) (hP : va_P D classes ws H) {a : Nat} (q0 : Nat) {fs : List Value} (he : ws[q0]? = some (a, .inr (3, fs))) {v : Value} (hv : fs[2]? = some v) (hdg : decode cc pc = .ok (.getfield 48, 3)) (kk : W p l e R s m args below meth c H locs cells slots Q (F0 m (pc + 3) ls (v :: rest))) : W p l e R s m args below meth c H locs cells slots Q (F0 m pc ls (.ref a :: rest)) :=
  va_get (C := RX3) (T := TX3) (N := 11) (ci := 3) hx hb hT inZ3 hown hK hP q0 he rfl 2 (by decide) (hT _ tw_108) (fun _ h => h) hv hdg kk
theorem gf_X4_52 (hx : p.tables.exec = Jvm.exec) (hb : c.code = cc) (hT : ∀ w ∈ gw_tbl, w.before args s = true) (hown : s.vm.findClass RX4 = some m.cls) (hK : va_K D classes (tyz cs) s) (hP : va_P D classes ws H) {a : Nat} (q0 : Nat) {fs : List Value} (he : ws[q0]? = some (a, .inr (7, fs))) {v : Value} (hv : fs[3]? = some v) (hdg : decode cc pc = .ok (.getfield 52, 3)) (kk : W p l e R s m args below meth c H locs cells slots Q (F0 m (pc + 3) ls (v :: rest))) : W p l e R s m args below meth c H locs cells slots Q (F0 m pc ls (.ref a :: rest)) :=
  va_get (C := RX7) (T := TX7) (N := 4) (ci := 7) hx hb hT inZ7 hown hK hP q0 he rfl 3 (by decide) (hT _ tw_92) (fun _ h => h) hv hdg kk
theorem gf_X4_76 (hx : p.tables.exec = Jvm.exec) (hb : c.code = cc) (hT : ∀ w ∈ gw_tbl, w.before args s = true) (hown : s.vm.findClass RX4 = some m.cls) (hK : va_K D classes (tyz cs) s) (hP : va_P D classes ws H) {a : Nat} (q0 : Nat) {fs : List Value} (he : ws[q0]? = some (a, .inr (3, fs))) {v : Value} (hv : fs[9]? = some v) (hdg : decode cc pc = .ok (.getfield 76, 3)) (kk : W p l e R s m args below meth c H locs cells slots Q (F0 m (pc + 3) ls (v :: rest))) : W p l e R s m args below meth c H locs cells slots Q (F0 m pc ls (.ref a :: rest)) :=
  va_get (C := RX3) (T := TX3) (N := 11) (ci := 3) hx hb hT inZ3 hown hK hP q0 he rfl 9 (by decide) (hT _ tw_126) (fun _ h => h) hv hdg kk
theorem gf_X0_9 (hx : p.tables.exec = Jvm.exec) (hb : c.code = cc) (hT : ∀ w ∈ gw_tbl, w.before args s = true) (hown : s.vm.findClass RX0 = some m.cls) (hK : va_K D classes (tyz cs) s) (hP : va_P D classes ws H) {a : Nat} (q0 : Nat) {fs : List Value} (he : ws[q0]? = some (a, .inr (0, fs))) {v : Value} (hv : fs[0]? = some v) (hdg : decode cc pc = .ok (.getfield 9, 3)) (kk : W p l e R s m args below meth c H locs cells slots Q (F0 m (pc + 3) ls (v :: rest))) : W p l e R s m args below meth c H locs cells slots Q (F0 m pc ls (.ref a :: rest)) :=
  va_get (C := RX0) (T := TX0) (N := 6) (ci := 0) hx hb hT inZ0 hown hK hP q0 he rfl 0 (by decide) (hT _ tw_159) (fun _ h => h) hv hdg kk
theorem gf_X0_15 (hx : p.tables.exec = Jvm.exec) (hb : c.code = cc) (hT : ∀ w ∈ gw_tbl, w.before args s = true) (hown : s.vm.findClass RX0 = some m.cls) (hK : va_K D classes (tyz cs) s) (hP : va_P D classes ws H) {a : Nat} (q0 : Nat) {fs : List Value} (he : ws[q0]? = some (a, .inr (0, fs))) {v : Value} (hv : fs[1]? = some v) (hdg : decode cc pc = .ok (.getfield 15, 3)) (kk : W p l e R s m args below meth c H locs cells slots Q (F0 m (pc + 3) ls (v :: rest))) : W p l e R s m args below meth c H locs cells slots Q (F0 m pc ls (.ref a :: rest)) :=
  va_get (C := RX0) (T := TX0) (N := 6) (ci := 0) hx hb hT inZ0 hown hK hP q0 he rfl 1 (by decide) (hT _ tw_160) (fun _ h => h) hv hdg kk
theorem pf_X0_15 (hx : p.tables.exec = Jvm.exec) (hb : c.code = cc) (hT : ∀ w ∈ gw_tbl, w.before args s = true) (hown : s.vm.findClass RX0 = some m.cls) (hK : va_K D classes (tyz cs) s) (hP : va_P D classes ws H) (hD : va_D A ws) (hS : va_S A H0 H locs) {a : Nat} (q0 : Nat) {fs : List Value} (he : ws[q0]? = some (a, .inr (0, fs))) {v : Value} (hl : 1 < fs.length) (hn : narrow .int v = v) (hf : fits .int v = true) {σ : Type} {u0 : σ} {wf : σ → va_W} (hw : ws.set q0 (a, .inr (0, fs.set 1 v)) = wf u0) {k : σ → Option β} (hm : nm u0 k = some z) (hdg : decode cc pc = .ok (.putfield 15, 3)) (kk : ∀ (u : σ) (H1 : Heap) (locs1 : List Loc), k u = some z → va_P D classes (wf u) H1 → va_D A (wf u) → va_S A H0 H1 locs1 → W p l e R s m args below meth c H1 locs1 cells slots Q (F0 m (pc + 3) ls rest)) : W p l e R s m args below meth c H locs cells slots Q (F0 m pc ls (v :: .ref a :: rest)) :=
  va_put (C := RX0) (T := TX0) (N := 6) (ci := 0) (ty := .int) hx hb hT inZ0 tyX0 tyX0_ok nmX0 hown hK hP hD hS q0 he rfl 1 (by decide) (hT _ tw_160) (fun _ h => h) rfl (by decide +kernel) hn hf hl hdg (fun H1 locs1 hP hD hS => kk u0 H1 locs1 hm (hw ▸ hP) (hw ▸ hD) hS)
theorem gf_X0_25 (hx : p.tables.exec = Jvm.exec) (hb : c.code = cc) (hT : ∀ w ∈ gw_tbl, w.before args s = true) (hown : s.vm.findClass RX0 = some m.cls) (hK : va_K D classes (tyz cs) s) (hP : va_P D classes ws H) {a : Nat} (q0 : Nat) {fs : List Value} (he : ws[q0]? = some (a, .inr (0, fs))) {v : Value} (hv : fs[5]? = some v) (hdg : decode cc pc = .ok (.getfield 25, 3)) (kk : W p l e R s m args below meth c H locs cells slots Q (F0 m (pc + 3) ls (v :: rest))) : W p l e R s m args below meth c H locs cells slots Q (F0 m pc ls (.ref a :: rest)) :=
  va_get (C := RX0) (T := TX0) (N := 6) (ci := 0) hx hb hT inZ0 hown hK hP q0 he rfl 5 (by decide) (hT _ tw_165) (fun _ h => h) hv hdg kk
theorem pf_X0_25 (hx : p.tables.exec = Jvm.exec) (hb : c.code = cc) (hT : ∀ w ∈ gw_tbl, w.before args s = true) (hown : s.vm.findClass RX0 = some m.cls) (hK : va_K D classes (tyz cs) s) (hP : va_P D classes ws H) (hD : va_D A ws) (hS : va_S A H0 H locs) {a : Nat} (q0 : Nat) {fs : List Value} (he : ws[q0]? = some (a, .inr (0, fs))) {v : Value} (hl : 5 < fs.length) (hn : narrow .int v = v) (hf : fits .int v = true) {σ : Type} {u0 : σ} {wf : σ → va_W} (hw : ws.set q0 (a, .inr (0, fs.set 5 v)) = wf u0) {k : σ → Option β} (hm : nm u0 k = some z) (hdg : decode cc pc = .ok (.putfield 25, 3)) (kk : ∀ (u : σ) (H1 : Heap) (locs1 : List Loc), k u = some z → va_P D classes (wf u) H1 → va_D A (wf u) → va_S A H0 H1 locs1 → W p l e R s m args below meth c H1 locs1 cells slots Q (F0 m (pc + 3) ls rest)) : W p l e R s m args below meth c H locs cells slots Q (F0 m pc ls (v :: .ref a :: rest)) :=
  va_put (C := RX0) (T := TX0) (N := 6) (ci := 0) (ty := .int) hx hb hT inZ0 tyX0 tyX0_ok nmX0 hown hK hP hD hS q0 he rfl 5 (by decide) (hT _ tw_165) (fun _ h => h) rfl (by decide +kernel) hn hf hl hdg (fun H1 locs1 hP hD hS => kk u0 H1 locs1 hm (hw ▸ hP) (hw ▸ hD) hS)
theorem gf_X0_31 (hx : p.tables.exec = Jvm.exec) (hb : c.code = cc) (hT : ∀ w ∈ gw_tbl, w.before args s = true) (hown : s.vm.findClass RX0 = some m.cls) (hK : va_K D classes (tyz cs) s) (hP : va_P D classes ws H) {a : Nat} (q0 : Nat) {fs : List Value} (he : ws[q0]? = some (a, .inr (0, fs))) {v : Value} (hv : fs[2]? = some v) (hdg : decode cc pc = .ok (.getfield 31, 3)) (kk : W p l e R s m args below meth c H locs cells slots Q (F0 m (pc + 3) ls (v :: rest))) : W p l e R s m args below meth c H locs cells slots Q (F0 m pc ls (.ref a :: rest)) :=
  va_get (C := RX0) (T := TX0) (N := 6) (ci := 0) hx hb hT inZ0 hown hK hP q0 he rfl 2 (by decide) (hT _ tw_162) (fun _ h => h) hv hdg kk
theorem pf_X0_31 (hx : p.tables.exec = Jvm.exec) (hb : c.code = cc) (hT : ∀ w ∈ gw_tbl, w.before args s = true) (hown : s.vm.findClass RX0 = some m.cls) (hK : va_K D classes (tyz cs) s) (hP : va_P D classes ws H) (hD : va_D A ws) (hS : va_S A H0 H locs) {a : Nat} (q0 : Nat) {fs : List Value} (he : ws[q0]? = some (a, .inr (0, fs))) {v : Value} (hl : 2 < fs.length) (hn : narrow .int v = v) (hf : fits .int v = true) {σ : Type} {u0 : σ} {wf : σ → va_W} (hw : ws.set q0 (a, .inr (0, fs.set 2 v)) = wf u0) {k : σ → Option β} (hm : nm u0 k = some z) (hdg : decode cc pc = .ok (.putfield 31, 3)) (kk : ∀ (u : σ) (H1 : Heap) (locs1 : List Loc), k u = some z → va_P D classes (wf u) H1 → va_D A (wf u) → va_S A H0 H1 locs1 → W p l e R s m args below meth c H1 locs1 cells slots Q (F0 m (pc + 3) ls rest)) : W p l e R s m args below meth c H locs cells slots Q (F0 m pc ls (v :: .ref a :: rest)) :=
  va_put (C := RX0) (T := TX0) (N := 6) (ci := 0) (ty := .int) hx hb hT inZ0 tyX0 tyX0_ok nmX0 hown hK hP hD hS q0 he rfl 2 (by decide) (hT _ tw_162) (fun _ h => h) rfl (by decide +kernel) hn hf hl hdg (fun H1 locs1 hP hD hS => kk u0 H1 locs1 hm (hw ▸ hP) (hw ▸ hD) hS)
theorem gf_X0_38 (hx : p.tables.exec = Jvm.exec) (hb : c.code = cc) (hT : ∀ w ∈ gw_tbl, w.before args s = true) (hown : s.vm.findClass RX0 = some m.cls) (hK : va_K D classes (tyz cs) s) (hP : va_P D classes ws H) {a : Nat} (q0 : Nat) {fs : List Value} (he : ws[q0]? = some (a, .inr (0, fs))) {v : Value} (hv : fs[3]? = some v) (hdg : decode cc pc = .ok (.getfield 38, 3)) (kk : W p l e R s m args below meth c H locs cells slots Q (F0 m (pc + 3) ls (v :: rest))) : W p l e R s m args below meth c H locs cells slots Q (F0 m pc ls (.ref a :: rest)) :=
  va_get (C := RX0) (T := TX0) (N := 6) (ci := 0) hx hb hT inZ0 hown hK hP q0 he rfl 3 (by decide) (hT _ tw_163) (fun _ h => h) hv hdg kk
theorem pf_X0_38 (hx : p.tables.exec = Jvm.exec) (hb : c.code = cc) (hT : ∀ w ∈ gw_tbl, w.before args s = true) (hown : s.vm.findClass RX0 = some m.cls) (hK : va_K D classes (tyz cs) s) (hP : va_P D classes ws H) (hD : va_D A ws) (hS : va_S A H0 H locs) {a : Nat} (q0 : Nat) {fs : List Value} (he : ws[q0]? = some (a, .inr (0, fs))) {v : Value} (hl : 3 < fs.length) (hn : narrow .int v = v) (hf : fits .int v = true) {σ : Type} {u0 : σ} {wf : σ → va_W} (hw : ws.set q0 (a, .inr (0, fs.set 3 v)) = wf u0) {k : σ → Option β} (hm : nm u0 k = some z) (hdg : decode cc pc = .ok (.putfield 38, 3)) (kk : ∀ (u : σ) (H1 : Heap) (locs1 : List Loc), k u = some z → va_P D classes (wf u) H1 → va_D A (wf u) → va_S A H0 H1 locs1 → W p l e R s m args below meth c H1 locs1 cells slots Q (F0 m (pc + 3) ls rest)) : W p l e R s m args below meth c H locs cells slots Q (F0 m pc ls (v :: .ref a :: rest)) :=
  va_put (C := RX0) (T := TX0) (N := 6) (ci := 0) (ty := .int) hx hb hT inZ0 tyX0 tyX0_ok nmX0 hown hK hP hD hS q0 he rfl 3 (by decide) (hT _ tw_163) (fun _ h => h) rfl (by decide +kernel) hn hf hl hdg (fun H1 locs1 hP hD hS => kk u0 H1 locs1 hm (hw ▸ hP) (hw ▸ hD) hS)
theorem gf_X0_55 (hx : p.tables.exec = Jvm.exec) (hb : c.code = cc) (hT : ∀ w ∈ gw_tbl, w.before args s = true) (hown : s.vm.findClass RX0 = some m.cls) (hK : va_K D classes (tyz cs) s) (hP : va_P D classes ws H) {a : Nat} (q0 : Nat) {fs : List Value} (he : ws[q0]? = some (a, .inr (3, fs))) {v : Value} (hv : fs[2]? = some v) (hdg : decode cc pc = .ok (.getfield 55, 3)) (kk : W p l e R s m args below meth c H locs cells slots Q (F0 m (pc + 3) ls (v :: rest))) : W p l e R s m args below meth c H locs cells slots Q (F0 m pc ls (.ref a :: rest)) :=
  va_get (C := RX3) (T := TX3) (N := 11) (ci := 3) hx hb hT inZ3 hown hK hP q0 he rfl 2 (by decide) (hT _ tw_109) (fun _ h => h) hv hdg kk
theorem gf_X0_65 (hx : p.tables.exec = Jvm.exec) (hb : c.code = cc) (hT : ∀ w ∈ gw_tbl, w.before args s = true) (hown : s.vm.findClass RX0 = some m.cls) (hK : va_K D classes (tyz cs) s) (hP : va_P D classes ws H) {a : Nat} (q0 : Nat) {fs : List Value} (he : ws[q0]? = some (a, .inr (3, fs))) {v : Value} (hv : fs[3]? = some v) (hdg : decode cc pc = .ok (.getfield 65, 3)) (kk : W p l e R s m args below meth c H locs cells slots Q (F0 m (pc + 3) ls (v :: rest))) : W p l e R s m args below meth c H locs cells slots Q (F0 m pc ls (.ref a :: rest)) :=
  va_get (C := RX3) (T := TX3) (N := 11) (ci := 3) hx hb hT inZ3 hown hK hP q0 he rfl 3 (by decide) (hT _ tw_112) (fun _ h => h) hv hdg kk
theorem gf_X0_72 (hx : p.tables.exec = Jvm.exec) (hb : c.code = cc) (hT : ∀ w ∈ gw_tbl, w.before args s = true) (hown : s.vm.findClass RX0 = some m.cls) (hK : va_K D classes (tyz cs) s) (hP : va_P D classes ws H) {a : Nat} (q0 : Nat) {fs : List Value} (he : ws[q0]? = some (a, .inr (3, fs))) {v : Value} (hv : fs[7]? = some v) (hdg : decode cc pc = .ok (.getfield 72, 3)) (kk : W p l e R s m args below meth c H locs cells slots Q (F0 m (pc + 3) ls (v :: rest))) : W p l e R s m args below meth c H locs cells slots Q (F0 m pc ls (.ref a :: rest)) :=
  va_get (C := RX3) (T := TX3) (N := 11) (ci := 3) hx hb hT inZ3 hown hK hP q0 he rfl 7 (by decide) (hT _ tw_120) (fun _ h => h) hv hdg kk
theorem pf_X0_72 (hx : p.tables.exec = Jvm.exec) (hb : c.code = cc) (hT : ∀ w ∈ gw_tbl, w.before args s = true) (hown : s.vm.findClass RX0 = some m.cls) (hK : va_K D classes (tyz cs) s) (hP : va_P D classes ws H) (hD : va_D A ws) (hS : va_S A H0 H locs) {a : Nat} (q0 : Nat) {fs : List Value} (he : ws[q0]? = some (a, .inr (3, fs))) {v : Value} (hl : 7 < fs.length) (hn : narrow .int v = v) (hf : fits .int v = true) {σ : Type} {u0 : σ} {wf : σ → va_W} (hw : ws.set q0 (a, .inr (3, fs.set 7 v)) = wf u0) {k : σ → Option β} (hm : nm u0 k = some z) (hdg : decode cc pc = .ok (.putfield 72, 3)) (kk : ∀ (u : σ) (H1 : Heap) (locs1 : List Loc), k u = some z → va_P D classes (wf u) H1 → va_D A (wf u) → va_S A H0 H1 locs1 → W p l e R s m args below meth c H1 locs1 cells slots Q (F0 m (pc + 3) ls rest)) : W p l e R s m args below meth c H locs cells slots Q (F0 m pc ls (v :: .ref a :: rest)) :=
  va_put (C := RX3) (T := TX3) (N := 11) (ci := 3) (ty := .int) hx hb hT inZ3 tyX3 tyX3_ok nmX3 hown hK hP hD hS q0 he rfl 7 (by decide) (hT _ tw_120) (fun _ h => h) rfl (by decide +kernel) hn hf hl hdg (fun H1 locs1 hP hD hS => kk u0 H1 locs1 hm (hw ▸ hP) (hw ▸ hD) hS)
theorem gf_X0_83 (hx : p.tables.exec = Jvm.exec) (hb : c.code = cc) (hT : ∀ w ∈ gw_tbl, w.before args s = true) (hown : s.vm.findClass RX0 = some m.cls) (hK : va_K D classes (tyz cs) s) (hP : va_P D classes ws H) {a : Nat} (q0 : Nat) {fs : List Value} (he : ws[q0]? = some (a, .inr (0, fs))) {v : Value} (hv : fs[4]? = some v) (hdg : decode cc pc = .ok (.getfield 83, 3)) (kk : W p l e R s m args below meth c H locs cells slots Q (F0 m (pc + 3) ls (v :: rest))) : W p l e R s m args below meth c H locs cells slots Q (F0 m pc ls (.ref a :: rest)) :=
  va_get (C := RX0) (T := TX0) (N := 6) (ci := 0) hx hb hT inZ0 hown hK hP q0 he rfl 4 (by decide) (hT _ tw_164) (fun _ h => h) hv hdg kk
theorem pf_X0_83 (hx : p.tables.exec = Jvm.exec) (hb : c.code = cc) (hT : ∀ w ∈ gw_tbl, w.before args s = true) (hown : s.vm.findClass RX0 = some m.cls) (hK : va_K D classes (tyz cs) s) (hP : va_P D classes ws H) (hD : va_D A ws) (hS : va_S A H0 H locs) {a : Nat} (q0 : Nat) {fs : List Value} (he : ws[q0]? = some (a, .inr (0, fs))) {v : Value} (hl : 4 < fs.length) (hn : narrow .int v = v) (hf : fits .int v = true) {σ : Type} {u0 : σ} {wf : σ → va_W} (hw : ws.set q0 (a, .inr (0, fs.set 4 v)) = wf u0) {k : σ → Option β} (hm : nm u0 k = some z) (hdg : decode cc pc = .ok (.putfield 83, 3)) (kk : ∀ (u : σ) (H1 : Heap) (locs1 : List Loc), k u = some z → va_P D classes (wf u) H1 → va_D A (wf u) → va_S A H0 H1 locs1 → W p l e R s m args below meth c H1 locs1 cells slots Q (F0 m (pc + 3) ls rest)) : W p l e R s m args below meth c H locs cells slots Q (F0 m pc ls (v :: .ref a :: rest)) :=
  va_put (C := RX0) (T := TX0) (N := 6) (ci := 0) (ty := .int) hx hb hT inZ0 tyX0 tyX0_ok nmX0 hown hK hP hD hS q0 he rfl 4 (by decide) (hT _ tw_164) (fun _ h => h) rfl (by decide +kernel) hn hf hl hdg (fun H1 locs1 hP hD hS => kk u0 H1 locs1 hm (hw ▸ hP) (hw ▸ hD) hS)
theorem gf_X11_7 (hx : p.tables.exec = Jvm.exec) (hb : c.code = cc) (hT : ∀ w ∈ gw_tbl, w.before args s = true) (hown : s.vm.findClass RX11 = some m.cls) (hK : va_K D classes (tyz cs) s) (hP : va_P D classes ws H) {a : Nat} (q0 : Nat) {fs : List Value} (he : ws[q0]? = some (a, .inr (11, fs))) {v : Value} (hv : fs[0]? = some v) (hdg : decode cc pc = .ok (.getfield 7, 3)) (kk : W p l e R s m args below meth c H locs cells slots Q (F0 m (pc + 3) ls (v :: rest))) : W p l e R s m args below meth c H locs cells slots Q (F0 m pc ls (.ref a :: rest)) :=
  va_get (C := RX11) (T := TX11) (N := 22) (ci := 11) hx hb hT inZ11 hown hK hP q0 he rfl 0 (by decide) (hT _ tw_804) (fun _ h => h) hv hdg kk
theorem gf_X11_13 (hx : p.tables.exec = Jvm.exec) (hb : c.code = cc) (hT : ∀ w ∈ gw_tbl, w.before args s = true) (hown : s.vm.findClass RX11 = some m.cls) (hK : va_K D classes (tyz cs) s) (hP : va_P D classes ws H) {a : Nat} (q0 : Nat) {fs : List Value} (he : ws[q0]? = some (a, .inr (11, fs))) {v : Value} (hv : fs[1]? = some v) (hdg : decode cc pc = .ok (.getfield 13, 3)) (kk : W p l e R s m args below meth c H locs cells slots Q (F0 m (pc + 3) ls (v :: rest))) : W p l e R s m args below meth c H locs cells slots Q (F0 m pc ls (.ref a :: rest)) :=
  va_get (C := RX11) (T := TX11) (N := 22) (ci := 11) hx hb hT inZ11 hown hK hP q0 he rfl 1 (by decide) (hT _ tw_805) (fun _ h => h) hv hdg kk
theorem gf_X11_17 (hx : p.tables.exec = Jvm.exec) (hb : c.code = cc) (hT : ∀ w ∈ gw_tbl, w.before args s = true) (hown : s.vm.findClass RX11 = some m.cls) (hK : va_K D classes (tyz cs) s) (hP : va_P D classes ws H) {a : Nat} (q0 : Nat) {fs : List Value} (he : ws[q0]? = some (a, .inr (11, fs))) {v : Value} (hv : fs[2]? = some v) (hdg : decode cc pc = .ok (.getfield 17, 3)) (kk : W p l e R s m args below meth c H locs cells slots Q (F0 m (pc + 3) ls (v :: rest))) : W p l e R s m args below meth c H locs cells slots Q (F0 m pc ls (.ref a :: rest)) :=
  va_get (C := RX11) (T := TX11) (N := 22) (ci := 11) hx hb hT inZ11 hown hK hP q0 he rfl 2 (by decide) (hT _ tw_806) (fun _ h => h) hv hdg kk
theorem gf_X11_20 (hx : p.tables.exec = Jvm.exec) (hb : c.code = cc) (hT : ∀ w ∈ gw_tbl, w.before args s = true) (hown : s.vm.findClass RX11 = some m.cls) (hK : va_K D classes (tyz cs) s) (hP : va_P D classes ws H) {a : Nat} (q0 : Nat) {fs : List Value} (he : ws[q0]? = some (a, .inr (11, fs))) {v : Value} (hv : fs[4]? = some v) (hdg : decode cc pc = .ok (.getfield 20, 3)) (kk : W p l e R s m args below meth c H locs cells slots Q (F0 m (pc + 3) ls (v :: rest))) : W p l e R s m args below meth c H locs cells slots Q (F0 m pc ls (.ref a :: rest)) :=
  va_get (C := RX11) (T := TX11) (N := 22) (ci := 11) hx hb hT inZ11 hown hK hP q0 he rfl 4 (by decide) (hT _ tw_808) (fun _ h => h) hv hdg kk
theorem pf_X11_20 (hx : p.tables.exec = Jvm.exec) (hb : c.code = cc) (hT : ∀ w ∈ gw_tbl, w.before args s = true) (hown : s.vm.findClass RX11 = some m.cls) (hK : va_K D classes (tyz cs) s) (hP : va_P D classes ws H) (hD : va_D A ws) (hS : va_S A H0 H locs) {a : Nat} (q0 : Nat) {fs : List Value} (he : ws[q0]? = some (a, .inr (11, fs))) {v : Value} (hl : 4 < fs.length) (hn : narrow .long v = v) (hf : fits .long v = true) {σ : Type} {u0 : σ} {wf : σ → va_W} (hw : ws.set q0 (a, .inr (11, fs.set 4 v)) = wf u0) {k : σ → Option β} (hm : nm u0 k = some z) (hdg : decode cc pc = .ok (.putfield 20, 3)) (kk : ∀ (u : σ) (H1 : Heap) (locs1 : List Loc), k u = some z → va_P D classes (wf u) H1 → va_D A (wf u) → va_S A H0 H1 locs1 → W p l e R s m args below meth c H1 locs1 cells slots Q (F0 m (pc + 3) ls rest)) : W p l e R s m args below meth c H locs cells slots Q (F0 m pc ls (v :: .ref a :: rest)) :=
  va_put (C := RX11) (T := TX11) (N := 22) (ci := 11) (ty := .long) hx hb hT inZ11 tyX11 tyX11_ok nmX11 hown hK hP hD hS q0 he rfl 4 (by decide) (hT _ tw_808) (fun _ h => h) rfl (by decide +kernel) hn hf hl hdg (fun H1 locs1 hP hD hS => kk u0 H1 locs1 hm (hw ▸ hP) (hw ▸ hD) hS)
theorem gf_X11_24 (hx : p.tables.exec = Jvm.exec) (hb : c.code = cc) (hT : ∀ w ∈ gw_tbl, w.before args s = true) (hown : s.vm.findClass RX11 = some m.cls) (hK : va_K D classes (tyz cs) s) (hP : va_P D classes ws H) {a : Nat} (q0 : Nat) {fs : List Value} (he : ws[q0]? = some (a, .inr (11, fs))) {v : Value} (hv : fs[5]? = some v) (hdg : decode cc pc = .ok (.getfield 24, 3)) (kk : W p l e R s m args below meth c H locs cells slots Q (F0 m (pc + 3) ls (v :: rest))) : W p l e R s m args below meth c H locs cells slots Q (F0 m pc ls (.ref a :: rest)) :=
  va_get (C := RX11) (T := TX11) (N := 22) (ci := 11) hx hb hT inZ11 hown hK hP q0 he rfl 5 (by decide) (hT _ tw_809) (fun _ h => h) hv hdg kk
theorem gf_X11_27 (hx : p.tables.exec = Jvm.exec) (hb : c.code = cc) (hT : ∀ w ∈ gw_tbl, w.before args s = true) (hown : s.vm.findClass RX11 = some m.cls) (hK : va_K D classes (tyz cs) s) (hP : va_P D classes ws H) {a : Nat} (q0 : Nat) {fs : List Value} (he : ws[q0]? = some (a, .inr (11, fs))) {v : Value} (hv : fs[7]? = some v) (hdg : decode cc pc = .ok (.getfield 27, 3)) (kk : W p l e R s m args below meth c H locs cells slots Q (F0 m (pc + 3) ls (v :: rest))) : W p l e R s m args below meth c H locs cells slots Q (F0 m pc ls (.ref a :: rest)) :=
  va_get (C := RX11) (T := TX11) (N := 22) (ci := 11) hx hb hT inZ11 hown hK hP q0 he rfl 7 (by decide) (hT _ tw_811) (fun _ h => h) hv hdg kk
theorem gf_X11_30 (hx : p.tables.exec = Jvm.exec) (hb : c.code = cc) (hT : ∀ w ∈ gw_tbl, w.before args s = true) (hown : s.vm.findClass RX11 = some m.cls) (hK : va_K D classes (tyz cs) s) (hP : va_P D classes ws H) {a : Nat} (q0 : Nat) {fs : List Value} (he : ws[q0]? = some (a, .inr (11, fs))) {v : Value} (hv : fs[11]? = some v) (hdg : decode cc pc = .ok (.getfield 30, 3)) (kk : W p l e R s m args below meth c H locs cells slots Q (F0 m (pc + 3) ls (v :: rest))) : W p l e R s m args below meth c H locs cells slots Q (F0 m pc ls (.ref a :: rest)) :=
  va_get (C := RX11) (T := TX11) (N := 22) (ci := 11) hx hb hT inZ11 hown hK hP q0 he rfl 11 (by decide) (hT _ tw_815) (fun _ h => h) hv hdg kk
theorem gf_X11_33 (hx : p.tables.exec = Jvm.exec) (hb : c.code = cc) (hT : ∀ w ∈ gw_tbl, w.before args s = true) (hown : s.vm.findClass RX11 = some m.cls) (hK : va_K D classes (tyz cs) s) (hP : va_P D classes ws H) {a : Nat} (q0 : Nat) {fs : List Value} (he : ws[q0]? = some (a, .inr (11, fs))) {v : Value} (hv : fs[13]? = some v) (hdg : decode cc pc = .ok (.getfield 33, 3)) (kk : W p l e R s m args below meth c H locs cells slots Q (F0 m (pc + 3) ls (v :: rest))) : W p l e R s m args below meth c H locs cells slots Q (F0 m pc ls (.ref a :: rest)) :=
  va_get (C := RX11) (T := TX11) (N := 22) (ci := 11) hx hb hT inZ11 hown hK hP q0 he rfl 13 (by decide) (hT _ tw_817) (fun _ h => h) hv hdg kk
theorem gf_X11_36 (hx : p.tables.exec = Jvm.exec) (hb : c.code = cc) (hT : ∀ w ∈ gw_tbl, w.before args s = true) (hown : s.vm.findClass RX11 = some m.cls) (hK : va_K D classes (tyz cs) s) (hP : va_P D classes ws H) {a : Nat} (q0 : Nat) {fs : List Value} (he : ws[q0]? = some (a, .inr (11, fs))) {v : Value} (hv : fs[15]? = some v) (hdg : decode cc pc = .ok (.getfield 36, 3)) (kk : W p l e R s m args below meth c H locs cells slots Q (F0 m (pc + 3) ls (v :: rest))) : W p l e R s m args below meth c H locs cells slots Q (F0 m pc ls (.ref a :: rest)) :=
  va_get (C := RX11) (T := TX11) (N := 22) (ci := 11) hx hb hT inZ11 hown hK hP q0 he rfl 15 (by decide) (hT _ tw_819) (fun _ h => h) hv hdg kk
theorem gf_X11_39 (hx : p.tables.exec = Jvm.exec) (hb : c.code = cc) (hT : ∀ w ∈ gw_tbl, w.before args s = true) (hown : s.vm.findClass RX11 = some m.cls) (hK : va_K D classes (tyz cs) s) (hP : va_P D classes ws H) {a : Nat} (q0 : Nat) {fs : List Value} (he : ws[q0]? = some (a, .inr (11, fs))) {v : Value} (hv : fs[16]? = some v) (hdg : decode cc pc = .ok (.getfield 39, 3)) (kk : W p l e R s m args below meth c H locs cells slots Q (F0 m (pc + 3) ls (v :: rest))) : W p l e R s m args below meth c H locs cells slots Q (F0 m pc ls (.ref a :: rest)) :=
  va_get (C := RX11) (T := TX11) (N := 22) (ci := 11) hx hb hT inZ11 hown hK hP q0 he rfl 16 (by decide) (hT _ tw_820) (fun _ h => h) hv hdg kk
theorem gf_X11_42 (hx : p.tables.exec = Jvm.exec) (hb : c.code = cc) (hT : ∀ w ∈ gw_tbl, w.before args s = true) (hown : s.vm.findClass RX11 = some m.cls) (hK : va_K D classes (tyz cs) s) (hP : va_P D classes ws H) {a : Nat} (q0 : Nat) {fs : List Value} (he : ws[q0]? = some (a, .inr (11, fs))) {v : Value} (hv : fs[17]? = some v) (hdg : decode cc pc = .ok (.getfield 42, 3)) (kk : W p l e R s m args below meth c H locs cells slots Q (F0 m (pc + 3) ls (v :: rest))) : W p l e R s m args below meth c H locs cells slots Q (F0 m pc ls (.ref a :: rest)) :=
  va_get (C := RX11) (T := TX11) (N := 22) (ci := 11) hx hb hT inZ11 hown hK hP q0 he rfl 17 (by decide) (hT _ tw_821) (fun _ h => h) hv hdg kk
theorem gf_X11_45 (hx : p.tables.exec = Jvm.exec) (hb : c.code = cc) (hT : ∀ w ∈ gw_tbl, w.before args s = true) (hown : s.vm.findClass RX11 = some m.cls) (hK : va_K D classes (tyz cs) s) (hP : va_P D classes ws H) {a : Nat} (q0 : Nat) {fs : List Value} (he : ws[q0]? = some (a, .inr (11, fs))) {v : Value} (hv : fs[20]? = some v) (hdg : decode cc pc = .ok (.getfield 45, 3)) (kk : W p l e R s m args below meth c H locs cells slots Q (F0 m (pc + 3) ls (v :: rest))) : W p l e R s m args below meth c H locs cells slots Q (F0 m pc ls (.ref a :: rest)) :=
  va_get (C := RX11) (T := TX11) (N := 22) (ci := 11) hx hb hT inZ11 hown hK hP q0 he rfl 20 (by decide) (hT _ tw_824) (fun _ h => h) hv hdg kk
theorem gf_X11_68 (hx : p.tables.exec = Jvm.exec) (hb : c.code = cc) (hT : ∀ w ∈ gw_tbl, w.before args s = true) (hown : s.vm.findClass RX11 = some m.cls) (hK : va_K D classes (tyz cs) s) (hP : va_P D classes ws H) {a : Nat} (q0 : Nat) {fs : List Value} (he : ws[q0]? = some (a, .inr (11, fs))) {v : Value} (hv : fs[6]? = some v) (hdg : decode cc pc = .ok (.getfield 68, 3)) (kk : W p l e R s m args below meth c H locs cells slots Q (F0 m (pc + 3) ls (v :: rest))) : W p l e R s m args below meth c H locs cells slots Q (F0 m pc ls (.ref a :: rest)) :=
  va_get (C := RX11) (T := TX11) (N := 22) (ci := 11) hx hb hT inZ11 hown hK hP q0 he rfl 6 (by decide) (hT _ tw_810) (fun _ h => h) hv hdg kk
theorem pf_X11_68 (hx : p.tables.exec = Jvm.exec) (hb : c.code = cc) (hT : ∀ w ∈ gw_tbl, w.before args s = true) (hown : s.vm.findClass RX11 = some m.cls) (hK : va_K D classes (tyz cs) s) (hP : va_P D classes ws H) (hD : va_D A ws) (hS : va_S A H0 H locs) {a : Nat} (q0 : Nat) {fs : List Value} (he : ws[q0]? = some (a, .inr (11, fs))) {v : Value} (hl : 6 < fs.length) (hn : narrow .int v = v) (hf : fits .int v = true) {σ : Type} {u0 : σ} {wf : σ → va_W} (hw : ws.set q0 (a, .inr (11, fs.set 6 v)) = wf u0) {k : σ → Option β} (hm : nm u0 k = some z) (hdg : decode cc pc = .ok (.putfield 68, 3)) (kk : ∀ (u : σ) (H1 : Heap) (locs1 : List Loc), k u = some z → va_P D classes (wf u) H1 → va_D A (wf u) → va_S A H0 H1 locs1 → W p l e R s m args below meth c H1 locs1 cells slots Q (F0 m (pc + 3) ls rest)) : W p l e R s m args below meth c H locs cells slots Q (F0 m pc ls (v :: .ref a :: rest)) :=
  va_put (C := RX11) (T := TX11) (N := 22) (ci := 11) (ty := .int) hx hb hT inZ11 tyX11 tyX11_ok nmX11 hown hK hP hD hS q0 he rfl 6 (by decide) (hT _ tw_810) (fun _ h => h) rfl (by decide +kernel) hn hf hl hdg (fun H1 locs1 hP hD hS => kk u0 H1 locs1 hm (hw ▸ hP) (hw ▸ hD) hS)
theorem gf_X11_72 (hx : p.tables.exec = Jvm.exec) (hb : c.code = cc) (hT : ∀ w ∈ gw_tbl, w.before args s = true) (hown : s.vm.findClass RX11 = some m.cls) (hK : va_K D classes (tyz cs) s) (hP : va_P D classes ws H) {a : Nat} (q0 : Nat) {fs : List Value} (he : ws[q0]? = some (a, .inr (11, fs))) {v : Value} (hv : fs[9]? = some v) (hdg : decode cc pc = .ok (.getfield 72, 3)) (kk : W p l e R s m args below meth c H locs cells slots Q (F0 m (pc + 3) ls (v :: rest))) : W p l e R s m args below meth c H locs cells slots Q (F0 m pc ls (.ref a :: rest)) :=
  va_get (C := RX11) (T := TX11) (N := 22) (ci := 11) hx hb hT inZ11 hown hK hP q0 he rfl 9 (by decide) (hT _ tw_813) (fun _ h => h) hv hdg kk
theorem pf_X11_72 (hx : p.tables.exec = Jvm.exec) (hb : c.code = cc) (hT : ∀ w ∈ gw_tbl, w.before args s = true) (hown : s.vm.findClass RX11 = some m.cls) (hK : va_K D classes (tyz cs) s) (hP : va_P D classes ws H) (hD : va_D A ws) (hS : va_S A H0 H locs) {a : Nat} (q0 : Nat) {fs : List Value} (he : ws[q0]? = some (a, .inr (11, fs))) {v : Value} (hl : 9 < fs.length) (hn : narrow .int v = v) (hf : fits .int v = true) {σ : Type} {u0 : σ} {wf : σ → va_W} (hw : ws.set q0 (a, .inr (11, fs.set 9 v)) = wf u0) {k : σ → Option β} (hm : nm u0 k = some z) (hdg : decode cc pc = .ok (.putfield 72, 3)) (kk : ∀ (u : σ) (H1 : Heap) (locs1 : List Loc), k u = some z → va_P D classes (wf u) H1 → va_D A (wf u) → va_S A H0 H1 locs1 → W p l e R s m args below meth c H1 locs1 cells slots Q (F0 m (pc + 3) ls rest)) : W p l e R s m args below meth c H locs cells slots Q (F0 m pc ls (v :: .ref a :: rest)) :=
  va_put (C := RX11) (T := TX11) (N := 22) (ci := 11) (ty := .int) hx hb hT inZ11 tyX11 tyX11_ok nmX11 hown hK hP hD hS q0 he rfl 9 (by decide) (hT _ tw_813) (fun _ h => h) rfl (by decide +kernel) hn hf hl hdg (fun H1 locs1 hP hD hS => kk u0 H1 locs1 hm (hw ▸ hP) (hw ▸ hD) hS)
theorem gf_X11_75 (hx : p.tables.exec = Jvm.exec) (hb : c.code = cc) (hT : ∀ w ∈ gw_tbl, w.before args s = true) (hown : s.vm.findClass RX11 = some m.cls) (hK : va_K D classes (tyz cs) s) (hP : va_P D classes ws H) {a : Nat} (q0 : Nat) {fs : List Value} (he : ws[q0]? = some (a, .inr (11, fs))) {v : Value} (hv : fs[8]? = some v) (hdg : decode cc pc = .ok (.getfield 75, 3)) (kk : W p l e R s m args below meth c H locs cells slots Q (F0 m (pc + 3) ls (v :: rest))) : W p l e R s m args below meth c H locs cells slots Q (F0 m pc ls (.ref a :: rest)) :=
  va_get (C := RX11) (T := TX11) (N := 22) (ci := 11) hx hb hT inZ11 hown hK hP q0 he rfl 8 (by decide) (hT _ tw_812) (fun _ h => h) hv hdg kk
theorem pf_X11_75 (hx : p.tables.exec = Jvm.exec) (hb : c.code = cc) (hT : ∀ w ∈ gw_tbl, w.before args s = true) (hown : s.vm.findClass RX11 = some m.cls) (hK : va_K D classes (tyz cs) s) (hP : va_P D classes ws H) (hD : va_D A ws) (hS : va_S A H0 H locs) {a : Nat} (q0 : Nat) {fs : List Value} (he : ws[q0]? = some (a, .inr (11, fs))) {v : Value} (hl : 8 < fs.length) (hn : narrow .int v = v) (hf : fits .int v = true) {σ : Type} {u0 : σ} {wf : σ → va_W} (hw : ws.set q0 (a, .inr (11, fs.set 8 v)) = wf u0) {k : σ → Option β} (hm : nm u0 k = some z) (hdg : decode cc pc = .ok (.putfield 75, 3)) (kk : ∀ (u : σ) (H1 : Heap) (locs1 : List Loc), k u = some z → va_P D classes (wf u) H1 → va_D A (wf u) → va_S A H0 H1 locs1 → W p l e R s m args below meth c H1 locs1 cells slots Q (F0 m (pc + 3) ls rest)) : W p l e R s m args below meth c H locs cells slots Q (F0 m pc ls (v :: .ref a :: rest)) :=
  va_put (C := RX11) (T := TX11) (N := 22) (ci := 11) (ty := .int) hx hb hT inZ11 tyX11 tyX11_ok nmX11 hown hK hP hD hS q0 he rfl 8 (by decide) (hT _ tw_812) (fun _ h => h) rfl (by decide +kernel) hn hf hl hdg (fun H1 locs1 hP hD hS => kk u0 H1 locs1 hm (hw ▸ hP) (hw ▸ hD) hS)
theorem gf_X11_95 (hx : p.tables.exec = Jvm.exec) (hb : c.code = cc) (hT : ∀ w ∈ gw_tbl, w.before args s = true) (hown : s.vm.findClass RX11 = some m.cls) (hK : va_K D classes (tyz cs) s) (hP : va_P D classes ws H) {a : Nat} (q0 : Nat) {fs : List Value} (he : ws[q0]? = some (a, .inr (11, fs))) {v : Value} (hv : fs[12]? = some v) (hdg : decode cc pc = .ok (.getfield 95, 3)) (kk : W p l e R s m args below meth c H locs cells slots Q (F0 m (pc + 3) ls (v :: rest))) : W p l e R s m args below meth c H locs cells slots Q (F0 m pc ls (.ref a :: rest)) :=
  va_get (C := RX11) (T := TX11) (N := 22) (ci := 11) hx hb hT inZ11 hown hK hP q0 he rfl 12 (by decide) (hT _ tw_816) (fun _ h => h) hv hdg kk
theorem pf_X11_95 (hx : p.tables.exec = Jvm.exec) (hb : c.code = cc) (hT : ∀ w ∈ gw_tbl, w.before args s = true) (hown : s.vm.findClass RX11 = some m.cls) (hK : va_K D classes (tyz cs) s) (hP : va_P D classes ws H) (hD : va_D A ws) (hS : va_S A H0 H locs) {a : Nat} (q0 : Nat) {fs : List Value} (he : ws[q0]? = some (a, .inr (11, fs))) {v : Value} (hl : 12 < fs.length) (hn : narrow .int v = v) (hf : fits .int v = true) {σ : Type} {u0 : σ} {wf : σ → va_W} (hw : ws.set q0 (a, .inr (11, fs.set 12 v)) = wf u0) {k : σ → Option β} (hm : nm u0 k = some z) (hdg : decode cc pc = .ok (.putfield 95, 3)) (kk : ∀ (u : σ) (H1 : Heap) (locs1 : List Loc), k u = some z → va_P D classes (wf u) H1 → va_D A (wf u) → va_S A H0 H1 locs1 → W p l e R s m args below meth c H1 locs1 cells slots Q (F0 m (pc + 3) ls rest)) : W p l e R s m args below meth c H locs cells slots Q (F0 m pc ls (v :: .ref a :: rest)) :=
  va_put (C := RX11) (T := TX11) (N := 22) (ci := 11) (ty := .int) hx hb hT inZ11 tyX11 tyX11_ok nmX11 hown hK hP hD hS q0 he rfl 12 (by decide) (hT _ tw_816) (fun _ h => h) rfl (by decide +kernel) hn hf hl hdg (fun H1 locs1 hP hD hS => kk u0 H1 locs1 hm (hw ▸ hP) (hw ▸ hD) hS)
theorem gf_X11_105 (hx : p.tables.exec = Jvm.exec) (hb : c.code = cc) (hT : ∀ w ∈ gw_tbl, w.before args s = true) (hown : s.vm.findClass RX11 = some m.cls) (hK : va_K D classes (tyz cs) s) (hP : va_P D classes ws H) {a : Nat} (q0 : Nat) {fs : List Value} (he : ws[q0]? = some (a, .inr (11, fs))) {v : Value} (hv : fs[14]? = some v) (hdg : decode cc pc = .ok (.getfield 105, 3)) (kk : W p l e R s m args below meth c H locs cells slots Q (F0 m (pc + 3) ls (v :: rest))) : W p l e R s m args below meth c H locs cells slots Q (F0 m pc ls (.ref a :: rest)) :=
  va_get (C := RX11) (T := TX11) (N := 22) (ci := 11) hx hb hT inZ11 hown hK hP q0 he rfl 14 (by decide) (hT _ tw_818) (fun _ h => h) hv hdg kk
theorem pf_X11_105 (hx : p.tables.exec = Jvm.exec) (hb : c.code = cc) (hT : ∀ w ∈ gw_tbl, w.before args s = true) (hown : s.vm.findClass RX11 = some m.cls) (hK : va_K D classes (tyz cs) s) (hP : va_P D classes ws H) (hD : va_D A ws) (hS : va_S A H0 H locs) {a : Nat} (q0 : Nat) {fs : List Value} (he : ws[q0]? = some (a, .inr (11, fs))) {v : Value} (hl : 14 < fs.length) (hn : narrow .int v = v) (hf : fits .int v = true) {σ : Type} {u0 : σ} {wf : σ → va_W} (hw : ws.set q0 (a, .inr (11, fs.set 14 v)) = wf u0) {k : σ → Option β} (hm : nm u0 k = some z) (hdg : decode cc pc = .ok (.putfield 105, 3)) (kk : ∀ (u : σ) (H1 : Heap) (locs1 : List Loc), k u = some z → va_P D classes (wf u) H1 → va_D A (wf u) → va_S A H0 H1 locs1 → W p l e R s m args below meth c H1 locs1 cells slots Q (F0 m (pc + 3) ls rest)) : W p l e R s m args below meth c H locs cells slots Q (F0 m pc ls (v :: .ref a :: rest)) :=
  va_put (C := RX11) (T := TX11) (N := 22) (ci := 11) (ty := .int) hx hb hT inZ11 tyX11 tyX11_ok nmX11 hown hK hP hD hS q0 he rfl 14 (by decide) (hT _ tw_818) (fun _ h => h) rfl (by decide +kernel) hn hf hl hdg (fun H1 locs1 hP hD hS => kk u0 H1 locs1 hm (hw ▸ hP) (hw ▸ hD) hS)
theorem gf_X11_111 (hx : p.tables.exec = Jvm.exec) (hb : c.code = cc) (hT : ∀ w ∈ gw_tbl, w.before args s = true) (hown : s.vm.findClass RX11 = some m.cls) (hK : va_K D classes (tyz cs) s) (hP : va_P D classes ws H) {a : Nat} (q0 : Nat) {fs : List Value} (he : ws[q0]? = some (a, .inr (11, fs))) {v : Value} (hv : fs[10]? = some v) (hdg : decode cc pc = .ok (.getfield 111, 3)) (kk : W p l e R s m args below meth c H locs cells slots Q (F0 m (pc + 3) ls (v :: rest))) : W p l e R s m args below meth c H locs cells slots Q (F0 m pc ls (.ref a :: rest)) :=
  va_get (C := RX11) (T := TX11) (N := 22) (ci := 11) hx hb hT inZ11 hown hK hP q0 he rfl 10 (by decide) (hT _ tw_814) (fun _ h => h) hv hdg kk
theorem pf_X11_111 (hx : p.tables.exec = Jvm.exec) (hb : c.code = cc) (hT : ∀ w ∈ gw_tbl, w.before args s = true) (hown : s.vm.findClass RX11 = some m.cls) (hK : va_K D classes (tyz cs) s) (hP : va_P D classes ws H) (hD : va_D A ws) (hS : va_S A H0 H locs) {a : Nat} (q0 : Nat) {fs : List Value} (he : ws[q0]? = some (a, .inr (11, fs))) {v : Value} (hl : 10 < fs.length) (hn : narrow .int v = v) (hf : fits .int v = true) {σ : Type} {u0 : σ} {wf : σ → va_W} (hw : ws.set q0 (a, .inr (11, fs.set 10 v)) = wf u0) {k : σ → Option β} (hm : nm u0 k = some z) (hdg : decode cc pc = .ok (.putfield 111, 3)) (kk : ∀ (u : σ) (H1 : Heap) (locs1 : List Loc), k u = some z → va_P D classes (wf u) H1 → va_D A (wf u) → va_S A H0 H1 locs1 → W p l e R s m args below meth c H1 locs1 cells slots Q (F0 m (pc + 3) ls rest)) : W p l e R s m args below meth c H locs cells slots Q (F0 m pc ls (v :: .ref a :: rest)) :=
  va_put (C := RX11) (T := TX11) (N := 22) (ci := 11) (ty := .int) hx hb hT inZ11 tyX11 tyX11_ok nmX11 hown hK hP hD hS q0 he rfl 10 (by decide) (hT _ tw_814) (fun _ h => h) rfl (by decide +kernel) hn hf hl hdg (fun H1 locs1 hP hD hS => kk u0 H1 locs1 hm (hw ▸ hP) (hw ▸ hD) hS)
theorem gf_X11_168 (hx : p.tables.exec = Jvm.exec) (hb : c.code = cc) (hT : ∀ w ∈ gw_tbl, w.before args s = true) (hown : s.vm.findClass RX11 = some m.cls) (hK : va_K D classes (tyz cs) s) (hP : va_P D classes ws H) {a : Nat} (q0 : Nat) {fs : List Value} (he : ws[q0]? = some (a, .inr (11, fs))) {v : Value} (hv : fs[19]? = some v) (hdg : decode cc pc = .ok (.getfield 168, 3)) (kk : W p l e R s m args below meth c H locs cells slots Q (F0 m (pc + 3) ls (v :: rest))) : W p l e R s m args below meth c H locs cells slots Q (F0 m pc ls (.ref a :: rest)) :=
  va_get (C := RX11) (T := TX11) (N := 22) (ci := 11) hx hb hT inZ11 hown hK hP q0 he rfl 19 (by decide) (hT _ tw_823) (fun _ h => h) hv hdg kk
theorem pf_X11_168 (hx : p.tables.exec = Jvm.exec) (hb : c.code = cc) (hT : ∀ w ∈ gw_tbl, w.before args s = true) (hown : s.vm.findClass RX11 = some m.cls) (hK : va_K D classes (tyz cs) s) (hP : va_P D classes ws H) (hD : va_D A ws) (hS : va_S A H0 H locs) {a : Nat} (q0 : Nat) {fs : List Value} (he : ws[q0]? = some (a, .inr (11, fs))) {v : Value} (hl : 19 < fs.length) (hn : narrow .boolean v = v) (hf : fits .boolean v = true) {σ : Type} {u0 : σ} {wf : σ → va_W} (hw : ws.set q0 (a, .inr (11, fs.set 19 v)) = wf u0) {k : σ → Option β} (hm : nm u0 k = some z) (hdg : decode cc pc = .ok (.putfield 168, 3)) (kk : ∀ (u : σ) (H1 : Heap) (locs1 : List Loc), k u = some z → va_P D classes (wf u) H1 → va_D A (wf u) → va_S A H0 H1 locs1 → W p l e R s m args below meth c H1 locs1 cells slots Q (F0 m (pc + 3) ls rest)) : W p l e R s m args below meth c H locs cells slots Q (F0 m pc ls (v :: .ref a :: rest)) :=
  va_put (C := RX11) (T := TX11) (N := 22) (ci := 11) (ty := .boolean) hx hb hT inZ11 tyX11 tyX11_ok nmX11 hown hK hP hD hS q0 he rfl 19 (by decide) (hT _ tw_823) (fun _ h => h) rfl (by decide +kernel) hn hf hl hdg (fun H1 locs1 hP hD hS => kk u0 H1 locs1 hm (hw ▸ hP) (hw ▸ hD) hS)
theorem gf_X11_172 (hx : p.tables.exec = Jvm.exec) (hb : c.code = cc) (hT : ∀ w ∈ gw_tbl, w.before args s = true) (hown : s.vm.findClass RX11 = some m.cls) (hK : va_K D classes (tyz cs) s) (hP : va_P D classes ws H) {a : Nat} (q0 : Nat) {fs : List Value} (he : ws[q0]? = some (a, .inr (11, fs))) {v : Value} (hv : fs[18]? = some v) (hdg : decode cc pc = .ok (.getfield 172, 3)) (kk : W p l e R s m args below meth c H locs cells slots Q (F0 m (pc + 3) ls (v :: rest))) : W p l e R s m args below meth c H locs cells slots Q (F0 m pc ls (.ref a :: rest)) :=
  va_get (C := RX11) (T := TX11) (N := 22) (ci := 11) hx hb hT inZ11 hown hK hP q0 he rfl 18 (by decide) (hT _ tw_822) (fun _ h => h) hv hdg kk
theorem pf_X11_172 (hx : p.tables.exec = Jvm.exec) (hb : c.code = cc) (hT : ∀ w ∈ gw_tbl, w.before args s = true) (hown : s.vm.findClass RX11 = some m.cls) (hK : va_K D classes (tyz cs) s) (hP : va_P D classes ws H) (hD : va_D A ws) (hS : va_S A H0 H locs) {a : Nat} (q0 : Nat) {fs : List Value} (he : ws[q0]? = some (a, .inr (11, fs))) {v : Value} (hl : 18 < fs.length) (hn : narrow .int v = v) (hf : fits .int v = true) {σ : Type} {u0 : σ} {wf : σ → va_W} (hw : ws.set q0 (a, .inr (11, fs.set 18 v)) = wf u0) {k : σ → Option β} (hm : nm u0 k = some z) (hdg : decode cc pc = .ok (.putfield 172, 3)) (kk : ∀ (u : σ) (H1 : Heap) (locs1 : List Loc), k u = some z → va_P D classes (wf u) H1 → va_D A (wf u) → va_S A H0 H1 locs1 → W p l e R s m args below meth c H1 locs1 cells slots Q (F0 m (pc + 3) ls rest)) : W p l e R s m args below meth c H locs cells slots Q (F0 m pc ls (v :: .ref a :: rest)) :=
  va_put (C := RX11) (T := TX11) (N := 22) (ci := 11) (ty := .int) hx hb hT inZ11 tyX11 tyX11_ok nmX11 hown hK hP hD hS q0 he rfl 18 (by decide) (hT _ tw_822) (fun _ h => h) rfl (by decide +kernel) hn hf hl hdg (fun H1 locs1 hP hD hS => kk u0 H1 locs1 hm (hw ▸ hP) (hw ▸ hD) hS)
theorem gf_X11_181 (hx : p.tables.exec = Jvm.exec) (hb : c.code = cc) (hT : ∀ w ∈ gw_tbl, w.before args s = true) (hown : s.vm.findClass RX11 = some m.cls) (hK : va_K D classes (tyz cs) s) (hP : va_P D classes ws H) {a : Nat} (q0 : Nat) {fs : List Value} (he : ws[q0]? = some (a, .inr (11, fs))) {v : Value} (hv : fs[21]? = some v) (hdg : decode cc pc = .ok (.getfield 181, 3)) (kk : W p l e R s m args below meth c H locs cells slots Q (F0 m (pc + 3) ls (v :: rest))) : W p l e R s m args below meth c H locs cells slots Q (F0 m pc ls (.ref a :: rest)) :=
  va_get (C := RX11) (T := TX11) (N := 22) (ci := 11) hx hb hT inZ11 hown hK hP q0 he rfl 21 (by decide) (hT _ tw_825) (fun _ h => h) hv hdg kk
theorem pf_X11_181 (hx : p.tables.exec = Jvm.exec) (hb : c.code = cc) (hT : ∀ w ∈ gw_tbl, w.before args s = true) (hown : s.vm.findClass RX11 = some m.cls) (hK : va_K D classes (tyz cs) s) (hP : va_P D classes ws H) (hD : va_D A ws) (hS : va_S A H0 H locs) {a : Nat} (q0 : Nat) {fs : List Value} (he : ws[q0]? = some (a, .inr (11, fs))) {v : Value} (hl : 21 < fs.length) (hn : narrow .int v = v) (hf : fits .int v = true) {σ : Type} {u0 : σ} {wf : σ → va_W} (hw : ws.set q0 (a, .inr (11, fs.set 21 v)) = wf u0) {k : σ → Option β} (hm : nm u0 k = some z) (hdg : decode cc pc = .ok (.putfield 181, 3)) (kk : ∀ (u : σ) (H1 : Heap) (locs1 : List Loc), k u = some z → va_P D classes (wf u) H1 → va_D A (wf u) → va_S A H0 H1 locs1 → W p l e R s m args below meth c H1 locs1 cells slots Q (F0 m (pc + 3) ls rest)) : W p l e R s m args below meth c H locs cells slots Q (F0 m pc ls (v :: .ref a :: rest)) :=
  va_put (C := RX11) (T := TX11) (N := 22) (ci := 11) (ty := .int) hx hb hT inZ11 tyX11 tyX11_ok nmX11 hown hK hP hD hS q0 he rfl 21 (by decide) (hT _ tw_825) (fun _ h => h) rfl (by decide +kernel) hn hf hl hdg (fun H1 locs1 hP hD hS => kk u0 H1 locs1 hm (hw ▸ hP) (hw ▸ hD) hS)
theorem gf_X11_212 (hx : p.tables.exec = Jvm.exec) (hb : c.code = cc) (hT : ∀ w ∈ gw_tbl, w.before args s = true) (hown : s.vm.findClass RX11 = some m.cls) (hK : va_K D classes (tyz cs) s) (hP : va_P D classes ws H) {a : Nat} (q0 : Nat) {fs : List Value} (he : ws[q0]? = some (a, .inr (11, fs))) {v : Value} (hv : fs[3]? = some v) (hdg : decode cc pc = .ok (.getfield 212, 3)) (kk : W p l e R s m args below meth c H locs cells slots Q (F0 m (pc + 3) ls (v :: rest))) : W p l e R s m args below meth c H locs cells slots Q (F0 m pc ls (.ref a :: rest)) :=
  va_get (C := RX11) (T := TX11) (N := 22) (ci := 11) hx hb hT inZ11 hown hK hP q0 he rfl 3 (by decide) (hT _ tw_807) (fun _ h => h) hv hdg kk
theorem pf_X11_212 (hx : p.tables.exec = Jvm.exec) (hb : c.code = cc) (hT : ∀ w ∈ gw_tbl, w.before args s = true) (hown : s.vm.findClass RX11 = some m.cls) (hK : va_K D classes (tyz cs) s) (hP : va_P D classes ws H) (hD : va_D A ws) (hS : va_S A H0 H locs) {a : Nat} (q0 : Nat) {fs : List Value} (he : ws[q0]? = some (a, .inr (11, fs))) {v : Value} (hl : 3 < fs.length) (hn : narrow .long v = v) (hf : fits .long v = true) {σ : Type} {u0 : σ} {wf : σ → va_W} (hw : ws.set q0 (a, .inr (11, fs.set 3 v)) = wf u0) {k : σ → Option β} (hm : nm u0 k = some z) (hdg : decode cc pc = .ok (.putfield 212, 3)) (kk : ∀ (u : σ) (H1 : Heap) (locs1 : List Loc), k u = some z → va_P D classes (wf u) H1 → va_D A (wf u) → va_S A H0 H1 locs1 → W p l e R s m args below meth c H1 locs1 cells slots Q (F0 m (pc + 3) ls rest)) : W p l e R s m args below meth c H locs cells slots Q (F0 m pc ls (v :: .ref a :: rest)) :=
  va_put (C := RX11) (T := TX11) (N := 22) (ci := 11) (ty := .long) hx hb hT inZ11 tyX11 tyX11_ok nmX11 hown hK hP hD hS q0 he rfl 3 (by decide) (hT _ tw_807) (fun _ h => h) rfl (by decide +kernel) hn hf hl hdg (fun H1 locs1 hP hD hS => kk u0 H1 locs1 hm (hw ▸ hP) (hw ▸ hD) hS)
end KL
theorem cw_X10_125 : CWS RX10 125 yJ6_bitCount_0f7a4 cJ6_bitCount_0f7a4 1 (some .int) 1 := ⟨tw_425, tw_426, tw_18, tw_427, ⟨by decide, by decide, by decide +kernel⟩⟩
theorem cw_X11_48 : CWV RX11 48 RX11 yX11_refuse cX11_refuse 2 (some .int) 1 := ⟨tw_879, tw_881, tp_28, tw_13, tw_882, ⟨by decide, by decide, by decide +kernel⟩⟩
theorem cw_X11_52 : CWS RX11 52 yX11_in cX11_in 3 (some .boolean) 3 := ⟨tw_876, tw_877, tw_13, tw_878, ⟨by decide, by decide, by decide +kernel⟩⟩
theorem cw_X11_56 : CWV RX11 56 RX11 yX11_layBook cX11_layBook 3 none 1 := ⟨tw_883, tw_885, tp_29, tw_13, tw_886, ⟨by decide, by decide, by decide +kernel⟩⟩
theorem cw_X11_60 : CWV RX11 60 RX11 yX11_addFiction cX11_addFiction 6 none 4 := ⟨tw_891, tw_893, tp_30, tw_13, tw_894, ⟨by decide, by decide, by decide +kernel⟩⟩
theorem cw_X11_64 : CWV RX11 64 RX11 yX11_addCourt cX11_addCourt 3 none 2 := ⟨tw_899, tw_901, tp_31, tw_13, tw_902, ⟨by decide, by decide, by decide +kernel⟩⟩
theorem cw_X11_78 : CWV RX11 78 RX11 yX11_isLetter cX11_isLetter 2 (some .boolean) 1 := ⟨tw_923, tw_925, tp_34, tw_13, tw_926, ⟨by decide, by decide, by decide +kernel⟩⟩
theorem cw_X11_82 : CWV RX11 82 RX11 yX11_isFigure cX11_isFigure 2 (some .boolean) 1 := ⟨tw_927, tw_929, tp_35, tw_13, tw_930, ⟨by decide, by decide, by decide +kernel⟩⟩
theorem cw_X11_85 : CWV RX11 85 RX11 yX11_isWord cX11_isWord 5 (some .boolean) 1 := ⟨tw_935, tw_937, tp_37, tw_13, tw_938, ⟨by decide, by decide, by decide +kernel⟩⟩
theorem cw_X11_88 : CWV RX11 88 RX11 yX11_next cX11_next 1 none 0 := ⟨tw_919, tw_921, tp_33, tw_13, tw_922, ⟨by decide, by decide, by decide +kernel⟩⟩
theorem cw_X11_91 : CWV RX11 91 RX11 yX11_numberHere cX11_numberHere 4 (some .int) 2 := ⟨tw_943, tw_945, tp_39, tw_13, tw_946, ⟨by decide, by decide, by decide +kernel⟩⟩
theorem cw_X11_98 : CWV RX11 98 RX11 yX11_number cX11_number 3 (some .int) 2 := ⟨tw_951, tw_953, tp_41, tw_13, tw_954, ⟨by decide, by decide, by decide +kernel⟩⟩
theorem cw_X11_101 : CWV RX11 101 RX11 yX11_facts cX11_facts 3 (some .int) 0 := ⟨tw_939, tw_941, tp_38, tw_13, tw_942, ⟨by decide, by decide, by decide +kernel⟩⟩
theorem cw_X11_108 : CWV RX11 108 RX11 yX11_wordHere cX11_wordHere 2 (some .int) 0 := ⟨tw_931, tw_933, tp_36, tw_13, tw_934, ⟨by decide, by decide, by decide +kernel⟩⟩
theorem cw_X11_114 : CWV RX11 114 RX11 yX11_readsFiction cX11_readsFiction 5 (some .boolean) 0 := ⟨tw_947, tw_949, tp_40, tw_13, tw_950, ⟨by decide, by decide, by decide +kernel⟩⟩
theorem cw_X11_118 : CWV RX11 118 RX11 yX11_readsCourt cX11_readsCourt 3 (some .boolean) 0 := ⟨tw_955, tw_957, tp_42, tw_13, tw_958, ⟨by decide, by decide, by decide +kernel⟩⟩
theorem cw_X11_121 : CWV RX11 121 RX11 yX11_readItems cX11_readItems 4 (some .int) 0 := ⟨tw_915, tw_917, tp_32, tw_13, tw_918, ⟨by decide, by decide, by decide +kernel⟩⟩
theorem cw_X11_124 : CWS RX11 124 yX11_has cX11_has 2 (some .boolean) 2 := ⟨tw_982, tw_983, tw_13, tw_984, ⟨by decide, by decide, by decide +kernel⟩⟩
theorem cw_X11_128 : CWS RX11 128 yX11_costBy cX11_costBy 3 (some .int) 3 := ⟨tw_997, tw_998, tw_13, tw_999, ⟨by decide, by decide, by decide +kernel⟩⟩
theorem cw_X11_132 : CWS RX11 132 yX11_bits cX11_bits 3 (some .int) 1 := ⟨tw_963, tw_964, tw_13, tw_965, ⟨by decide, by decide, by decide +kernel⟩⟩
theorem cw_X11_135 : CWV RX11 135 RX11 yX11_supposedBy cX11_supposedBy 4 (some .int) 1 := ⟨tw_978, tw_980, tp_45, tw_13, tw_981, ⟨by decide, by decide, by decide +kernel⟩⟩
theorem cw_X11_138 : CWV RX11 138 RX11 yX11_cost cX11_cost 3 (some .int) 2 := ⟨tw_993, tw_995, tp_48, tw_13, tw_996, ⟨by decide, by decide, by decide +kernel⟩⟩
theorem cw_X11_141 : CWV RX11 141 RX11 yX11_isFiction cX11_isFiction 2 (some .boolean) 1 := ⟨tw_970, tw_972, tp_43, tw_13, tw_973, ⟨by decide, by decide, by decide +kernel⟩⟩
theorem cw_X11_144 : CWV RX11 144 RX11 yX11_mayPlead cX11_mayPlead 7 (some .boolean) 3 := ⟨tw_974, tw_976, tp_44, tw_13, tw_977, ⟨by decide, by decide, by decide +kernel⟩⟩
theorem cw_X11_147 : CWV RX11 147 RX11 yX11_keepPast cX11_keepPast 2 none 0 := ⟨tw_985, tw_987, tp_46, tw_13, tw_988, ⟨by decide, by decide, by decide +kernel⟩⟩
theorem cw_X11_150 : CWV RX11 150 RX11 yX11_pleadAt cX11_pleadAt 3 none 2 := ⟨tw_989, tw_991, tp_47, tw_13, tw_992, ⟨by decide, by decide, by decide +kernel⟩⟩
theorem cw_X11_153 : CWV RX11 153 RX11 yX11_wins cX11_wins 3 (some .boolean) 1 := ⟨tw_1008, tw_1010, tp_50, tw_13, tw_1011, ⟨by decide, by decide, by decide +kernel⟩⟩
theorem cw_X11_156 : CWV RX11 156 RX11 yX11_denyAt cX11_denyAt 3 (some .int) 2 := ⟨tw_1004, tw_1006, tp_49, tw_13, tw_1007, ⟨by decide, by decide, by decide +kernel⟩⟩
theorem cw_X11_159 : CWV RX11 159 RX11 yX11_nowOf cX11_nowOf 2 (some .int) 1 := ⟨tw_1024, tw_1026, tp_51, tw_13, tw_1027, ⟨by decide, by decide, by decide +kernel⟩⟩
theorem cw_X11_162 : CWV RX11 162 RX11 yX11_hears cX11_hears 3 (some .boolean) 2 := ⟨tw_1040, tw_1042, tp_53, tw_13, tw_1043, ⟨by decide, by decide, by decide +kernel⟩⟩
theorem cw_X11_165 : CWV RX11 165 RX11 yX11_hearBy cX11_hearBy 4 (some .int) 1 := ⟨tw_1036, tw_1038, tp_52, tw_13, tw_1039, ⟨by decide, by decide, by decide +kernel⟩⟩
theorem cw_X11_175 : CWV RX11 175 RX11 yX11_beginRows cX11_beginRows 1 none 0 := ⟨tw_1060, tw_1062, tp_57, tw_13, tw_1063, ⟨by decide, by decide, by decide +kernel⟩⟩
theorem cw_X11_178 : CWV RX11 178 RX11 yX11_nextRow cX11_nextRow 2 (some .boolean) 0 := ⟨tw_1064, tw_1066, tp_58, tw_13, tw_1067, ⟨by decide, by decide, by decide +kernel⟩⟩
theorem cw_X11_184 : CWV RX11 184 RX11 yX11_isCourt cX11_isCourt 2 (some .boolean) 1 := ⟨tw_1048, tw_1050, tp_54, tw_13, tw_1051, ⟨by decide, by decide, by decide +kernel⟩⟩
theorem cw_X11_187 : CWV RX11 187 RX11 yX11_badTen cX11_badTen 1 (some .int) 0 := ⟨tw_1052, tw_1054, tp_55, tw_13, tw_1055, ⟨by decide, by decide, by decide +kernel⟩⟩
theorem cw_X11_190 : CWV RX11 190 RX11 yX11_bestTo cX11_bestTo 6 (some .int) 2 := ⟨tw_1056, tw_1058, tp_56, tw_13, tw_1059, ⟨by decide, by decide, by decide +kernel⟩⟩
theorem cw_X11_193 : CWS RX11 193 yX11_pairsOf cX11_pairsOf 3 (some .int) 1 := ⟨tw_1076, tw_1077, tw_13, tw_1078, ⟨by decide, by decide, by decide +kernel⟩⟩
theorem cw_X11_196 : CWS RX11 196 yX11_oneGets cX11_oneGets 3 (some .int) 3 := ⟨tw_1087, tw_1088, tw_13, tw_1089, ⟨by decide, by decide, by decide +kernel⟩⟩
theorem cw_X11_200 : CWS RX11 200 yX11_otherGets cX11_otherGets 3 (some .int) 3 := ⟨tw_1090, tw_1091, tw_13, tw_1092, ⟨by decide, by decide, by decide +kernel⟩⟩
theorem cw_X11_203 : CWV RX11 203 RX11 yX11_kindsOf cX11_kindsOf 7 (some .int) 1 := ⟨tw_1117, tw_1119, tp_59, tw_13, tw_1120, ⟨by decide, by decide, by decide +kernel⟩⟩
theorem cw_X11_206 : CWV RX11 206 RX11 yX11_mostAlike cX11_mostAlike 8 (some .int) 3 := ⟨tw_1125, tw_1127, tp_60, tw_13, tw_1128, ⟨by decide, by decide, by decide +kernel⟩⟩
theorem cw_X11_209 : CWV RX11 209 RX11 yX11_mayBeTrue cX11_mayBeTrue 4 (some .boolean) 1 := ⟨tw_1133, tw_1135, tp_61, tw_13, tw_1136, ⟨by decide, by decide, by decide +kernel⟩⟩
theorem cw_X11_215 : CWV RX11 215 RX11 yX11_tellPart cX11_tellPart 11 none 2 := ⟨tw_1141, tw_1143, tp_62, tw_13, tw_1144, ⟨by decide, by decide, by decide +kernel⟩⟩
theorem cw_X11_230 : CWV RX11 230 RX11 yX11_countOf cX11_countOf 2 (some .int) 1 := ⟨tw_1175, tw_1177, tp_63, tw_13, tw_1178, ⟨by decide, by decide, by decide +kernel⟩⟩
theorem cw_X3_47 : CWV RX3 47 RX7 yX7_empty cX7_empty 1 none 0 := ⟨tw_247, tw_248, tw_249, tw_9, tw_250, ⟨by decide, by decide, by decide +kernel⟩⟩
theorem cw_X3_50 : CWV RX3 50 RX3 yX3_beginSuit cX3_beginSuit 1 none 0 := ⟨tw_251, tw_252, tw_253, tw_8, tw_254, ⟨by decide, by decide, by decide +kernel⟩⟩
theorem cw_X3_62 : CWV RX3 62 RX7 yX7_become cX7_become 3 none 1 := ⟨tw_416, tw_417, tw_418, tw_9, tw_419, ⟨by decide, by decide, by decide +kernel⟩⟩
theorem cw_X3_66 : CWV RX3 66 RX7 yX7_isFull cX7_isFull 1 (some .boolean) 0 := ⟨tw_525, tw_260, tw_261, tw_9, tw_262, ⟨by decide, by decide, by decide +kernel⟩⟩
theorem cw_X3_70 : CWV RX3 70 RX7 yX7_dropFirst cX7_dropFirst 3 none 0 := ⟨tw_526, tw_527, tw_528, tw_9, tw_529, ⟨by decide, by decide, by decide +kernel⟩⟩
theorem cw_X3_73 : CWV RX3 73 RX7 yX7_add cX7_add 5 none 4 := ⟨tw_534, tw_268, tw_269, tw_9, tw_270, ⟨by decide, by decide, by decide +kernel⟩⟩
theorem cw_X3_80 : CWV RX3 80 RX7 yX7_cell cX7_cell 4 (some .int) 2 := ⟨tw_460, tw_461, tw_462, tw_9, tw_463, ⟨by decide, by decide, by decide +kernel⟩⟩
theorem cw_X3_84 : CWV RX3 84 RX7 yX7_dropLast cX7_dropLast 1 none 0 := ⟨tw_567, tw_531, tw_532, tw_9, tw_533, ⟨by decide, by decide, by decide +kernel⟩⟩
theorem cw_X3_87 : CWS RX3 87 yJ6_bitCount_0f7a4 cJ6_bitCount_0f7a4 1 (some .int) 1 := ⟨tw_468, tw_426, tw_18, tw_427, ⟨by decide, by decide, by decide +kernel⟩⟩
theorem cw_X3_93 : CWV RX3 93 RX3 yX3_kindNumbered cX3_kindNumbered 3 (some (.object "DoeRoe$Plain")) 1 := ⟨tw_469, tw_471, tp_18, tw_8, tw_472, ⟨by decide, by decide, by decide +kernel⟩⟩
theorem cw_X3_108 : CWN RX3 108 yX10_holds "DoeRoe" cX10_holds 2 (some .boolean) 2 := ⟨List.mem_of_getElem? (i := 12) rfl, tw_449, tw_1, tw_450, ⟨by decide, by decide, by decide +kernel⟩⟩
theorem cw_X3_112 : CWV RX3 112 RX3 yX3_denialWins cX3_denialWins 3 (some .boolean) 1 := ⟨tw_736, tw_540, tw_541, tw_8, tw_542, ⟨by decide, by decide, by decide +kernel⟩⟩
theorem cw_X3_115 : CWV RX3 115 RX3 yX3_courtHears cX3_courtHears 3 (some .boolean) 2 := ⟨tw_589, tw_590, tw_591, tw_8, tw_592, ⟨by decide, by decide, by decide +kernel⟩⟩
theorem cw_X3_118 : CWV RX3 118 RX3 yX3_factsWith cX3_factsWith 4 (some .int) 1 := ⟨tw_762, tw_456, tw_457, tw_8, tw_458, ⟨by decide, by decide, by decide +kernel⟩⟩
theorem cw_X3_121 : CWV RX3 121 RX3 yX3_allowed cX3_allowed 7 (some .boolean) 3 := ⟨tw_763, tw_465, tw_466, tw_8, tw_467, ⟨by decide, by decide, by decide +kernel⟩⟩
theorem cw_X3_124 : CWV RX3 124 RX3 yX3_fitsNotes cX3_fitsNotes 4 (some .boolean) 2 := ⟨tw_699, tw_701, tp_24, tw_8, tw_702, ⟨by decide, by decide, by decide +kernel⟩⟩
theorem cw_X3_127 : CWV RX3 127 RX3 yX3_alikeWith cX3_alikeWith 8 (some .int) 4 := ⟨tw_715, tw_717, tp_26, tw_8, tw_718, ⟨by decide, by decide, by decide +kernel⟩⟩
theorem cw_X3_136 : CWV RX3 136 RX3 yX3_costAs cX3_costAs 4 (some .int) 3 := ⟨tw_703, tw_705, tp_25, tw_8, tw_706, ⟨by decide, by decide, by decide +kernel⟩⟩
theorem cw_X7_29 : CWV RX7 29 RX7 yX7_isFull cX7_isFull 1 (some .boolean) 0 := ⟨tw_271, tw_260, tw_261, tw_9, tw_262, ⟨by decide, by decide, by decide +kernel⟩⟩
theorem cw_X7_33 : CWV RX7 33 RX7 yX7_put cX7_put 5 none 3 := ⟨tw_272, tw_274, tp_2, tw_9, tw_275, ⟨by decide, by decide, by decide +kernel⟩⟩
theorem cw_X7_37 : CWV RX7 37 RX7 yX7_dropLast cX7_dropLast 1 none 0 := ⟨tw_530, tw_531, tw_532, tw_9, tw_533, ⟨by decide, by decide, by decide +kernel⟩⟩
theorem cw_X7_42 : CWV RX7 42 RX7 yX7_cell cX7_cell 4 (some .int) 2 := ⟨tw_797, tw_461, tw_462, tw_9, tw_463, ⟨by decide, by decide, by decide +kernel⟩⟩
end
section
theorem dX0_init_0 : decode cX0_init 0 = .ok (.aload_n 0, 1) := by decide +kernel
theorem dX0_init_1 : decode cX0_init 1 = .ok (.invokespecial 3, 3) := by decide +kernel
theorem dX0_init_4 : decode cX0_init 4 = .ok (.aload_n 0, 1) := by decide +kernel
theorem dX0_init_5 : decode cX0_init 5 = .ok (.sipush 150, 3) := by decide +kernel
theorem dX0_init_8 : decode cX0_init 8 = .ok (.newarray .int, 2) := by decide +kernel
theorem dX0_init_10 : decode cX0_init 10 = .ok (.putfield 9, 3) := by decide +kernel
theorem dX0_init_13 : decode cX0_init 13 = .ok (.return_, 1) := by decide +kernel
theorem dX0_isFull_0 : decode cX0_isFull 0 = .ok (.aload_n 0, 1) := by decide +kernel
theorem dX0_isFull_1 : decode cX0_isFull 1 = .ok (.getfield 15, 3) := by decide +kernel
theorem dX0_isFull_4 : decode cX0_isFull 4 = .ok (.sipush 150, 3) := by decide +kernel
theorem dX0_isFull_7 : decode cX0_isFull 7 = .ok (.if_icmp .lt 7, 3) := by decide +kernel
theorem dX0_isFull_10 : decode cX0_isFull 10 = .ok (.iconst 1, 1) := by decide +kernel
theorem dX0_isFull_11 : decode cX0_isFull 11 = .ok (.goto 4, 3) := by decide +kernel
theorem dX0_isFull_14 : decode cX0_isFull 14 = .ok (.iconst 0, 1) := by decide +kernel
theorem dX0_isFull_15 : decode cX0_isFull 15 = .ok (.ireturn, 1) := by decide +kernel
theorem dX0_add_0 : decode cX0_add 0 = .ok (.aload_n 0, 1) := by decide +kernel
theorem dX0_add_1 : decode cX0_add 1 = .ok (.getfield 15, 3) := by decide +kernel
theorem dX0_add_4 : decode cX0_add 4 = .ok (.ifCond .lt 35, 3) := by decide +kernel
theorem dX0_add_7 : decode cX0_add 7 = .ok (.aload_n 0, 1) := by decide +kernel
theorem dX0_add_8 : decode cX0_add 8 = .ok (.getfield 15, 3) := by decide +kernel
theorem dX0_add_11 : decode cX0_add 11 = .ok (.aload_n 0, 1) := by decide +kernel
theorem dX0_add_12 : decode cX0_add 12 = .ok (.getfield 9, 3) := by decide +kernel
theorem dX0_add_15 : decode cX0_add 15 = .ok (.arraylength, 1) := by decide +kernel
theorem dX0_add_16 : decode cX0_add 16 = .ok (.if_icmp .ge 23, 3) := by decide +kernel
theorem dX0_add_19 : decode cX0_add 19 = .ok (.aload_n 0, 1) := by decide +kernel
theorem dX0_add_20 : decode cX0_add 20 = .ok (.getfield 9, 3) := by decide +kernel
theorem dX0_add_23 : decode cX0_add 23 = .ok (.aload_n 0, 1) := by decide +kernel
theorem dX0_add_24 : decode cX0_add 24 = .ok (.getfield 15, 3) := by decide +kernel
theorem dX0_add_27 : decode cX0_add 27 = .ok (.iload_n 1, 1) := by decide +kernel
theorem dX0_add_28 : decode cX0_add 28 = .ok (.iastore, 1) := by decide +kernel
theorem dX0_add_29 : decode cX0_add 29 = .ok (.aload_n 0, 1) := by decide +kernel
theorem dX0_add_30 : decode cX0_add 30 = .ok (.dup, 1) := by decide +kernel
theorem dX0_add_31 : decode cX0_add 31 = .ok (.getfield 15, 3) := by decide +kernel
theorem dX0_add_34 : decode cX0_add 34 = .ok (.iconst 1, 1) := by decide +kernel
theorem dX0_add_35 : decode cX0_add 35 = .ok (.iadd, 1) := by decide +kernel
theorem dX0_add_36 : decode cX0_add 36 = .ok (.putfield 15, 3) := by decide +kernel
theorem dX0_add_39 : decode cX0_add 39 = .ok (.return_, 1) := by decide +kernel
theorem dX0_readInto_0 : decode cX0_readInto 0 = .ok (.aload_n 1, 1) := by decide +kernel
theorem dX0_readInto_1 : decode cX0_readInto 1 = .ok (.iconst 0, 1) := by decide +kernel
theorem dX0_readInto_2 : decode cX0_readInto 2 = .ok (.invokevirtual 19, 3) := by decide +kernel
theorem dX0_readInto_5 : decode cX0_readInto 5 = .ok (.aload_n 0, 1) := by decide +kernel
theorem dX0_readInto_6 : decode cX0_readInto 6 = .ok (.iconst 0, 1) := by decide +kernel
theorem dX0_readInto_7 : decode cX0_readInto 7 = .ok (.putfield 25, 3) := by decide +kernel
theorem dX0_readInto_10 : decode cX0_readInto 10 = .ok (.aload_n 0, 1) := by decide +kernel
theorem dX0_readInto_11 : decode cX0_readInto 11 = .ok (.invokevirtual 28, 3) := by decide +kernel
theorem dX0_readInto_14 : decode cX0_readInto 14 = .ok (.iconst 0, 1) := by decide +kernel
theorem dX0_readInto_15 : decode cX0_readInto 15 = .ok (.istore_n 2, 1) := by decide +kernel
theorem dX0_readInto_16 : decode cX0_readInto 16 = .ok (.iload_n 2, 1) := by decide +kernel
theorem dX0_readInto_17 : decode cX0_readInto 17 = .ok (.bipush 11, 2) := by decide +kernel
theorem dX0_readInto_19 : decode cX0_readInto 19 = .ok (.if_icmp .gt 42, 3) := by decide +kernel
theorem dX0_readInto_22 : decode cX0_readInto 22 = .ok (.iload_n 2, 1) := by decide +kernel
theorem dX0_readInto_23 : decode cX0_readInto 23 = .ok (.ifCond .le 12, 3) := by decide +kernel
theorem dX0_readInto_26 : decode cX0_readInto 26 = .ok (.aload_n 0, 1) := by decide +kernel
theorem dX0_readInto_27 : decode cX0_readInto 27 = .ok (.getfield 31, 3) := by decide +kernel
theorem dX0_readInto_30 : decode cX0_readInto 30 = .ok (.ifCond .ne 5, 3) := by decide +kernel
theorem dX0_readInto_33 : decode cX0_readInto 33 = .ok (.iload_n 2, 1) := by decide +kernel
theorem dX0_readInto_34 : decode cX0_readInto 34 = .ok (.ireturn, 1) := by decide +kernel
theorem dX0_readInto_35 : decode cX0_readInto 35 = .ok (.aload_n 0, 1) := by decide +kernel
theorem dX0_readInto_36 : decode cX0_readInto 36 = .ok (.aload_n 1, 1) := by decide +kernel
theorem dX0_readInto_37 : decode cX0_readInto 37 = .ok (.iload_n 2, 1) := by decide +kernel
theorem dX0_readInto_38 : decode cX0_readInto 38 = .ok (.ifCond .ne 7, 3) := by decide +kernel
theorem dX0_readInto_41 : decode cX0_readInto 41 = .ok (.iconst 1, 1) := by decide +kernel
theorem dX0_readInto_42 : decode cX0_readInto 42 = .ok (.goto 4, 3) := by decide +kernel
theorem dX0_readInto_45 : decode cX0_readInto 45 = .ok (.iconst 0, 1) := by decide +kernel
theorem dX0_readInto_46 : decode cX0_readInto 46 = .ok (.invokevirtual 34, 3) := by decide +kernel
theorem dX0_readInto_49 : decode cX0_readInto 49 = .ok (.ifCond .ne 6, 3) := by decide +kernel
theorem dX0_readInto_52 : decode cX0_readInto 52 = .ok (.goto 9, 3) := by decide +kernel
theorem dX0_readInto_55 : decode cX0_readInto 55 = .ok (.iinc 2 1, 3) := by decide +kernel
theorem dX0_readInto_58 : decode cX0_readInto 58 = .ok (.goto (-42), 3) := by decide +kernel
theorem dX0_readInto_61 : decode cX0_readInto 61 = .ok (.bipush (-10), 2) := by decide +kernel
theorem dX0_readInto_63 : decode cX0_readInto 63 = .ok (.aload_n 0, 1) := by decide +kernel
theorem dX0_readInto_64 : decode cX0_readInto 64 = .ok (.getfield 38, 3) := by decide +kernel
theorem dX0_readInto_67 : decode cX0_readInto 67 = .ok (.isub, 1) := by decide +kernel
theorem dX0_readInto_68 : decode cX0_readInto 68 = .ok (.ireturn, 1) := by decide +kernel
theorem dX0_takeItem_0 : decode cX0_takeItem 0 = .ok (.aload_n 0, 1) := by decide +kernel
theorem dX0_takeItem_1 : decode cX0_takeItem 1 = .ok (.getfield 31, 3) := by decide +kernel
theorem dX0_takeItem_4 : decode cX0_takeItem 4 = .ok (.istore_n 3, 1) := by decide +kernel
theorem dX0_takeItem_5 : decode cX0_takeItem 5 = .ok (.iload_n 3, 1) := by decide +kernel
theorem dX0_takeItem_6 : decode cX0_takeItem 6 = .ok (.aload_n 1, 1) := by decide +kernel
theorem dX0_takeItem_7 : decode cX0_takeItem 7 = .ok (.iload_n 2, 1) := by decide +kernel
theorem dX0_takeItem_8 : decode cX0_takeItem 8 = .ok (.invokestatic 41, 3) := by decide +kernel
theorem dX0_takeItem_11 : decode cX0_takeItem 11 = .ok (.ifCond .ne 5, 3) := by decide +kernel
theorem dX0_takeItem_14 : decode cX0_takeItem 14 = .ok (.iconst 0, 1) := by decide +kernel
theorem dX0_takeItem_15 : decode cX0_takeItem 15 = .ok (.ireturn, 1) := by decide +kernel
theorem dX0_takeItem_16 : decode cX0_takeItem 16 = .ok (.aload_n 0, 1) := by decide +kernel
theorem dX0_takeItem_17 : decode cX0_takeItem 17 = .ok (.invokevirtual 28, 3) := by decide +kernel
theorem dX0_takeItem_20 : decode cX0_takeItem 20 = .ok (.iload_n 3, 1) := by decide +kernel
theorem dX0_takeItem_21 : decode cX0_takeItem 21 = .ok (.lookupswitch 39 #[(5, 27), (6, 33)], 27) := by decide +kernel
theorem dX0_takeItem_48 : decode cX0_takeItem 48 = .ok (.aload_n 0, 1) := by decide +kernel
theorem dX0_takeItem_49 : decode cX0_takeItem 49 = .ok (.aload_n 1, 1) := by decide +kernel
theorem dX0_takeItem_50 : decode cX0_takeItem 50 = .ok (.invokevirtual 45, 3) := by decide +kernel
theorem dX0_takeItem_53 : decode cX0_takeItem 53 = .ok (.ireturn, 1) := by decide +kernel
theorem dX0_takeItem_54 : decode cX0_takeItem 54 = .ok (.aload_n 0, 1) := by decide +kernel
theorem dX0_takeItem_55 : decode cX0_takeItem 55 = .ok (.aload_n 1, 1) := by decide +kernel
theorem dX0_takeItem_56 : decode cX0_takeItem 56 = .ok (.invokevirtual 49, 3) := by decide +kernel
theorem dX0_takeItem_59 : decode cX0_takeItem 59 = .ok (.ireturn, 1) := by decide +kernel
theorem dX0_takeItem_60 : decode cX0_takeItem 60 = .ok (.aload_n 0, 1) := by decide +kernel
theorem dX0_takeItem_61 : decode cX0_takeItem 61 = .ok (.aload_n 1, 1) := by decide +kernel
theorem dX0_takeItem_62 : decode cX0_takeItem 62 = .ok (.invokevirtual 52, 3) := by decide +kernel
theorem dX0_takeItem_65 : decode cX0_takeItem 65 = .ok (.ireturn, 1) := by decide +kernel
theorem dX0_mayBegin_0 : decode cX0_mayBegin 0 = .ok (.iload_n 2, 1) := by decide +kernel
theorem dX0_mayBegin_1 : decode cX0_mayBegin 1 = .ok (.ifCond .eq 14, 3) := by decide +kernel
theorem dX0_mayBegin_4 : decode cX0_mayBegin 4 = .ok (.iload_n 0, 1) := by decide +kernel
theorem dX0_mayBegin_5 : decode cX0_mayBegin 5 = .ok (.iconst 4, 1) := by decide +kernel
theorem dX0_mayBegin_6 : decode cX0_mayBegin 6 = .ok (.if_icmp .ne 7, 3) := by decide +kernel
theorem dX0_mayBegin_9 : decode cX0_mayBegin 9 = .ok (.iconst 1, 1) := by decide +kernel
theorem dX0_mayBegin_10 : decode cX0_mayBegin 10 = .ok (.goto 4, 3) := by decide +kernel
theorem dX0_mayBegin_13 : decode cX0_mayBegin 13 = .ok (.iconst 0, 1) := by decide +kernel
theorem dX0_mayBegin_14 : decode cX0_mayBegin 14 = .ok (.ireturn, 1) := by decide +kernel
theorem dX0_mayBegin_15 : decode cX0_mayBegin 15 = .ok (.iload_n 0, 1) := by decide +kernel
theorem dX0_mayBegin_16 : decode cX0_mayBegin 16 = .ok (.iconst 5, 1) := by decide +kernel
theorem dX0_mayBegin_17 : decode cX0_mayBegin 17 = .ok (.if_icmp .ne 13, 3) := by decide +kernel
theorem dX0_mayBegin_20 : decode cX0_mayBegin 20 = .ok (.aload_n 1, 1) := by decide +kernel
theorem dX0_mayBegin_21 : decode cX0_mayBegin 21 = .ok (.getfield 55, 3) := by decide +kernel
theorem dX0_mayBegin_24 : decode cX0_mayBegin 24 = .ok (.invokevirtual 59, 3) := by decide +kernel
theorem dX0_mayBegin_27 : decode cX0_mayBegin 27 = .ok (.ifCond .eq 19, 3) := by decide +kernel
theorem dX0_mayBegin_30 : decode cX0_mayBegin 30 = .ok (.iload_n 0, 1) := by decide +kernel
theorem dX0_mayBegin_31 : decode cX0_mayBegin 31 = .ok (.bipush 6, 2) := by decide +kernel
theorem dX0_mayBegin_33 : decode cX0_mayBegin 33 = .ok (.if_icmp .ne 17, 3) := by decide +kernel
theorem dX0_mayBegin_36 : decode cX0_mayBegin 36 = .ok (.aload_n 1, 1) := by decide +kernel
theorem dX0_mayBegin_37 : decode cX0_mayBegin 37 = .ok (.getfield 65, 3) := by decide +kernel
theorem dX0_mayBegin_40 : decode cX0_mayBegin 40 = .ok (.invokevirtual 59, 3) := by decide +kernel
theorem dX0_mayBegin_43 : decode cX0_mayBegin 43 = .ok (.ifCond .ne 7, 3) := by decide +kernel
theorem dX0_mayBegin_46 : decode cX0_mayBegin 46 = .ok (.iconst 1, 1) := by decide +kernel
theorem dX0_mayBegin_47 : decode cX0_mayBegin 47 = .ok (.goto 4, 3) := by decide +kernel
theorem dX0_mayBegin_50 : decode cX0_mayBegin 50 = .ok (.iconst 0, 1) := by decide +kernel
theorem dX0_mayBegin_51 : decode cX0_mayBegin 51 = .ok (.ireturn, 1) := by decide +kernel
theorem dX0_takeBook_0 : decode cX0_takeBook 0 = .ok (.aload_n 0, 1) := by decide +kernel
theorem dX0_takeBook_1 : decode cX0_takeBook 1 = .ok (.invokevirtual 68, 3) := by decide +kernel
theorem dX0_takeBook_4 : decode cX0_takeBook 4 = .ok (.istore_n 2, 1) := by decide +kernel
theorem dX0_takeBook_5 : decode cX0_takeBook 5 = .ok (.iload_n 2, 1) := by decide +kernel
theorem dX0_takeBook_6 : decode cX0_takeBook 6 = .ok (.iconst (-1), 1) := by decide +kernel
theorem dX0_takeBook_7 : decode cX0_takeBook 7 = .ok (.if_icmp .ne 5, 3) := by decide +kernel
theorem dX0_takeBook_10 : decode cX0_takeBook 10 = .ok (.iconst 0, 1) := by decide +kernel
theorem dX0_takeBook_11 : decode cX0_takeBook 11 = .ok (.ireturn, 1) := by decide +kernel
theorem dX0_takeBook_12 : decode cX0_takeBook 12 = .ok (.aload_n 1, 1) := by decide +kernel
theorem dX0_takeBook_13 : decode cX0_takeBook 13 = .ok (.iload_n 2, 1) := by decide +kernel
theorem dX0_takeBook_14 : decode cX0_takeBook 14 = .ok (.putfield 72, 3) := by decide +kernel
theorem dX0_takeBook_17 : decode cX0_takeBook 17 = .ok (.iconst 1, 1) := by decide +kernel
theorem dX0_takeBook_18 : decode cX0_takeBook 18 = .ok (.ireturn, 1) := by decide +kernel
theorem dX0_takeFiction_0 : decode cX0_takeFiction 0 = .ok (.aload_n 0, 1) := by decide +kernel
theorem dX0_takeFiction_1 : decode cX0_takeFiction 1 = .ok (.iconst 5, 1) := by decide +kernel
theorem dX0_takeFiction_2 : decode cX0_takeFiction 2 = .ok (.invokevirtual 75, 3) := by decide +kernel
theorem dX0_takeFiction_5 : decode cX0_takeFiction 5 = .ok (.istore_n 2, 1) := by decide +kernel
theorem dX0_takeFiction_6 : decode cX0_takeFiction 6 = .ok (.iload_n 2, 1) := by decide +kernel
theorem dX0_takeFiction_7 : decode cX0_takeFiction 7 = .ok (.iconst (-1), 1) := by decide +kernel
theorem dX0_takeFiction_8 : decode cX0_takeFiction 8 = .ok (.if_icmp .ne 7, 3) := by decide +kernel
theorem dX0_takeFiction_11 : decode cX0_takeFiction 11 = .ok (.iconst (-1), 1) := by decide +kernel
theorem dX0_takeFiction_12 : decode cX0_takeFiction 12 = .ok (.goto 9, 3) := by decide +kernel
theorem dX0_takeFiction_15 : decode cX0_takeFiction 15 = .ok (.aload_n 0, 1) := by decide +kernel
theorem dX0_takeFiction_16 : decode cX0_takeFiction 16 = .ok (.bipush 7, 2) := by decide +kernel
theorem dX0_takeFiction_18 : decode cX0_takeFiction 18 = .ok (.invokevirtual 75, 3) := by decide +kernel
theorem dX0_takeFiction_21 : decode cX0_takeFiction 21 = .ok (.istore_n 3, 1) := by decide +kernel
theorem dX0_takeFiction_22 : decode cX0_takeFiction 22 = .ok (.iload_n 3, 1) := by decide +kernel
theorem dX0_takeFiction_23 : decode cX0_takeFiction 23 = .ok (.iconst (-1), 1) := by decide +kernel
theorem dX0_takeFiction_24 : decode cX0_takeFiction 24 = .ok (.if_icmp .ne 7, 3) := by decide +kernel
theorem dX0_takeFiction_27 : decode cX0_takeFiction 27 = .ok (.iconst (-1), 1) := by decide +kernel
theorem dX0_takeFiction_28 : decode cX0_takeFiction 28 = .ok (.goto 9, 3) := by decide +kernel
theorem dX0_takeFiction_31 : decode cX0_takeFiction 31 = .ok (.aload_n 0, 1) := by decide +kernel
theorem dX0_takeFiction_32 : decode cX0_takeFiction 32 = .ok (.bipush 20, 2) := by decide +kernel
theorem dX0_takeFiction_34 : decode cX0_takeFiction 34 = .ok (.invokevirtual 75, 3) := by decide +kernel
theorem dX0_takeFiction_37 : decode cX0_takeFiction 37 = .ok (.istore 4, 2) := by decide +kernel
theorem dX0_takeFiction_39 : decode cX0_takeFiction 39 = .ok (.iload 4, 2) := by decide +kernel
theorem dX0_takeFiction_41 : decode cX0_takeFiction 41 = .ok (.iconst (-1), 1) := by decide +kernel
theorem dX0_takeFiction_42 : decode cX0_takeFiction 42 = .ok (.if_icmp .ne 7, 3) := by decide +kernel
theorem dX0_takeFiction_45 : decode cX0_takeFiction 45 = .ok (.iconst (-1), 1) := by decide +kernel
theorem dX0_takeFiction_46 : decode cX0_takeFiction 46 = .ok (.goto 7, 3) := by decide +kernel
theorem dX0_takeFiction_49 : decode cX0_takeFiction 49 = .ok (.aload_n 0, 1) := by decide +kernel
theorem dX0_takeFiction_50 : decode cX0_takeFiction 50 = .ok (.invokevirtual 68, 3) := by decide +kernel
theorem dX0_takeFiction_53 : decode cX0_takeFiction 53 = .ok (.istore 5, 2) := by decide +kernel
theorem dX0_takeFiction_55 : decode cX0_takeFiction 55 = .ok (.iload 5, 2) := by decide +kernel
theorem dX0_takeFiction_57 : decode cX0_takeFiction 57 = .ok (.iconst (-1), 1) := by decide +kernel
theorem dX0_takeFiction_58 : decode cX0_takeFiction 58 = .ok (.if_icmp .ne 5, 3) := by decide +kernel
theorem dX0_takeFiction_61 : decode cX0_takeFiction 61 = .ok (.iconst 0, 1) := by decide +kernel
theorem dX0_takeFiction_62 : decode cX0_takeFiction 62 = .ok (.ireturn, 1) := by decide +kernel
theorem dX0_takeFiction_63 : decode cX0_takeFiction 63 = .ok (.aload_n 1, 1) := by decide +kernel
theorem dX0_takeFiction_64 : decode cX0_takeFiction 64 = .ok (.getfield 55, 3) := by decide +kernel
theorem dX0_takeFiction_67 : decode cX0_takeFiction 67 = .ok (.iload_n 2, 1) := by decide +kernel
theorem dX0_takeFiction_68 : decode cX0_takeFiction 68 = .ok (.iload 5, 2) := by decide +kernel
theorem dX0_takeFiction_70 : decode cX0_takeFiction 70 = .ok (.iload_n 3, 1) := by decide +kernel
theorem dX0_takeFiction_71 : decode cX0_takeFiction 71 = .ok (.iload 4, 2) := by decide +kernel
theorem dX0_takeFiction_73 : decode cX0_takeFiction 73 = .ok (.invokevirtual 79, 3) := by decide +kernel
theorem dX0_takeFiction_76 : decode cX0_takeFiction 76 = .ok (.iconst 1, 1) := by decide +kernel
theorem dX0_takeFiction_77 : decode cX0_takeFiction 77 = .ok (.ireturn, 1) := by decide +kernel
theorem dX0_takeCourt_0 : decode cX0_takeCourt 0 = .ok (.aload_n 0, 1) := by decide +kernel
theorem dX0_takeCourt_1 : decode cX0_takeCourt 1 = .ok (.bipush 20, 2) := by decide +kernel
theorem dX0_takeCourt_3 : decode cX0_takeCourt 3 = .ok (.invokevirtual 75, 3) := by decide +kernel
theorem dX0_takeCourt_6 : decode cX0_takeCourt 6 = .ok (.istore_n 2, 1) := by decide +kernel
theorem dX0_takeCourt_7 : decode cX0_takeCourt 7 = .ok (.iload_n 2, 1) := by decide +kernel
theorem dX0_takeCourt_8 : decode cX0_takeCourt 8 = .ok (.iconst (-1), 1) := by decide +kernel
theorem dX0_takeCourt_9 : decode cX0_takeCourt 9 = .ok (.if_icmp .ne 7, 3) := by decide +kernel
theorem dX0_takeCourt_12 : decode cX0_takeCourt 12 = .ok (.iconst (-1), 1) := by decide +kernel
theorem dX0_takeCourt_13 : decode cX0_takeCourt 13 = .ok (.goto 7, 3) := by decide +kernel
theorem dX0_takeCourt_16 : decode cX0_takeCourt 16 = .ok (.aload_n 0, 1) := by decide +kernel
theorem dX0_takeCourt_17 : decode cX0_takeCourt 17 = .ok (.invokevirtual 68, 3) := by decide +kernel
theorem dX0_takeCourt_20 : decode cX0_takeCourt 20 = .ok (.istore_n 3, 1) := by decide +kernel
theorem dX0_takeCourt_21 : decode cX0_takeCourt 21 = .ok (.iload_n 3, 1) := by decide +kernel
theorem dX0_takeCourt_22 : decode cX0_takeCourt 22 = .ok (.iconst (-1), 1) := by decide +kernel
theorem dX0_takeCourt_23 : decode cX0_takeCourt 23 = .ok (.if_icmp .ne 5, 3) := by decide +kernel
theorem dX0_takeCourt_26 : decode cX0_takeCourt 26 = .ok (.iconst 0, 1) := by decide +kernel
theorem dX0_takeCourt_27 : decode cX0_takeCourt 27 = .ok (.ireturn, 1) := by decide +kernel
theorem dX0_takeCourt_28 : decode cX0_takeCourt 28 = .ok (.aload_n 1, 1) := by decide +kernel
theorem dX0_takeCourt_29 : decode cX0_takeCourt 29 = .ok (.getfield 65, 3) := by decide +kernel
theorem dX0_takeCourt_32 : decode cX0_takeCourt 32 = .ok (.iload_n 3, 1) := by decide +kernel
theorem dX0_takeCourt_33 : decode cX0_takeCourt 33 = .ok (.iload_n 2, 1) := by decide +kernel
theorem dX0_takeCourt_34 : decode cX0_takeCourt 34 = .ok (.iconst 0, 1) := by decide +kernel
theorem dX0_takeCourt_35 : decode cX0_takeCourt 35 = .ok (.iconst 0, 1) := by decide +kernel
theorem dX0_takeCourt_36 : decode cX0_takeCourt 36 = .ok (.invokevirtual 79, 3) := by decide +kernel
theorem dX0_takeCourt_39 : decode cX0_takeCourt 39 = .ok (.iconst 1, 1) := by decide +kernel
theorem dX0_takeCourt_40 : decode cX0_takeCourt 40 = .ok (.ireturn, 1) := by decide +kernel
theorem dX0_takeFacts_0 : decode cX0_takeFacts 0 = .ok (.iconst 0, 1) := by decide +kernel
theorem dX0_takeFacts_1 : decode cX0_takeFacts 1 = .ok (.istore_n 1, 1) := by decide +kernel
theorem dX0_takeFacts_2 : decode cX0_takeFacts 2 = .ok (.iconst 0, 1) := by decide +kernel
theorem dX0_takeFacts_3 : decode cX0_takeFacts 3 = .ok (.istore_n 2, 1) := by decide +kernel
theorem dX0_takeFacts_4 : decode cX0_takeFacts 4 = .ok (.iload_n 2, 1) := by decide +kernel
theorem dX0_takeFacts_5 : decode cX0_takeFacts 5 = .ok (.sipush 150, 3) := by decide +kernel
theorem dX0_takeFacts_8 : decode cX0_takeFacts 8 = .ok (.if_icmp .gt 43, 3) := by decide +kernel
theorem dX0_takeFacts_11 : decode cX0_takeFacts 11 = .ok (.aload_n 0, 1) := by decide +kernel
theorem dX0_takeFacts_12 : decode cX0_takeFacts 12 = .ok (.getfield 31, 3) := by decide +kernel
theorem dX0_takeFacts_15 : decode cX0_takeFacts 15 = .ok (.iconst 2, 1) := by decide +kernel
theorem dX0_takeFacts_16 : decode cX0_takeFacts 16 = .ok (.if_icmp .ne 9, 3) := by decide +kernel
theorem dX0_takeFacts_19 : decode cX0_takeFacts 19 = .ok (.aload_n 0, 1) := by decide +kernel
theorem dX0_takeFacts_20 : decode cX0_takeFacts 20 = .ok (.invokevirtual 28, 3) := by decide +kernel
theorem dX0_takeFacts_23 : decode cX0_takeFacts 23 = .ok (.iload_n 1, 1) := by decide +kernel
theorem dX0_takeFacts_24 : decode cX0_takeFacts 24 = .ok (.ireturn, 1) := by decide +kernel
theorem dX0_takeFacts_25 : decode cX0_takeFacts 25 = .ok (.aload_n 0, 1) := by decide +kernel
theorem dX0_takeFacts_26 : decode cX0_takeFacts 26 = .ok (.bipush 7, 2) := by decide +kernel
theorem dX0_takeFacts_28 : decode cX0_takeFacts 28 = .ok (.invokevirtual 75, 3) := by decide +kernel
theorem dX0_takeFacts_31 : decode cX0_takeFacts 31 = .ok (.istore_n 3, 1) := by decide +kernel
theorem dX0_takeFacts_32 : decode cX0_takeFacts 32 = .ok (.iload_n 3, 1) := by decide +kernel
theorem dX0_takeFacts_33 : decode cX0_takeFacts 33 = .ok (.iconst (-1), 1) := by decide +kernel
theorem dX0_takeFacts_34 : decode cX0_takeFacts 34 = .ok (.if_icmp .ne 5, 3) := by decide +kernel
theorem dX0_takeFacts_37 : decode cX0_takeFacts 37 = .ok (.iconst (-1), 1) := by decide +kernel
theorem dX0_takeFacts_38 : decode cX0_takeFacts 38 = .ok (.ireturn, 1) := by decide +kernel
theorem dX0_takeFacts_39 : decode cX0_takeFacts 39 = .ok (.iload_n 1, 1) := by decide +kernel
theorem dX0_takeFacts_40 : decode cX0_takeFacts 40 = .ok (.iconst 1, 1) := by decide +kernel
theorem dX0_takeFacts_41 : decode cX0_takeFacts 41 = .ok (.iload_n 3, 1) := by decide +kernel
theorem dX0_takeFacts_42 : decode cX0_takeFacts 42 = .ok (.ishl, 1) := by decide +kernel
theorem dX0_takeFacts_43 : decode cX0_takeFacts 43 = .ok (.ior, 1) := by decide +kernel
theorem dX0_takeFacts_44 : decode cX0_takeFacts 44 = .ok (.istore_n 1, 1) := by decide +kernel
theorem dX0_takeFacts_45 : decode cX0_takeFacts 45 = .ok (.iinc 2 1, 3) := by decide +kernel
theorem dX0_takeFacts_48 : decode cX0_takeFacts 48 = .ok (.goto (-44), 3) := by decide +kernel
theorem dX0_takeFacts_51 : decode cX0_takeFacts 51 = .ok (.iconst (-1), 1) := by decide +kernel
theorem dX0_takeFacts_52 : decode cX0_takeFacts 52 = .ok (.ireturn, 1) := by decide +kernel
theorem dX0_takeNumber_0 : decode cX0_takeNumber 0 = .ok (.aload_n 0, 1) := by decide +kernel
theorem dX0_takeNumber_1 : decode cX0_takeNumber 1 = .ok (.getfield 31, 3) := by decide +kernel
theorem dX0_takeNumber_4 : decode cX0_takeNumber 4 = .ok (.iconst 3, 1) := by decide +kernel
theorem dX0_takeNumber_5 : decode cX0_takeNumber 5 = .ok (.if_icmp .ne 11, 3) := by decide +kernel
theorem dX0_takeNumber_8 : decode cX0_takeNumber 8 = .ok (.aload_n 0, 1) := by decide +kernel
theorem dX0_takeNumber_9 : decode cX0_takeNumber 9 = .ok (.getfield 83, 3) := by decide +kernel
theorem dX0_takeNumber_12 : decode cX0_takeNumber 12 = .ok (.iload_n 1, 1) := by decide +kernel
theorem dX0_takeNumber_13 : decode cX0_takeNumber 13 = .ok (.if_icmp .le 5, 3) := by decide +kernel
theorem dX0_takeNumber_16 : decode cX0_takeNumber 16 = .ok (.iconst (-1), 1) := by decide +kernel
theorem dX0_takeNumber_17 : decode cX0_takeNumber 17 = .ok (.ireturn, 1) := by decide +kernel
theorem dX0_takeNumber_18 : decode cX0_takeNumber 18 = .ok (.aload_n 0, 1) := by decide +kernel
theorem dX0_takeNumber_19 : decode cX0_takeNumber 19 = .ok (.getfield 83, 3) := by decide +kernel
theorem dX0_takeNumber_22 : decode cX0_takeNumber 22 = .ok (.istore_n 2, 1) := by decide +kernel
theorem dX0_takeNumber_23 : decode cX0_takeNumber 23 = .ok (.aload_n 0, 1) := by decide +kernel
theorem dX0_takeNumber_24 : decode cX0_takeNumber 24 = .ok (.invokevirtual 28, 3) := by decide +kernel
theorem dX0_takeNumber_27 : decode cX0_takeNumber 27 = .ok (.iload_n 2, 1) := by decide +kernel
theorem dX0_takeNumber_28 : decode cX0_takeNumber 28 = .ok (.ireturn, 1) := by decide +kernel
theorem dX0_advance_0 : decode cX0_advance 0 = .ok (.aload_n 0, 1) := by decide +kernel
theorem dX0_advance_1 : decode cX0_advance 1 = .ok (.getfield 25, 3) := by decide +kernel
theorem dX0_advance_4 : decode cX0_advance 4 = .ok (.aload_n 0, 1) := by decide +kernel
theorem dX0_advance_5 : decode cX0_advance 5 = .ok (.getfield 15, 3) := by decide +kernel
theorem dX0_advance_8 : decode cX0_advance 8 = .ok (.if_icmp .ge 29, 3) := by decide +kernel
theorem dX0_advance_11 : decode cX0_advance 11 = .ok (.aload_n 0, 1) := by decide +kernel
theorem dX0_advance_12 : decode cX0_advance 12 = .ok (.aload_n 0, 1) := by decide +kernel
theorem dX0_advance_13 : decode cX0_advance 13 = .ok (.getfield 25, 3) := by decide +kernel
theorem dX0_advance_16 : decode cX0_advance 16 = .ok (.invokevirtual 86, 3) := by decide +kernel
theorem dX0_advance_19 : decode cX0_advance 19 = .ok (.bipush 32, 2) := by decide +kernel
theorem dX0_advance_21 : decode cX0_advance 21 = .ok (.if_icmp .ne 16, 3) := by decide +kernel
theorem dX0_advance_24 : decode cX0_advance 24 = .ok (.aload_n 0, 1) := by decide +kernel
theorem dX0_advance_25 : decode cX0_advance 25 = .ok (.dup, 1) := by decide +kernel
theorem dX0_advance_26 : decode cX0_advance 26 = .ok (.getfield 25, 3) := by decide +kernel
theorem dX0_advance_29 : decode cX0_advance 29 = .ok (.iconst 1, 1) := by decide +kernel
theorem dX0_advance_30 : decode cX0_advance 30 = .ok (.iadd, 1) := by decide +kernel
theorem dX0_advance_31 : decode cX0_advance 31 = .ok (.putfield 25, 3) := by decide +kernel
theorem dX0_advance_34 : decode cX0_advance 34 = .ok (.goto (-34), 3) := by decide +kernel
theorem dX0_advance_37 : decode cX0_advance 37 = .ok (.aload_n 0, 1) := by decide +kernel
theorem dX0_advance_38 : decode cX0_advance 38 = .ok (.aload_n 0, 1) := by decide +kernel
theorem dX0_advance_39 : decode cX0_advance 39 = .ok (.getfield 25, 3) := by decide +kernel
theorem dX0_advance_42 : decode cX0_advance 42 = .ok (.putfield 38, 3) := by decide +kernel
theorem dX0_advance_45 : decode cX0_advance 45 = .ok (.aload_n 0, 1) := by decide +kernel
theorem dX0_advance_46 : decode cX0_advance 46 = .ok (.aload_n 0, 1) := by decide +kernel
theorem dX0_advance_47 : decode cX0_advance 47 = .ok (.getfield 25, 3) := by decide +kernel
theorem dX0_advance_50 : decode cX0_advance 50 = .ok (.invokevirtual 86, 3) := by decide +kernel
theorem dX0_advance_53 : decode cX0_advance 53 = .ok (.istore_n 1, 1) := by decide +kernel
theorem dX0_advance_54 : decode cX0_advance 54 = .ok (.iload_n 1, 1) := by decide +kernel
theorem dX0_advance_55 : decode cX0_advance 55 = .ok (.iconst (-1), 1) := by decide +kernel
theorem dX0_advance_56 : decode cX0_advance 56 = .ok (.if_icmp .ne 11, 3) := by decide +kernel
theorem dX0_advance_59 : decode cX0_advance 59 = .ok (.aload_n 0, 1) := by decide +kernel
theorem dX0_advance_60 : decode cX0_advance 60 = .ok (.iconst 0, 1) := by decide +kernel
theorem dX0_advance_61 : decode cX0_advance 61 = .ok (.putfield 31, 3) := by decide +kernel
theorem dX0_advance_64 : decode cX0_advance 64 = .ok (.goto 56, 3) := by decide +kernel
theorem dX0_advance_67 : decode cX0_advance 67 = .ok (.iload_n 1, 1) := by decide +kernel
theorem dX0_advance_68 : decode cX0_advance 68 = .ok (.invokestatic 89, 3) := by decide +kernel
theorem dX0_advance_71 : decode cX0_advance 71 = .ok (.ifCond .eq 10, 3) := by decide +kernel
theorem dX0_advance_74 : decode cX0_advance 74 = .ok (.aload_n 0, 1) := by decide +kernel
theorem dX0_advance_75 : decode cX0_advance 75 = .ok (.invokevirtual 93, 3) := by decide +kernel
theorem dX0_advance_78 : decode cX0_advance 78 = .ok (.goto 42, 3) := by decide +kernel
theorem dX0_advance_81 : decode cX0_advance 81 = .ok (.iload_n 1, 1) := by decide +kernel
theorem dX0_advance_82 : decode cX0_advance 82 = .ok (.invokestatic 96, 3) := by decide +kernel
theorem dX0_advance_85 : decode cX0_advance 85 = .ok (.ifCond .eq 10, 3) := by decide +kernel
theorem dX0_advance_88 : decode cX0_advance 88 = .ok (.aload_n 0, 1) := by decide +kernel
theorem dX0_advance_89 : decode cX0_advance 89 = .ok (.invokevirtual 99, 3) := by decide +kernel
theorem dX0_advance_92 : decode cX0_advance 92 = .ok (.goto 28, 3) := by decide +kernel
theorem dX0_advance_95 : decode cX0_advance 95 = .ok (.aload_n 0, 1) := by decide +kernel
theorem dX0_advance_96 : decode cX0_advance 96 = .ok (.dup, 1) := by decide +kernel
theorem dX0_advance_97 : decode cX0_advance 97 = .ok (.getfield 25, 3) := by decide +kernel
theorem dX0_advance_100 : decode cX0_advance 100 = .ok (.iconst 1, 1) := by decide +kernel
theorem dX0_advance_101 : decode cX0_advance 101 = .ok (.iadd, 1) := by decide +kernel
theorem dX0_advance_102 : decode cX0_advance 102 = .ok (.putfield 25, 3) := by decide +kernel
theorem dX0_advance_105 : decode cX0_advance 105 = .ok (.aload_n 0, 1) := by decide +kernel
theorem dX0_advance_106 : decode cX0_advance 106 = .ok (.iload_n 1, 1) := by decide +kernel
theorem dX0_advance_107 : decode cX0_advance 107 = .ok (.bipush 59, 2) := by decide +kernel
theorem dX0_advance_109 : decode cX0_advance 109 = .ok (.if_icmp .ne 7, 3) := by decide +kernel
theorem dX0_advance_112 : decode cX0_advance 112 = .ok (.iconst 2, 1) := by decide +kernel
theorem dX0_advance_113 : decode cX0_advance 113 = .ok (.goto 4, 3) := by decide +kernel
theorem dX0_advance_116 : decode cX0_advance 116 = .ok (.iconst 1, 1) := by decide +kernel
theorem dX0_advance_117 : decode cX0_advance 117 = .ok (.putfield 31, 3) := by decide +kernel
theorem dX0_advance_120 : decode cX0_advance 120 = .ok (.return_, 1) := by decide +kernel
theorem dX0_advanceOverWord_0 : decode cX0_advanceOverWord 0 = .ok (.aload_n 0, 1) := by decide +kernel
theorem dX0_advanceOverWord_1 : decode cX0_advanceOverWord 1 = .ok (.getfield 25, 3) := by decide +kernel
theorem dX0_advanceOverWord_4 : decode cX0_advanceOverWord 4 = .ok (.aload_n 0, 1) := by decide +kernel
theorem dX0_advanceOverWord_5 : decode cX0_advanceOverWord 5 = .ok (.getfield 15, 3) := by decide +kernel
theorem dX0_advanceOverWord_8 : decode cX0_advanceOverWord 8 = .ok (.if_icmp .ge 30, 3) := by decide +kernel
theorem dX0_advanceOverWord_11 : decode cX0_advanceOverWord 11 = .ok (.aload_n 0, 1) := by decide +kernel
theorem dX0_advanceOverWord_12 : decode cX0_advanceOverWord 12 = .ok (.aload_n 0, 1) := by decide +kernel
theorem dX0_advanceOverWord_13 : decode cX0_advanceOverWord 13 = .ok (.getfield 25, 3) := by decide +kernel
theorem dX0_advanceOverWord_16 : decode cX0_advanceOverWord 16 = .ok (.invokevirtual 86, 3) := by decide +kernel
theorem dX0_advanceOverWord_19 : decode cX0_advanceOverWord 19 = .ok (.invokestatic 89, 3) := by decide +kernel
theorem dX0_advanceOverWord_22 : decode cX0_advanceOverWord 22 = .ok (.ifCond .eq 16, 3) := by decide +kernel
theorem dX0_advanceOverWord_25 : decode cX0_advanceOverWord 25 = .ok (.aload_n 0, 1) := by decide +kernel
theorem dX0_advanceOverWord_26 : decode cX0_advanceOverWord 26 = .ok (.dup, 1) := by decide +kernel
theorem dX0_advanceOverWord_27 : decode cX0_advanceOverWord 27 = .ok (.getfield 25, 3) := by decide +kernel
theorem dX0_advanceOverWord_30 : decode cX0_advanceOverWord 30 = .ok (.iconst 1, 1) := by decide +kernel
theorem dX0_advanceOverWord_31 : decode cX0_advanceOverWord 31 = .ok (.iadd, 1) := by decide +kernel
theorem dX0_advanceOverWord_32 : decode cX0_advanceOverWord 32 = .ok (.putfield 25, 3) := by decide +kernel
theorem dX0_advanceOverWord_35 : decode cX0_advanceOverWord 35 = .ok (.goto (-35), 3) := by decide +kernel
theorem dX0_advanceOverWord_38 : decode cX0_advanceOverWord 38 = .ok (.aload_n 0, 1) := by decide +kernel
theorem dX0_advanceOverWord_39 : decode cX0_advanceOverWord 39 = .ok (.ldc 102, 2) := by decide +kernel
theorem dX0_advanceOverWord_41 : decode cX0_advanceOverWord 41 = .ok (.invokevirtual 104, 3) := by decide +kernel
theorem dX0_advanceOverWord_44 : decode cX0_advanceOverWord 44 = .ok (.ifCond .eq 11, 3) := by decide +kernel
theorem dX0_advanceOverWord_47 : decode cX0_advanceOverWord 47 = .ok (.aload_n 0, 1) := by decide +kernel
theorem dX0_advanceOverWord_48 : decode cX0_advanceOverWord 48 = .ok (.iconst 4, 1) := by decide +kernel
theorem dX0_advanceOverWord_49 : decode cX0_advanceOverWord 49 = .ok (.putfield 31, 3) := by decide +kernel
theorem dX0_advanceOverWord_52 : decode cX0_advanceOverWord 52 = .ok (.goto 43, 3) := by decide +kernel
theorem dX0_advanceOverWord_55 : decode cX0_advanceOverWord 55 = .ok (.aload_n 0, 1) := by decide +kernel
theorem dX0_advanceOverWord_56 : decode cX0_advanceOverWord 56 = .ok (.ldc 108, 2) := by decide +kernel
theorem dX0_advanceOverWord_58 : decode cX0_advanceOverWord 58 = .ok (.invokevirtual 104, 3) := by decide +kernel
theorem dX0_advanceOverWord_61 : decode cX0_advanceOverWord 61 = .ok (.ifCond .eq 11, 3) := by decide +kernel
theorem dX0_advanceOverWord_64 : decode cX0_advanceOverWord 64 = .ok (.aload_n 0, 1) := by decide +kernel
theorem dX0_advanceOverWord_65 : decode cX0_advanceOverWord 65 = .ok (.iconst 5, 1) := by decide +kernel
theorem dX0_advanceOverWord_66 : decode cX0_advanceOverWord 66 = .ok (.putfield 31, 3) := by decide +kernel
theorem dX0_advanceOverWord_69 : decode cX0_advanceOverWord 69 = .ok (.goto 26, 3) := by decide +kernel
theorem dX0_advanceOverWord_72 : decode cX0_advanceOverWord 72 = .ok (.aload_n 0, 1) := by decide +kernel
theorem dX0_advanceOverWord_73 : decode cX0_advanceOverWord 73 = .ok (.ldc 110, 2) := by decide +kernel
theorem dX0_advanceOverWord_75 : decode cX0_advanceOverWord 75 = .ok (.invokevirtual 104, 3) := by decide +kernel
theorem dX0_advanceOverWord_78 : decode cX0_advanceOverWord 78 = .ok (.ifCond .eq 12, 3) := by decide +kernel
theorem dX0_advanceOverWord_81 : decode cX0_advanceOverWord 81 = .ok (.aload_n 0, 1) := by decide +kernel
theorem dX0_advanceOverWord_82 : decode cX0_advanceOverWord 82 = .ok (.bipush 6, 2) := by decide +kernel
theorem dX0_advanceOverWord_84 : decode cX0_advanceOverWord 84 = .ok (.putfield 31, 3) := by decide +kernel
theorem dX0_advanceOverWord_87 : decode cX0_advanceOverWord 87 = .ok (.goto 8, 3) := by decide +kernel
theorem dX0_advanceOverWord_90 : decode cX0_advanceOverWord 90 = .ok (.aload_n 0, 1) := by decide +kernel
theorem dX0_advanceOverWord_91 : decode cX0_advanceOverWord 91 = .ok (.iconst 1, 1) := by decide +kernel
theorem dX0_advanceOverWord_92 : decode cX0_advanceOverWord 92 = .ok (.putfield 31, 3) := by decide +kernel
theorem dX0_advanceOverWord_95 : decode cX0_advanceOverWord 95 = .ok (.return_, 1) := by decide +kernel
theorem dX0_advanceOverFigures_0 : decode cX0_advanceOverFigures 0 = .ok (.aload_n 0, 1) := by decide +kernel
theorem dX0_advanceOverFigures_1 : decode cX0_advanceOverFigures 1 = .ok (.iconst 0, 1) := by decide +kernel
theorem dX0_advanceOverFigures_2 : decode cX0_advanceOverFigures 2 = .ok (.putfield 83, 3) := by decide +kernel
theorem dX0_advanceOverFigures_5 : decode cX0_advanceOverFigures 5 = .ok (.aload_n 0, 1) := by decide +kernel
theorem dX0_advanceOverFigures_6 : decode cX0_advanceOverFigures 6 = .ok (.getfield 25, 3) := by decide +kernel
theorem dX0_advanceOverFigures_9 : decode cX0_advanceOverFigures 9 = .ok (.aload_n 0, 1) := by decide +kernel
theorem dX0_advanceOverFigures_10 : decode cX0_advanceOverFigures 10 = .ok (.getfield 15, 3) := by decide +kernel
theorem dX0_advanceOverFigures_13 : decode cX0_advanceOverFigures 13 = .ok (.if_icmp .ge 66, 3) := by decide +kernel
theorem dX0_advanceOverFigures_16 : decode cX0_advanceOverFigures 16 = .ok (.aload_n 0, 1) := by decide +kernel
theorem dX0_advanceOverFigures_17 : decode cX0_advanceOverFigures 17 = .ok (.aload_n 0, 1) := by decide +kernel
theorem dX0_advanceOverFigures_18 : decode cX0_advanceOverFigures 18 = .ok (.getfield 25, 3) := by decide +kernel
theorem dX0_advanceOverFigures_21 : decode cX0_advanceOverFigures 21 = .ok (.invokevirtual 86, 3) := by decide +kernel
theorem dX0_advanceOverFigures_24 : decode cX0_advanceOverFigures 24 = .ok (.invokestatic 96, 3) := by decide +kernel
theorem dX0_advanceOverFigures_27 : decode cX0_advanceOverFigures 27 = .ok (.ifCond .eq 52, 3) := by decide +kernel
theorem dX0_advanceOverFigures_30 : decode cX0_advanceOverFigures 30 = .ok (.aload_n 0, 1) := by decide +kernel
theorem dX0_advanceOverFigures_31 : decode cX0_advanceOverFigures 31 = .ok (.getfield 25, 3) := by decide +kernel
theorem dX0_advanceOverFigures_34 : decode cX0_advanceOverFigures 34 = .ok (.aload_n 0, 1) := by decide +kernel
theorem dX0_advanceOverFigures_35 : decode cX0_advanceOverFigures 35 = .ok (.getfield 38, 3) := by decide +kernel
theorem dX0_advanceOverFigures_38 : decode cX0_advanceOverFigures 38 = .ok (.isub, 1) := by decide +kernel
theorem dX0_advanceOverFigures_39 : decode cX0_advanceOverFigures 39 = .ok (.iconst 2, 1) := by decide +kernel
theorem dX0_advanceOverFigures_40 : decode cX0_advanceOverFigures 40 = .ok (.if_icmp .ge 26, 3) := by decide +kernel
theorem dX0_advanceOverFigures_43 : decode cX0_advanceOverFigures 43 = .ok (.aload_n 0, 1) := by decide +kernel
theorem dX0_advanceOverFigures_44 : decode cX0_advanceOverFigures 44 = .ok (.bipush 10, 2) := by decide +kernel
theorem dX0_advanceOverFigures_46 : decode cX0_advanceOverFigures 46 = .ok (.aload_n 0, 1) := by decide +kernel
theorem dX0_advanceOverFigures_47 : decode cX0_advanceOverFigures 47 = .ok (.getfield 83, 3) := by decide +kernel
theorem dX0_advanceOverFigures_50 : decode cX0_advanceOverFigures 50 = .ok (.imul, 1) := by decide +kernel
theorem dX0_advanceOverFigures_51 : decode cX0_advanceOverFigures 51 = .ok (.aload_n 0, 1) := by decide +kernel
theorem dX0_advanceOverFigures_52 : decode cX0_advanceOverFigures 52 = .ok (.aload_n 0, 1) := by decide +kernel
theorem dX0_advanceOverFigures_53 : decode cX0_advanceOverFigures 53 = .ok (.getfield 25, 3) := by decide +kernel
theorem dX0_advanceOverFigures_56 : decode cX0_advanceOverFigures 56 = .ok (.invokevirtual 86, 3) := by decide +kernel
theorem dX0_advanceOverFigures_59 : decode cX0_advanceOverFigures 59 = .ok (.iadd, 1) := by decide +kernel
theorem dX0_advanceOverFigures_60 : decode cX0_advanceOverFigures 60 = .ok (.bipush 48, 2) := by decide +kernel
theorem dX0_advanceOverFigures_62 : decode cX0_advanceOverFigures 62 = .ok (.isub, 1) := by decide +kernel
theorem dX0_advanceOverFigures_63 : decode cX0_advanceOverFigures 63 = .ok (.putfield 83, 3) := by decide +kernel
theorem dX0_advanceOverFigures_66 : decode cX0_advanceOverFigures 66 = .ok (.aload_n 0, 1) := by decide +kernel
theorem dX0_advanceOverFigures_67 : decode cX0_advanceOverFigures 67 = .ok (.dup, 1) := by decide +kernel
theorem dX0_advanceOverFigures_68 : decode cX0_advanceOverFigures 68 = .ok (.getfield 25, 3) := by decide +kernel
theorem dX0_advanceOverFigures_71 : decode cX0_advanceOverFigures 71 = .ok (.iconst 1, 1) := by decide +kernel
theorem dX0_advanceOverFigures_72 : decode cX0_advanceOverFigures 72 = .ok (.iadd, 1) := by decide +kernel
theorem dX0_advanceOverFigures_73 : decode cX0_advanceOverFigures 73 = .ok (.putfield 25, 3) := by decide +kernel
theorem dX0_advanceOverFigures_76 : decode cX0_advanceOverFigures 76 = .ok (.goto (-71), 3) := by decide +kernel
theorem dX0_advanceOverFigures_79 : decode cX0_advanceOverFigures 79 = .ok (.aload_n 0, 1) := by decide +kernel
theorem dX0_advanceOverFigures_80 : decode cX0_advanceOverFigures 80 = .ok (.aload_n 0, 1) := by decide +kernel
theorem dX0_advanceOverFigures_81 : decode cX0_advanceOverFigures 81 = .ok (.getfield 25, 3) := by decide +kernel
theorem dX0_advanceOverFigures_84 : decode cX0_advanceOverFigures 84 = .ok (.aload_n 0, 1) := by decide +kernel
theorem dX0_advanceOverFigures_85 : decode cX0_advanceOverFigures 85 = .ok (.getfield 38, 3) := by decide +kernel
theorem dX0_advanceOverFigures_88 : decode cX0_advanceOverFigures 88 = .ok (.isub, 1) := by decide +kernel
theorem dX0_advanceOverFigures_89 : decode cX0_advanceOverFigures 89 = .ok (.iconst 2, 1) := by decide +kernel
theorem dX0_advanceOverFigures_90 : decode cX0_advanceOverFigures 90 = .ok (.if_icmp .gt 7, 3) := by decide +kernel
theorem dX0_advanceOverFigures_93 : decode cX0_advanceOverFigures 93 = .ok (.iconst 3, 1) := by decide +kernel
theorem dX0_advanceOverFigures_94 : decode cX0_advanceOverFigures 94 = .ok (.goto 4, 3) := by decide +kernel
theorem dX0_advanceOverFigures_97 : decode cX0_advanceOverFigures 97 = .ok (.iconst 1, 1) := by decide +kernel
theorem dX0_advanceOverFigures_98 : decode cX0_advanceOverFigures 98 = .ok (.putfield 31, 3) := by decide +kernel
theorem dX0_advanceOverFigures_101 : decode cX0_advanceOverFigures 101 = .ok (.return_, 1) := by decide +kernel
theorem dX0_standsThere_0 : decode cX0_standsThere 0 = .ok (.aload_n 0, 1) := by decide +kernel
theorem dX0_standsThere_1 : decode cX0_standsThere 1 = .ok (.getfield 25, 3) := by decide +kernel
theorem dX0_standsThere_4 : decode cX0_standsThere 4 = .ok (.aload_n 0, 1) := by decide +kernel
theorem dX0_standsThere_5 : decode cX0_standsThere 5 = .ok (.getfield 38, 3) := by decide +kernel
theorem dX0_standsThere_8 : decode cX0_standsThere 8 = .ok (.isub, 1) := by decide +kernel
theorem dX0_standsThere_9 : decode cX0_standsThere 9 = .ok (.aload_n 1, 1) := by decide +kernel
theorem dX0_standsThere_10 : decode cX0_standsThere 10 = .ok (.invokevirtual 112, 3) := by decide +kernel
theorem dX0_standsThere_13 : decode cX0_standsThere 13 = .ok (.if_icmp .eq 5, 3) := by decide +kernel
theorem dX0_standsThere_16 : decode cX0_standsThere 16 = .ok (.iconst 0, 1) := by decide +kernel
theorem dX0_standsThere_17 : decode cX0_standsThere 17 = .ok (.ireturn, 1) := by decide +kernel
theorem dX0_standsThere_18 : decode cX0_standsThere 18 = .ok (.iconst 0, 1) := by decide +kernel
theorem dX0_standsThere_19 : decode cX0_standsThere 19 = .ok (.istore_n 2, 1) := by decide +kernel
theorem dX0_standsThere_20 : decode cX0_standsThere 20 = .ok (.iload_n 2, 1) := by decide +kernel
theorem dX0_standsThere_21 : decode cX0_standsThere 21 = .ok (.aload_n 1, 1) := by decide +kernel
theorem dX0_standsThere_22 : decode cX0_standsThere 22 = .ok (.invokevirtual 112, 3) := by decide +kernel
theorem dX0_standsThere_25 : decode cX0_standsThere 25 = .ok (.if_icmp .ge 29, 3) := by decide +kernel
theorem dX0_standsThere_28 : decode cX0_standsThere 28 = .ok (.aload_n 0, 1) := by decide +kernel
theorem dX0_standsThere_29 : decode cX0_standsThere 29 = .ok (.aload_n 0, 1) := by decide +kernel
theorem dX0_standsThere_30 : decode cX0_standsThere 30 = .ok (.getfield 38, 3) := by decide +kernel
theorem dX0_standsThere_33 : decode cX0_standsThere 33 = .ok (.iload_n 2, 1) := by decide +kernel
theorem dX0_standsThere_34 : decode cX0_standsThere 34 = .ok (.iadd, 1) := by decide +kernel
theorem dX0_standsThere_35 : decode cX0_standsThere 35 = .ok (.invokevirtual 86, 3) := by decide +kernel
theorem dX0_standsThere_38 : decode cX0_standsThere 38 = .ok (.aload_n 1, 1) := by decide +kernel
theorem dX0_standsThere_39 : decode cX0_standsThere 39 = .ok (.iload_n 2, 1) := by decide +kernel
theorem dX0_standsThere_40 : decode cX0_standsThere 40 = .ok (.invokevirtual 116, 3) := by decide +kernel
theorem dX0_standsThere_43 : decode cX0_standsThere 43 = .ok (.if_icmp .eq 5, 3) := by decide +kernel
theorem dX0_standsThere_46 : decode cX0_standsThere 46 = .ok (.iconst 0, 1) := by decide +kernel
theorem dX0_standsThere_47 : decode cX0_standsThere 47 = .ok (.ireturn, 1) := by decide +kernel
theorem dX0_standsThere_48 : decode cX0_standsThere 48 = .ok (.iinc 2 1, 3) := by decide +kernel
theorem dX0_standsThere_51 : decode cX0_standsThere 51 = .ok (.goto (-31), 3) := by decide +kernel
theorem dX0_standsThere_54 : decode cX0_standsThere 54 = .ok (.iconst 1, 1) := by decide +kernel
theorem dX0_standsThere_55 : decode cX0_standsThere 55 = .ok (.ireturn, 1) := by decide +kernel
theorem dX0_byteAt_0 : decode cX0_byteAt 0 = .ok (.iload_n 1, 1) := by decide +kernel
theorem dX0_byteAt_1 : decode cX0_byteAt 1 = .ok (.ifCond .lt 29, 3) := by decide +kernel
theorem dX0_byteAt_4 : decode cX0_byteAt 4 = .ok (.iload_n 1, 1) := by decide +kernel
theorem dX0_byteAt_5 : decode cX0_byteAt 5 = .ok (.aload_n 0, 1) := by decide +kernel
theorem dX0_byteAt_6 : decode cX0_byteAt 6 = .ok (.getfield 15, 3) := by decide +kernel
theorem dX0_byteAt_9 : decode cX0_byteAt 9 = .ok (.if_icmp .ge 21, 3) := by decide +kernel
theorem dX0_byteAt_12 : decode cX0_byteAt 12 = .ok (.iload_n 1, 1) := by decide +kernel
theorem dX0_byteAt_13 : decode cX0_byteAt 13 = .ok (.aload_n 0, 1) := by decide +kernel
theorem dX0_byteAt_14 : decode cX0_byteAt 14 = .ok (.getfield 9, 3) := by decide +kernel
theorem dX0_byteAt_17 : decode cX0_byteAt 17 = .ok (.arraylength, 1) := by decide +kernel
theorem dX0_byteAt_18 : decode cX0_byteAt 18 = .ok (.if_icmp .ge 12, 3) := by decide +kernel
theorem dX0_byteAt_21 : decode cX0_byteAt 21 = .ok (.aload_n 0, 1) := by decide +kernel
theorem dX0_byteAt_22 : decode cX0_byteAt 22 = .ok (.getfield 9, 3) := by decide +kernel
theorem dX0_byteAt_25 : decode cX0_byteAt 25 = .ok (.iload_n 1, 1) := by decide +kernel
theorem dX0_byteAt_26 : decode cX0_byteAt 26 = .ok (.iaload, 1) := by decide +kernel
theorem dX0_byteAt_27 : decode cX0_byteAt 27 = .ok (.goto 4, 3) := by decide +kernel
theorem dX0_byteAt_30 : decode cX0_byteAt 30 = .ok (.iconst (-1), 1) := by decide +kernel
theorem dX0_byteAt_31 : decode cX0_byteAt 31 = .ok (.ireturn, 1) := by decide +kernel
theorem dX0_isLetter_0 : decode cX0_isLetter 0 = .ok (.iload_n 0, 1) := by decide +kernel
theorem dX0_isLetter_1 : decode cX0_isLetter 1 = .ok (.bipush 97, 2) := by decide +kernel
theorem dX0_isLetter_3 : decode cX0_isLetter 3 = .ok (.if_icmp .lt 13, 3) := by decide +kernel
theorem dX0_isLetter_6 : decode cX0_isLetter 6 = .ok (.iload_n 0, 1) := by decide +kernel
theorem dX0_isLetter_7 : decode cX0_isLetter 7 = .ok (.bipush 122, 2) := by decide +kernel
theorem dX0_isLetter_9 : decode cX0_isLetter 9 = .ok (.if_icmp .gt 7, 3) := by decide +kernel
theorem dX0_isLetter_12 : decode cX0_isLetter 12 = .ok (.iconst 1, 1) := by decide +kernel
theorem dX0_isLetter_13 : decode cX0_isLetter 13 = .ok (.goto 4, 3) := by decide +kernel
theorem dX0_isLetter_16 : decode cX0_isLetter 16 = .ok (.iconst 0, 1) := by decide +kernel
theorem dX0_isLetter_17 : decode cX0_isLetter 17 = .ok (.ireturn, 1) := by decide +kernel
theorem dX0_isFigure_0 : decode cX0_isFigure 0 = .ok (.iload_n 0, 1) := by decide +kernel
theorem dX0_isFigure_1 : decode cX0_isFigure 1 = .ok (.bipush 48, 2) := by decide +kernel
theorem dX0_isFigure_3 : decode cX0_isFigure 3 = .ok (.if_icmp .lt 13, 3) := by decide +kernel
theorem dX0_isFigure_6 : decode cX0_isFigure 6 = .ok (.iload_n 0, 1) := by decide +kernel
theorem dX0_isFigure_7 : decode cX0_isFigure 7 = .ok (.bipush 57, 2) := by decide +kernel
theorem dX0_isFigure_9 : decode cX0_isFigure 9 = .ok (.if_icmp .gt 7, 3) := by decide +kernel
theorem dX0_isFigure_12 : decode cX0_isFigure 12 = .ok (.iconst 1, 1) := by decide +kernel
theorem dX0_isFigure_13 : decode cX0_isFigure 13 = .ok (.goto 4, 3) := by decide +kernel
theorem dX0_isFigure_16 : decode cX0_isFigure 16 = .ok (.iconst 0, 1) := by decide +kernel
theorem dX0_isFigure_17 : decode cX0_isFigure 17 = .ok (.ireturn, 1) := by decide +kernel
theorem dX1_init_0 : decode cX1_init 0 = .ok (.aload_n 0, 1) := by decide +kernel
theorem dX1_init_1 : decode cX1_init 1 = .ok (.invokespecial 1, 3) := by decide +kernel
theorem dX1_init_4 : decode cX1_init 4 = .ok (.return_, 1) := by decide +kernel
theorem dX1_allows_0 : decode cX1_allows 0 = .ok (.iload_n 3, 1) := by decide +kernel
theorem dX1_allows_1 : decode cX1_allows 1 = .ok (.ifCond .eq 13, 3) := by decide +kernel
theorem dX1_allows_4 : decode cX1_allows 4 = .ok (.aload_n 0, 1) := by decide +kernel
theorem dX1_allows_5 : decode cX1_allows 5 = .ok (.iload_n 1, 1) := by decide +kernel
theorem dX1_allows_6 : decode cX1_allows 6 = .ok (.iload_n 2, 1) := by decide +kernel
theorem dX1_allows_7 : decode cX1_allows 7 = .ok (.iload_n 3, 1) := by decide +kernel
theorem dX1_allows_8 : decode cX1_allows 8 = .ok (.invokespecial 7, 3) := by decide +kernel
theorem dX1_allows_11 : decode cX1_allows 11 = .ok (.ifCond .eq 7, 3) := by decide +kernel
theorem dX1_allows_14 : decode cX1_allows 14 = .ok (.iconst 1, 1) := by decide +kernel
theorem dX1_allows_15 : decode cX1_allows 15 = .ok (.goto 4, 3) := by decide +kernel
theorem dX1_allows_18 : decode cX1_allows 18 = .ok (.iconst 0, 1) := by decide +kernel
theorem dX1_allows_19 : decode cX1_allows 19 = .ok (.ireturn, 1) := by decide +kernel
theorem dX1_cost_0 : decode cX1_cost 0 = .ok (.aload_n 0, 1) := by decide +kernel
theorem dX1_cost_1 : decode cX1_cost 1 = .ok (.iload_n 1, 1) := by decide +kernel
theorem dX1_cost_2 : decode cX1_cost 2 = .ok (.iload_n 2, 1) := by decide +kernel
theorem dX1_cost_3 : decode cX1_cost 3 = .ok (.invokespecial 11, 3) := by decide +kernel
theorem dX1_cost_6 : decode cX1_cost 6 = .ok (.iconst 2, 1) := by decide +kernel
theorem dX1_cost_7 : decode cX1_cost 7 = .ok (.iadd, 1) := by decide +kernel
theorem dX1_cost_8 : decode cX1_cost 8 = .ok (.ireturn, 1) := by decide +kernel
theorem dX2_init_0 : decode cX2_init 0 = .ok (.aload_n 0, 1) := by decide +kernel
theorem dX2_init_1 : decode cX2_init 1 = .ok (.invokespecial 1, 3) := by decide +kernel
theorem dX2_init_4 : decode cX2_init 4 = .ok (.return_, 1) := by decide +kernel
theorem dX2_allows_0 : decode cX2_allows 0 = .ok (.iload_n 2, 1) := by decide +kernel
theorem dX2_allows_1 : decode cX2_allows 1 = .ok (.iconst 1, 1) := by decide +kernel
theorem dX2_allows_2 : decode cX2_allows 2 = .ok (.if_icmp .ge 13, 3) := by decide +kernel
theorem dX2_allows_5 : decode cX2_allows 5 = .ok (.aload_n 0, 1) := by decide +kernel
theorem dX2_allows_6 : decode cX2_allows 6 = .ok (.iload_n 1, 1) := by decide +kernel
theorem dX2_allows_7 : decode cX2_allows 7 = .ok (.iload_n 2, 1) := by decide +kernel
theorem dX2_allows_8 : decode cX2_allows 8 = .ok (.iload_n 3, 1) := by decide +kernel
theorem dX2_allows_9 : decode cX2_allows 9 = .ok (.invokespecial 7, 3) := by decide +kernel
theorem dX2_allows_12 : decode cX2_allows 12 = .ok (.ifCond .eq 7, 3) := by decide +kernel
theorem dX2_allows_15 : decode cX2_allows 15 = .ok (.iconst 1, 1) := by decide +kernel
theorem dX2_allows_16 : decode cX2_allows 16 = .ok (.goto 4, 3) := by decide +kernel
theorem dX2_allows_19 : decode cX2_allows 19 = .ok (.iconst 0, 1) := by decide +kernel
theorem dX2_allows_20 : decode cX2_allows 20 = .ok (.ireturn, 1) := by decide +kernel
theorem dX3_init_0 : decode cX3_init 0 = .ok (.aload_n 0, 1) := by decide +kernel
theorem dX3_init_1 : decode cX3_init 1 = .ok (.invokespecial 3, 3) := by decide +kernel
theorem dX3_init_4 : decode cX3_init 4 = .ok (.aload_n 0, 1) := by decide +kernel
theorem dX3_init_5 : decode cX3_init 5 = .ok (.aload_n 1, 1) := by decide +kernel
theorem dX3_init_6 : decode cX3_init 6 = .ok (.putfield 9, 3) := by decide +kernel
theorem dX3_init_9 : decode cX3_init 9 = .ok (.aload_n 0, 1) := by decide +kernel
theorem dX3_init_10 : decode cX3_init 10 = .ok (.new 15, 3) := by decide +kernel
theorem dX3_init_13 : decode cX3_init 13 = .ok (.dup, 1) := by decide +kernel
theorem dX3_init_14 : decode cX3_init 14 = .ok (.invokespecial 17, 3) := by decide +kernel
theorem dX3_init_17 : decode cX3_init 17 = .ok (.putfield 18, 3) := by decide +kernel
theorem dX3_init_20 : decode cX3_init 20 = .ok (.aload_n 0, 1) := by decide +kernel
theorem dX3_init_21 : decode cX3_init 21 = .ok (.new 22, 3) := by decide +kernel
theorem dX3_init_24 : decode cX3_init 24 = .ok (.dup, 1) := by decide +kernel
theorem dX3_init_25 : decode cX3_init 25 = .ok (.bipush 6, 2) := by decide +kernel
theorem dX3_init_27 : decode cX3_init 27 = .ok (.iconst 4, 1) := by decide +kernel
theorem dX3_init_28 : decode cX3_init 28 = .ok (.invokespecial 24, 3) := by decide +kernel
theorem dX3_init_31 : decode cX3_init 31 = .ok (.putfield 27, 3) := by decide +kernel
theorem dX3_init_34 : decode cX3_init 34 = .ok (.aload_n 0, 1) := by decide +kernel
theorem dX3_init_35 : decode cX3_init 35 = .ok (.new 22, 3) := by decide +kernel
theorem dX3_init_38 : decode cX3_init 38 = .ok (.dup, 1) := by decide +kernel
theorem dX3_init_39 : decode cX3_init 39 = .ok (.iconst 4, 1) := by decide +kernel
theorem dX3_init_40 : decode cX3_init 40 = .ok (.iconst 2, 1) := by decide +kernel
theorem dX3_init_41 : decode cX3_init 41 = .ok (.invokespecial 24, 3) := by decide +kernel
theorem dX3_init_44 : decode cX3_init 44 = .ok (.putfield 31, 3) := by decide +kernel
theorem dX3_init_47 : decode cX3_init 47 = .ok (.aload_n 0, 1) := by decide +kernel
theorem dX3_init_48 : decode cX3_init 48 = .ok (.new 22, 3) := by decide +kernel
theorem dX3_init_51 : decode cX3_init 51 = .ok (.dup, 1) := by decide +kernel
theorem dX3_init_52 : decode cX3_init 52 = .ok (.bipush 6, 2) := by decide +kernel
theorem dX3_init_54 : decode cX3_init 54 = .ok (.iconst 3, 1) := by decide +kernel
theorem dX3_init_55 : decode cX3_init 55 = .ok (.invokespecial 24, 3) := by decide +kernel
theorem dX3_init_58 : decode cX3_init 58 = .ok (.putfield 34, 3) := by decide +kernel
theorem dX3_init_61 : decode cX3_init 61 = .ok (.aload_n 0, 1) := by decide +kernel
theorem dX3_init_62 : decode cX3_init 62 = .ok (.new 22, 3) := by decide +kernel
theorem dX3_init_65 : decode cX3_init 65 = .ok (.dup, 1) := by decide +kernel
theorem dX3_init_66 : decode cX3_init 66 = .ok (.bipush 6, 2) := by decide +kernel
theorem dX3_init_68 : decode cX3_init 68 = .ok (.iconst 2, 1) := by decide +kernel
theorem dX3_init_69 : decode cX3_init 69 = .ok (.invokespecial 24, 3) := by decide +kernel
theorem dX3_init_72 : decode cX3_init 72 = .ok (.putfield 37, 3) := by decide +kernel
theorem dX3_init_75 : decode cX3_init 75 = .ok (.aload_n 0, 1) := by decide +kernel
theorem dX3_init_76 : decode cX3_init 76 = .ok (.new 22, 3) := by decide +kernel
theorem dX3_init_79 : decode cX3_init 79 = .ok (.dup, 1) := by decide +kernel
theorem dX3_init_80 : decode cX3_init 80 = .ok (.bipush 8, 2) := by decide +kernel
theorem dX3_init_82 : decode cX3_init 82 = .ok (.iconst 3, 1) := by decide +kernel
theorem dX3_init_83 : decode cX3_init 83 = .ok (.invokespecial 24, 3) := by decide +kernel
theorem dX3_init_86 : decode cX3_init 86 = .ok (.putfield 40, 3) := by decide +kernel
theorem dX3_init_89 : decode cX3_init 89 = .ok (.return_, 1) := by decide +kernel
theorem dX3_begin_0 : decode cX3_begin 0 = .ok (.aload_n 0, 1) := by decide +kernel
theorem dX3_begin_1 : decode cX3_begin 1 = .ok (.iload_n 1, 1) := by decide +kernel
theorem dX3_begin_2 : decode cX3_begin 2 = .ok (.putfield 43, 3) := by decide +kernel
theorem dX3_begin_5 : decode cX3_begin 5 = .ok (.aload_n 0, 1) := by decide +kernel
theorem dX3_begin_6 : decode cX3_begin 6 = .ok (.getfield 27, 3) := by decide +kernel
theorem dX3_begin_9 : decode cX3_begin 9 = .ok (.invokevirtual 47, 3) := by decide +kernel
theorem dX3_begin_12 : decode cX3_begin 12 = .ok (.aload_n 0, 1) := by decide +kernel
theorem dX3_begin_13 : decode cX3_begin 13 = .ok (.getfield 31, 3) := by decide +kernel
theorem dX3_begin_16 : decode cX3_begin 16 = .ok (.invokevirtual 47, 3) := by decide +kernel
theorem dX3_begin_19 : decode cX3_begin 19 = .ok (.aload_n 0, 1) := by decide +kernel
theorem dX3_begin_20 : decode cX3_begin 20 = .ok (.getfield 34, 3) := by decide +kernel
theorem dX3_begin_23 : decode cX3_begin 23 = .ok (.invokevirtual 47, 3) := by decide +kernel
theorem dX3_begin_26 : decode cX3_begin 26 = .ok (.aload_n 0, 1) := by decide +kernel
theorem dX3_begin_27 : decode cX3_begin 27 = .ok (.getfield 37, 3) := by decide +kernel
theorem dX3_begin_30 : decode cX3_begin 30 = .ok (.invokevirtual 47, 3) := by decide +kernel
theorem dX3_begin_33 : decode cX3_begin 33 = .ok (.aload_n 0, 1) := by decide +kernel
theorem dX3_begin_34 : decode cX3_begin 34 = .ok (.invokevirtual 50, 3) := by decide +kernel
theorem dX3_begin_37 : decode cX3_begin 37 = .ok (.return_, 1) := by decide +kernel
theorem dX3_beginSuit_0 : decode cX3_beginSuit 0 = .ok (.aload_n 0, 1) := by decide +kernel
theorem dX3_beginSuit_1 : decode cX3_beginSuit 1 = .ok (.iconst 0, 1) := by decide +kernel
theorem dX3_beginSuit_2 : decode cX3_beginSuit 2 = .ok (.putfield 53, 3) := by decide +kernel
theorem dX3_beginSuit_5 : decode cX3_beginSuit 5 = .ok (.aload_n 0, 1) := by decide +kernel
theorem dX3_beginSuit_6 : decode cX3_beginSuit 6 = .ok (.iconst 0, 1) := by decide +kernel
theorem dX3_beginSuit_7 : decode cX3_beginSuit 7 = .ok (.putfield 56, 3) := by decide +kernel
theorem dX3_beginSuit_10 : decode cX3_beginSuit 10 = .ok (.aload_n 0, 1) := by decide +kernel
theorem dX3_beginSuit_11 : decode cX3_beginSuit 11 = .ok (.iconst 0, 1) := by decide +kernel
theorem dX3_beginSuit_12 : decode cX3_beginSuit 12 = .ok (.putfield 59, 3) := by decide +kernel
theorem dX3_beginSuit_15 : decode cX3_beginSuit 15 = .ok (.aload_n 0, 1) := by decide +kernel
theorem dX3_beginSuit_16 : decode cX3_beginSuit 16 = .ok (.getfield 40, 3) := by decide +kernel
theorem dX3_beginSuit_19 : decode cX3_beginSuit 19 = .ok (.invokevirtual 47, 3) := by decide +kernel
theorem dX3_beginSuit_22 : decode cX3_beginSuit 22 = .ok (.return_, 1) := by decide +kernel
theorem dX3_become_0 : decode cX3_become 0 = .ok (.aload_n 0, 1) := by decide +kernel
theorem dX3_become_1 : decode cX3_become 1 = .ok (.aload_n 1, 1) := by decide +kernel
theorem dX3_become_2 : decode cX3_become 2 = .ok (.getfield 43, 3) := by decide +kernel
theorem dX3_become_5 : decode cX3_become 5 = .ok (.putfield 43, 3) := by decide +kernel
theorem dX3_become_8 : decode cX3_become 8 = .ok (.aload_n 0, 1) := by decide +kernel
theorem dX3_become_9 : decode cX3_become 9 = .ok (.aload_n 1, 1) := by decide +kernel
theorem dX3_become_10 : decode cX3_become 10 = .ok (.getfield 53, 3) := by decide +kernel
theorem dX3_become_13 : decode cX3_become 13 = .ok (.putfield 53, 3) := by decide +kernel
theorem dX3_become_16 : decode cX3_become 16 = .ok (.aload_n 0, 1) := by decide +kernel
theorem dX3_become_17 : decode cX3_become 17 = .ok (.aload_n 1, 1) := by decide +kernel
theorem dX3_become_18 : decode cX3_become 18 = .ok (.getfield 56, 3) := by decide +kernel
theorem dX3_become_21 : decode cX3_become 21 = .ok (.putfield 56, 3) := by decide +kernel
theorem dX3_become_24 : decode cX3_become 24 = .ok (.aload_n 0, 1) := by decide +kernel
theorem dX3_become_25 : decode cX3_become 25 = .ok (.aload_n 1, 1) := by decide +kernel
theorem dX3_become_26 : decode cX3_become 26 = .ok (.getfield 59, 3) := by decide +kernel
theorem dX3_become_29 : decode cX3_become 29 = .ok (.putfield 59, 3) := by decide +kernel
theorem dX3_become_32 : decode cX3_become 32 = .ok (.aload_n 0, 1) := by decide +kernel
theorem dX3_become_33 : decode cX3_become 33 = .ok (.getfield 27, 3) := by decide +kernel
theorem dX3_become_36 : decode cX3_become 36 = .ok (.aload_n 1, 1) := by decide +kernel
theorem dX3_become_37 : decode cX3_become 37 = .ok (.getfield 27, 3) := by decide +kernel
theorem dX3_become_40 : decode cX3_become 40 = .ok (.invokevirtual 62, 3) := by decide +kernel
theorem dX3_become_43 : decode cX3_become 43 = .ok (.aload_n 0, 1) := by decide +kernel
theorem dX3_become_44 : decode cX3_become 44 = .ok (.getfield 31, 3) := by decide +kernel
theorem dX3_become_47 : decode cX3_become 47 = .ok (.aload_n 1, 1) := by decide +kernel
theorem dX3_become_48 : decode cX3_become 48 = .ok (.getfield 31, 3) := by decide +kernel
theorem dX3_become_51 : decode cX3_become 51 = .ok (.invokevirtual 62, 3) := by decide +kernel
theorem dX3_become_54 : decode cX3_become 54 = .ok (.aload_n 0, 1) := by decide +kernel
theorem dX3_become_55 : decode cX3_become 55 = .ok (.getfield 34, 3) := by decide +kernel
theorem dX3_become_58 : decode cX3_become 58 = .ok (.aload_n 1, 1) := by decide +kernel
theorem dX3_become_59 : decode cX3_become 59 = .ok (.getfield 34, 3) := by decide +kernel
theorem dX3_become_62 : decode cX3_become 62 = .ok (.invokevirtual 62, 3) := by decide +kernel
theorem dX3_become_65 : decode cX3_become 65 = .ok (.aload_n 0, 1) := by decide +kernel
theorem dX3_become_66 : decode cX3_become 66 = .ok (.getfield 37, 3) := by decide +kernel
theorem dX3_become_69 : decode cX3_become 69 = .ok (.aload_n 1, 1) := by decide +kernel
theorem dX3_become_70 : decode cX3_become 70 = .ok (.getfield 37, 3) := by decide +kernel
theorem dX3_become_73 : decode cX3_become 73 = .ok (.invokevirtual 62, 3) := by decide +kernel
theorem dX3_become_76 : decode cX3_become 76 = .ok (.aload_n 0, 1) := by decide +kernel
theorem dX3_become_77 : decode cX3_become 77 = .ok (.getfield 40, 3) := by decide +kernel
theorem dX3_become_80 : decode cX3_become 80 = .ok (.aload_n 1, 1) := by decide +kernel
theorem dX3_become_81 : decode cX3_become 81 = .ok (.getfield 40, 3) := by decide +kernel
theorem dX3_become_84 : decode cX3_become 84 = .ok (.invokevirtual 62, 3) := by decide +kernel
theorem dX3_become_87 : decode cX3_become 87 = .ok (.return_, 1) := by decide +kernel
theorem dX3_keepForUndo_0 : decode cX3_keepForUndo 0 = .ok (.aload_n 0, 1) := by decide +kernel
theorem dX3_keepForUndo_1 : decode cX3_keepForUndo 1 = .ok (.getfield 40, 3) := by decide +kernel
theorem dX3_keepForUndo_4 : decode cX3_keepForUndo 4 = .ok (.invokevirtual 66, 3) := by decide +kernel
theorem dX3_keepForUndo_7 : decode cX3_keepForUndo 7 = .ok (.ifCond .eq 10, 3) := by decide +kernel
theorem dX3_keepForUndo_10 : decode cX3_keepForUndo 10 = .ok (.aload_n 0, 1) := by decide +kernel
theorem dX3_keepForUndo_11 : decode cX3_keepForUndo 11 = .ok (.getfield 40, 3) := by decide +kernel
theorem dX3_keepForUndo_14 : decode cX3_keepForUndo 14 = .ok (.invokevirtual 70, 3) := by decide +kernel
theorem dX3_keepForUndo_17 : decode cX3_keepForUndo 17 = .ok (.aload_n 0, 1) := by decide +kernel
theorem dX3_keepForUndo_18 : decode cX3_keepForUndo 18 = .ok (.getfield 40, 3) := by decide +kernel
theorem dX3_keepForUndo_21 : decode cX3_keepForUndo 21 = .ok (.aload_n 0, 1) := by decide +kernel
theorem dX3_keepForUndo_22 : decode cX3_keepForUndo 22 = .ok (.getfield 53, 3) := by decide +kernel
theorem dX3_keepForUndo_25 : decode cX3_keepForUndo 25 = .ok (.aload_n 0, 1) := by decide +kernel
theorem dX3_keepForUndo_26 : decode cX3_keepForUndo 26 = .ok (.getfield 56, 3) := by decide +kernel
theorem dX3_keepForUndo_29 : decode cX3_keepForUndo 29 = .ok (.aload_n 0, 1) := by decide +kernel
theorem dX3_keepForUndo_30 : decode cX3_keepForUndo 30 = .ok (.getfield 59, 3) := by decide +kernel
theorem dX3_keepForUndo_33 : decode cX3_keepForUndo 33 = .ok (.iconst 0, 1) := by decide +kernel
theorem dX3_keepForUndo_34 : decode cX3_keepForUndo 34 = .ok (.invokevirtual 73, 3) := by decide +kernel
theorem dX3_keepForUndo_37 : decode cX3_keepForUndo 37 = .ok (.return_, 1) := by decide +kernel
theorem dX3_takeBack_0 : decode cX3_takeBack 0 = .ok (.aload_n 0, 1) := by decide +kernel
theorem dX3_takeBack_1 : decode cX3_takeBack 1 = .ok (.getfield 40, 3) := by decide +kernel
theorem dX3_takeBack_4 : decode cX3_takeBack 4 = .ok (.getfield 77, 3) := by decide +kernel
theorem dX3_takeBack_7 : decode cX3_takeBack 7 = .ok (.iconst 1, 1) := by decide +kernel
theorem dX3_takeBack_8 : decode cX3_takeBack 8 = .ok (.isub, 1) := by decide +kernel
theorem dX3_takeBack_9 : decode cX3_takeBack 9 = .ok (.istore_n 1, 1) := by decide +kernel
theorem dX3_takeBack_10 : decode cX3_takeBack 10 = .ok (.aload_n 0, 1) := by decide +kernel
theorem dX3_takeBack_11 : decode cX3_takeBack 11 = .ok (.aload_n 0, 1) := by decide +kernel
theorem dX3_takeBack_12 : decode cX3_takeBack 12 = .ok (.getfield 40, 3) := by decide +kernel
theorem dX3_takeBack_15 : decode cX3_takeBack 15 = .ok (.iload_n 1, 1) := by decide +kernel
theorem dX3_takeBack_16 : decode cX3_takeBack 16 = .ok (.iconst 0, 1) := by decide +kernel
theorem dX3_takeBack_17 : decode cX3_takeBack 17 = .ok (.invokevirtual 80, 3) := by decide +kernel
theorem dX3_takeBack_20 : decode cX3_takeBack 20 = .ok (.putfield 53, 3) := by decide +kernel
theorem dX3_takeBack_23 : decode cX3_takeBack 23 = .ok (.aload_n 0, 1) := by decide +kernel
theorem dX3_takeBack_24 : decode cX3_takeBack 24 = .ok (.aload_n 0, 1) := by decide +kernel
theorem dX3_takeBack_25 : decode cX3_takeBack 25 = .ok (.getfield 40, 3) := by decide +kernel
theorem dX3_takeBack_28 : decode cX3_takeBack 28 = .ok (.iload_n 1, 1) := by decide +kernel
theorem dX3_takeBack_29 : decode cX3_takeBack 29 = .ok (.iconst 1, 1) := by decide +kernel
theorem dX3_takeBack_30 : decode cX3_takeBack 30 = .ok (.invokevirtual 80, 3) := by decide +kernel
theorem dX3_takeBack_33 : decode cX3_takeBack 33 = .ok (.putfield 56, 3) := by decide +kernel
theorem dX3_takeBack_36 : decode cX3_takeBack 36 = .ok (.aload_n 0, 1) := by decide +kernel
theorem dX3_takeBack_37 : decode cX3_takeBack 37 = .ok (.aload_n 0, 1) := by decide +kernel
theorem dX3_takeBack_38 : decode cX3_takeBack 38 = .ok (.getfield 40, 3) := by decide +kernel
theorem dX3_takeBack_41 : decode cX3_takeBack 41 = .ok (.iload_n 1, 1) := by decide +kernel
theorem dX3_takeBack_42 : decode cX3_takeBack 42 = .ok (.iconst 2, 1) := by decide +kernel
theorem dX3_takeBack_43 : decode cX3_takeBack 43 = .ok (.invokevirtual 80, 3) := by decide +kernel
theorem dX3_takeBack_46 : decode cX3_takeBack 46 = .ok (.putfield 59, 3) := by decide +kernel
theorem dX3_takeBack_49 : decode cX3_takeBack 49 = .ok (.aload_n 0, 1) := by decide +kernel
theorem dX3_takeBack_50 : decode cX3_takeBack 50 = .ok (.getfield 40, 3) := by decide +kernel
theorem dX3_takeBack_53 : decode cX3_takeBack 53 = .ok (.invokevirtual 84, 3) := by decide +kernel
theorem dX3_takeBack_56 : decode cX3_takeBack 56 = .ok (.return_, 1) := by decide +kernel
theorem dX3_allowed_0 : decode cX3_allowed 0 = .ok (.aload_n 0, 1) := by decide +kernel
theorem dX3_allowed_1 : decode cX3_allowed 1 = .ok (.getfield 27, 3) := by decide +kernel
theorem dX3_allowed_4 : decode cX3_allowed 4 = .ok (.iload_n 1, 1) := by decide +kernel
theorem dX3_allowed_5 : decode cX3_allowed 5 = .ok (.iconst 1, 1) := by decide +kernel
theorem dX3_allowed_6 : decode cX3_allowed 6 = .ok (.invokevirtual 80, 3) := by decide +kernel
theorem dX3_allowed_9 : decode cX3_allowed 9 = .ok (.istore 4, 2) := by decide +kernel
theorem dX3_allowed_11 : decode cX3_allowed 11 = .ok (.iload 4, 2) := by decide +kernel
theorem dX3_allowed_13 : decode cX3_allowed 13 = .ok (.invokestatic 87, 3) := by decide +kernel
theorem dX3_allowed_16 : decode cX3_allowed 16 = .ok (.istore 5, 2) := by decide +kernel
theorem dX3_allowed_18 : decode cX3_allowed 18 = .ok (.iload 4, 2) := by decide +kernel
theorem dX3_allowed_20 : decode cX3_allowed 20 = .ok (.iload_n 2, 1) := by decide +kernel
theorem dX3_allowed_21 : decode cX3_allowed 21 = .ok (.iand, 1) := by decide +kernel
theorem dX3_allowed_22 : decode cX3_allowed 22 = .ok (.invokestatic 87, 3) := by decide +kernel
theorem dX3_allowed_25 : decode cX3_allowed 25 = .ok (.istore 6, 2) := by decide +kernel
theorem dX3_allowed_27 : decode cX3_allowed 27 = .ok (.aload_n 0, 1) := by decide +kernel
theorem dX3_allowed_28 : decode cX3_allowed 28 = .ok (.aload_n 0, 1) := by decide +kernel
theorem dX3_allowed_29 : decode cX3_allowed 29 = .ok (.getfield 27, 3) := by decide +kernel
theorem dX3_allowed_32 : decode cX3_allowed 32 = .ok (.iload_n 1, 1) := by decide +kernel
theorem dX3_allowed_33 : decode cX3_allowed 33 = .ok (.iconst 0, 1) := by decide +kernel
theorem dX3_allowed_34 : decode cX3_allowed 34 = .ok (.invokevirtual 80, 3) := by decide +kernel
theorem dX3_allowed_37 : decode cX3_allowed 37 = .ok (.invokevirtual 93, 3) := by decide +kernel
theorem dX3_allowed_40 : decode cX3_allowed 40 = .ok (.iload 5, 2) := by decide +kernel
theorem dX3_allowed_42 : decode cX3_allowed 42 = .ok (.iload 6, 2) := by decide +kernel
theorem dX3_allowed_44 : decode cX3_allowed 44 = .ok (.iload_n 3, 1) := by decide +kernel
theorem dX3_allowed_45 : decode cX3_allowed 45 = .ok (.invokevirtual 97, 3) := by decide +kernel
theorem dX3_allowed_48 : decode cX3_allowed 48 = .ok (.ireturn, 1) := by decide +kernel
theorem dX3_ownCost_0 : decode cX3_ownCost 0 = .ok (.aload_n 0, 1) := by decide +kernel
theorem dX3_ownCost_1 : decode cX3_ownCost 1 = .ok (.aload_n 0, 1) := by decide +kernel
theorem dX3_ownCost_2 : decode cX3_ownCost 2 = .ok (.getfield 27, 3) := by decide +kernel
theorem dX3_ownCost_5 : decode cX3_ownCost 5 = .ok (.iload_n 1, 1) := by decide +kernel
theorem dX3_ownCost_6 : decode cX3_ownCost 6 = .ok (.iconst 0, 1) := by decide +kernel
theorem dX3_ownCost_7 : decode cX3_ownCost 7 = .ok (.invokevirtual 80, 3) := by decide +kernel
theorem dX3_ownCost_10 : decode cX3_ownCost 10 = .ok (.invokevirtual 93, 3) := by decide +kernel
theorem dX3_ownCost_13 : decode cX3_ownCost 13 = .ok (.aload_n 0, 1) := by decide +kernel
theorem dX3_ownCost_14 : decode cX3_ownCost 14 = .ok (.getfield 27, 3) := by decide +kernel
theorem dX3_ownCost_17 : decode cX3_ownCost 17 = .ok (.iload_n 1, 1) := by decide +kernel
theorem dX3_ownCost_18 : decode cX3_ownCost 18 = .ok (.iconst 3, 1) := by decide +kernel
theorem dX3_ownCost_19 : decode cX3_ownCost 19 = .ok (.invokevirtual 80, 3) := by decide +kernel
theorem dX3_ownCost_22 : decode cX3_ownCost 22 = .ok (.iload_n 2, 1) := by decide +kernel
theorem dX3_ownCost_23 : decode cX3_ownCost 23 = .ok (.invokevirtual 101, 3) := by decide +kernel
theorem dX3_ownCost_26 : decode cX3_ownCost 26 = .ok (.ireturn, 1) := by decide +kernel
theorem dX3_denialWins_0 : decode cX3_denialWins 0 = .ok (.aload_n 0, 1) := by decide +kernel
theorem dX3_denialWins_1 : decode cX3_denialWins 1 = .ok (.getfield 27, 3) := by decide +kernel
theorem dX3_denialWins_4 : decode cX3_denialWins 4 = .ok (.iload_n 1, 1) := by decide +kernel
theorem dX3_denialWins_5 : decode cX3_denialWins 5 = .ok (.iconst 1, 1) := by decide +kernel
theorem dX3_denialWins_6 : decode cX3_denialWins 6 = .ok (.invokevirtual 80, 3) := by decide +kernel
theorem dX3_denialWins_9 : decode cX3_denialWins 9 = .ok (.aload_n 0, 1) := by decide +kernel
theorem dX3_denialWins_10 : decode cX3_denialWins 10 = .ok (.getfield 43, 3) := by decide +kernel
theorem dX3_denialWins_13 : decode cX3_denialWins 13 = .ok (.iconst (-1), 1) := by decide +kernel
theorem dX3_denialWins_14 : decode cX3_denialWins 14 = .ok (.ixor, 1) := by decide +kernel
theorem dX3_denialWins_15 : decode cX3_denialWins 15 = .ok (.iand, 1) := by decide +kernel
theorem dX3_denialWins_16 : decode cX3_denialWins 16 = .ok (.invokestatic 87, 3) := by decide +kernel
theorem dX3_denialWins_19 : decode cX3_denialWins 19 = .ok (.istore_n 2, 1) := by decide +kernel
theorem dX3_denialWins_20 : decode cX3_denialWins 20 = .ok (.aload_n 0, 1) := by decide +kernel
theorem dX3_denialWins_21 : decode cX3_denialWins 21 = .ok (.aload_n 0, 1) := by decide +kernel
theorem dX3_denialWins_22 : decode cX3_denialWins 22 = .ok (.getfield 27, 3) := by decide +kernel
theorem dX3_denialWins_25 : decode cX3_denialWins 25 = .ok (.iload_n 1, 1) := by decide +kernel
theorem dX3_denialWins_26 : decode cX3_denialWins 26 = .ok (.iconst 0, 1) := by decide +kernel
theorem dX3_denialWins_27 : decode cX3_denialWins 27 = .ok (.invokevirtual 80, 3) := by decide +kernel
theorem dX3_denialWins_30 : decode cX3_denialWins 30 = .ok (.invokevirtual 93, 3) := by decide +kernel
theorem dX3_denialWins_33 : decode cX3_denialWins 33 = .ok (.iload_n 2, 1) := by decide +kernel
theorem dX3_denialWins_34 : decode cX3_denialWins 34 = .ok (.invokevirtual 104, 3) := by decide +kernel
theorem dX3_denialWins_37 : decode cX3_denialWins 37 = .ok (.ireturn, 1) := by decide +kernel
theorem dX3_pleadedThatLose_0 : decode cX3_pleadedThatLose 0 = .ok (.iconst 0, 1) := by decide +kernel
theorem dX3_pleadedThatLose_1 : decode cX3_pleadedThatLose 1 = .ok (.istore_n 1, 1) := by decide +kernel
theorem dX3_pleadedThatLose_2 : decode cX3_pleadedThatLose 2 = .ok (.iconst 0, 1) := by decide +kernel
theorem dX3_pleadedThatLose_3 : decode cX3_pleadedThatLose 3 = .ok (.istore_n 2, 1) := by decide +kernel
theorem dX3_pleadedThatLose_4 : decode cX3_pleadedThatLose 4 = .ok (.iload_n 2, 1) := by decide +kernel
theorem dX3_pleadedThatLose_5 : decode cX3_pleadedThatLose 5 = .ok (.aload_n 0, 1) := by decide +kernel
theorem dX3_pleadedThatLose_6 : decode cX3_pleadedThatLose 6 = .ok (.getfield 27, 3) := by decide +kernel
theorem dX3_pleadedThatLose_9 : decode cX3_pleadedThatLose 9 = .ok (.getfield 77, 3) := by decide +kernel
theorem dX3_pleadedThatLose_12 : decode cX3_pleadedThatLose 12 = .ok (.if_icmp .ge 34, 3) := by decide +kernel
theorem dX3_pleadedThatLose_15 : decode cX3_pleadedThatLose 15 = .ok (.aload_n 0, 1) := by decide +kernel
theorem dX3_pleadedThatLose_16 : decode cX3_pleadedThatLose 16 = .ok (.getfield 53, 3) := by decide +kernel
theorem dX3_pleadedThatLose_19 : decode cX3_pleadedThatLose 19 = .ok (.iload_n 2, 1) := by decide +kernel
theorem dX3_pleadedThatLose_20 : decode cX3_pleadedThatLose 20 = .ok (.invokestatic 108, 3) := by decide +kernel
theorem dX3_pleadedThatLose_23 : decode cX3_pleadedThatLose 23 = .ok (.ifCond .eq 17, 3) := by decide +kernel
theorem dX3_pleadedThatLose_26 : decode cX3_pleadedThatLose 26 = .ok (.aload_n 0, 1) := by decide +kernel
theorem dX3_pleadedThatLose_27 : decode cX3_pleadedThatLose 27 = .ok (.iload_n 2, 1) := by decide +kernel
theorem dX3_pleadedThatLose_28 : decode cX3_pleadedThatLose 28 = .ok (.invokevirtual 112, 3) := by decide +kernel
theorem dX3_pleadedThatLose_31 : decode cX3_pleadedThatLose 31 = .ok (.ifCond .eq 9, 3) := by decide +kernel
theorem dX3_pleadedThatLose_34 : decode cX3_pleadedThatLose 34 = .ok (.iload_n 1, 1) := by decide +kernel
theorem dX3_pleadedThatLose_35 : decode cX3_pleadedThatLose 35 = .ok (.iconst 1, 1) := by decide +kernel
theorem dX3_pleadedThatLose_36 : decode cX3_pleadedThatLose 36 = .ok (.iload_n 2, 1) := by decide +kernel
theorem dX3_pleadedThatLose_37 : decode cX3_pleadedThatLose 37 = .ok (.ishl, 1) := by decide +kernel
theorem dX3_pleadedThatLose_38 : decode cX3_pleadedThatLose 38 = .ok (.ior, 1) := by decide +kernel
theorem dX3_pleadedThatLose_39 : decode cX3_pleadedThatLose 39 = .ok (.istore_n 1, 1) := by decide +kernel
theorem dX3_pleadedThatLose_40 : decode cX3_pleadedThatLose 40 = .ok (.iinc 2 1, 3) := by decide +kernel
theorem dX3_pleadedThatLose_43 : decode cX3_pleadedThatLose 43 = .ok (.goto (-39), 3) := by decide +kernel
theorem dX3_pleadedThatLose_46 : decode cX3_pleadedThatLose 46 = .ok (.iload_n 1, 1) := by decide +kernel
theorem dX3_pleadedThatLose_47 : decode cX3_pleadedThatLose 47 = .ok (.ireturn, 1) := by decide +kernel
theorem dX3_factsWith_0 : decode cX3_factsWith 0 = .ok (.aload_n 0, 1) := by decide +kernel
theorem dX3_factsWith_1 : decode cX3_factsWith 1 = .ok (.getfield 43, 3) := by decide +kernel
theorem dX3_factsWith_4 : decode cX3_factsWith 4 = .ok (.istore_n 2, 1) := by decide +kernel
theorem dX3_factsWith_5 : decode cX3_factsWith 5 = .ok (.iconst 0, 1) := by decide +kernel
theorem dX3_factsWith_6 : decode cX3_factsWith 6 = .ok (.istore_n 3, 1) := by decide +kernel
theorem dX3_factsWith_7 : decode cX3_factsWith 7 = .ok (.iload_n 3, 1) := by decide +kernel
theorem dX3_factsWith_8 : decode cX3_factsWith 8 = .ok (.aload_n 0, 1) := by decide +kernel
theorem dX3_factsWith_9 : decode cX3_factsWith 9 = .ok (.getfield 27, 3) := by decide +kernel
theorem dX3_factsWith_12 : decode cX3_factsWith 12 = .ok (.getfield 77, 3) := by decide +kernel
theorem dX3_factsWith_15 : decode cX3_factsWith 15 = .ok (.if_icmp .ge 31, 3) := by decide +kernel
theorem dX3_factsWith_18 : decode cX3_factsWith 18 = .ok (.iload_n 1, 1) := by decide +kernel
theorem dX3_factsWith_19 : decode cX3_factsWith 19 = .ok (.iload_n 3, 1) := by decide +kernel
theorem dX3_factsWith_20 : decode cX3_factsWith 20 = .ok (.invokestatic 108, 3) := by decide +kernel
theorem dX3_factsWith_23 : decode cX3_factsWith 23 = .ok (.ifCond .eq 17, 3) := by decide +kernel
theorem dX3_factsWith_26 : decode cX3_factsWith 26 = .ok (.iload_n 2, 1) := by decide +kernel
theorem dX3_factsWith_27 : decode cX3_factsWith 27 = .ok (.iconst 1, 1) := by decide +kernel
theorem dX3_factsWith_28 : decode cX3_factsWith 28 = .ok (.aload_n 0, 1) := by decide +kernel
theorem dX3_factsWith_29 : decode cX3_factsWith 29 = .ok (.getfield 27, 3) := by decide +kernel
theorem dX3_factsWith_32 : decode cX3_factsWith 32 = .ok (.iload_n 3, 1) := by decide +kernel
theorem dX3_factsWith_33 : decode cX3_factsWith 33 = .ok (.iconst 2, 1) := by decide +kernel
theorem dX3_factsWith_34 : decode cX3_factsWith 34 = .ok (.invokevirtual 80, 3) := by decide +kernel
theorem dX3_factsWith_37 : decode cX3_factsWith 37 = .ok (.ishl, 1) := by decide +kernel
theorem dX3_factsWith_38 : decode cX3_factsWith 38 = .ok (.ior, 1) := by decide +kernel
theorem dX3_factsWith_39 : decode cX3_factsWith 39 = .ok (.istore_n 2, 1) := by decide +kernel
theorem dX3_factsWith_40 : decode cX3_factsWith 40 = .ok (.iinc 3 1, 3) := by decide +kernel
theorem dX3_factsWith_43 : decode cX3_factsWith 43 = .ok (.goto (-36), 3) := by decide +kernel
theorem dX3_factsWith_46 : decode cX3_factsWith 46 = .ok (.iload_n 2, 1) := by decide +kernel
theorem dX3_factsWith_47 : decode cX3_factsWith 47 = .ok (.ireturn, 1) := by decide +kernel
theorem dX3_courtHears_0 : decode cX3_courtHears 0 = .ok (.aload_n 0, 1) := by decide +kernel
theorem dX3_courtHears_1 : decode cX3_courtHears 1 = .ok (.getfield 31, 3) := by decide +kernel
theorem dX3_courtHears_4 : decode cX3_courtHears 4 = .ok (.iload_n 1, 1) := by decide +kernel
theorem dX3_courtHears_5 : decode cX3_courtHears 5 = .ok (.iconst 0, 1) := by decide +kernel
theorem dX3_courtHears_6 : decode cX3_courtHears 6 = .ok (.invokevirtual 80, 3) := by decide +kernel
theorem dX3_courtHears_9 : decode cX3_courtHears 9 = .ok (.iload_n 2, 1) := by decide +kernel
theorem dX3_courtHears_10 : decode cX3_courtHears 10 = .ok (.iconst (-1), 1) := by decide +kernel
theorem dX3_courtHears_11 : decode cX3_courtHears 11 = .ok (.ixor, 1) := by decide +kernel
theorem dX3_courtHears_12 : decode cX3_courtHears 12 = .ok (.iand, 1) := by decide +kernel
theorem dX3_courtHears_13 : decode cX3_courtHears 13 = .ok (.ifCond .ne 7, 3) := by decide +kernel
theorem dX3_courtHears_16 : decode cX3_courtHears 16 = .ok (.iconst 1, 1) := by decide +kernel
theorem dX3_courtHears_17 : decode cX3_courtHears 17 = .ok (.goto 4, 3) := by decide +kernel
theorem dX3_courtHears_20 : decode cX3_courtHears 20 = .ok (.iconst 0, 1) := by decide +kernel
theorem dX3_courtHears_21 : decode cX3_courtHears 21 = .ok (.ireturn, 1) := by decide +kernel
theorem dX3_hearing_0 : decode cX3_hearing 0 = .ok (.iconst 0, 1) := by decide +kernel
theorem dX3_hearing_1 : decode cX3_hearing 1 = .ok (.istore_n 2, 1) := by decide +kernel
theorem dX3_hearing_2 : decode cX3_hearing 2 = .ok (.iconst 0, 1) := by decide +kernel
theorem dX3_hearing_3 : decode cX3_hearing 3 = .ok (.istore_n 3, 1) := by decide +kernel
theorem dX3_hearing_4 : decode cX3_hearing 4 = .ok (.iload_n 3, 1) := by decide +kernel
theorem dX3_hearing_5 : decode cX3_hearing 5 = .ok (.aload_n 0, 1) := by decide +kernel
theorem dX3_hearing_6 : decode cX3_hearing 6 = .ok (.getfield 31, 3) := by decide +kernel
theorem dX3_hearing_9 : decode cX3_hearing 9 = .ok (.getfield 77, 3) := by decide +kernel
theorem dX3_hearing_12 : decode cX3_hearing 12 = .ok (.if_icmp .ge 24, 3) := by decide +kernel
theorem dX3_hearing_15 : decode cX3_hearing 15 = .ok (.aload_n 0, 1) := by decide +kernel
theorem dX3_hearing_16 : decode cX3_hearing 16 = .ok (.iload_n 3, 1) := by decide +kernel
theorem dX3_hearing_17 : decode cX3_hearing 17 = .ok (.iload_n 1, 1) := by decide +kernel
theorem dX3_hearing_18 : decode cX3_hearing 18 = .ok (.invokevirtual 115, 3) := by decide +kernel
theorem dX3_hearing_21 : decode cX3_hearing 21 = .ok (.ifCond .eq 9, 3) := by decide +kernel
theorem dX3_hearing_24 : decode cX3_hearing 24 = .ok (.iload_n 2, 1) := by decide +kernel
theorem dX3_hearing_25 : decode cX3_hearing 25 = .ok (.iconst 1, 1) := by decide +kernel
theorem dX3_hearing_26 : decode cX3_hearing 26 = .ok (.iload_n 3, 1) := by decide +kernel
theorem dX3_hearing_27 : decode cX3_hearing 27 = .ok (.ishl, 1) := by decide +kernel
theorem dX3_hearing_28 : decode cX3_hearing 28 = .ok (.ior, 1) := by decide +kernel
theorem dX3_hearing_29 : decode cX3_hearing 29 = .ok (.istore_n 2, 1) := by decide +kernel
theorem dX3_hearing_30 : decode cX3_hearing 30 = .ok (.iinc 3 1, 3) := by decide +kernel
theorem dX3_hearing_33 : decode cX3_hearing 33 = .ok (.goto (-29), 3) := by decide +kernel
theorem dX3_hearing_36 : decode cX3_hearing 36 = .ok (.iload_n 2, 1) := by decide +kernel
theorem dX3_hearing_37 : decode cX3_hearing 37 = .ok (.ireturn, 1) := by decide +kernel
theorem dX3_afterTerm_0 : decode cX3_afterTerm 0 = .ok (.iload_n 1, 1) := by decide +kernel
theorem dX3_afterTerm_1 : decode cX3_afterTerm 1 = .ok (.ifCond .lt 14, 3) := by decide +kernel
theorem dX3_afterTerm_4 : decode cX3_afterTerm 4 = .ok (.iload_n 1, 1) := by decide +kernel
theorem dX3_afterTerm_5 : decode cX3_afterTerm 5 = .ok (.aload_n 0, 1) := by decide +kernel
theorem dX3_afterTerm_6 : decode cX3_afterTerm 6 = .ok (.getfield 27, 3) := by decide +kernel
theorem dX3_afterTerm_9 : decode cX3_afterTerm 9 = .ok (.getfield 77, 3) := by decide +kernel
theorem dX3_afterTerm_12 : decode cX3_afterTerm 12 = .ok (.if_icmp .lt 5, 3) := by decide +kernel
theorem dX3_afterTerm_15 : decode cX3_afterTerm 15 = .ok (.iload_n 2, 1) := by decide +kernel
theorem dX3_afterTerm_16 : decode cX3_afterTerm 16 = .ok (.ireturn, 1) := by decide +kernel
theorem dX3_afterTerm_17 : decode cX3_afterTerm 17 = .ok (.iload_n 2, 1) := by decide +kernel
theorem dX3_afterTerm_18 : decode cX3_afterTerm 18 = .ok (.iload_n 1, 1) := by decide +kernel
theorem dX3_afterTerm_19 : decode cX3_afterTerm 19 = .ok (.invokestatic 108, 3) := by decide +kernel
theorem dX3_afterTerm_22 : decode cX3_afterTerm 22 = .ok (.ifCond .eq 23, 3) := by decide +kernel
theorem dX3_afterTerm_25 : decode cX3_afterTerm 25 = .ok (.aload_n 0, 1) := by decide +kernel
theorem dX3_afterTerm_26 : decode cX3_afterTerm 26 = .ok (.iload_n 1, 1) := by decide +kernel
theorem dX3_afterTerm_27 : decode cX3_afterTerm 27 = .ok (.invokevirtual 112, 3) := by decide +kernel
theorem dX3_afterTerm_30 : decode cX3_afterTerm 30 = .ok (.ifCond .eq 13, 3) := by decide +kernel
theorem dX3_afterTerm_33 : decode cX3_afterTerm 33 = .ok (.iload_n 2, 1) := by decide +kernel
theorem dX3_afterTerm_34 : decode cX3_afterTerm 34 = .ok (.iconst 1, 1) := by decide +kernel
theorem dX3_afterTerm_35 : decode cX3_afterTerm 35 = .ok (.iload_n 1, 1) := by decide +kernel
theorem dX3_afterTerm_36 : decode cX3_afterTerm 36 = .ok (.ishl, 1) := by decide +kernel
theorem dX3_afterTerm_37 : decode cX3_afterTerm 37 = .ok (.iconst (-1), 1) := by decide +kernel
theorem dX3_afterTerm_38 : decode cX3_afterTerm 38 = .ok (.ixor, 1) := by decide +kernel
theorem dX3_afterTerm_39 : decode cX3_afterTerm 39 = .ok (.iand, 1) := by decide +kernel
theorem dX3_afterTerm_40 : decode cX3_afterTerm 40 = .ok (.goto 4, 3) := by decide +kernel
theorem dX3_afterTerm_43 : decode cX3_afterTerm 43 = .ok (.iload_n 2, 1) := by decide +kernel
theorem dX3_afterTerm_44 : decode cX3_afterTerm 44 = .ok (.ireturn, 1) := by decide +kernel
theorem dX3_afterTerm_45 : decode cX3_afterTerm 45 = .ok (.aload_n 0, 1) := by decide +kernel
theorem dX3_afterTerm_46 : decode cX3_afterTerm 46 = .ok (.iload_n 1, 1) := by decide +kernel
theorem dX3_afterTerm_47 : decode cX3_afterTerm 47 = .ok (.aload_n 0, 1) := by decide +kernel
theorem dX3_afterTerm_48 : decode cX3_afterTerm 48 = .ok (.iload_n 2, 1) := by decide +kernel
theorem dX3_afterTerm_49 : decode cX3_afterTerm 49 = .ok (.invokevirtual 118, 3) := by decide +kernel
theorem dX3_afterTerm_52 : decode cX3_afterTerm 52 = .ok (.iload_n 3, 1) := by decide +kernel
theorem dX3_afterTerm_53 : decode cX3_afterTerm 53 = .ok (.invokevirtual 121, 3) := by decide +kernel
theorem dX3_afterTerm_56 : decode cX3_afterTerm 56 = .ok (.ifCond .eq 11, 3) := by decide +kernel
theorem dX3_afterTerm_59 : decode cX3_afterTerm 59 = .ok (.iload_n 2, 1) := by decide +kernel
theorem dX3_afterTerm_60 : decode cX3_afterTerm 60 = .ok (.iconst 1, 1) := by decide +kernel
theorem dX3_afterTerm_61 : decode cX3_afterTerm 61 = .ok (.iload_n 1, 1) := by decide +kernel
theorem dX3_afterTerm_62 : decode cX3_afterTerm 62 = .ok (.ishl, 1) := by decide +kernel
theorem dX3_afterTerm_63 : decode cX3_afterTerm 63 = .ok (.ior, 1) := by decide +kernel
theorem dX3_afterTerm_64 : decode cX3_afterTerm 64 = .ok (.goto 4, 3) := by decide +kernel
theorem dX3_afterTerm_67 : decode cX3_afterTerm 67 = .ok (.iload_n 2, 1) := by decide +kernel
theorem dX3_afterTerm_68 : decode cX3_afterTerm 68 = .ok (.ireturn, 1) := by decide +kernel
theorem dX3_kindsByNotes_0 : decode cX3_kindsByNotes 0 = .ok (.iconst 0, 1) := by decide +kernel
theorem dX3_kindsByNotes_1 : decode cX3_kindsByNotes 1 = .ok (.istore_n 2, 1) := by decide +kernel
theorem dX3_kindsByNotes_2 : decode cX3_kindsByNotes 2 = .ok (.iconst 0, 1) := by decide +kernel
theorem dX3_kindsByNotes_3 : decode cX3_kindsByNotes 3 = .ok (.istore_n 3, 1) := by decide +kernel
theorem dX3_kindsByNotes_4 : decode cX3_kindsByNotes 4 = .ok (.iload_n 3, 1) := by decide +kernel
theorem dX3_kindsByNotes_5 : decode cX3_kindsByNotes 5 = .ok (.bipush 6, 2) := by decide +kernel
theorem dX3_kindsByNotes_7 : decode cX3_kindsByNotes 7 = .ok (.if_icmp .ge 24, 3) := by decide +kernel
theorem dX3_kindsByNotes_10 : decode cX3_kindsByNotes 10 = .ok (.aload_n 0, 1) := by decide +kernel
theorem dX3_kindsByNotes_11 : decode cX3_kindsByNotes 11 = .ok (.iload_n 1, 1) := by decide +kernel
theorem dX3_kindsByNotes_12 : decode cX3_kindsByNotes 12 = .ok (.iload_n 3, 1) := by decide +kernel
theorem dX3_kindsByNotes_13 : decode cX3_kindsByNotes 13 = .ok (.invokevirtual 124, 3) := by decide +kernel
theorem dX3_kindsByNotes_16 : decode cX3_kindsByNotes 16 = .ok (.ifCond .eq 9, 3) := by decide +kernel
theorem dX3_kindsByNotes_19 : decode cX3_kindsByNotes 19 = .ok (.iload_n 2, 1) := by decide +kernel
theorem dX3_kindsByNotes_20 : decode cX3_kindsByNotes 20 = .ok (.iconst 1, 1) := by decide +kernel
theorem dX3_kindsByNotes_21 : decode cX3_kindsByNotes 21 = .ok (.iload_n 3, 1) := by decide +kernel
theorem dX3_kindsByNotes_22 : decode cX3_kindsByNotes 22 = .ok (.ishl, 1) := by decide +kernel
theorem dX3_kindsByNotes_23 : decode cX3_kindsByNotes 23 = .ok (.ior, 1) := by decide +kernel
theorem dX3_kindsByNotes_24 : decode cX3_kindsByNotes 24 = .ok (.istore_n 2, 1) := by decide +kernel
theorem dX3_kindsByNotes_25 : decode cX3_kindsByNotes 25 = .ok (.iinc 3 1, 3) := by decide +kernel
theorem dX3_kindsByNotes_28 : decode cX3_kindsByNotes 28 = .ok (.goto (-24), 3) := by decide +kernel
theorem dX3_kindsByNotes_31 : decode cX3_kindsByNotes 31 = .ok (.iload_n 2, 1) := by decide +kernel
theorem dX3_kindsByNotes_32 : decode cX3_kindsByNotes 32 = .ok (.ireturn, 1) := by decide +kernel
theorem dX3_mostAlike_0 : decode cX3_mostAlike 0 = .ok (.iconst 0, 1) := by decide +kernel
theorem dX3_mostAlike_1 : decode cX3_mostAlike 1 = .ok (.istore 4, 2) := by decide +kernel
theorem dX3_mostAlike_3 : decode cX3_mostAlike 3 = .ok (.iconst 0, 1) := by decide +kernel
theorem dX3_mostAlike_4 : decode cX3_mostAlike 4 = .ok (.istore 5, 2) := by decide +kernel
theorem dX3_mostAlike_6 : decode cX3_mostAlike 6 = .ok (.iload 5, 2) := by decide +kernel
theorem dX3_mostAlike_8 : decode cX3_mostAlike 8 = .ok (.bipush 6, 2) := by decide +kernel
theorem dX3_mostAlike_10 : decode cX3_mostAlike 10 = .ok (.if_icmp .ge 34, 3) := by decide +kernel
theorem dX3_mostAlike_13 : decode cX3_mostAlike 13 = .ok (.iload_n 2, 1) := by decide +kernel
theorem dX3_mostAlike_14 : decode cX3_mostAlike 14 = .ok (.iload 5, 2) := by decide +kernel
theorem dX3_mostAlike_16 : decode cX3_mostAlike 16 = .ok (.invokestatic 108, 3) := by decide +kernel
theorem dX3_mostAlike_19 : decode cX3_mostAlike 19 = .ok (.ifCond .eq 19, 3) := by decide +kernel
theorem dX3_mostAlike_22 : decode cX3_mostAlike 22 = .ok (.iload 4, 2) := by decide +kernel
theorem dX3_mostAlike_24 : decode cX3_mostAlike 24 = .ok (.aload_n 0, 1) := by decide +kernel
theorem dX3_mostAlike_25 : decode cX3_mostAlike 25 = .ok (.iload_n 1, 1) := by decide +kernel
theorem dX3_mostAlike_26 : decode cX3_mostAlike 26 = .ok (.iload 5, 2) := by decide +kernel
theorem dX3_mostAlike_28 : decode cX3_mostAlike 28 = .ok (.iload_n 2, 1) := by decide +kernel
theorem dX3_mostAlike_29 : decode cX3_mostAlike 29 = .ok (.iload_n 3, 1) := by decide +kernel
theorem dX3_mostAlike_30 : decode cX3_mostAlike 30 = .ok (.invokevirtual 127, 3) := by decide +kernel
theorem dX3_mostAlike_33 : decode cX3_mostAlike 33 = .ok (.invokestatic 131, 3) := by decide +kernel
theorem dX3_mostAlike_36 : decode cX3_mostAlike 36 = .ok (.istore 4, 2) := by decide +kernel
theorem dX3_mostAlike_38 : decode cX3_mostAlike 38 = .ok (.iinc 5 1, 3) := by decide +kernel
theorem dX3_mostAlike_41 : decode cX3_mostAlike 41 = .ok (.goto (-35), 3) := by decide +kernel
theorem dX3_mostAlike_44 : decode cX3_mostAlike 44 = .ok (.iload 4, 2) := by decide +kernel
theorem dX3_mostAlike_46 : decode cX3_mostAlike 46 = .ok (.ireturn, 1) := by decide +kernel
theorem dX3_fitsHearings_0 : decode cX3_fitsHearings 0 = .ok (.iconst 0, 1) := by decide +kernel
theorem dX3_fitsHearings_1 : decode cX3_fitsHearings 1 = .ok (.istore_n 2, 1) := by decide +kernel
theorem dX3_fitsHearings_2 : decode cX3_fitsHearings 2 = .ok (.iload_n 2, 1) := by decide +kernel
theorem dX3_fitsHearings_3 : decode cX3_fitsHearings 3 = .ok (.aload_n 0, 1) := by decide +kernel
theorem dX3_fitsHearings_4 : decode cX3_fitsHearings 4 = .ok (.getfield 37, 3) := by decide +kernel
theorem dX3_fitsHearings_7 : decode cX3_fitsHearings 7 = .ok (.getfield 77, 3) := by decide +kernel
theorem dX3_fitsHearings_10 : decode cX3_fitsHearings 10 = .ok (.if_icmp .ge 48, 3) := by decide +kernel
theorem dX3_fitsHearings_13 : decode cX3_fitsHearings 13 = .ok (.aload_n 0, 1) := by decide +kernel
theorem dX3_fitsHearings_14 : decode cX3_fitsHearings 14 = .ok (.aload_n 0, 1) := by decide +kernel
theorem dX3_fitsHearings_15 : decode cX3_fitsHearings 15 = .ok (.getfield 37, 3) := by decide +kernel
theorem dX3_fitsHearings_18 : decode cX3_fitsHearings 18 = .ok (.iload_n 2, 1) := by decide +kernel
theorem dX3_fitsHearings_19 : decode cX3_fitsHearings 19 = .ok (.iconst 0, 1) := by decide +kernel
theorem dX3_fitsHearings_20 : decode cX3_fitsHearings 20 = .ok (.invokevirtual 80, 3) := by decide +kernel
theorem dX3_fitsHearings_23 : decode cX3_fitsHearings 23 = .ok (.iload_n 1, 1) := by decide +kernel
theorem dX3_fitsHearings_24 : decode cX3_fitsHearings 24 = .ok (.invokevirtual 115, 3) := by decide +kernel
theorem dX3_fitsHearings_27 : decode cX3_fitsHearings 27 = .ok (.istore_n 3, 1) := by decide +kernel
theorem dX3_fitsHearings_28 : decode cX3_fitsHearings 28 = .ok (.iload_n 3, 1) := by decide +kernel
theorem dX3_fitsHearings_29 : decode cX3_fitsHearings 29 = .ok (.aload_n 0, 1) := by decide +kernel
theorem dX3_fitsHearings_30 : decode cX3_fitsHearings 30 = .ok (.getfield 37, 3) := by decide +kernel
theorem dX3_fitsHearings_33 : decode cX3_fitsHearings 33 = .ok (.iload_n 2, 1) := by decide +kernel
theorem dX3_fitsHearings_34 : decode cX3_fitsHearings 34 = .ok (.iconst 1, 1) := by decide +kernel
theorem dX3_fitsHearings_35 : decode cX3_fitsHearings 35 = .ok (.invokevirtual 80, 3) := by decide +kernel
theorem dX3_fitsHearings_38 : decode cX3_fitsHearings 38 = .ok (.iconst 1, 1) := by decide +kernel
theorem dX3_fitsHearings_39 : decode cX3_fitsHearings 39 = .ok (.if_icmp .ne 7, 3) := by decide +kernel
theorem dX3_fitsHearings_42 : decode cX3_fitsHearings 42 = .ok (.iconst 1, 1) := by decide +kernel
theorem dX3_fitsHearings_43 : decode cX3_fitsHearings 43 = .ok (.goto 4, 3) := by decide +kernel
theorem dX3_fitsHearings_46 : decode cX3_fitsHearings 46 = .ok (.iconst 0, 1) := by decide +kernel
theorem dX3_fitsHearings_47 : decode cX3_fitsHearings 47 = .ok (.if_icmp .eq 5, 3) := by decide +kernel
theorem dX3_fitsHearings_50 : decode cX3_fitsHearings 50 = .ok (.iconst 0, 1) := by decide +kernel
theorem dX3_fitsHearings_51 : decode cX3_fitsHearings 51 = .ok (.ireturn, 1) := by decide +kernel
theorem dX3_fitsHearings_52 : decode cX3_fitsHearings 52 = .ok (.iinc 2 1, 3) := by decide +kernel
theorem dX3_fitsHearings_55 : decode cX3_fitsHearings 55 = .ok (.goto (-53), 3) := by decide +kernel
theorem dX3_fitsHearings_58 : decode cX3_fitsHearings 58 = .ok (.iconst 1, 1) := by decide +kernel
theorem dX3_fitsHearings_59 : decode cX3_fitsHearings 59 = .ok (.ireturn, 1) := by decide +kernel
theorem dX3_fitsNotes_0 : decode cX3_fitsNotes 0 = .ok (.iconst 0, 1) := by decide +kernel
theorem dX3_fitsNotes_1 : decode cX3_fitsNotes 1 = .ok (.istore_n 3, 1) := by decide +kernel
theorem dX3_fitsNotes_2 : decode cX3_fitsNotes 2 = .ok (.iload_n 3, 1) := by decide +kernel
theorem dX3_fitsNotes_3 : decode cX3_fitsNotes 3 = .ok (.aload_n 0, 1) := by decide +kernel
theorem dX3_fitsNotes_4 : decode cX3_fitsNotes 4 = .ok (.getfield 34, 3) := by decide +kernel
theorem dX3_fitsNotes_7 : decode cX3_fitsNotes 7 = .ok (.getfield 77, 3) := by decide +kernel
theorem dX3_fitsNotes_10 : decode cX3_fitsNotes 10 = .ok (.if_icmp .ge 51, 3) := by decide +kernel
theorem dX3_fitsNotes_13 : decode cX3_fitsNotes 13 = .ok (.aload_n 0, 1) := by decide +kernel
theorem dX3_fitsNotes_14 : decode cX3_fitsNotes 14 = .ok (.getfield 34, 3) := by decide +kernel
theorem dX3_fitsNotes_17 : decode cX3_fitsNotes 17 = .ok (.iload_n 3, 1) := by decide +kernel
theorem dX3_fitsNotes_18 : decode cX3_fitsNotes 18 = .ok (.iconst 0, 1) := by decide +kernel
theorem dX3_fitsNotes_19 : decode cX3_fitsNotes 19 = .ok (.invokevirtual 80, 3) := by decide +kernel
theorem dX3_fitsNotes_22 : decode cX3_fitsNotes 22 = .ok (.iload_n 1, 1) := by decide +kernel
theorem dX3_fitsNotes_23 : decode cX3_fitsNotes 23 = .ok (.if_icmp .ne 32, 3) := by decide +kernel
theorem dX3_fitsNotes_26 : decode cX3_fitsNotes 26 = .ok (.aload_n 0, 1) := by decide +kernel
theorem dX3_fitsNotes_27 : decode cX3_fitsNotes 27 = .ok (.iload_n 1, 1) := by decide +kernel
theorem dX3_fitsNotes_28 : decode cX3_fitsNotes 28 = .ok (.iload_n 2, 1) := by decide +kernel
theorem dX3_fitsNotes_29 : decode cX3_fitsNotes 29 = .ok (.aload_n 0, 1) := by decide +kernel
theorem dX3_fitsNotes_30 : decode cX3_fitsNotes 30 = .ok (.getfield 34, 3) := by decide +kernel
theorem dX3_fitsNotes_33 : decode cX3_fitsNotes 33 = .ok (.iload_n 3, 1) := by decide +kernel
theorem dX3_fitsNotes_34 : decode cX3_fitsNotes 34 = .ok (.iconst 1, 1) := by decide +kernel
theorem dX3_fitsNotes_35 : decode cX3_fitsNotes 35 = .ok (.invokevirtual 80, 3) := by decide +kernel
theorem dX3_fitsNotes_38 : decode cX3_fitsNotes 38 = .ok (.invokevirtual 136, 3) := by decide +kernel
theorem dX3_fitsNotes_41 : decode cX3_fitsNotes 41 = .ok (.aload_n 0, 1) := by decide +kernel
theorem dX3_fitsNotes_42 : decode cX3_fitsNotes 42 = .ok (.getfield 34, 3) := by decide +kernel
theorem dX3_fitsNotes_45 : decode cX3_fitsNotes 45 = .ok (.iload_n 3, 1) := by decide +kernel
theorem dX3_fitsNotes_46 : decode cX3_fitsNotes 46 = .ok (.iconst 2, 1) := by decide +kernel
theorem dX3_fitsNotes_47 : decode cX3_fitsNotes 47 = .ok (.invokevirtual 80, 3) := by decide +kernel
theorem dX3_fitsNotes_50 : decode cX3_fitsNotes 50 = .ok (.if_icmp .eq 5, 3) := by decide +kernel
theorem dX3_fitsNotes_53 : decode cX3_fitsNotes 53 = .ok (.iconst 0, 1) := by decide +kernel
theorem dX3_fitsNotes_54 : decode cX3_fitsNotes 54 = .ok (.ireturn, 1) := by decide +kernel
theorem dX3_fitsNotes_55 : decode cX3_fitsNotes 55 = .ok (.iinc 3 1, 3) := by decide +kernel
theorem dX3_fitsNotes_58 : decode cX3_fitsNotes 58 = .ok (.goto (-56), 3) := by decide +kernel
theorem dX3_fitsNotes_61 : decode cX3_fitsNotes 61 = .ok (.iconst 1, 1) := by decide +kernel
theorem dX3_fitsNotes_62 : decode cX3_fitsNotes 62 = .ok (.ireturn, 1) := by decide +kernel
theorem dX3_costAs_0 : decode cX3_costAs 0 = .ok (.aload_n 0, 1) := by decide +kernel
theorem dX3_costAs_1 : decode cX3_costAs 1 = .ok (.iload_n 2, 1) := by decide +kernel
theorem dX3_costAs_2 : decode cX3_costAs 2 = .ok (.invokevirtual 93, 3) := by decide +kernel
theorem dX3_costAs_5 : decode cX3_costAs 5 = .ok (.aload_n 0, 1) := by decide +kernel
theorem dX3_costAs_6 : decode cX3_costAs 6 = .ok (.getfield 27, 3) := by decide +kernel
theorem dX3_costAs_9 : decode cX3_costAs 9 = .ok (.iload_n 1, 1) := by decide +kernel
theorem dX3_costAs_10 : decode cX3_costAs 10 = .ok (.iconst 3, 1) := by decide +kernel
theorem dX3_costAs_11 : decode cX3_costAs 11 = .ok (.invokevirtual 80, 3) := by decide +kernel
theorem dX3_costAs_14 : decode cX3_costAs 14 = .ok (.iload_n 3, 1) := by decide +kernel
theorem dX3_costAs_15 : decode cX3_costAs 15 = .ok (.invokevirtual 101, 3) := by decide +kernel
theorem dX3_costAs_18 : decode cX3_costAs 18 = .ok (.ireturn, 1) := by decide +kernel
theorem dX3_alikeWith_0 : decode cX3_alikeWith 0 = .ok (.aload_n 0, 1) := by decide +kernel
theorem dX3_alikeWith_1 : decode cX3_alikeWith 1 = .ok (.iload_n 1, 1) := by decide +kernel
theorem dX3_alikeWith_2 : decode cX3_alikeWith 2 = .ok (.iload_n 2, 1) := by decide +kernel
theorem dX3_alikeWith_3 : decode cX3_alikeWith 3 = .ok (.iload 4, 2) := by decide +kernel
theorem dX3_alikeWith_5 : decode cX3_alikeWith 5 = .ok (.invokevirtual 136, 3) := by decide +kernel
theorem dX3_alikeWith_8 : decode cX3_alikeWith 8 = .ok (.istore 5, 2) := by decide +kernel
theorem dX3_alikeWith_10 : decode cX3_alikeWith 10 = .ok (.iconst 0, 1) := by decide +kernel
theorem dX3_alikeWith_11 : decode cX3_alikeWith 11 = .ok (.istore 6, 2) := by decide +kernel
theorem dX3_alikeWith_13 : decode cX3_alikeWith 13 = .ok (.iconst 0, 1) := by decide +kernel
theorem dX3_alikeWith_14 : decode cX3_alikeWith 14 = .ok (.istore 7, 2) := by decide +kernel
theorem dX3_alikeWith_16 : decode cX3_alikeWith 16 = .ok (.iload 7, 2) := by decide +kernel
theorem dX3_alikeWith_18 : decode cX3_alikeWith 18 = .ok (.bipush 6, 2) := by decide +kernel
theorem dX3_alikeWith_20 : decode cX3_alikeWith 20 = .ok (.if_icmp .ge 35, 3) := by decide +kernel
theorem dX3_alikeWith_23 : decode cX3_alikeWith 23 = .ok (.iload_n 3, 1) := by decide +kernel
theorem dX3_alikeWith_24 : decode cX3_alikeWith 24 = .ok (.iload 7, 2) := by decide +kernel
theorem dX3_alikeWith_26 : decode cX3_alikeWith 26 = .ok (.invokestatic 108, 3) := by decide +kernel
theorem dX3_alikeWith_29 : decode cX3_alikeWith 29 = .ok (.ifCond .eq 20, 3) := by decide +kernel
theorem dX3_alikeWith_32 : decode cX3_alikeWith 32 = .ok (.aload_n 0, 1) := by decide +kernel
theorem dX3_alikeWith_33 : decode cX3_alikeWith 33 = .ok (.iload_n 1, 1) := by decide +kernel
theorem dX3_alikeWith_34 : decode cX3_alikeWith 34 = .ok (.iload 7, 2) := by decide +kernel
theorem dX3_alikeWith_36 : decode cX3_alikeWith 36 = .ok (.iload 4, 2) := by decide +kernel
theorem dX3_alikeWith_38 : decode cX3_alikeWith 38 = .ok (.invokevirtual 136, 3) := by decide +kernel
theorem dX3_alikeWith_41 : decode cX3_alikeWith 41 = .ok (.iload 5, 2) := by decide +kernel
theorem dX3_alikeWith_43 : decode cX3_alikeWith 43 = .ok (.if_icmp .ne 6, 3) := by decide +kernel
theorem dX3_alikeWith_46 : decode cX3_alikeWith 46 = .ok (.iinc 6 1, 3) := by decide +kernel
theorem dX3_alikeWith_49 : decode cX3_alikeWith 49 = .ok (.iinc 7 1, 3) := by decide +kernel
theorem dX3_alikeWith_52 : decode cX3_alikeWith 52 = .ok (.goto (-36), 3) := by decide +kernel
theorem dX3_alikeWith_55 : decode cX3_alikeWith 55 = .ok (.iload 6, 2) := by decide +kernel
theorem dX3_alikeWith_57 : decode cX3_alikeWith 57 = .ok (.ireturn, 1) := by decide +kernel
theorem dX3_kindNumbered_0 : decode cX3_kindNumbered 0 = .ok (.iload_n 1, 1) := by decide +kernel
theorem dX3_kindNumbered_1 : decode cX3_kindNumbered 1 = .ok (.ifCond .lt 12, 3) := by decide +kernel
theorem dX3_kindNumbered_4 : decode cX3_kindNumbered 4 = .ok (.iload_n 1, 1) := by decide +kernel
theorem dX3_kindNumbered_5 : decode cX3_kindNumbered 5 = .ok (.aload_n 0, 1) := by decide +kernel
theorem dX3_kindNumbered_6 : decode cX3_kindNumbered 6 = .ok (.getfield 9, 3) := by decide +kernel
theorem dX3_kindNumbered_9 : decode cX3_kindNumbered 9 = .ok (.arraylength, 1) := by decide +kernel
theorem dX3_kindNumbered_10 : decode cX3_kindNumbered 10 = .ok (.if_icmp .lt 8, 3) := by decide +kernel
theorem dX3_kindNumbered_13 : decode cX3_kindNumbered 13 = .ok (.aload_n 0, 1) := by decide +kernel
theorem dX3_kindNumbered_14 : decode cX3_kindNumbered 14 = .ok (.getfield 18, 3) := by decide +kernel
theorem dX3_kindNumbered_17 : decode cX3_kindNumbered 17 = .ok (.areturn, 1) := by decide +kernel
theorem dX3_kindNumbered_18 : decode cX3_kindNumbered 18 = .ok (.aload_n 0, 1) := by decide +kernel
theorem dX3_kindNumbered_19 : decode cX3_kindNumbered 19 = .ok (.getfield 9, 3) := by decide +kernel
theorem dX3_kindNumbered_22 : decode cX3_kindNumbered 22 = .ok (.iload_n 1, 1) := by decide +kernel
theorem dX3_kindNumbered_23 : decode cX3_kindNumbered 23 = .ok (.aaload, 1) := by decide +kernel
theorem dX3_kindNumbered_24 : decode cX3_kindNumbered 24 = .ok (.astore_n 2, 1) := by decide +kernel
theorem dX3_kindNumbered_25 : decode cX3_kindNumbered 25 = .ok (.aload_n 2, 1) := by decide +kernel
theorem dX3_kindNumbered_26 : decode cX3_kindNumbered 26 = .ok (.ifnonnull 10, 3) := by decide +kernel
theorem dX3_kindNumbered_29 : decode cX3_kindNumbered 29 = .ok (.aload_n 0, 1) := by decide +kernel
theorem dX3_kindNumbered_30 : decode cX3_kindNumbered 30 = .ok (.getfield 18, 3) := by decide +kernel
theorem dX3_kindNumbered_33 : decode cX3_kindNumbered 33 = .ok (.goto 4, 3) := by decide +kernel
theorem dX3_kindNumbered_36 : decode cX3_kindNumbered 36 = .ok (.aload_n 2, 1) := by decide +kernel
theorem dX3_kindNumbered_37 : decode cX3_kindNumbered 37 = .ok (.areturn, 1) := by decide +kernel
theorem dX4_init_0 : decode cX4_init 0 = .ok (.aload_n 0, 1) := by decide +kernel
theorem dX4_init_1 : decode cX4_init 1 = .ok (.invokespecial 3, 3) := by decide +kernel
theorem dX4_init_4 : decode cX4_init 4 = .ok (.aload_n 0, 1) := by decide +kernel
theorem dX4_init_5 : decode cX4_init 5 = .ok (.bipush 64, 2) := by decide +kernel
theorem dX4_init_7 : decode cX4_init 7 = .ok (.newarray .int, 2) := by decide +kernel
theorem dX4_init_9 : decode cX4_init 9 = .ok (.putfield 9, 3) := by decide +kernel
theorem dX4_init_12 : decode cX4_init 12 = .ok (.aload_n 0, 1) := by decide +kernel
theorem dX4_init_13 : decode cX4_init 13 = .ok (.bipush 64, 2) := by decide +kernel
theorem dX4_init_15 : decode cX4_init 15 = .ok (.newarray .int, 2) := by decide +kernel
theorem dX4_init_17 : decode cX4_init 17 = .ok (.putfield 15, 3) := by decide +kernel
theorem dX4_init_20 : decode cX4_init 20 = .ok (.return_, 1) := by decide +kernel
theorem dX4_measure_0 : decode cX4_measure 0 = .ok (.aload_n 1, 1) := by decide +kernel
theorem dX4_measure_1 : decode cX4_measure 1 = .ok (.getfield 18, 3) := by decide +kernel
theorem dX4_measure_4 : decode cX4_measure 4 = .ok (.istore 4, 2) := by decide +kernel
theorem dX4_measure_6 : decode cX4_measure 6 = .ok (.aload_n 1, 1) := by decide +kernel
theorem dX4_measure_7 : decode cX4_measure 7 = .ok (.invokestatic 24, 3) := by decide +kernel
theorem dX4_measure_10 : decode cX4_measure 10 = .ok (.istore 5, 2) := by decide +kernel
theorem dX4_measure_12 : decode cX4_measure 12 = .ok (.iload 5, 2) := by decide +kernel
theorem dX4_measure_14 : decode cX4_measure 14 = .ok (.iload 4, 2) := by decide +kernel
theorem dX4_measure_16 : decode cX4_measure 16 = .ok (.if_icmp .lt 28, 3) := by decide +kernel
theorem dX4_measure_19 : decode cX4_measure 19 = .ok (.iload 5, 2) := by decide +kernel
theorem dX4_measure_21 : decode cX4_measure 21 = .ok (.iload 4, 2) := by decide +kernel
theorem dX4_measure_23 : decode cX4_measure 23 = .ok (.iand, 1) := by decide +kernel
theorem dX4_measure_24 : decode cX4_measure 24 = .ok (.iload 4, 2) := by decide +kernel
theorem dX4_measure_26 : decode cX4_measure 26 = .ok (.if_icmp .ne 12, 3) := by decide +kernel
theorem dX4_measure_29 : decode cX4_measure 29 = .ok (.aload_n 0, 1) := by decide +kernel
theorem dX4_measure_30 : decode cX4_measure 30 = .ok (.aload_n 1, 1) := by decide +kernel
theorem dX4_measure_31 : decode cX4_measure 31 = .ok (.iload_n 2, 1) := by decide +kernel
theorem dX4_measure_32 : decode cX4_measure 32 = .ok (.iload_n 3, 1) := by decide +kernel
theorem dX4_measure_33 : decode cX4_measure 33 = .ok (.iload 5, 2) := by decide +kernel
theorem dX4_measure_35 : decode cX4_measure 35 = .ok (.invokevirtual 28, 3) := by decide +kernel
theorem dX4_measure_38 : decode cX4_measure 38 = .ok (.iinc 5 (-1), 3) := by decide +kernel
theorem dX4_measure_41 : decode cX4_measure 41 = .ok (.goto (-29), 3) := by decide +kernel
theorem dX4_measure_44 : decode cX4_measure 44 = .ok (.aload_n 0, 1) := by decide +kernel
theorem dX4_measure_45 : decode cX4_measure 45 = .ok (.getfield 9, 3) := by decide +kernel
theorem dX4_measure_48 : decode cX4_measure 48 = .ok (.iload 4, 2) := by decide +kernel
theorem dX4_measure_50 : decode cX4_measure 50 = .ok (.invokestatic 32, 3) := by decide +kernel
theorem dX4_measure_53 : decode cX4_measure 53 = .ok (.ireturn, 1) := by decide +kernel
theorem dX4_fictionAt_0 : decode cX4_fictionAt 0 = .ok (.aload_n 1, 1) := by decide +kernel
theorem dX4_fictionAt_1 : decode cX4_fictionAt 1 = .ok (.getfield 18, 3) := by decide +kernel
theorem dX4_fictionAt_4 : decode cX4_fictionAt 4 = .ok (.istore_n 3, 1) := by decide +kernel
theorem dX4_fictionAt_5 : decode cX4_fictionAt 5 = .ok (.iconst 0, 1) := by decide +kernel
theorem dX4_fictionAt_6 : decode cX4_fictionAt 6 = .ok (.istore 4, 2) := by decide +kernel
theorem dX4_fictionAt_8 : decode cX4_fictionAt 8 = .ok (.iload 4, 2) := by decide +kernel
theorem dX4_fictionAt_10 : decode cX4_fictionAt 10 = .ok (.bipush 6, 2) := by decide +kernel
theorem dX4_fictionAt_12 : decode cX4_fictionAt 12 = .ok (.if_icmp .ge 44, 3) := by decide +kernel
theorem dX4_fictionAt_15 : decode cX4_fictionAt 15 = .ok (.aload_n 0, 1) := by decide +kernel
theorem dX4_fictionAt_16 : decode cX4_fictionAt 16 = .ok (.getfield 15, 3) := by decide +kernel
theorem dX4_fictionAt_19 : decode cX4_fictionAt 19 = .ok (.iload_n 3, 1) := by decide +kernel
theorem dX4_fictionAt_20 : decode cX4_fictionAt 20 = .ok (.invokestatic 32, 3) := by decide +kernel
theorem dX4_fictionAt_23 : decode cX4_fictionAt 23 = .ok (.istore 5, 2) := by decide +kernel
theorem dX4_fictionAt_25 : decode cX4_fictionAt 25 = .ok (.iload 5, 2) := by decide +kernel
theorem dX4_fictionAt_27 : decode cX4_fictionAt 27 = .ok (.iconst (-1), 1) := by decide +kernel
theorem dX4_fictionAt_28 : decode cX4_fictionAt 28 = .ok (.if_icmp .ne 6, 3) := by decide +kernel
theorem dX4_fictionAt_31 : decode cX4_fictionAt 31 = .ok (.bipush (-5), 2) := by decide +kernel
theorem dX4_fictionAt_33 : decode cX4_fictionAt 33 = .ok (.ireturn, 1) := by decide +kernel
theorem dX4_fictionAt_34 : decode cX4_fictionAt 34 = .ok (.iload 4, 2) := by decide +kernel
theorem dX4_fictionAt_36 : decode cX4_fictionAt 36 = .ok (.iload_n 2, 1) := by decide +kernel
theorem dX4_fictionAt_37 : decode cX4_fictionAt 37 = .ok (.if_icmp .ne 6, 3) := by decide +kernel
theorem dX4_fictionAt_40 : decode cX4_fictionAt 40 = .ok (.iload 5, 2) := by decide +kernel
theorem dX4_fictionAt_42 : decode cX4_fictionAt 42 = .ok (.ireturn, 1) := by decide +kernel
theorem dX4_fictionAt_43 : decode cX4_fictionAt 43 = .ok (.iload_n 3, 1) := by decide +kernel
theorem dX4_fictionAt_44 : decode cX4_fictionAt 44 = .ok (.iconst 1, 1) := by decide +kernel
theorem dX4_fictionAt_45 : decode cX4_fictionAt 45 = .ok (.iload 5, 2) := by decide +kernel
theorem dX4_fictionAt_47 : decode cX4_fictionAt 47 = .ok (.ishl, 1) := by decide +kernel
theorem dX4_fictionAt_48 : decode cX4_fictionAt 48 = .ok (.ior, 1) := by decide +kernel
theorem dX4_fictionAt_49 : decode cX4_fictionAt 49 = .ok (.istore_n 3, 1) := by decide +kernel
theorem dX4_fictionAt_50 : decode cX4_fictionAt 50 = .ok (.iinc 4 1, 3) := by decide +kernel
theorem dX4_fictionAt_53 : decode cX4_fictionAt 53 = .ok (.goto (-45), 3) := by decide +kernel
theorem dX4_fictionAt_56 : decode cX4_fictionAt 56 = .ok (.bipush (-5), 2) := by decide +kernel
theorem dX4_fictionAt_58 : decode cX4_fictionAt 58 = .ok (.ireturn, 1) := by decide +kernel
theorem dX4_reachable_0 : decode cX4_reachable 0 = .ok (.aload_n 1, 1) := by decide +kernel
theorem dX4_reachable_1 : decode cX4_reachable 1 = .ok (.getfield 18, 3) := by decide +kernel
theorem dX4_reachable_4 : decode cX4_reachable 4 = .ok (.istore_n 2, 1) := by decide +kernel
theorem dX4_reachable_5 : decode cX4_reachable 5 = .ok (.lconst 1, 1) := by decide +kernel
theorem dX4_reachable_6 : decode cX4_reachable 6 = .ok (.iload_n 2, 1) := by decide +kernel
theorem dX4_reachable_7 : decode cX4_reachable 7 = .ok (.lshl, 1) := by decide +kernel
theorem dX4_reachable_8 : decode cX4_reachable 8 = .ok (.lstore_n 3, 1) := by decide +kernel
theorem dX4_reachable_9 : decode cX4_reachable 9 = .ok (.iconst 0, 1) := by decide +kernel
theorem dX4_reachable_10 : decode cX4_reachable 10 = .ok (.istore 5, 2) := by decide +kernel
theorem dX4_reachable_12 : decode cX4_reachable 12 = .ok (.iload_n 2, 1) := by decide +kernel
theorem dX4_reachable_13 : decode cX4_reachable 13 = .ok (.istore 6, 2) := by decide +kernel
theorem dX4_reachable_15 : decode cX4_reachable 15 = .ok (.iload 6, 2) := by decide +kernel
theorem dX4_reachable_17 : decode cX4_reachable 17 = .ok (.aload_n 1, 1) := by decide +kernel
theorem dX4_reachable_18 : decode cX4_reachable 18 = .ok (.invokestatic 24, 3) := by decide +kernel
theorem dX4_reachable_21 : decode cX4_reachable 21 = .ok (.if_icmp .gt 47, 3) := by decide +kernel
theorem dX4_reachable_24 : decode cX4_reachable 24 = .ok (.lload_n 3, 1) := by decide +kernel
theorem dX4_reachable_25 : decode cX4_reachable 25 = .ok (.iload 6, 2) := by decide +kernel
theorem dX4_reachable_27 : decode cX4_reachable 27 = .ok (.lshr, 1) := by decide +kernel
theorem dX4_reachable_28 : decode cX4_reachable 28 = .ok (.lconst 1, 1) := by decide +kernel
theorem dX4_reachable_29 : decode cX4_reachable 29 = .ok (.land, 1) := by decide +kernel
theorem dX4_reachable_30 : decode cX4_reachable 30 = .ok (.lconst 1, 1) := by decide +kernel
theorem dX4_reachable_31 : decode cX4_reachable 31 = .ok (.lcmp, 1) := by decide +kernel
theorem dX4_reachable_32 : decode cX4_reachable 32 = .ok (.ifCond .ne 30, 3) := by decide +kernel
theorem dX4_reachable_35 : decode cX4_reachable 35 = .ok (.aload_n 1, 1) := by decide +kernel
theorem dX4_reachable_36 : decode cX4_reachable 36 = .ok (.iload 6, 2) := by decide +kernel
theorem dX4_reachable_38 : decode cX4_reachable 38 = .ok (.invokevirtual 36, 3) := by decide +kernel
theorem dX4_reachable_41 : decode cX4_reachable 41 = .ok (.istore 7, 2) := by decide +kernel
theorem dX4_reachable_43 : decode cX4_reachable 43 = .ok (.iload 5, 2) := by decide +kernel
theorem dX4_reachable_45 : decode cX4_reachable 45 = .ok (.iload 7, 2) := by decide +kernel
theorem dX4_reachable_47 : decode cX4_reachable 47 = .ok (.ior, 1) := by decide +kernel
theorem dX4_reachable_48 : decode cX4_reachable 48 = .ok (.istore 5, 2) := by decide +kernel
theorem dX4_reachable_50 : decode cX4_reachable 50 = .ok (.lload_n 3, 1) := by decide +kernel
theorem dX4_reachable_51 : decode cX4_reachable 51 = .ok (.aload_n 0, 1) := by decide +kernel
theorem dX4_reachable_52 : decode cX4_reachable 52 = .ok (.aload_n 1, 1) := by decide +kernel
theorem dX4_reachable_53 : decode cX4_reachable 53 = .ok (.iload 6, 2) := by decide +kernel
theorem dX4_reachable_55 : decode cX4_reachable 55 = .ok (.iload 7, 2) := by decide +kernel
theorem dX4_reachable_57 : decode cX4_reachable 57 = .ok (.invokevirtual 40, 3) := by decide +kernel
theorem dX4_reachable_60 : decode cX4_reachable 60 = .ok (.lor, 1) := by decide +kernel
theorem dX4_reachable_61 : decode cX4_reachable 61 = .ok (.lstore_n 3, 1) := by decide +kernel
theorem dX4_reachable_62 : decode cX4_reachable 62 = .ok (.iinc 6 1, 3) := by decide +kernel
theorem dX4_reachable_65 : decode cX4_reachable 65 = .ok (.goto (-50), 3) := by decide +kernel
theorem dX4_reachable_68 : decode cX4_reachable 68 = .ok (.iload 5, 2) := by decide +kernel
theorem dX4_reachable_70 : decode cX4_reachable 70 = .ok (.ireturn, 1) := by decide +kernel
theorem dX4_setsBehind_0 : decode cX4_setsBehind 0 = .ok (.aload_n 1, 1) := by decide +kernel
theorem dX4_setsBehind_1 : decode cX4_setsBehind 1 = .ok (.iload_n 2, 1) := by decide +kernel
theorem dX4_setsBehind_2 : decode cX4_setsBehind 2 = .ok (.invokestatic 44, 3) := by decide +kernel
theorem dX4_setsBehind_5 : decode cX4_setsBehind 5 = .ok (.istore 4, 2) := by decide +kernel
theorem dX4_setsBehind_7 : decode cX4_setsBehind 7 = .ok (.lconst 0, 1) := by decide +kernel
theorem dX4_setsBehind_8 : decode cX4_setsBehind 8 = .ok (.lstore 5, 2) := by decide +kernel
theorem dX4_setsBehind_10 : decode cX4_setsBehind 10 = .ok (.iconst 0, 1) := by decide +kernel
theorem dX4_setsBehind_11 : decode cX4_setsBehind 11 = .ok (.istore 7, 2) := by decide +kernel
theorem dX4_setsBehind_13 : decode cX4_setsBehind 13 = .ok (.iload 7, 2) := by decide +kernel
theorem dX4_setsBehind_15 : decode cX4_setsBehind 15 = .ok (.aload_n 1, 1) := by decide +kernel
theorem dX4_setsBehind_16 : decode cX4_setsBehind 16 = .ok (.getfield 48, 3) := by decide +kernel
theorem dX4_setsBehind_19 : decode cX4_setsBehind 19 = .ok (.getfield 52, 3) := by decide +kernel
theorem dX4_setsBehind_22 : decode cX4_setsBehind 22 = .ok (.if_icmp .ge 43, 3) := by decide +kernel
theorem dX4_setsBehind_25 : decode cX4_setsBehind 25 = .ok (.iload_n 2, 1) := by decide +kernel
theorem dX4_setsBehind_26 : decode cX4_setsBehind 26 = .ok (.iload 7, 2) := by decide +kernel
theorem dX4_setsBehind_28 : decode cX4_setsBehind 28 = .ok (.invokestatic 57, 3) := by decide +kernel
theorem dX4_setsBehind_31 : decode cX4_setsBehind 31 = .ok (.ifCond .ne 28, 3) := by decide +kernel
theorem dX4_setsBehind_34 : decode cX4_setsBehind 34 = .ok (.aload_n 1, 1) := by decide +kernel
theorem dX4_setsBehind_35 : decode cX4_setsBehind 35 = .ok (.iload 7, 2) := by decide +kernel
theorem dX4_setsBehind_37 : decode cX4_setsBehind 37 = .ok (.iload_n 3, 1) := by decide +kernel
theorem dX4_setsBehind_38 : decode cX4_setsBehind 38 = .ok (.iload 4, 2) := by decide +kernel
theorem dX4_setsBehind_40 : decode cX4_setsBehind 40 = .ok (.invokevirtual 61, 3) := by decide +kernel
theorem dX4_setsBehind_43 : decode cX4_setsBehind 43 = .ok (.ifCond .eq 16, 3) := by decide +kernel
theorem dX4_setsBehind_46 : decode cX4_setsBehind 46 = .ok (.lload 5, 2) := by decide +kernel
theorem dX4_setsBehind_48 : decode cX4_setsBehind 48 = .ok (.lconst 1, 1) := by decide +kernel
theorem dX4_setsBehind_49 : decode cX4_setsBehind 49 = .ok (.iload_n 2, 1) := by decide +kernel
theorem dX4_setsBehind_50 : decode cX4_setsBehind 50 = .ok (.iconst 1, 1) := by decide +kernel
theorem dX4_setsBehind_51 : decode cX4_setsBehind 51 = .ok (.iload 7, 2) := by decide +kernel
theorem dX4_setsBehind_53 : decode cX4_setsBehind 53 = .ok (.ishl, 1) := by decide +kernel
theorem dX4_setsBehind_54 : decode cX4_setsBehind 54 = .ok (.ior, 1) := by decide +kernel
theorem dX4_setsBehind_55 : decode cX4_setsBehind 55 = .ok (.lshl, 1) := by decide +kernel
theorem dX4_setsBehind_56 : decode cX4_setsBehind 56 = .ok (.lor, 1) := by decide +kernel
theorem dX4_setsBehind_57 : decode cX4_setsBehind 57 = .ok (.lstore 5, 2) := by decide +kernel
theorem dX4_setsBehind_59 : decode cX4_setsBehind 59 = .ok (.iinc 7 1, 3) := by decide +kernel
theorem dX4_setsBehind_62 : decode cX4_setsBehind 62 = .ok (.goto (-49), 3) := by decide +kernel
theorem dX4_setsBehind_65 : decode cX4_setsBehind 65 = .ok (.lload 5, 2) := by decide +kernel
theorem dX4_setsBehind_67 : decode cX4_setsBehind 67 = .ok (.lreturn, 1) := by decide +kernel
theorem dX4_settle_0 : decode cX4_settle 0 = .ok (.aload_n 1, 1) := by decide +kernel
theorem dX4_settle_1 : decode cX4_settle 1 = .ok (.iload 4, 2) := by decide +kernel
theorem dX4_settle_3 : decode cX4_settle 3 = .ok (.invokevirtual 36, 3) := by decide +kernel
theorem dX4_settle_6 : decode cX4_settle 6 = .ok (.istore 5, 2) := by decide +kernel
theorem dX4_settle_8 : decode cX4_settle 8 = .ok (.aload_n 1, 1) := by decide +kernel
theorem dX4_settle_9 : decode cX4_settle 9 = .ok (.iload_n 2, 1) := by decide +kernel
theorem dX4_settle_10 : decode cX4_settle 10 = .ok (.iload 5, 2) := by decide +kernel
theorem dX4_settle_12 : decode cX4_settle 12 = .ok (.invokevirtual 65, 3) := by decide +kernel
theorem dX4_settle_15 : decode cX4_settle 15 = .ok (.ifCond .eq 12, 3) := by decide +kernel
theorem dX4_settle_18 : decode cX4_settle 18 = .ok (.aload_n 0, 1) := by decide +kernel
theorem dX4_settle_19 : decode cX4_settle 19 = .ok (.iload 4, 2) := by decide +kernel
theorem dX4_settle_21 : decode cX4_settle 21 = .ok (.iconst 0, 1) := by decide +kernel
theorem dX4_settle_22 : decode cX4_settle 22 = .ok (.iconst (-1), 1) := by decide +kernel
theorem dX4_settle_23 : decode cX4_settle 23 = .ok (.invokevirtual 68, 3) := by decide +kernel
theorem dX4_settle_26 : decode cX4_settle 26 = .ok (.return_, 1) := by decide +kernel
theorem dX4_settle_27 : decode cX4_settle 27 = .ok (.aload_n 1, 1) := by decide +kernel
theorem dX4_settle_28 : decode cX4_settle 28 = .ok (.iload 4, 2) := by decide +kernel
theorem dX4_settle_30 : decode cX4_settle 30 = .ok (.invokestatic 44, 3) := by decide +kernel
theorem dX4_settle_33 : decode cX4_settle 33 = .ok (.istore 6, 2) := by decide +kernel
theorem dX4_settle_35 : decode cX4_settle 35 = .ok (.iconst (-1), 1) := by decide +kernel
theorem dX4_settle_36 : decode cX4_settle 36 = .ok (.istore 7, 2) := by decide +kernel
theorem dX4_settle_38 : decode cX4_settle 38 = .ok (.iconst (-1), 1) := by decide +kernel
theorem dX4_settle_39 : decode cX4_settle 39 = .ok (.istore 8, 2) := by decide +kernel
theorem dX4_settle_41 : decode cX4_settle 41 = .ok (.iconst 0, 1) := by decide +kernel
theorem dX4_settle_42 : decode cX4_settle 42 = .ok (.istore 9, 2) := by decide +kernel
theorem dX4_settle_44 : decode cX4_settle 44 = .ok (.iload 9, 2) := by decide +kernel
theorem dX4_settle_46 : decode cX4_settle 46 = .ok (.aload_n 1, 1) := by decide +kernel
theorem dX4_settle_47 : decode cX4_settle 47 = .ok (.getfield 48, 3) := by decide +kernel
theorem dX4_settle_50 : decode cX4_settle 50 = .ok (.getfield 52, 3) := by decide +kernel
theorem dX4_settle_53 : decode cX4_settle 53 = .ok (.if_icmp .ge 97, 3) := by decide +kernel
theorem dX4_settle_56 : decode cX4_settle 56 = .ok (.aload_n 0, 1) := by decide +kernel
theorem dX4_settle_57 : decode cX4_settle 57 = .ok (.getfield 9, 3) := by decide +kernel
theorem dX4_settle_60 : decode cX4_settle 60 = .ok (.iload 4, 2) := by decide +kernel
theorem dX4_settle_62 : decode cX4_settle 62 = .ok (.iconst 1, 1) := by decide +kernel
theorem dX4_settle_63 : decode cX4_settle 63 = .ok (.iload 9, 2) := by decide +kernel
theorem dX4_settle_65 : decode cX4_settle 65 = .ok (.ishl, 1) := by decide +kernel
theorem dX4_settle_66 : decode cX4_settle 66 = .ok (.ior, 1) := by decide +kernel
theorem dX4_settle_67 : decode cX4_settle 67 = .ok (.invokestatic 32, 3) := by decide +kernel
theorem dX4_settle_70 : decode cX4_settle 70 = .ok (.istore 10, 2) := by decide +kernel
theorem dX4_settle_72 : decode cX4_settle 72 = .ok (.iload 4, 2) := by decide +kernel
theorem dX4_settle_74 : decode cX4_settle 74 = .ok (.iload 9, 2) := by decide +kernel
theorem dX4_settle_76 : decode cX4_settle 76 = .ok (.invokestatic 57, 3) := by decide +kernel
theorem dX4_settle_79 : decode cX4_settle 79 = .ok (.ifCond .ne 65, 3) := by decide +kernel
theorem dX4_settle_82 : decode cX4_settle 82 = .ok (.iload 10, 2) := by decide +kernel
theorem dX4_settle_84 : decode cX4_settle 84 = .ok (.iconst (-1), 1) := by decide +kernel
theorem dX4_settle_85 : decode cX4_settle 85 = .ok (.if_icmp .eq 59, 3) := by decide +kernel
theorem dX4_settle_88 : decode cX4_settle 88 = .ok (.aload_n 1, 1) := by decide +kernel
theorem dX4_settle_89 : decode cX4_settle 89 = .ok (.iload 9, 2) := by decide +kernel
theorem dX4_settle_91 : decode cX4_settle 91 = .ok (.iload 5, 2) := by decide +kernel
theorem dX4_settle_93 : decode cX4_settle 93 = .ok (.iload 6, 2) := by decide +kernel
theorem dX4_settle_95 : decode cX4_settle 95 = .ok (.invokevirtual 61, 3) := by decide +kernel
theorem dX4_settle_98 : decode cX4_settle 98 = .ok (.ifCond .eq 46, 3) := by decide +kernel
theorem dX4_settle_101 : decode cX4_settle 101 = .ok (.iload 10, 2) := by decide +kernel
theorem dX4_settle_103 : decode cX4_settle 103 = .ok (.iload_n 3, 1) := by decide +kernel
theorem dX4_settle_104 : decode cX4_settle 104 = .ok (.iconst 1, 1) := by decide +kernel
theorem dX4_settle_105 : decode cX4_settle 105 = .ok (.if_icmp .ne 14, 3) := by decide +kernel
theorem dX4_settle_108 : decode cX4_settle 108 = .ok (.aload_n 1, 1) := by decide +kernel
theorem dX4_settle_109 : decode cX4_settle 109 = .ok (.iload 9, 2) := by decide +kernel
theorem dX4_settle_111 : decode cX4_settle 111 = .ok (.iload 6, 2) := by decide +kernel
theorem dX4_settle_113 : decode cX4_settle 113 = .ok (.invokevirtual 72, 3) := by decide +kernel
theorem dX4_settle_116 : decode cX4_settle 116 = .ok (.goto 4, 3) := by decide +kernel
theorem dX4_settle_119 : decode cX4_settle 119 = .ok (.iconst 1, 1) := by decide +kernel
theorem dX4_settle_120 : decode cX4_settle 120 = .ok (.iadd, 1) := by decide +kernel
theorem dX4_settle_121 : decode cX4_settle 121 = .ok (.istore 11, 2) := by decide +kernel
theorem dX4_settle_123 : decode cX4_settle 123 = .ok (.iload 7, 2) := by decide +kernel
theorem dX4_settle_125 : decode cX4_settle 125 = .ok (.iconst (-1), 1) := by decide +kernel
theorem dX4_settle_126 : decode cX4_settle 126 = .ok (.if_icmp .eq 10, 3) := by decide +kernel
theorem dX4_settle_129 : decode cX4_settle 129 = .ok (.iload 11, 2) := by decide +kernel
theorem dX4_settle_131 : decode cX4_settle 131 = .ok (.iload 7, 2) := by decide +kernel
theorem dX4_settle_133 : decode cX4_settle 133 = .ok (.if_icmp .ge 11, 3) := by decide +kernel
theorem dX4_settle_136 : decode cX4_settle 136 = .ok (.iload 11, 2) := by decide +kernel
theorem dX4_settle_138 : decode cX4_settle 138 = .ok (.istore 7, 2) := by decide +kernel
theorem dX4_settle_140 : decode cX4_settle 140 = .ok (.iload 9, 2) := by decide +kernel
theorem dX4_settle_142 : decode cX4_settle 142 = .ok (.istore 8, 2) := by decide +kernel
theorem dX4_settle_144 : decode cX4_settle 144 = .ok (.iinc 9 1, 3) := by decide +kernel
theorem dX4_settle_147 : decode cX4_settle 147 = .ok (.goto (-103), 3) := by decide +kernel
theorem dX4_settle_150 : decode cX4_settle 150 = .ok (.aload_n 0, 1) := by decide +kernel
theorem dX4_settle_151 : decode cX4_settle 151 = .ok (.iload 4, 2) := by decide +kernel
theorem dX4_settle_153 : decode cX4_settle 153 = .ok (.iload 7, 2) := by decide +kernel
theorem dX4_settle_155 : decode cX4_settle 155 = .ok (.iload 8, 2) := by decide +kernel
theorem dX4_settle_157 : decode cX4_settle 157 = .ok (.invokevirtual 68, 3) := by decide +kernel
theorem dX4_settle_160 : decode cX4_settle 160 = .ok (.return_, 1) := by decide +kernel
theorem dX4_keep_0 : decode cX4_keep 0 = .ok (.iload_n 1, 1) := by decide +kernel
theorem dX4_keep_1 : decode cX4_keep 1 = .ok (.ifCond .lt 35, 3) := by decide +kernel
theorem dX4_keep_4 : decode cX4_keep 4 = .ok (.iload_n 1, 1) := by decide +kernel
theorem dX4_keep_5 : decode cX4_keep 5 = .ok (.aload_n 0, 1) := by decide +kernel
theorem dX4_keep_6 : decode cX4_keep 6 = .ok (.getfield 9, 3) := by decide +kernel
theorem dX4_keep_9 : decode cX4_keep 9 = .ok (.arraylength, 1) := by decide +kernel
theorem dX4_keep_10 : decode cX4_keep 10 = .ok (.if_icmp .ge 26, 3) := by decide +kernel
theorem dX4_keep_13 : decode cX4_keep 13 = .ok (.iload_n 1, 1) := by decide +kernel
theorem dX4_keep_14 : decode cX4_keep 14 = .ok (.aload_n 0, 1) := by decide +kernel
theorem dX4_keep_15 : decode cX4_keep 15 = .ok (.getfield 15, 3) := by decide +kernel
theorem dX4_keep_18 : decode cX4_keep 18 = .ok (.arraylength, 1) := by decide +kernel
theorem dX4_keep_19 : decode cX4_keep 19 = .ok (.if_icmp .ge 17, 3) := by decide +kernel
theorem dX4_keep_22 : decode cX4_keep 22 = .ok (.aload_n 0, 1) := by decide +kernel
theorem dX4_keep_23 : decode cX4_keep 23 = .ok (.getfield 9, 3) := by decide +kernel
theorem dX4_keep_26 : decode cX4_keep 26 = .ok (.iload_n 1, 1) := by decide +kernel
theorem dX4_keep_27 : decode cX4_keep 27 = .ok (.iload_n 2, 1) := by decide +kernel
theorem dX4_keep_28 : decode cX4_keep 28 = .ok (.iastore, 1) := by decide +kernel
theorem dX4_keep_29 : decode cX4_keep 29 = .ok (.aload_n 0, 1) := by decide +kernel
theorem dX4_keep_30 : decode cX4_keep 30 = .ok (.getfield 15, 3) := by decide +kernel
theorem dX4_keep_33 : decode cX4_keep 33 = .ok (.iload_n 1, 1) := by decide +kernel
theorem dX4_keep_34 : decode cX4_keep 34 = .ok (.iload_n 3, 1) := by decide +kernel
theorem dX4_keep_35 : decode cX4_keep 35 = .ok (.iastore, 1) := by decide +kernel
theorem dX4_keep_36 : decode cX4_keep 36 = .ok (.return_, 1) := by decide +kernel
theorem dX4_at_0 : decode cX4_at 0 = .ok (.iload_n 1, 1) := by decide +kernel
theorem dX4_at_1 : decode cX4_at 1 = .ok (.ifCond .lt 15, 3) := by decide +kernel
theorem dX4_at_4 : decode cX4_at 4 = .ok (.iload_n 1, 1) := by decide +kernel
theorem dX4_at_5 : decode cX4_at 5 = .ok (.aload_n 0, 1) := by decide +kernel
theorem dX4_at_6 : decode cX4_at 6 = .ok (.arraylength, 1) := by decide +kernel
theorem dX4_at_7 : decode cX4_at 7 = .ok (.if_icmp .ge 9, 3) := by decide +kernel
theorem dX4_at_10 : decode cX4_at 10 = .ok (.aload_n 0, 1) := by decide +kernel
theorem dX4_at_11 : decode cX4_at 11 = .ok (.iload_n 1, 1) := by decide +kernel
theorem dX4_at_12 : decode cX4_at 12 = .ok (.iaload, 1) := by decide +kernel
theorem dX4_at_13 : decode cX4_at 13 = .ok (.goto 4, 3) := by decide +kernel
theorem dX4_at_16 : decode cX4_at 16 = .ok (.iconst (-1), 1) := by decide +kernel
theorem dX4_at_17 : decode cX4_at 17 = .ok (.ireturn, 1) := by decide +kernel
theorem dX4_stepAt_0 : decode cX4_stepAt 0 = .ok (.aload_n 0, 1) := by decide +kernel
theorem dX4_stepAt_1 : decode cX4_stepAt 1 = .ok (.getfield 76, 3) := by decide +kernel
theorem dX4_stepAt_4 : decode cX4_stepAt 4 = .ok (.iload_n 1, 1) := by decide +kernel
theorem dX4_stepAt_5 : decode cX4_stepAt 5 = .ok (.invokestatic 79, 3) := by decide +kernel
theorem dX4_stepAt_8 : decode cX4_stepAt 8 = .ok (.iadd, 1) := by decide +kernel
theorem dX4_stepAt_9 : decode cX4_stepAt 9 = .ok (.aload_n 0, 1) := by decide +kernel
theorem dX4_stepAt_10 : decode cX4_stepAt 10 = .ok (.getfield 18, 3) := by decide +kernel
theorem dX4_stepAt_13 : decode cX4_stepAt 13 = .ok (.invokestatic 79, 3) := by decide +kernel
theorem dX4_stepAt_16 : decode cX4_stepAt 16 = .ok (.isub, 1) := by decide +kernel
theorem dX4_stepAt_17 : decode cX4_stepAt 17 = .ok (.ireturn, 1) := by decide +kernel
theorem dX4_allFictions_0 : decode cX4_allFictions 0 = .ok (.iconst 1, 1) := by decide +kernel
theorem dX4_allFictions_1 : decode cX4_allFictions 1 = .ok (.aload_n 0, 1) := by decide +kernel
theorem dX4_allFictions_2 : decode cX4_allFictions 2 = .ok (.getfield 48, 3) := by decide +kernel
theorem dX4_allFictions_5 : decode cX4_allFictions 5 = .ok (.getfield 52, 3) := by decide +kernel
theorem dX4_allFictions_8 : decode cX4_allFictions 8 = .ok (.ishl, 1) := by decide +kernel
theorem dX4_allFictions_9 : decode cX4_allFictions 9 = .ok (.iconst 1, 1) := by decide +kernel
theorem dX4_allFictions_10 : decode cX4_allFictions 10 = .ok (.isub, 1) := by decide +kernel
theorem dX4_allFictions_11 : decode cX4_allFictions 11 = .ok (.ireturn, 1) := by decide +kernel
theorem dX5_init_0 : decode cX5_init 0 = .ok (.aload_n 0, 1) := by decide +kernel
theorem dX5_init_1 : decode cX5_init 1 = .ok (.invokespecial 1, 3) := by decide +kernel
theorem dX5_init_4 : decode cX5_init 4 = .ok (.return_, 1) := by decide +kernel
theorem dX5_cost_0 : decode cX5_cost 0 = .ok (.aload_n 0, 1) := by decide +kernel
theorem dX5_cost_1 : decode cX5_cost 1 = .ok (.iload_n 1, 1) := by decide +kernel
theorem dX5_cost_2 : decode cX5_cost 2 = .ok (.iload_n 2, 1) := by decide +kernel
theorem dX5_cost_3 : decode cX5_cost 3 = .ok (.invokespecial 7, 3) := by decide +kernel
theorem dX5_cost_6 : decode cX5_cost 6 = .ok (.istore_n 3, 1) := by decide +kernel
theorem dX5_cost_7 : decode cX5_cost 7 = .ok (.iload_n 2, 1) := by decide +kernel
theorem dX5_cost_8 : decode cX5_cost 8 = .ok (.iconst 2, 1) := by decide +kernel
theorem dX5_cost_9 : decode cX5_cost 9 = .ok (.if_icmp .lt 11, 3) := by decide +kernel
theorem dX5_cost_12 : decode cX5_cost 12 = .ok (.iload_n 3, 1) := by decide +kernel
theorem dX5_cost_13 : decode cX5_cost 13 = .ok (.iconst 1, 1) := by decide +kernel
theorem dX5_cost_14 : decode cX5_cost 14 = .ok (.iadd, 1) := by decide +kernel
theorem dX5_cost_15 : decode cX5_cost 15 = .ok (.iconst 2, 1) := by decide +kernel
theorem dX5_cost_16 : decode cX5_cost 16 = .ok (.idiv, 1) := by decide +kernel
theorem dX5_cost_17 : decode cX5_cost 17 = .ok (.goto 4, 3) := by decide +kernel
theorem dX5_cost_20 : decode cX5_cost 20 = .ok (.iload_n 3, 1) := by decide +kernel
theorem dX5_cost_21 : decode cX5_cost 21 = .ok (.ireturn, 1) := by decide +kernel
theorem dX5_losesWith_0 : decode cX5_losesWith 0 = .ok (.iload_n 1, 1) := by decide +kernel
theorem dX5_losesWith_1 : decode cX5_losesWith 1 = .ok (.iconst 2, 1) := by decide +kernel
theorem dX5_losesWith_2 : decode cX5_losesWith 2 = .ok (.if_icmp .lt 7, 3) := by decide +kernel
theorem dX5_losesWith_5 : decode cX5_losesWith 5 = .ok (.iconst 1, 1) := by decide +kernel
theorem dX5_losesWith_6 : decode cX5_losesWith 6 = .ok (.goto 4, 3) := by decide +kernel
theorem dX5_losesWith_9 : decode cX5_losesWith 9 = .ok (.iconst 0, 1) := by decide +kernel
theorem dX5_losesWith_10 : decode cX5_losesWith 10 = .ok (.ireturn, 1) := by decide +kernel
theorem dX6_init_0 : decode cX6_init 0 = .ok (.aload_n 0, 1) := by decide +kernel
theorem dX6_init_1 : decode cX6_init 1 = .ok (.invokespecial 1, 3) := by decide +kernel
theorem dX6_init_4 : decode cX6_init 4 = .ok (.return_, 1) := by decide +kernel
theorem dX6_allows_0 : decode cX6_allows 0 = .ok (.iload_n 2, 1) := by decide +kernel
theorem dX6_allows_1 : decode cX6_allows 1 = .ok (.iload_n 1, 1) := by decide +kernel
theorem dX6_allows_2 : decode cX6_allows 2 = .ok (.if_icmp .ne 7, 3) := by decide +kernel
theorem dX6_allows_5 : decode cX6_allows 5 = .ok (.iconst 1, 1) := by decide +kernel
theorem dX6_allows_6 : decode cX6_allows 6 = .ok (.goto 4, 3) := by decide +kernel
theorem dX6_allows_9 : decode cX6_allows 9 = .ok (.iconst 0, 1) := by decide +kernel
theorem dX6_allows_10 : decode cX6_allows 10 = .ok (.ireturn, 1) := by decide +kernel
theorem dX6_cost_0 : decode cX6_cost 0 = .ok (.iload_n 1, 1) := by decide +kernel
theorem dX6_cost_1 : decode cX6_cost 1 = .ok (.ireturn, 1) := by decide +kernel
theorem dX6_losesWith_0 : decode cX6_losesWith 0 = .ok (.iconst 0, 1) := by decide +kernel
theorem dX6_losesWith_1 : decode cX6_losesWith 1 = .ok (.ireturn, 1) := by decide +kernel
theorem dX7_init_0 : decode cX7_init 0 = .ok (.aload_n 0, 1) := by decide +kernel
theorem dX7_init_1 : decode cX7_init 1 = .ok (.invokespecial 1, 3) := by decide +kernel
theorem dX7_init_4 : decode cX7_init 4 = .ok (.aload_n 0, 1) := by decide +kernel
theorem dX7_init_5 : decode cX7_init 5 = .ok (.iload_n 1, 1) := by decide +kernel
theorem dX7_init_6 : decode cX7_init 6 = .ok (.putfield 7, 3) := by decide +kernel
theorem dX7_init_9 : decode cX7_init 9 = .ok (.aload_n 0, 1) := by decide +kernel
theorem dX7_init_10 : decode cX7_init 10 = .ok (.iload_n 2, 1) := by decide +kernel
theorem dX7_init_11 : decode cX7_init 11 = .ok (.putfield 13, 3) := by decide +kernel
theorem dX7_init_14 : decode cX7_init 14 = .ok (.aload_n 0, 1) := by decide +kernel
theorem dX7_init_15 : decode cX7_init 15 = .ok (.iconst 0, 1) := by decide +kernel
theorem dX7_init_16 : decode cX7_init 16 = .ok (.iload_n 1, 1) := by decide +kernel
theorem dX7_init_17 : decode cX7_init 17 = .ok (.iload_n 2, 1) := by decide +kernel
theorem dX7_init_18 : decode cX7_init 18 = .ok (.imul, 1) := by decide +kernel
theorem dX7_init_19 : decode cX7_init 19 = .ok (.invokestatic 16, 3) := by decide +kernel
theorem dX7_init_22 : decode cX7_init 22 = .ok (.newarray .int, 2) := by decide +kernel
theorem dX7_init_24 : decode cX7_init 24 = .ok (.putfield 22, 3) := by decide +kernel
theorem dX7_init_27 : decode cX7_init 27 = .ok (.return_, 1) := by decide +kernel
theorem dX7_isFull_0 : decode cX7_isFull 0 = .ok (.aload_n 0, 1) := by decide +kernel
theorem dX7_isFull_1 : decode cX7_isFull 1 = .ok (.getfield 26, 3) := by decide +kernel
theorem dX7_isFull_4 : decode cX7_isFull 4 = .ok (.aload_n 0, 1) := by decide +kernel
theorem dX7_isFull_5 : decode cX7_isFull 5 = .ok (.getfield 7, 3) := by decide +kernel
theorem dX7_isFull_8 : decode cX7_isFull 8 = .ok (.if_icmp .lt 7, 3) := by decide +kernel
theorem dX7_isFull_11 : decode cX7_isFull 11 = .ok (.iconst 1, 1) := by decide +kernel
theorem dX7_isFull_12 : decode cX7_isFull 12 = .ok (.goto 4, 3) := by decide +kernel
theorem dX7_isFull_15 : decode cX7_isFull 15 = .ok (.iconst 0, 1) := by decide +kernel
theorem dX7_isFull_16 : decode cX7_isFull 16 = .ok (.ireturn, 1) := by decide +kernel
theorem dX7_empty_0 : decode cX7_empty 0 = .ok (.aload_n 0, 1) := by decide +kernel
theorem dX7_empty_1 : decode cX7_empty 1 = .ok (.iconst 0, 1) := by decide +kernel
theorem dX7_empty_2 : decode cX7_empty 2 = .ok (.putfield 26, 3) := by decide +kernel
theorem dX7_empty_5 : decode cX7_empty 5 = .ok (.return_, 1) := by decide +kernel
theorem dX7_cell_0 : decode cX7_cell 0 = .ok (.iload_n 1, 1) := by decide +kernel
theorem dX7_cell_1 : decode cX7_cell 1 = .ok (.aload_n 0, 1) := by decide +kernel
theorem dX7_cell_2 : decode cX7_cell 2 = .ok (.getfield 13, 3) := by decide +kernel
theorem dX7_cell_5 : decode cX7_cell 5 = .ok (.imul, 1) := by decide +kernel
theorem dX7_cell_6 : decode cX7_cell 6 = .ok (.iload_n 2, 1) := by decide +kernel
theorem dX7_cell_7 : decode cX7_cell 7 = .ok (.iadd, 1) := by decide +kernel
theorem dX7_cell_8 : decode cX7_cell 8 = .ok (.istore_n 3, 1) := by decide +kernel
theorem dX7_cell_9 : decode cX7_cell 9 = .ok (.iload_n 3, 1) := by decide +kernel
theorem dX7_cell_10 : decode cX7_cell 10 = .ok (.ifCond .lt 21, 3) := by decide +kernel
theorem dX7_cell_13 : decode cX7_cell 13 = .ok (.iload_n 3, 1) := by decide +kernel
theorem dX7_cell_14 : decode cX7_cell 14 = .ok (.aload_n 0, 1) := by decide +kernel
theorem dX7_cell_15 : decode cX7_cell 15 = .ok (.getfield 22, 3) := by decide +kernel
theorem dX7_cell_18 : decode cX7_cell 18 = .ok (.arraylength, 1) := by decide +kernel
theorem dX7_cell_19 : decode cX7_cell 19 = .ok (.if_icmp .ge 12, 3) := by decide +kernel
theorem dX7_cell_22 : decode cX7_cell 22 = .ok (.aload_n 0, 1) := by decide +kernel
theorem dX7_cell_23 : decode cX7_cell 23 = .ok (.getfield 22, 3) := by decide +kernel
theorem dX7_cell_26 : decode cX7_cell 26 = .ok (.iload_n 3, 1) := by decide +kernel
theorem dX7_cell_27 : decode cX7_cell 27 = .ok (.iaload, 1) := by decide +kernel
theorem dX7_cell_28 : decode cX7_cell 28 = .ok (.goto 4, 3) := by decide +kernel
theorem dX7_cell_31 : decode cX7_cell 31 = .ok (.iconst 0, 1) := by decide +kernel
theorem dX7_cell_32 : decode cX7_cell 32 = .ok (.ireturn, 1) := by decide +kernel
theorem dX7_add_0 : decode cX7_add 0 = .ok (.aload_n 0, 1) := by decide +kernel
theorem dX7_add_1 : decode cX7_add 1 = .ok (.invokevirtual 29, 3) := by decide +kernel
theorem dX7_add_4 : decode cX7_add 4 = .ok (.ifCond .eq 4, 3) := by decide +kernel
theorem dX7_add_7 : decode cX7_add 7 = .ok (.return_, 1) := by decide +kernel
theorem dX7_add_8 : decode cX7_add 8 = .ok (.aload_n 0, 1) := by decide +kernel
theorem dX7_add_9 : decode cX7_add 9 = .ok (.aload_n 0, 1) := by decide +kernel
theorem dX7_add_10 : decode cX7_add 10 = .ok (.getfield 26, 3) := by decide +kernel
theorem dX7_add_13 : decode cX7_add 13 = .ok (.iconst 0, 1) := by decide +kernel
theorem dX7_add_14 : decode cX7_add 14 = .ok (.iload_n 1, 1) := by decide +kernel
theorem dX7_add_15 : decode cX7_add 15 = .ok (.invokevirtual 33, 3) := by decide +kernel
theorem dX7_add_18 : decode cX7_add 18 = .ok (.aload_n 0, 1) := by decide +kernel
theorem dX7_add_19 : decode cX7_add 19 = .ok (.aload_n 0, 1) := by decide +kernel
theorem dX7_add_20 : decode cX7_add 20 = .ok (.getfield 26, 3) := by decide +kernel
theorem dX7_add_23 : decode cX7_add 23 = .ok (.iconst 1, 1) := by decide +kernel
theorem dX7_add_24 : decode cX7_add 24 = .ok (.iload_n 2, 1) := by decide +kernel
theorem dX7_add_25 : decode cX7_add 25 = .ok (.invokevirtual 33, 3) := by decide +kernel
theorem dX7_add_28 : decode cX7_add 28 = .ok (.aload_n 0, 1) := by decide +kernel
theorem dX7_add_29 : decode cX7_add 29 = .ok (.aload_n 0, 1) := by decide +kernel
theorem dX7_add_30 : decode cX7_add 30 = .ok (.getfield 26, 3) := by decide +kernel
theorem dX7_add_33 : decode cX7_add 33 = .ok (.iconst 2, 1) := by decide +kernel
theorem dX7_add_34 : decode cX7_add 34 = .ok (.iload_n 3, 1) := by decide +kernel
theorem dX7_add_35 : decode cX7_add 35 = .ok (.invokevirtual 33, 3) := by decide +kernel
theorem dX7_add_38 : decode cX7_add 38 = .ok (.aload_n 0, 1) := by decide +kernel
theorem dX7_add_39 : decode cX7_add 39 = .ok (.aload_n 0, 1) := by decide +kernel
theorem dX7_add_40 : decode cX7_add 40 = .ok (.getfield 26, 3) := by decide +kernel
theorem dX7_add_43 : decode cX7_add 43 = .ok (.iconst 3, 1) := by decide +kernel
theorem dX7_add_44 : decode cX7_add 44 = .ok (.iload 4, 2) := by decide +kernel
theorem dX7_add_46 : decode cX7_add 46 = .ok (.invokevirtual 33, 3) := by decide +kernel
theorem dX7_add_49 : decode cX7_add 49 = .ok (.aload_n 0, 1) := by decide +kernel
theorem dX7_add_50 : decode cX7_add 50 = .ok (.dup, 1) := by decide +kernel
theorem dX7_add_51 : decode cX7_add 51 = .ok (.getfield 26, 3) := by decide +kernel
theorem dX7_add_54 : decode cX7_add 54 = .ok (.iconst 1, 1) := by decide +kernel
theorem dX7_add_55 : decode cX7_add 55 = .ok (.iadd, 1) := by decide +kernel
theorem dX7_add_56 : decode cX7_add 56 = .ok (.putfield 26, 3) := by decide +kernel
theorem dX7_add_59 : decode cX7_add 59 = .ok (.return_, 1) := by decide +kernel
theorem dX7_dropLast_0 : decode cX7_dropLast 0 = .ok (.aload_n 0, 1) := by decide +kernel
theorem dX7_dropLast_1 : decode cX7_dropLast 1 = .ok (.getfield 26, 3) := by decide +kernel
theorem dX7_dropLast_4 : decode cX7_dropLast 4 = .ok (.ifCond .le 13, 3) := by decide +kernel
theorem dX7_dropLast_7 : decode cX7_dropLast 7 = .ok (.aload_n 0, 1) := by decide +kernel
theorem dX7_dropLast_8 : decode cX7_dropLast 8 = .ok (.dup, 1) := by decide +kernel
theorem dX7_dropLast_9 : decode cX7_dropLast 9 = .ok (.getfield 26, 3) := by decide +kernel
theorem dX7_dropLast_12 : decode cX7_dropLast 12 = .ok (.iconst 1, 1) := by decide +kernel
theorem dX7_dropLast_13 : decode cX7_dropLast 13 = .ok (.isub, 1) := by decide +kernel
theorem dX7_dropLast_14 : decode cX7_dropLast 14 = .ok (.putfield 26, 3) := by decide +kernel
theorem dX7_dropLast_17 : decode cX7_dropLast 17 = .ok (.return_, 1) := by decide +kernel
theorem dX7_dropFirst_0 : decode cX7_dropFirst 0 = .ok (.aload_n 0, 1) := by decide +kernel
theorem dX7_dropFirst_1 : decode cX7_dropFirst 1 = .ok (.getfield 13, 3) := by decide +kernel
theorem dX7_dropFirst_4 : decode cX7_dropFirst 4 = .ok (.istore_n 1, 1) := by decide +kernel
theorem dX7_dropFirst_5 : decode cX7_dropFirst 5 = .ok (.iload_n 1, 1) := by decide +kernel
theorem dX7_dropFirst_6 : decode cX7_dropFirst 6 = .ok (.aload_n 0, 1) := by decide +kernel
theorem dX7_dropFirst_7 : decode cX7_dropFirst 7 = .ok (.getfield 22, 3) := by decide +kernel
theorem dX7_dropFirst_10 : decode cX7_dropFirst 10 = .ok (.arraylength, 1) := by decide +kernel
theorem dX7_dropFirst_11 : decode cX7_dropFirst 11 = .ok (.if_icmp .ge 32, 3) := by decide +kernel
theorem dX7_dropFirst_14 : decode cX7_dropFirst 14 = .ok (.iload_n 1, 1) := by decide +kernel
theorem dX7_dropFirst_15 : decode cX7_dropFirst 15 = .ok (.aload_n 0, 1) := by decide +kernel
theorem dX7_dropFirst_16 : decode cX7_dropFirst 16 = .ok (.getfield 13, 3) := by decide +kernel
theorem dX7_dropFirst_19 : decode cX7_dropFirst 19 = .ok (.isub, 1) := by decide +kernel
theorem dX7_dropFirst_20 : decode cX7_dropFirst 20 = .ok (.istore_n 2, 1) := by decide +kernel
theorem dX7_dropFirst_21 : decode cX7_dropFirst 21 = .ok (.iload_n 2, 1) := by decide +kernel
theorem dX7_dropFirst_22 : decode cX7_dropFirst 22 = .ok (.ifCond .lt 15, 3) := by decide +kernel
theorem dX7_dropFirst_25 : decode cX7_dropFirst 25 = .ok (.aload_n 0, 1) := by decide +kernel
theorem dX7_dropFirst_26 : decode cX7_dropFirst 26 = .ok (.getfield 22, 3) := by decide +kernel
theorem dX7_dropFirst_29 : decode cX7_dropFirst 29 = .ok (.iload_n 2, 1) := by decide +kernel
theorem dX7_dropFirst_30 : decode cX7_dropFirst 30 = .ok (.aload_n 0, 1) := by decide +kernel
theorem dX7_dropFirst_31 : decode cX7_dropFirst 31 = .ok (.getfield 22, 3) := by decide +kernel
theorem dX7_dropFirst_34 : decode cX7_dropFirst 34 = .ok (.iload_n 1, 1) := by decide +kernel
theorem dX7_dropFirst_35 : decode cX7_dropFirst 35 = .ok (.iaload, 1) := by decide +kernel
theorem dX7_dropFirst_36 : decode cX7_dropFirst 36 = .ok (.iastore, 1) := by decide +kernel
theorem dX7_dropFirst_37 : decode cX7_dropFirst 37 = .ok (.iinc 1 1, 3) := by decide +kernel
theorem dX7_dropFirst_40 : decode cX7_dropFirst 40 = .ok (.goto (-35), 3) := by decide +kernel
theorem dX7_dropFirst_43 : decode cX7_dropFirst 43 = .ok (.aload_n 0, 1) := by decide +kernel
theorem dX7_dropFirst_44 : decode cX7_dropFirst 44 = .ok (.invokevirtual 37, 3) := by decide +kernel
theorem dX7_dropFirst_47 : decode cX7_dropFirst 47 = .ok (.return_, 1) := by decide +kernel
theorem dX7_become_0 : decode cX7_become 0 = .ok (.iconst 0, 1) := by decide +kernel
theorem dX7_become_1 : decode cX7_become 1 = .ok (.istore_n 2, 1) := by decide +kernel
theorem dX7_become_2 : decode cX7_become 2 = .ok (.iload_n 2, 1) := by decide +kernel
theorem dX7_become_3 : decode cX7_become 3 = .ok (.aload_n 0, 1) := by decide +kernel
theorem dX7_become_4 : decode cX7_become 4 = .ok (.getfield 22, 3) := by decide +kernel
theorem dX7_become_7 : decode cX7_become 7 = .ok (.arraylength, 1) := by decide +kernel
theorem dX7_become_8 : decode cX7_become 8 = .ok (.if_icmp .ge 30, 3) := by decide +kernel
theorem dX7_become_11 : decode cX7_become 11 = .ok (.iload_n 2, 1) := by decide +kernel
theorem dX7_become_12 : decode cX7_become 12 = .ok (.aload_n 1, 1) := by decide +kernel
theorem dX7_become_13 : decode cX7_become 13 = .ok (.getfield 22, 3) := by decide +kernel
theorem dX7_become_16 : decode cX7_become 16 = .ok (.arraylength, 1) := by decide +kernel
theorem dX7_become_17 : decode cX7_become 17 = .ok (.if_icmp .ge 21, 3) := by decide +kernel
theorem dX7_become_20 : decode cX7_become 20 = .ok (.aload_n 0, 1) := by decide +kernel
theorem dX7_become_21 : decode cX7_become 21 = .ok (.getfield 22, 3) := by decide +kernel
theorem dX7_become_24 : decode cX7_become 24 = .ok (.iload_n 2, 1) := by decide +kernel
theorem dX7_become_25 : decode cX7_become 25 = .ok (.aload_n 1, 1) := by decide +kernel
theorem dX7_become_26 : decode cX7_become 26 = .ok (.getfield 22, 3) := by decide +kernel
theorem dX7_become_29 : decode cX7_become 29 = .ok (.iload_n 2, 1) := by decide +kernel
theorem dX7_become_30 : decode cX7_become 30 = .ok (.iaload, 1) := by decide +kernel
theorem dX7_become_31 : decode cX7_become 31 = .ok (.iastore, 1) := by decide +kernel
theorem dX7_become_32 : decode cX7_become 32 = .ok (.iinc 2 1, 3) := by decide +kernel
theorem dX7_become_35 : decode cX7_become 35 = .ok (.goto (-33), 3) := by decide +kernel
theorem dX7_become_38 : decode cX7_become 38 = .ok (.aload_n 0, 1) := by decide +kernel
theorem dX7_become_39 : decode cX7_become 39 = .ok (.aload_n 1, 1) := by decide +kernel
theorem dX7_become_40 : decode cX7_become 40 = .ok (.getfield 26, 3) := by decide +kernel
theorem dX7_become_43 : decode cX7_become 43 = .ok (.putfield 26, 3) := by decide +kernel
theorem dX7_become_46 : decode cX7_become 46 = .ok (.return_, 1) := by decide +kernel
theorem dX7_digestFrom_0 : decode cX7_digestFrom 0 = .ok (.lload_n 1, 1) := by decide +kernel
theorem dX7_digestFrom_1 : decode cX7_digestFrom 1 = .ok (.lstore_n 3, 1) := by decide +kernel
theorem dX7_digestFrom_2 : decode cX7_digestFrom 2 = .ok (.iconst 0, 1) := by decide +kernel
theorem dX7_digestFrom_3 : decode cX7_digestFrom 3 = .ok (.istore 5, 2) := by decide +kernel
theorem dX7_digestFrom_5 : decode cX7_digestFrom 5 = .ok (.iload 5, 2) := by decide +kernel
theorem dX7_digestFrom_7 : decode cX7_digestFrom 7 = .ok (.aload_n 0, 1) := by decide +kernel
theorem dX7_digestFrom_8 : decode cX7_digestFrom 8 = .ok (.getfield 26, 3) := by decide +kernel
theorem dX7_digestFrom_11 : decode cX7_digestFrom 11 = .ok (.if_icmp .ge 43, 3) := by decide +kernel
theorem dX7_digestFrom_14 : decode cX7_digestFrom 14 = .ok (.iconst 0, 1) := by decide +kernel
theorem dX7_digestFrom_15 : decode cX7_digestFrom 15 = .ok (.istore 6, 2) := by decide +kernel
theorem dX7_digestFrom_17 : decode cX7_digestFrom 17 = .ok (.iload 6, 2) := by decide +kernel
theorem dX7_digestFrom_19 : decode cX7_digestFrom 19 = .ok (.aload_n 0, 1) := by decide +kernel
theorem dX7_digestFrom_20 : decode cX7_digestFrom 20 = .ok (.getfield 13, 3) := by decide +kernel
theorem dX7_digestFrom_23 : decode cX7_digestFrom 23 = .ok (.if_icmp .ge 25, 3) := by decide +kernel
theorem dX7_digestFrom_26 : decode cX7_digestFrom 26 = .ok (.ldc2_w 40, 3) := by decide +kernel
theorem dX7_digestFrom_29 : decode cX7_digestFrom 29 = .ok (.lload_n 3, 1) := by decide +kernel
theorem dX7_digestFrom_30 : decode cX7_digestFrom 30 = .ok (.lmul, 1) := by decide +kernel
theorem dX7_digestFrom_31 : decode cX7_digestFrom 31 = .ok (.aload_n 0, 1) := by decide +kernel
theorem dX7_digestFrom_32 : decode cX7_digestFrom 32 = .ok (.iload 5, 2) := by decide +kernel
theorem dX7_digestFrom_34 : decode cX7_digestFrom 34 = .ok (.iload 6, 2) := by decide +kernel
theorem dX7_digestFrom_36 : decode cX7_digestFrom 36 = .ok (.invokevirtual 42, 3) := by decide +kernel
theorem dX7_digestFrom_39 : decode cX7_digestFrom 39 = .ok (.i2l, 1) := by decide +kernel
theorem dX7_digestFrom_40 : decode cX7_digestFrom 40 = .ok (.ladd, 1) := by decide +kernel
theorem dX7_digestFrom_41 : decode cX7_digestFrom 41 = .ok (.lstore_n 3, 1) := by decide +kernel
theorem dX7_digestFrom_42 : decode cX7_digestFrom 42 = .ok (.iinc 6 1, 3) := by decide +kernel
theorem dX7_digestFrom_45 : decode cX7_digestFrom 45 = .ok (.goto (-28), 3) := by decide +kernel
theorem dX7_digestFrom_48 : decode cX7_digestFrom 48 = .ok (.iinc 5 1, 3) := by decide +kernel
theorem dX7_digestFrom_51 : decode cX7_digestFrom 51 = .ok (.goto (-46), 3) := by decide +kernel
theorem dX7_digestFrom_54 : decode cX7_digestFrom 54 = .ok (.lload_n 3, 1) := by decide +kernel
theorem dX7_digestFrom_55 : decode cX7_digestFrom 55 = .ok (.lreturn, 1) := by decide +kernel
theorem dX7_put_0 : decode cX7_put 0 = .ok (.iload_n 1, 1) := by decide +kernel
theorem dX7_put_1 : decode cX7_put 1 = .ok (.aload_n 0, 1) := by decide +kernel
theorem dX7_put_2 : decode cX7_put 2 = .ok (.getfield 13, 3) := by decide +kernel
theorem dX7_put_5 : decode cX7_put 5 = .ok (.imul, 1) := by decide +kernel
theorem dX7_put_6 : decode cX7_put 6 = .ok (.iload_n 2, 1) := by decide +kernel
theorem dX7_put_7 : decode cX7_put 7 = .ok (.iadd, 1) := by decide +kernel
theorem dX7_put_8 : decode cX7_put 8 = .ok (.istore 4, 2) := by decide +kernel
theorem dX7_put_10 : decode cX7_put 10 = .ok (.iload_n 2, 1) := by decide +kernel
theorem dX7_put_11 : decode cX7_put 11 = .ok (.aload_n 0, 1) := by decide +kernel
theorem dX7_put_12 : decode cX7_put 12 = .ok (.getfield 13, 3) := by decide +kernel
theorem dX7_put_15 : decode cX7_put 15 = .ok (.if_icmp .ge 26, 3) := by decide +kernel
theorem dX7_put_18 : decode cX7_put 18 = .ok (.iload 4, 2) := by decide +kernel
theorem dX7_put_20 : decode cX7_put 20 = .ok (.ifCond .lt 21, 3) := by decide +kernel
theorem dX7_put_23 : decode cX7_put 23 = .ok (.iload 4, 2) := by decide +kernel
theorem dX7_put_25 : decode cX7_put 25 = .ok (.aload_n 0, 1) := by decide +kernel
theorem dX7_put_26 : decode cX7_put 26 = .ok (.getfield 22, 3) := by decide +kernel
theorem dX7_put_29 : decode cX7_put 29 = .ok (.arraylength, 1) := by decide +kernel
theorem dX7_put_30 : decode cX7_put 30 = .ok (.if_icmp .ge 11, 3) := by decide +kernel
theorem dX7_put_33 : decode cX7_put 33 = .ok (.aload_n 0, 1) := by decide +kernel
theorem dX7_put_34 : decode cX7_put 34 = .ok (.getfield 22, 3) := by decide +kernel
theorem dX7_put_37 : decode cX7_put 37 = .ok (.iload 4, 2) := by decide +kernel
theorem dX7_put_39 : decode cX7_put 39 = .ok (.iload_n 3, 1) := by decide +kernel
theorem dX7_put_40 : decode cX7_put 40 = .ok (.iastore, 1) := by decide +kernel
theorem dX7_put_41 : decode cX7_put 41 = .ok (.return_, 1) := by decide +kernel
theorem dX8_init_0 : decode cX8_init 0 = .ok (.aload_n 0, 1) := by decide +kernel
theorem dX8_init_1 : decode cX8_init 1 = .ok (.invokespecial 1, 3) := by decide +kernel
theorem dX8_init_4 : decode cX8_init 4 = .ok (.return_, 1) := by decide +kernel
theorem dX8_cost_0 : decode cX8_cost 0 = .ok (.aload_n 0, 1) := by decide +kernel
theorem dX8_cost_1 : decode cX8_cost 1 = .ok (.iload_n 1, 1) := by decide +kernel
theorem dX8_cost_2 : decode cX8_cost 2 = .ok (.iload_n 2, 1) := by decide +kernel
theorem dX8_cost_3 : decode cX8_cost 3 = .ok (.invokespecial 7, 3) := by decide +kernel
theorem dX8_cost_6 : decode cX8_cost 6 = .ok (.iload_n 2, 1) := by decide +kernel
theorem dX8_cost_7 : decode cX8_cost 7 = .ok (.iadd, 1) := by decide +kernel
theorem dX8_cost_8 : decode cX8_cost 8 = .ok (.ireturn, 1) := by decide +kernel
theorem dX8_losesWith_0 : decode cX8_losesWith 0 = .ok (.iload_n 1, 1) := by decide +kernel
theorem dX8_losesWith_1 : decode cX8_losesWith 1 = .ok (.iconst 3, 1) := by decide +kernel
theorem dX8_losesWith_2 : decode cX8_losesWith 2 = .ok (.if_icmp .lt 7, 3) := by decide +kernel
theorem dX8_losesWith_5 : decode cX8_losesWith 5 = .ok (.iconst 1, 1) := by decide +kernel
theorem dX8_losesWith_6 : decode cX8_losesWith 6 = .ok (.goto 4, 3) := by decide +kernel
theorem dX8_losesWith_9 : decode cX8_losesWith 9 = .ok (.iconst 0, 1) := by decide +kernel
theorem dX8_losesWith_10 : decode cX8_losesWith 10 = .ok (.ireturn, 1) := by decide +kernel
theorem dX9_init_0 : decode cX9_init 0 = .ok (.aload_n 0, 1) := by decide +kernel
theorem dX9_init_1 : decode cX9_init 1 = .ok (.invokespecial 1, 3) := by decide +kernel
theorem dX9_init_4 : decode cX9_init 4 = .ok (.return_, 1) := by decide +kernel
theorem dX9_allows_0 : decode cX9_allows 0 = .ok (.iload_n 3, 1) := by decide +kernel
theorem dX9_allows_1 : decode cX9_allows 1 = .ok (.iconst 1, 1) := by decide +kernel
theorem dX9_allows_2 : decode cX9_allows 2 = .ok (.iand, 1) := by decide +kernel
theorem dX9_allows_3 : decode cX9_allows 3 = .ok (.iconst 1, 1) := by decide +kernel
theorem dX9_allows_4 : decode cX9_allows 4 = .ok (.if_icmp .ne 17, 3) := by decide +kernel
theorem dX9_allows_7 : decode cX9_allows 7 = .ok (.aload_n 0, 1) := by decide +kernel
theorem dX9_allows_8 : decode cX9_allows 8 = .ok (.iload_n 1, 1) := by decide +kernel
theorem dX9_allows_9 : decode cX9_allows 9 = .ok (.iload_n 2, 1) := by decide +kernel
theorem dX9_allows_10 : decode cX9_allows 10 = .ok (.iload_n 3, 1) := by decide +kernel
theorem dX9_allows_11 : decode cX9_allows 11 = .ok (.invokespecial 7, 3) := by decide +kernel
theorem dX9_allows_14 : decode cX9_allows 14 = .ok (.ifCond .eq 7, 3) := by decide +kernel
theorem dX9_allows_17 : decode cX9_allows 17 = .ok (.iconst 1, 1) := by decide +kernel
theorem dX9_allows_18 : decode cX9_allows 18 = .ok (.goto 4, 3) := by decide +kernel
theorem dX9_allows_21 : decode cX9_allows 21 = .ok (.iconst 0, 1) := by decide +kernel
theorem dX9_allows_22 : decode cX9_allows 22 = .ok (.ireturn, 1) := by decide +kernel
theorem dX9_losesWith_0 : decode cX9_losesWith 0 = .ok (.iload_n 1, 1) := by decide +kernel
theorem dX9_losesWith_1 : decode cX9_losesWith 1 = .ok (.iconst 1, 1) := by decide +kernel
theorem dX9_losesWith_2 : decode cX9_losesWith 2 = .ok (.if_icmp .lt 7, 3) := by decide +kernel
theorem dX9_losesWith_5 : decode cX9_losesWith 5 = .ok (.iconst 1, 1) := by decide +kernel
theorem dX9_losesWith_6 : decode cX9_losesWith 6 = .ok (.goto 4, 3) := by decide +kernel
theorem dX9_losesWith_9 : decode cX9_losesWith 9 = .ok (.iconst 0, 1) := by decide +kernel
theorem dX9_losesWith_10 : decode cX9_losesWith 10 = .ok (.ireturn, 1) := by decide +kernel
theorem dX10_init_0 : decode cX10_init 0 = .ok (.aload_n 0, 1) := by decide +kernel
theorem dX10_init_1 : decode cX10_init 1 = .ok (.invokespecial 3, 3) := by decide +kernel
theorem dX10_init_4 : decode cX10_init 4 = .ok (.bipush 6, 2) := by decide +kernel
theorem dX10_init_6 : decode cX10_init 6 = .ok (.anewarray 9, 3) := by decide +kernel
theorem dX10_init_9 : decode cX10_init 9 = .ok (.dup, 1) := by decide +kernel
theorem dX10_init_10 : decode cX10_init 10 = .ok (.iconst 0, 1) := by decide +kernel
theorem dX10_init_11 : decode cX10_init 11 = .ok (.new 9, 3) := by decide +kernel
theorem dX10_init_14 : decode cX10_init 14 = .ok (.dup, 1) := by decide +kernel
theorem dX10_init_15 : decode cX10_init 15 = .ok (.invokespecial 11, 3) := by decide +kernel
theorem dX10_init_18 : decode cX10_init 18 = .ok (.aastore, 1) := by decide +kernel
theorem dX10_init_19 : decode cX10_init 19 = .ok (.dup, 1) := by decide +kernel
theorem dX10_init_20 : decode cX10_init 20 = .ok (.iconst 1, 1) := by decide +kernel
theorem dX10_init_21 : decode cX10_init 21 = .ok (.new 12, 3) := by decide +kernel
theorem dX10_init_24 : decode cX10_init 24 = .ok (.dup, 1) := by decide +kernel
theorem dX10_init_25 : decode cX10_init 25 = .ok (.invokespecial 14, 3) := by decide +kernel
theorem dX10_init_28 : decode cX10_init 28 = .ok (.aastore, 1) := by decide +kernel
theorem dX10_init_29 : decode cX10_init 29 = .ok (.dup, 1) := by decide +kernel
theorem dX10_init_30 : decode cX10_init 30 = .ok (.iconst 2, 1) := by decide +kernel
theorem dX10_init_31 : decode cX10_init 31 = .ok (.new 15, 3) := by decide +kernel
theorem dX10_init_34 : decode cX10_init 34 = .ok (.dup, 1) := by decide +kernel
theorem dX10_init_35 : decode cX10_init 35 = .ok (.invokespecial 17, 3) := by decide +kernel
theorem dX10_init_38 : decode cX10_init 38 = .ok (.aastore, 1) := by decide +kernel
theorem dX10_init_39 : decode cX10_init 39 = .ok (.dup, 1) := by decide +kernel
theorem dX10_init_40 : decode cX10_init 40 = .ok (.iconst 3, 1) := by decide +kernel
theorem dX10_init_41 : decode cX10_init 41 = .ok (.new 18, 3) := by decide +kernel
theorem dX10_init_44 : decode cX10_init 44 = .ok (.dup, 1) := by decide +kernel
theorem dX10_init_45 : decode cX10_init 45 = .ok (.invokespecial 20, 3) := by decide +kernel
theorem dX10_init_48 : decode cX10_init 48 = .ok (.aastore, 1) := by decide +kernel
theorem dX10_init_49 : decode cX10_init 49 = .ok (.dup, 1) := by decide +kernel
theorem dX10_init_50 : decode cX10_init 50 = .ok (.iconst 4, 1) := by decide +kernel
theorem dX10_init_51 : decode cX10_init 51 = .ok (.new 21, 3) := by decide +kernel
theorem dX10_init_54 : decode cX10_init 54 = .ok (.dup, 1) := by decide +kernel
theorem dX10_init_55 : decode cX10_init 55 = .ok (.invokespecial 23, 3) := by decide +kernel
theorem dX10_init_58 : decode cX10_init 58 = .ok (.aastore, 1) := by decide +kernel
theorem dX10_init_59 : decode cX10_init 59 = .ok (.dup, 1) := by decide +kernel
theorem dX10_init_60 : decode cX10_init 60 = .ok (.iconst 5, 1) := by decide +kernel
theorem dX10_init_61 : decode cX10_init 61 = .ok (.new 24, 3) := by decide +kernel
theorem dX10_init_64 : decode cX10_init 64 = .ok (.dup, 1) := by decide +kernel
theorem dX10_init_65 : decode cX10_init 65 = .ok (.invokespecial 26, 3) := by decide +kernel
theorem dX10_init_68 : decode cX10_init 68 = .ok (.aastore, 1) := by decide +kernel
theorem dX10_init_69 : decode cX10_init 69 = .ok (.astore_n 1, 1) := by decide +kernel
theorem dX10_init_70 : decode cX10_init 70 = .ok (.aload_n 0, 1) := by decide +kernel
theorem dX10_init_71 : decode cX10_init 71 = .ok (.new 27, 3) := by decide +kernel
theorem dX10_init_74 : decode cX10_init 74 = .ok (.dup, 1) := by decide +kernel
theorem dX10_init_75 : decode cX10_init 75 = .ok (.aload_n 1, 1) := by decide +kernel
theorem dX10_init_76 : decode cX10_init 76 = .ok (.invokespecial 29, 3) := by decide +kernel
theorem dX10_init_79 : decode cX10_init 79 = .ok (.putfield 32, 3) := by decide +kernel
theorem dX10_init_82 : decode cX10_init 82 = .ok (.aload_n 0, 1) := by decide +kernel
theorem dX10_init_83 : decode cX10_init 83 = .ok (.new 27, 3) := by decide +kernel
theorem dX10_init_86 : decode cX10_init 86 = .ok (.dup, 1) := by decide +kernel
theorem dX10_init_87 : decode cX10_init 87 = .ok (.aload_n 1, 1) := by decide +kernel
theorem dX10_init_88 : decode cX10_init 88 = .ok (.invokespecial 29, 3) := by decide +kernel
theorem dX10_init_91 : decode cX10_init 91 = .ok (.putfield 36, 3) := by decide +kernel
theorem dX10_init_94 : decode cX10_init 94 = .ok (.aload_n 0, 1) := by decide +kernel
theorem dX10_init_95 : decode cX10_init 95 = .ok (.new 27, 3) := by decide +kernel
theorem dX10_init_98 : decode cX10_init 98 = .ok (.dup, 1) := by decide +kernel
theorem dX10_init_99 : decode cX10_init 99 = .ok (.aload_n 1, 1) := by decide +kernel
theorem dX10_init_100 : decode cX10_init 100 = .ok (.invokespecial 29, 3) := by decide +kernel
theorem dX10_init_103 : decode cX10_init 103 = .ok (.putfield 39, 3) := by decide +kernel
theorem dX10_init_106 : decode cX10_init 106 = .ok (.aload_n 0, 1) := by decide +kernel
theorem dX10_init_107 : decode cX10_init 107 = .ok (.new 27, 3) := by decide +kernel
theorem dX10_init_110 : decode cX10_init 110 = .ok (.dup, 1) := by decide +kernel
theorem dX10_init_111 : decode cX10_init 111 = .ok (.aload_n 1, 1) := by decide +kernel
theorem dX10_init_112 : decode cX10_init 112 = .ok (.invokespecial 29, 3) := by decide +kernel
theorem dX10_init_115 : decode cX10_init 115 = .ok (.putfield 42, 3) := by decide +kernel
theorem dX10_init_118 : decode cX10_init 118 = .ok (.aload_n 0, 1) := by decide +kernel
theorem dX10_init_119 : decode cX10_init 119 = .ok (.new 45, 3) := by decide +kernel
theorem dX10_init_122 : decode cX10_init 122 = .ok (.dup, 1) := by decide +kernel
theorem dX10_init_123 : decode cX10_init 123 = .ok (.invokespecial 47, 3) := by decide +kernel
theorem dX10_init_126 : decode cX10_init 126 = .ok (.putfield 48, 3) := by decide +kernel
theorem dX10_init_129 : decode cX10_init 129 = .ok (.aload_n 0, 1) := by decide +kernel
theorem dX10_init_130 : decode cX10_init 130 = .ok (.new 52, 3) := by decide +kernel
theorem dX10_init_133 : decode cX10_init 133 = .ok (.dup, 1) := by decide +kernel
theorem dX10_init_134 : decode cX10_init 134 = .ok (.invokespecial 54, 3) := by decide +kernel
theorem dX10_init_137 : decode cX10_init 137 = .ok (.putfield 55, 3) := by decide +kernel
theorem dX10_init_140 : decode cX10_init 140 = .ok (.aload_n 0, 1) := by decide +kernel
theorem dX10_init_141 : decode cX10_init 141 = .ok (.lconst 0, 1) := by decide +kernel
theorem dX10_init_142 : decode cX10_init 142 = .ok (.putfield 59, 3) := by decide +kernel
theorem dX10_init_145 : decode cX10_init 145 = .ok (.aload_n 0, 1) := by decide +kernel
theorem dX10_init_146 : decode cX10_init 146 = .ok (.lconst 1, 1) := by decide +kernel
theorem dX10_init_147 : decode cX10_init 147 = .ok (.putfield 63, 3) := by decide +kernel
theorem dX10_init_150 : decode cX10_init 150 = .ok (.return_, 1) := by decide +kernel
theorem dX10_book_0 : decode cX10_book 0 = .ok (.iload_n 1, 1) := by decide +kernel
theorem dX10_book_1 : decode cX10_book 1 = .ok (.iconst 0, 1) := by decide +kernel
theorem dX10_book_2 : decode cX10_book 2 = .ok (.sipush 255, 3) := by decide +kernel
theorem dX10_book_5 : decode cX10_book 5 = .ok (.invokestatic 66, 3) := by decide +kernel
theorem dX10_book_8 : decode cX10_book 8 = .ok (.ifCond .ne 8, 3) := by decide +kernel
theorem dX10_book_11 : decode cX10_book 11 = .ok (.aload_n 0, 1) := by decide +kernel
theorem dX10_book_12 : decode cX10_book 12 = .ok (.invokevirtual 70, 3) := by decide +kernel
theorem dX10_book_15 : decode cX10_book 15 = .ok (.ireturn, 1) := by decide +kernel
theorem dX10_book_16 : decode cX10_book 16 = .ok (.aload_n 0, 1) := by decide +kernel
theorem dX10_book_17 : decode cX10_book 17 = .ok (.getfield 32, 3) := by decide +kernel
theorem dX10_book_20 : decode cX10_book 20 = .ok (.getfield 74, 3) := by decide +kernel
theorem dX10_book_23 : decode cX10_book 23 = .ok (.getfield 78, 3) := by decide +kernel
theorem dX10_book_26 : decode cX10_book 26 = .ok (.istore_n 2, 1) := by decide +kernel
theorem dX10_book_27 : decode cX10_book 27 = .ok (.aload_n 0, 1) := by decide +kernel
theorem dX10_book_28 : decode cX10_book 28 = .ok (.getfield 32, 3) := by decide +kernel
theorem dX10_book_31 : decode cX10_book 31 = .ok (.iload_n 1, 1) := by decide +kernel
theorem dX10_book_32 : decode cX10_book 32 = .ok (.invokevirtual 84, 3) := by decide +kernel
theorem dX10_book_35 : decode cX10_book 35 = .ok (.iload_n 2, 1) := by decide +kernel
theorem dX10_book_36 : decode cX10_book 36 = .ok (.ireturn, 1) := by decide +kernel
theorem dX10_fiction_0 : decode cX10_fiction 0 = .ok (.iload_n 1, 1) := by decide +kernel
theorem dX10_fiction_1 : decode cX10_fiction 1 = .ok (.iconst 0, 1) := by decide +kernel
theorem dX10_fiction_2 : decode cX10_fiction 2 = .ok (.iconst 5, 1) := by decide +kernel
theorem dX10_fiction_3 : decode cX10_fiction 3 = .ok (.invokestatic 66, 3) := by decide +kernel
theorem dX10_fiction_6 : decode cX10_fiction 6 = .ok (.ifCond .eq 35, 3) := by decide +kernel
theorem dX10_fiction_9 : decode cX10_fiction 9 = .ok (.iload_n 2, 1) := by decide +kernel
theorem dX10_fiction_10 : decode cX10_fiction 10 = .ok (.iconst 0, 1) := by decide +kernel
theorem dX10_fiction_11 : decode cX10_fiction 11 = .ok (.sipush 255, 3) := by decide +kernel
theorem dX10_fiction_14 : decode cX10_fiction 14 = .ok (.invokestatic 66, 3) := by decide +kernel
theorem dX10_fiction_17 : decode cX10_fiction 17 = .ok (.ifCond .eq 24, 3) := by decide +kernel
theorem dX10_fiction_20 : decode cX10_fiction 20 = .ok (.iload_n 3, 1) := by decide +kernel
theorem dX10_fiction_21 : decode cX10_fiction 21 = .ok (.iconst 0, 1) := by decide +kernel
theorem dX10_fiction_22 : decode cX10_fiction 22 = .ok (.bipush 7, 2) := by decide +kernel
theorem dX10_fiction_24 : decode cX10_fiction 24 = .ok (.invokestatic 66, 3) := by decide +kernel
theorem dX10_fiction_27 : decode cX10_fiction 27 = .ok (.ifCond .eq 14, 3) := by decide +kernel
theorem dX10_fiction_30 : decode cX10_fiction 30 = .ok (.iload 4, 2) := by decide +kernel
theorem dX10_fiction_32 : decode cX10_fiction 32 = .ok (.iconst 0, 1) := by decide +kernel
theorem dX10_fiction_33 : decode cX10_fiction 33 = .ok (.bipush 20, 2) := by decide +kernel
theorem dX10_fiction_35 : decode cX10_fiction 35 = .ok (.invokestatic 66, 3) := by decide +kernel
theorem dX10_fiction_38 : decode cX10_fiction 38 = .ok (.ifCond .ne 8, 3) := by decide +kernel
theorem dX10_fiction_41 : decode cX10_fiction 41 = .ok (.aload_n 0, 1) := by decide +kernel
theorem dX10_fiction_42 : decode cX10_fiction 42 = .ok (.invokevirtual 70, 3) := by decide +kernel
theorem dX10_fiction_45 : decode cX10_fiction 45 = .ok (.ireturn, 1) := by decide +kernel
theorem dX10_fiction_46 : decode cX10_fiction 46 = .ok (.aload_n 0, 1) := by decide +kernel
theorem dX10_fiction_47 : decode cX10_fiction 47 = .ok (.getfield 32, 3) := by decide +kernel
theorem dX10_fiction_50 : decode cX10_fiction 50 = .ok (.getfield 74, 3) := by decide +kernel
theorem dX10_fiction_53 : decode cX10_fiction 53 = .ok (.invokevirtual 88, 3) := by decide +kernel
theorem dX10_fiction_56 : decode cX10_fiction 56 = .ok (.ifCond .eq 8, 3) := by decide +kernel
theorem dX10_fiction_59 : decode cX10_fiction 59 = .ok (.aload_n 0, 1) := by decide +kernel
theorem dX10_fiction_60 : decode cX10_fiction 60 = .ok (.invokevirtual 92, 3) := by decide +kernel
theorem dX10_fiction_63 : decode cX10_fiction 63 = .ok (.ireturn, 1) := by decide +kernel
theorem dX10_fiction_64 : decode cX10_fiction 64 = .ok (.aload_n 0, 1) := by decide +kernel
theorem dX10_fiction_65 : decode cX10_fiction 65 = .ok (.getfield 32, 3) := by decide +kernel
theorem dX10_fiction_68 : decode cX10_fiction 68 = .ok (.getfield 74, 3) := by decide +kernel
theorem dX10_fiction_71 : decode cX10_fiction 71 = .ok (.iload_n 1, 1) := by decide +kernel
theorem dX10_fiction_72 : decode cX10_fiction 72 = .ok (.iload_n 2, 1) := by decide +kernel
theorem dX10_fiction_73 : decode cX10_fiction 73 = .ok (.iload_n 3, 1) := by decide +kernel
theorem dX10_fiction_74 : decode cX10_fiction 74 = .ok (.iload 4, 2) := by decide +kernel
theorem dX10_fiction_76 : decode cX10_fiction 76 = .ok (.invokevirtual 95, 3) := by decide +kernel
theorem dX10_fiction_79 : decode cX10_fiction 79 = .ok (.aload_n 0, 1) := by decide +kernel
theorem dX10_fiction_80 : decode cX10_fiction 80 = .ok (.getfield 32, 3) := by decide +kernel
theorem dX10_fiction_83 : decode cX10_fiction 83 = .ok (.getfield 99, 3) := by decide +kernel
theorem dX10_fiction_86 : decode cX10_fiction 86 = .ok (.invokevirtual 102, 3) := by decide +kernel
theorem dX10_fiction_89 : decode cX10_fiction 89 = .ok (.aload_n 0, 1) := by decide +kernel
theorem dX10_fiction_90 : decode cX10_fiction 90 = .ok (.getfield 32, 3) := by decide +kernel
theorem dX10_fiction_93 : decode cX10_fiction 93 = .ok (.getfield 74, 3) := by decide +kernel
theorem dX10_fiction_96 : decode cX10_fiction 96 = .ok (.getfield 78, 3) := by decide +kernel
theorem dX10_fiction_99 : decode cX10_fiction 99 = .ok (.iconst 1, 1) := by decide +kernel
theorem dX10_fiction_100 : decode cX10_fiction 100 = .ok (.isub, 1) := by decide +kernel
theorem dX10_fiction_101 : decode cX10_fiction 101 = .ok (.ireturn, 1) := by decide +kernel
theorem dX10_court_0 : decode cX10_court 0 = .ok (.iload_n 1, 1) := by decide +kernel
theorem dX10_court_1 : decode cX10_court 1 = .ok (.iconst 0, 1) := by decide +kernel
theorem dX10_court_2 : decode cX10_court 2 = .ok (.sipush 255, 3) := by decide +kernel
theorem dX10_court_5 : decode cX10_court 5 = .ok (.invokestatic 66, 3) := by decide +kernel
theorem dX10_court_8 : decode cX10_court 8 = .ok (.ifCond .eq 13, 3) := by decide +kernel
theorem dX10_court_11 : decode cX10_court 11 = .ok (.iload_n 2, 1) := by decide +kernel
theorem dX10_court_12 : decode cX10_court 12 = .ok (.iconst 0, 1) := by decide +kernel
theorem dX10_court_13 : decode cX10_court 13 = .ok (.bipush 20, 2) := by decide +kernel
theorem dX10_court_15 : decode cX10_court 15 = .ok (.invokestatic 66, 3) := by decide +kernel
theorem dX10_court_18 : decode cX10_court 18 = .ok (.ifCond .ne 8, 3) := by decide +kernel
theorem dX10_court_21 : decode cX10_court 21 = .ok (.aload_n 0, 1) := by decide +kernel
theorem dX10_court_22 : decode cX10_court 22 = .ok (.invokevirtual 70, 3) := by decide +kernel
theorem dX10_court_25 : decode cX10_court 25 = .ok (.ireturn, 1) := by decide +kernel
theorem dX10_court_26 : decode cX10_court 26 = .ok (.aload_n 0, 1) := by decide +kernel
theorem dX10_court_27 : decode cX10_court 27 = .ok (.getfield 32, 3) := by decide +kernel
theorem dX10_court_30 : decode cX10_court 30 = .ok (.getfield 105, 3) := by decide +kernel
theorem dX10_court_33 : decode cX10_court 33 = .ok (.invokevirtual 88, 3) := by decide +kernel
theorem dX10_court_36 : decode cX10_court 36 = .ok (.ifCond .eq 8, 3) := by decide +kernel
theorem dX10_court_39 : decode cX10_court 39 = .ok (.aload_n 0, 1) := by decide +kernel
theorem dX10_court_40 : decode cX10_court 40 = .ok (.invokevirtual 92, 3) := by decide +kernel
theorem dX10_court_43 : decode cX10_court 43 = .ok (.ireturn, 1) := by decide +kernel
theorem dX10_court_44 : decode cX10_court 44 = .ok (.aload_n 0, 1) := by decide +kernel
theorem dX10_court_45 : decode cX10_court 45 = .ok (.getfield 32, 3) := by decide +kernel
theorem dX10_court_48 : decode cX10_court 48 = .ok (.getfield 105, 3) := by decide +kernel
theorem dX10_court_51 : decode cX10_court 51 = .ok (.iload_n 1, 1) := by decide +kernel
theorem dX10_court_52 : decode cX10_court 52 = .ok (.iload_n 2, 1) := by decide +kernel
theorem dX10_court_53 : decode cX10_court 53 = .ok (.iconst 0, 1) := by decide +kernel
theorem dX10_court_54 : decode cX10_court 54 = .ok (.iconst 0, 1) := by decide +kernel
theorem dX10_court_55 : decode cX10_court 55 = .ok (.invokevirtual 95, 3) := by decide +kernel
theorem dX10_court_58 : decode cX10_court 58 = .ok (.aload_n 0, 1) := by decide +kernel
theorem dX10_court_59 : decode cX10_court 59 = .ok (.getfield 32, 3) := by decide +kernel
theorem dX10_court_62 : decode cX10_court 62 = .ok (.getfield 99, 3) := by decide +kernel
theorem dX10_court_65 : decode cX10_court 65 = .ok (.invokevirtual 102, 3) := by decide +kernel
theorem dX10_court_68 : decode cX10_court 68 = .ok (.aload_n 0, 1) := by decide +kernel
theorem dX10_court_69 : decode cX10_court 69 = .ok (.getfield 32, 3) := by decide +kernel
theorem dX10_court_72 : decode cX10_court 72 = .ok (.getfield 105, 3) := by decide +kernel
theorem dX10_court_75 : decode cX10_court 75 = .ok (.getfield 78, 3) := by decide +kernel
theorem dX10_court_78 : decode cX10_court 78 = .ok (.iconst 1, 1) := by decide +kernel
theorem dX10_court_79 : decode cX10_court 79 = .ok (.isub, 1) := by decide +kernel
theorem dX10_court_80 : decode cX10_court 80 = .ok (.ireturn, 1) := by decide +kernel
theorem dX10_type_0 : decode cX10_type 0 = .ok (.iload_n 1, 1) := by decide +kernel
theorem dX10_type_1 : decode cX10_type 1 = .ok (.iconst 0, 1) := by decide +kernel
theorem dX10_type_2 : decode cX10_type 2 = .ok (.bipush 127, 2) := by decide +kernel
theorem dX10_type_4 : decode cX10_type 4 = .ok (.invokestatic 66, 3) := by decide +kernel
theorem dX10_type_7 : decode cX10_type 7 = .ok (.ifCond .ne 8, 3) := by decide +kernel
theorem dX10_type_10 : decode cX10_type 10 = .ok (.aload_n 0, 1) := by decide +kernel
theorem dX10_type_11 : decode cX10_type 11 = .ok (.invokevirtual 70, 3) := by decide +kernel
theorem dX10_type_14 : decode cX10_type 14 = .ok (.ireturn, 1) := by decide +kernel
theorem dX10_type_15 : decode cX10_type 15 = .ok (.aload_n 0, 1) := by decide +kernel
theorem dX10_type_16 : decode cX10_type 16 = .ok (.getfield 48, 3) := by decide +kernel
theorem dX10_type_19 : decode cX10_type 19 = .ok (.invokevirtual 108, 3) := by decide +kernel
theorem dX10_type_22 : decode cX10_type 22 = .ok (.ifCond .eq 8, 3) := by decide +kernel
theorem dX10_type_25 : decode cX10_type 25 = .ok (.aload_n 0, 1) := by decide +kernel
theorem dX10_type_26 : decode cX10_type 26 = .ok (.invokevirtual 92, 3) := by decide +kernel
theorem dX10_type_29 : decode cX10_type 29 = .ok (.ireturn, 1) := by decide +kernel
theorem dX10_type_30 : decode cX10_type 30 = .ok (.aload_n 0, 1) := by decide +kernel
theorem dX10_type_31 : decode cX10_type 31 = .ok (.getfield 48, 3) := by decide +kernel
theorem dX10_type_34 : decode cX10_type 34 = .ok (.iload_n 1, 1) := by decide +kernel
theorem dX10_type_35 : decode cX10_type 35 = .ok (.invokevirtual 109, 3) := by decide +kernel
theorem dX10_type_38 : decode cX10_type 38 = .ok (.aload_n 0, 1) := by decide +kernel
theorem dX10_type_39 : decode cX10_type 39 = .ok (.getfield 48, 3) := by decide +kernel
theorem dX10_type_42 : decode cX10_type 42 = .ok (.getfield 111, 3) := by decide +kernel
theorem dX10_type_45 : decode cX10_type 45 = .ok (.ireturn, 1) := by decide +kernel
theorem dX10_clear_0 : decode cX10_clear 0 = .ok (.aload_n 0, 1) := by decide +kernel
theorem dX10_clear_1 : decode cX10_clear 1 = .ok (.getfield 48, 3) := by decide +kernel
theorem dX10_clear_4 : decode cX10_clear 4 = .ok (.getfield 111, 3) := by decide +kernel
theorem dX10_clear_7 : decode cX10_clear 7 = .ok (.istore_n 1, 1) := by decide +kernel
theorem dX10_clear_8 : decode cX10_clear 8 = .ok (.aload_n 0, 1) := by decide +kernel
theorem dX10_clear_9 : decode cX10_clear 9 = .ok (.getfield 48, 3) := by decide +kernel
theorem dX10_clear_12 : decode cX10_clear 12 = .ok (.iconst 0, 1) := by decide +kernel
theorem dX10_clear_13 : decode cX10_clear 13 = .ok (.putfield 111, 3) := by decide +kernel
theorem dX10_clear_16 : decode cX10_clear 16 = .ok (.iload_n 1, 1) := by decide +kernel
theorem dX10_clear_17 : decode cX10_clear 17 = .ok (.ireturn, 1) := by decide +kernel
theorem dX10_read_0 : decode cX10_read 0 = .ok (.aload_n 0, 1) := by decide +kernel
theorem dX10_read_1 : decode cX10_read 1 = .ok (.getfield 48, 3) := by decide +kernel
theorem dX10_read_4 : decode cX10_read 4 = .ok (.aload_n 0, 1) := by decide +kernel
theorem dX10_read_5 : decode cX10_read 5 = .ok (.getfield 36, 3) := by decide +kernel
theorem dX10_read_8 : decode cX10_read 8 = .ok (.invokevirtual 114, 3) := by decide +kernel
theorem dX10_read_11 : decode cX10_read 11 = .ok (.istore_n 1, 1) := by decide +kernel
theorem dX10_read_12 : decode cX10_read 12 = .ok (.iload_n 1, 1) := by decide +kernel
theorem dX10_read_13 : decode cX10_read 13 = .ok (.ifCond .le 14, 3) := by decide +kernel
theorem dX10_read_16 : decode cX10_read 16 = .ok (.aload_n 0, 1) := by decide +kernel
theorem dX10_read_17 : decode cX10_read 17 = .ok (.getfield 32, 3) := by decide +kernel
theorem dX10_read_20 : decode cX10_read 20 = .ok (.aload_n 0, 1) := by decide +kernel
theorem dX10_read_21 : decode cX10_read 21 = .ok (.getfield 36, 3) := by decide +kernel
theorem dX10_read_24 : decode cX10_read 24 = .ok (.invokevirtual 118, 3) := by decide +kernel
theorem dX10_read_27 : decode cX10_read 27 = .ok (.iload_n 1, 1) := by decide +kernel
theorem dX10_read_28 : decode cX10_read 28 = .ok (.ireturn, 1) := by decide +kernel
theorem dX10_suit_0 : decode cX10_suit 0 = .ok (.aload_n 0, 1) := by decide +kernel
theorem dX10_suit_1 : decode cX10_suit 1 = .ok (.getfield 32, 3) := by decide +kernel
theorem dX10_suit_4 : decode cX10_suit 4 = .ok (.getfield 122, 3) := by decide +kernel
theorem dX10_suit_7 : decode cX10_suit 7 = .ok (.invokestatic 125, 3) := by decide +kernel
theorem dX10_suit_10 : decode cX10_suit 10 = .ok (.istore_n 1, 1) := by decide +kernel
theorem dX10_suit_11 : decode cX10_suit 11 = .ok (.aload_n 0, 1) := by decide +kernel
theorem dX10_suit_12 : decode cX10_suit 12 = .ok (.getfield 32, 3) := by decide +kernel
theorem dX10_suit_15 : decode cX10_suit 15 = .ok (.invokevirtual 131, 3) := by decide +kernel
theorem dX10_suit_18 : decode cX10_suit 18 = .ok (.iload_n 1, 1) := by decide +kernel
theorem dX10_suit_19 : decode cX10_suit 19 = .ok (.ireturn, 1) := by decide +kernel
theorem dX10_plead_0 : decode cX10_plead 0 = .ok (.aload_n 0, 1) := by decide +kernel
theorem dX10_plead_1 : decode cX10_plead 1 = .ok (.iload_n 1, 1) := by decide +kernel
theorem dX10_plead_2 : decode cX10_plead 2 = .ok (.invokevirtual 134, 3) := by decide +kernel
theorem dX10_plead_5 : decode cX10_plead 5 = .ok (.ifCond .ne 8, 3) := by decide +kernel
theorem dX10_plead_8 : decode cX10_plead 8 = .ok (.aload_n 0, 1) := by decide +kernel
theorem dX10_plead_9 : decode cX10_plead 9 = .ok (.invokevirtual 70, 3) := by decide +kernel
theorem dX10_plead_12 : decode cX10_plead 12 = .ok (.ireturn, 1) := by decide +kernel
theorem dX10_plead_13 : decode cX10_plead 13 = .ok (.aload_n 0, 1) := by decide +kernel
theorem dX10_plead_14 : decode cX10_plead 14 = .ok (.iload_n 1, 1) := by decide +kernel
theorem dX10_plead_15 : decode cX10_plead 15 = .ok (.invokevirtual 138, 3) := by decide +kernel
theorem dX10_plead_18 : decode cX10_plead 18 = .ok (.ifCond .ne 8, 3) := by decide +kernel
theorem dX10_plead_21 : decode cX10_plead 21 = .ok (.aload_n 0, 1) := by decide +kernel
theorem dX10_plead_22 : decode cX10_plead 22 = .ok (.invokevirtual 141, 3) := by decide +kernel
theorem dX10_plead_25 : decode cX10_plead 25 = .ok (.ireturn, 1) := by decide +kernel
theorem dX10_plead_26 : decode cX10_plead 26 = .ok (.aload_n 0, 1) := by decide +kernel
theorem dX10_plead_27 : decode cX10_plead 27 = .ok (.getfield 32, 3) := by decide +kernel
theorem dX10_plead_30 : decode cX10_plead 30 = .ok (.iload_n 1, 1) := by decide +kernel
theorem dX10_plead_31 : decode cX10_plead 31 = .ok (.aload_n 0, 1) := by decide +kernel
theorem dX10_plead_32 : decode cX10_plead 32 = .ok (.getfield 32, 3) := by decide +kernel
theorem dX10_plead_35 : decode cX10_plead 35 = .ok (.getfield 144, 3) := by decide +kernel
theorem dX10_plead_38 : decode cX10_plead 38 = .ok (.invokevirtual 147, 3) := by decide +kernel
theorem dX10_plead_41 : decode cX10_plead 41 = .ok (.istore_n 2, 1) := by decide +kernel
theorem dX10_plead_42 : decode cX10_plead 42 = .ok (.aload_n 0, 1) := by decide +kernel
theorem dX10_plead_43 : decode cX10_plead 43 = .ok (.getfield 32, 3) := by decide +kernel
theorem dX10_plead_46 : decode cX10_plead 46 = .ok (.invokevirtual 151, 3) := by decide +kernel
theorem dX10_plead_49 : decode cX10_plead 49 = .ok (.aload_n 0, 1) := by decide +kernel
theorem dX10_plead_50 : decode cX10_plead 50 = .ok (.getfield 32, 3) := by decide +kernel
theorem dX10_plead_53 : decode cX10_plead 53 = .ok (.dup, 1) := by decide +kernel
theorem dX10_plead_54 : decode cX10_plead 54 = .ok (.getfield 122, 3) := by decide +kernel
theorem dX10_plead_57 : decode cX10_plead 57 = .ok (.iconst 1, 1) := by decide +kernel
theorem dX10_plead_58 : decode cX10_plead 58 = .ok (.iload_n 1, 1) := by decide +kernel
theorem dX10_plead_59 : decode cX10_plead 59 = .ok (.ishl, 1) := by decide +kernel
theorem dX10_plead_60 : decode cX10_plead 60 = .ok (.ior, 1) := by decide +kernel
theorem dX10_plead_61 : decode cX10_plead 61 = .ok (.putfield 122, 3) := by decide +kernel
theorem dX10_plead_64 : decode cX10_plead 64 = .ok (.aload_n 0, 1) := by decide +kernel
theorem dX10_plead_65 : decode cX10_plead 65 = .ok (.getfield 32, 3) := by decide +kernel
theorem dX10_plead_68 : decode cX10_plead 68 = .ok (.dup, 1) := by decide +kernel
theorem dX10_plead_69 : decode cX10_plead 69 = .ok (.getfield 154, 3) := by decide +kernel
theorem dX10_plead_72 : decode cX10_plead 72 = .ok (.iload_n 2, 1) := by decide +kernel
theorem dX10_plead_73 : decode cX10_plead 73 = .ok (.iadd, 1) := by decide +kernel
theorem dX10_plead_74 : decode cX10_plead 74 = .ok (.putfield 154, 3) := by decide +kernel
theorem dX10_plead_77 : decode cX10_plead 77 = .ok (.aload_n 0, 1) := by decide +kernel
theorem dX10_plead_78 : decode cX10_plead 78 = .ok (.getfield 32, 3) := by decide +kernel
theorem dX10_plead_81 : decode cX10_plead 81 = .ok (.dup, 1) := by decide +kernel
theorem dX10_plead_82 : decode cX10_plead 82 = .ok (.getfield 144, 3) := by decide +kernel
theorem dX10_plead_85 : decode cX10_plead 85 = .ok (.iconst 1, 1) := by decide +kernel
theorem dX10_plead_86 : decode cX10_plead 86 = .ok (.iadd, 1) := by decide +kernel
theorem dX10_plead_87 : decode cX10_plead 87 = .ok (.putfield 144, 3) := by decide +kernel
theorem dX10_plead_90 : decode cX10_plead 90 = .ok (.iload_n 2, 1) := by decide +kernel
theorem dX10_plead_91 : decode cX10_plead 91 = .ok (.ireturn, 1) := by decide +kernel
theorem dX10_deny_0 : decode cX10_deny 0 = .ok (.aload_n 0, 1) := by decide +kernel
theorem dX10_deny_1 : decode cX10_deny 1 = .ok (.iload_n 1, 1) := by decide +kernel
theorem dX10_deny_2 : decode cX10_deny 2 = .ok (.invokevirtual 134, 3) := by decide +kernel
theorem dX10_deny_5 : decode cX10_deny 5 = .ok (.ifCond .ne 8, 3) := by decide +kernel
theorem dX10_deny_8 : decode cX10_deny 8 = .ok (.aload_n 0, 1) := by decide +kernel
theorem dX10_deny_9 : decode cX10_deny 9 = .ok (.invokevirtual 70, 3) := by decide +kernel
theorem dX10_deny_12 : decode cX10_deny 12 = .ok (.ireturn, 1) := by decide +kernel
theorem dX10_deny_13 : decode cX10_deny 13 = .ok (.aload_n 0, 1) := by decide +kernel
theorem dX10_deny_14 : decode cX10_deny 14 = .ok (.iload_n 1, 1) := by decide +kernel
theorem dX10_deny_15 : decode cX10_deny 15 = .ok (.invokevirtual 157, 3) := by decide +kernel
theorem dX10_deny_18 : decode cX10_deny 18 = .ok (.ifCond .ne 8, 3) := by decide +kernel
theorem dX10_deny_21 : decode cX10_deny 21 = .ok (.aload_n 0, 1) := by decide +kernel
theorem dX10_deny_22 : decode cX10_deny 22 = .ok (.invokevirtual 141, 3) := by decide +kernel
theorem dX10_deny_25 : decode cX10_deny 25 = .ok (.ireturn, 1) := by decide +kernel
theorem dX10_deny_26 : decode cX10_deny 26 = .ok (.aload_n 0, 1) := by decide +kernel
theorem dX10_deny_27 : decode cX10_deny 27 = .ok (.getfield 32, 3) := by decide +kernel
theorem dX10_deny_30 : decode cX10_deny 30 = .ok (.invokevirtual 151, 3) := by decide +kernel
theorem dX10_deny_33 : decode cX10_deny 33 = .ok (.aload_n 0, 1) := by decide +kernel
theorem dX10_deny_34 : decode cX10_deny 34 = .ok (.getfield 32, 3) := by decide +kernel
theorem dX10_deny_37 : decode cX10_deny 37 = .ok (.iload_n 1, 1) := by decide +kernel
theorem dX10_deny_38 : decode cX10_deny 38 = .ok (.invokevirtual 160, 3) := by decide +kernel
theorem dX10_deny_41 : decode cX10_deny 41 = .ok (.ifCond .ne 5, 3) := by decide +kernel
theorem dX10_deny_44 : decode cX10_deny 44 = .ok (.iconst 0, 1) := by decide +kernel
theorem dX10_deny_45 : decode cX10_deny 45 = .ok (.ireturn, 1) := by decide +kernel
theorem dX10_deny_46 : decode cX10_deny 46 = .ok (.aload_n 0, 1) := by decide +kernel
theorem dX10_deny_47 : decode cX10_deny 47 = .ok (.getfield 32, 3) := by decide +kernel
theorem dX10_deny_50 : decode cX10_deny 50 = .ok (.dup, 1) := by decide +kernel
theorem dX10_deny_51 : decode cX10_deny 51 = .ok (.getfield 122, 3) := by decide +kernel
theorem dX10_deny_54 : decode cX10_deny 54 = .ok (.iconst 1, 1) := by decide +kernel
theorem dX10_deny_55 : decode cX10_deny 55 = .ok (.iload_n 1, 1) := by decide +kernel
theorem dX10_deny_56 : decode cX10_deny 56 = .ok (.ishl, 1) := by decide +kernel
theorem dX10_deny_57 : decode cX10_deny 57 = .ok (.iconst (-1), 1) := by decide +kernel
theorem dX10_deny_58 : decode cX10_deny 58 = .ok (.ixor, 1) := by decide +kernel
theorem dX10_deny_59 : decode cX10_deny 59 = .ok (.iand, 1) := by decide +kernel
theorem dX10_deny_60 : decode cX10_deny 60 = .ok (.putfield 122, 3) := by decide +kernel
theorem dX10_deny_63 : decode cX10_deny 63 = .ok (.iconst 1, 1) := by decide +kernel
theorem dX10_deny_64 : decode cX10_deny 64 = .ok (.ireturn, 1) := by decide +kernel
theorem dX10_undo_0 : decode cX10_undo 0 = .ok (.aload_n 0, 1) := by decide +kernel
theorem dX10_undo_1 : decode cX10_undo 1 = .ok (.getfield 32, 3) := by decide +kernel
theorem dX10_undo_4 : decode cX10_undo 4 = .ok (.getfield 99, 3) := by decide +kernel
theorem dX10_undo_7 : decode cX10_undo 7 = .ok (.getfield 78, 3) := by decide +kernel
theorem dX10_undo_10 : decode cX10_undo 10 = .ok (.ifCond .ne 8, 3) := by decide +kernel
theorem dX10_undo_13 : decode cX10_undo 13 = .ok (.aload_n 0, 1) := by decide +kernel
theorem dX10_undo_14 : decode cX10_undo 14 = .ok (.invokevirtual 141, 3) := by decide +kernel
theorem dX10_undo_17 : decode cX10_undo 17 = .ok (.ireturn, 1) := by decide +kernel
theorem dX10_undo_18 : decode cX10_undo 18 = .ok (.aload_n 0, 1) := by decide +kernel
theorem dX10_undo_19 : decode cX10_undo 19 = .ok (.getfield 32, 3) := by decide +kernel
theorem dX10_undo_22 : decode cX10_undo 22 = .ok (.invokevirtual 163, 3) := by decide +kernel
theorem dX10_undo_25 : decode cX10_undo 25 = .ok (.aload_n 0, 1) := by decide +kernel
theorem dX10_undo_26 : decode cX10_undo 26 = .ok (.getfield 32, 3) := by decide +kernel
theorem dX10_undo_29 : decode cX10_undo 29 = .ok (.getfield 144, 3) := by decide +kernel
theorem dX10_undo_32 : decode cX10_undo 32 = .ok (.ireturn, 1) := by decide +kernel
theorem dX10_of_0 : decode cX10_of 0 = .ok (.aload_n 0, 1) := by decide +kernel
theorem dX10_of_1 : decode cX10_of 1 = .ok (.iload_n 1, 1) := by decide +kernel
theorem dX10_of_2 : decode cX10_of 2 = .ok (.invokevirtual 134, 3) := by decide +kernel
theorem dX10_of_5 : decode cX10_of 5 = .ok (.ifCond .eq 13, 3) := by decide +kernel
theorem dX10_of_8 : decode cX10_of 8 = .ok (.iload_n 2, 1) := by decide +kernel
theorem dX10_of_9 : decode cX10_of 9 = .ok (.iconst 0, 1) := by decide +kernel
theorem dX10_of_10 : decode cX10_of 10 = .ok (.bipush 7, 2) := by decide +kernel
theorem dX10_of_12 : decode cX10_of 12 = .ok (.invokestatic 66, 3) := by decide +kernel
theorem dX10_of_15 : decode cX10_of 15 = .ok (.ifCond .ne 8, 3) := by decide +kernel
theorem dX10_of_18 : decode cX10_of 18 = .ok (.aload_n 0, 1) := by decide +kernel
theorem dX10_of_19 : decode cX10_of 19 = .ok (.invokevirtual 70, 3) := by decide +kernel
theorem dX10_of_22 : decode cX10_of 22 = .ok (.ireturn, 1) := by decide +kernel
theorem dX10_of_23 : decode cX10_of 23 = .ok (.iload_n 2, 1) := by decide +kernel
theorem dX10_of_24 : decode cX10_of 24 = .ok (.tableswitch 93 4 7 #[32, 46, 60, 76], 32) := by decide +kernel
theorem dX10_of_56 : decode cX10_of 56 = .ok (.aload_n 0, 1) := by decide +kernel
theorem dX10_of_57 : decode cX10_of 57 = .ok (.iload_n 1, 1) := by decide +kernel
theorem dX10_of_58 : decode cX10_of 58 = .ok (.invokevirtual 157, 3) := by decide +kernel
theorem dX10_of_61 : decode cX10_of 61 = .ok (.ifCond .eq 7, 3) := by decide +kernel
theorem dX10_of_64 : decode cX10_of 64 = .ok (.iconst 1, 1) := by decide +kernel
theorem dX10_of_65 : decode cX10_of 65 = .ok (.goto 4, 3) := by decide +kernel
theorem dX10_of_68 : decode cX10_of 68 = .ok (.iconst 0, 1) := by decide +kernel
theorem dX10_of_69 : decode cX10_of 69 = .ok (.ireturn, 1) := by decide +kernel
theorem dX10_of_70 : decode cX10_of 70 = .ok (.aload_n 0, 1) := by decide +kernel
theorem dX10_of_71 : decode cX10_of 71 = .ok (.iload_n 1, 1) := by decide +kernel
theorem dX10_of_72 : decode cX10_of 72 = .ok (.invokevirtual 138, 3) := by decide +kernel
theorem dX10_of_75 : decode cX10_of 75 = .ok (.ifCond .eq 7, 3) := by decide +kernel
theorem dX10_of_78 : decode cX10_of 78 = .ok (.iconst 1, 1) := by decide +kernel
theorem dX10_of_79 : decode cX10_of 79 = .ok (.goto 4, 3) := by decide +kernel
theorem dX10_of_82 : decode cX10_of 82 = .ok (.iconst 0, 1) := by decide +kernel
theorem dX10_of_83 : decode cX10_of 83 = .ok (.ireturn, 1) := by decide +kernel
theorem dX10_of_84 : decode cX10_of 84 = .ok (.aload_n 0, 1) := by decide +kernel
theorem dX10_of_85 : decode cX10_of 85 = .ok (.getfield 32, 3) := by decide +kernel
theorem dX10_of_88 : decode cX10_of 88 = .ok (.iload_n 1, 1) := by decide +kernel
theorem dX10_of_89 : decode cX10_of 89 = .ok (.aload_n 0, 1) := by decide +kernel
theorem dX10_of_90 : decode cX10_of 90 = .ok (.getfield 32, 3) := by decide +kernel
theorem dX10_of_93 : decode cX10_of 93 = .ok (.getfield 144, 3) := by decide +kernel
theorem dX10_of_96 : decode cX10_of 96 = .ok (.invokevirtual 147, 3) := by decide +kernel
theorem dX10_of_99 : decode cX10_of 99 = .ok (.ireturn, 1) := by decide +kernel
theorem dX10_of_100 : decode cX10_of 100 = .ok (.aload_n 0, 1) := by decide +kernel
theorem dX10_of_101 : decode cX10_of 101 = .ok (.getfield 32, 3) := by decide +kernel
theorem dX10_of_104 : decode cX10_of 104 = .ok (.iload_n 1, 1) := by decide +kernel
theorem dX10_of_105 : decode cX10_of 105 = .ok (.invokevirtual 160, 3) := by decide +kernel
theorem dX10_of_108 : decode cX10_of 108 = .ok (.ifCond .eq 7, 3) := by decide +kernel
theorem dX10_of_111 : decode cX10_of 111 = .ok (.iconst 1, 1) := by decide +kernel
theorem dX10_of_112 : decode cX10_of 112 = .ok (.goto 4, 3) := by decide +kernel
theorem dX10_of_115 : decode cX10_of 115 = .ok (.iconst 0, 1) := by decide +kernel
theorem dX10_of_116 : decode cX10_of 116 = .ok (.ireturn, 1) := by decide +kernel
theorem dX10_of_117 : decode cX10_of 117 = .ok (.aload_n 0, 1) := by decide +kernel
theorem dX10_of_118 : decode cX10_of 118 = .ok (.getfield 32, 3) := by decide +kernel
theorem dX10_of_121 : decode cX10_of 121 = .ok (.getfield 74, 3) := by decide +kernel
theorem dX10_of_124 : decode cX10_of 124 = .ok (.iload_n 1, 1) := by decide +kernel
theorem dX10_of_125 : decode cX10_of 125 = .ok (.iload_n 2, 1) := by decide +kernel
theorem dX10_of_126 : decode cX10_of 126 = .ok (.invokevirtual 166, 3) := by decide +kernel
theorem dX10_of_129 : decode cX10_of 129 = .ok (.ireturn, 1) := by decide +kernel
theorem dX10_now_0 : decode cX10_now 0 = .ok (.iload_n 1, 1) := by decide +kernel
theorem dX10_now_1 : decode cX10_now 1 = .ok (.tableswitch 72 0 4 #[35, 40, 48, 56, 64], 35) := by decide +kernel
theorem dX10_now_36 : decode cX10_now 36 = .ok (.aload_n 0, 1) := by decide +kernel
theorem dX10_now_37 : decode cX10_now 37 = .ok (.invokevirtual 169, 3) := by decide +kernel
theorem dX10_now_40 : decode cX10_now 40 = .ok (.ireturn, 1) := by decide +kernel
theorem dX10_now_41 : decode cX10_now 41 = .ok (.aload_n 0, 1) := by decide +kernel
theorem dX10_now_42 : decode cX10_now 42 = .ok (.getfield 32, 3) := by decide +kernel
theorem dX10_now_45 : decode cX10_now 45 = .ok (.getfield 122, 3) := by decide +kernel
theorem dX10_now_48 : decode cX10_now 48 = .ok (.ireturn, 1) := by decide +kernel
theorem dX10_now_49 : decode cX10_now 49 = .ok (.aload_n 0, 1) := by decide +kernel
theorem dX10_now_50 : decode cX10_now 50 = .ok (.getfield 32, 3) := by decide +kernel
theorem dX10_now_53 : decode cX10_now 53 = .ok (.getfield 144, 3) := by decide +kernel
theorem dX10_now_56 : decode cX10_now 56 = .ok (.ireturn, 1) := by decide +kernel
theorem dX10_now_57 : decode cX10_now 57 = .ok (.aload_n 0, 1) := by decide +kernel
theorem dX10_now_58 : decode cX10_now 58 = .ok (.getfield 32, 3) := by decide +kernel
theorem dX10_now_61 : decode cX10_now 61 = .ok (.getfield 154, 3) := by decide +kernel
theorem dX10_now_64 : decode cX10_now 64 = .ok (.ireturn, 1) := by decide +kernel
theorem dX10_now_65 : decode cX10_now 65 = .ok (.aload_n 0, 1) := by decide +kernel
theorem dX10_now_66 : decode cX10_now 66 = .ok (.getfield 32, 3) := by decide +kernel
theorem dX10_now_69 : decode cX10_now 69 = .ok (.getfield 172, 3) := by decide +kernel
theorem dX10_now_72 : decode cX10_now 72 = .ok (.ireturn, 1) := by decide +kernel
theorem dX10_now_73 : decode cX10_now 73 = .ok (.aload_n 0, 1) := by decide +kernel
theorem dX10_now_74 : decode cX10_now 74 = .ok (.invokevirtual 70, 3) := by decide +kernel
theorem dX10_now_77 : decode cX10_now 77 = .ok (.ireturn, 1) := by decide +kernel
theorem dX10_may_0 : decode cX10_may 0 = .ok (.iconst 0, 1) := by decide +kernel
theorem dX10_may_1 : decode cX10_may 1 = .ok (.istore_n 1, 1) := by decide +kernel
theorem dX10_may_2 : decode cX10_may 2 = .ok (.iconst 0, 1) := by decide +kernel
theorem dX10_may_3 : decode cX10_may 3 = .ok (.istore_n 2, 1) := by decide +kernel
theorem dX10_may_4 : decode cX10_may 4 = .ok (.iload_n 2, 1) := by decide +kernel
theorem dX10_may_5 : decode cX10_may 5 = .ok (.bipush 6, 2) := by decide +kernel
theorem dX10_may_7 : decode cX10_may 7 = .ok (.if_icmp .ge 31, 3) := by decide +kernel
theorem dX10_may_10 : decode cX10_may 10 = .ok (.aload_n 0, 1) := by decide +kernel
theorem dX10_may_11 : decode cX10_may 11 = .ok (.iload_n 2, 1) := by decide +kernel
theorem dX10_may_12 : decode cX10_may 12 = .ok (.invokevirtual 134, 3) := by decide +kernel
theorem dX10_may_15 : decode cX10_may 15 = .ok (.ifCond .eq 17, 3) := by decide +kernel
theorem dX10_may_18 : decode cX10_may 18 = .ok (.aload_n 0, 1) := by decide +kernel
theorem dX10_may_19 : decode cX10_may 19 = .ok (.iload_n 2, 1) := by decide +kernel
theorem dX10_may_20 : decode cX10_may 20 = .ok (.invokevirtual 138, 3) := by decide +kernel
theorem dX10_may_23 : decode cX10_may 23 = .ok (.ifCond .eq 9, 3) := by decide +kernel
theorem dX10_may_26 : decode cX10_may 26 = .ok (.iload_n 1, 1) := by decide +kernel
theorem dX10_may_27 : decode cX10_may 27 = .ok (.iconst 1, 1) := by decide +kernel
theorem dX10_may_28 : decode cX10_may 28 = .ok (.iload_n 2, 1) := by decide +kernel
theorem dX10_may_29 : decode cX10_may 29 = .ok (.ishl, 1) := by decide +kernel
theorem dX10_may_30 : decode cX10_may 30 = .ok (.ior, 1) := by decide +kernel
theorem dX10_may_31 : decode cX10_may 31 = .ok (.istore_n 1, 1) := by decide +kernel
theorem dX10_may_32 : decode cX10_may 32 = .ok (.iinc 2 1, 3) := by decide +kernel
theorem dX10_may_35 : decode cX10_may 35 = .ok (.goto (-31), 3) := by decide +kernel
theorem dX10_may_38 : decode cX10_may 38 = .ok (.iload_n 1, 1) := by decide +kernel
theorem dX10_may_39 : decode cX10_may 39 = .ok (.ireturn, 1) := by decide +kernel
theorem dX10_hear_0 : decode cX10_hear 0 = .ok (.aload_n 0, 1) := by decide +kernel
theorem dX10_hear_1 : decode cX10_hear 1 = .ok (.getfield 32, 3) := by decide +kernel
theorem dX10_hear_4 : decode cX10_hear 4 = .ok (.aload_n 0, 1) := by decide +kernel
theorem dX10_hear_5 : decode cX10_hear 5 = .ok (.invokevirtual 169, 3) := by decide +kernel
theorem dX10_hear_8 : decode cX10_hear 8 = .ok (.invokevirtual 175, 3) := by decide +kernel
theorem dX10_hear_11 : decode cX10_hear 11 = .ok (.ireturn, 1) := by decide +kernel
theorem dX10_least_0 : decode cX10_least 0 = .ok (.aload_n 0, 1) := by decide +kernel
theorem dX10_least_1 : decode cX10_least 1 = .ok (.iload_n 1, 1) := by decide +kernel
theorem dX10_least_2 : decode cX10_least 2 = .ok (.invokevirtual 178, 3) := by decide +kernel
theorem dX10_least_5 : decode cX10_least 5 = .ok (.ifCond .eq 17, 3) := by decide +kernel
theorem dX10_least_8 : decode cX10_least 8 = .ok (.iload_n 2, 1) := by decide +kernel
theorem dX10_least_9 : decode cX10_least 9 = .ok (.iconst 0, 1) := by decide +kernel
theorem dX10_least_10 : decode cX10_least 10 = .ok (.iconst 1, 1) := by decide +kernel
theorem dX10_least_11 : decode cX10_least 11 = .ok (.invokestatic 66, 3) := by decide +kernel
theorem dX10_least_14 : decode cX10_least 14 = .ok (.ifCond .eq 8, 3) := by decide +kernel
theorem dX10_least_17 : decode cX10_least 17 = .ok (.iload_n 3, 1) := by decide +kernel
theorem dX10_least_18 : decode cX10_least 18 = .ok (.iconst (-1), 1) := by decide +kernel
theorem dX10_least_19 : decode cX10_least 19 = .ok (.if_icmp .ge 11, 3) := by decide +kernel
theorem dX10_least_22 : decode cX10_least 22 = .ok (.aload_n 0, 1) := by decide +kernel
theorem dX10_least_23 : decode cX10_least 23 = .ok (.invokevirtual 70, 3) := by decide +kernel
theorem dX10_least_26 : decode cX10_least 26 = .ok (.pop, 1) := by decide +kernel
theorem dX10_least_27 : decode cX10_least 27 = .ok (.bipush (-10), 2) := by decide +kernel
theorem dX10_least_29 : decode cX10_least 29 = .ok (.ireturn, 1) := by decide +kernel
theorem dX10_least_30 : decode cX10_least 30 = .ok (.aload_n 0, 1) := by decide +kernel
theorem dX10_least_31 : decode cX10_least 31 = .ok (.getfield 55, 3) := by decide +kernel
theorem dX10_least_34 : decode cX10_least 34 = .ok (.aload_n 0, 1) := by decide +kernel
theorem dX10_least_35 : decode cX10_least 35 = .ok (.getfield 32, 3) := by decide +kernel
theorem dX10_least_38 : decode cX10_least 38 = .ok (.iload_n 1, 1) := by decide +kernel
theorem dX10_least_39 : decode cX10_least 39 = .ok (.iload_n 2, 1) := by decide +kernel
theorem dX10_least_40 : decode cX10_least 40 = .ok (.invokevirtual 181, 3) := by decide +kernel
theorem dX10_least_43 : decode cX10_least 43 = .ok (.istore 4, 2) := by decide +kernel
theorem dX10_least_45 : decode cX10_least 45 = .ok (.iload 4, 2) := by decide +kernel
theorem dX10_least_47 : decode cX10_least 47 = .ok (.iconst (-1), 1) := by decide +kernel
theorem dX10_least_48 : decode cX10_least 48 = .ok (.if_icmp .ne 5, 3) := by decide +kernel
theorem dX10_least_51 : decode cX10_least 51 = .ok (.iconst (-1), 1) := by decide +kernel
theorem dX10_least_52 : decode cX10_least 52 = .ok (.ireturn, 1) := by decide +kernel
theorem dX10_least_53 : decode cX10_least 53 = .ok (.iload_n 3, 1) := by decide +kernel
theorem dX10_least_54 : decode cX10_least 54 = .ok (.iconst (-1), 1) := by decide +kernel
theorem dX10_least_55 : decode cX10_least 55 = .ok (.if_icmp .ne 29, 3) := by decide +kernel
theorem dX10_least_58 : decode cX10_least 58 = .ok (.iload_n 2, 1) := by decide +kernel
theorem dX10_least_59 : decode cX10_least 59 = .ok (.iconst 1, 1) := by decide +kernel
theorem dX10_least_60 : decode cX10_least 60 = .ok (.if_icmp .ne 21, 3) := by decide +kernel
theorem dX10_least_63 : decode cX10_least 63 = .ok (.iload 4, 2) := by decide +kernel
theorem dX10_least_65 : decode cX10_least 65 = .ok (.aload_n 0, 1) := by decide +kernel
theorem dX10_least_66 : decode cX10_least 66 = .ok (.getfield 32, 3) := by decide +kernel
theorem dX10_least_69 : decode cX10_least 69 = .ok (.getfield 105, 3) := by decide +kernel
theorem dX10_least_72 : decode cX10_least 72 = .ok (.iload_n 1, 1) := by decide +kernel
theorem dX10_least_73 : decode cX10_least 73 = .ok (.iconst 1, 1) := by decide +kernel
theorem dX10_least_74 : decode cX10_least 74 = .ok (.invokevirtual 166, 3) := by decide +kernel
theorem dX10_least_77 : decode cX10_least 77 = .ok (.iadd, 1) := by decide +kernel
theorem dX10_least_78 : decode cX10_least 78 = .ok (.goto 5, 3) := by decide +kernel
theorem dX10_least_81 : decode cX10_least 81 = .ok (.iload 4, 2) := by decide +kernel
theorem dX10_least_83 : decode cX10_least 83 = .ok (.ireturn, 1) := by decide +kernel
theorem dX10_least_84 : decode cX10_least 84 = .ok (.aload_n 0, 1) := by decide +kernel
theorem dX10_least_85 : decode cX10_least 85 = .ok (.getfield 55, 3) := by decide +kernel
theorem dX10_least_88 : decode cX10_least 88 = .ok (.aload_n 0, 1) := by decide +kernel
theorem dX10_least_89 : decode cX10_least 89 = .ok (.getfield 32, 3) := by decide +kernel
theorem dX10_least_92 : decode cX10_least 92 = .ok (.iload_n 3, 1) := by decide +kernel
theorem dX10_least_93 : decode cX10_least 93 = .ok (.invokevirtual 185, 3) := by decide +kernel
theorem dX10_least_96 : decode cX10_least 96 = .ok (.ireturn, 1) := by decide +kernel
theorem dX10_ever_0 : decode cX10_ever 0 = .ok (.aload_n 0, 1) := by decide +kernel
theorem dX10_ever_1 : decode cX10_ever 1 = .ok (.getfield 55, 3) := by decide +kernel
theorem dX10_ever_4 : decode cX10_ever 4 = .ok (.aload_n 0, 1) := by decide +kernel
theorem dX10_ever_5 : decode cX10_ever 5 = .ok (.getfield 32, 3) := by decide +kernel
theorem dX10_ever_8 : decode cX10_ever 8 = .ok (.invokevirtual 189, 3) := by decide +kernel
theorem dX10_ever_11 : decode cX10_ever 11 = .ok (.ireturn, 1) := by decide +kernel
theorem dX10_contradict_0 : decode cX10_contradict 0 = .ok (.aload_n 0, 1) := by decide +kernel
theorem dX10_contradict_1 : decode cX10_contradict 1 = .ok (.invokevirtual 169, 3) := by decide +kernel
theorem dX10_contradict_4 : decode cX10_contradict 4 = .ok (.invokestatic 192, 3) := by decide +kernel
theorem dX10_contradict_7 : decode cX10_contradict 7 = .ok (.ireturn, 1) := by decide +kernel
theorem dX10_giveUp_0 : decode cX10_giveUp 0 = .ok (.iconst (-1), 1) := by decide +kernel
theorem dX10_giveUp_1 : decode cX10_giveUp 1 = .ok (.istore_n 1, 1) := by decide +kernel
theorem dX10_giveUp_2 : decode cX10_giveUp 2 = .ok (.iconst 0, 1) := by decide +kernel
theorem dX10_giveUp_3 : decode cX10_giveUp 3 = .ok (.istore_n 2, 1) := by decide +kernel
theorem dX10_giveUp_4 : decode cX10_giveUp 4 = .ok (.iload_n 2, 1) := by decide +kernel
theorem dX10_giveUp_5 : decode cX10_giveUp 5 = .ok (.bipush 64, 2) := by decide +kernel
theorem dX10_giveUp_7 : decode cX10_giveUp 7 = .ok (.if_icmp .ge 57, 3) := by decide +kernel
theorem dX10_giveUp_10 : decode cX10_giveUp 10 = .ok (.iload_n 2, 1) := by decide +kernel
theorem dX10_giveUp_11 : decode cX10_giveUp 11 = .ok (.aload_n 0, 1) := by decide +kernel
theorem dX10_giveUp_12 : decode cX10_giveUp 12 = .ok (.getfield 32, 3) := by decide +kernel
theorem dX10_giveUp_15 : decode cX10_giveUp 15 = .ok (.getfield 122, 3) := by decide +kernel
theorem dX10_giveUp_18 : decode cX10_giveUp 18 = .ok (.iconst (-1), 1) := by decide +kernel
theorem dX10_giveUp_19 : decode cX10_giveUp 19 = .ok (.ixor, 1) := by decide +kernel
theorem dX10_giveUp_20 : decode cX10_giveUp 20 = .ok (.iand, 1) := by decide +kernel
theorem dX10_giveUp_21 : decode cX10_giveUp 21 = .ok (.ifCond .ne 37, 3) := by decide +kernel
theorem dX10_giveUp_24 : decode cX10_giveUp 24 = .ok (.iload_n 2, 1) := by decide +kernel
theorem dX10_giveUp_25 : decode cX10_giveUp 25 = .ok (.iload_n 1, 1) := by decide +kernel
theorem dX10_giveUp_26 : decode cX10_giveUp 26 = .ok (.invokestatic 195, 3) := by decide +kernel
theorem dX10_giveUp_29 : decode cX10_giveUp 29 = .ok (.ifCond .eq 29, 3) := by decide +kernel
theorem dX10_giveUp_32 : decode cX10_giveUp 32 = .ok (.aload_n 0, 1) := by decide +kernel
theorem dX10_giveUp_33 : decode cX10_giveUp 33 = .ok (.getfield 32, 3) := by decide +kernel
theorem dX10_giveUp_36 : decode cX10_giveUp 36 = .ok (.aload_n 0, 1) := by decide +kernel
theorem dX10_giveUp_37 : decode cX10_giveUp 37 = .ok (.getfield 32, 3) := by decide +kernel
theorem dX10_giveUp_40 : decode cX10_giveUp 40 = .ok (.getfield 122, 3) := by decide +kernel
theorem dX10_giveUp_43 : decode cX10_giveUp 43 = .ok (.iload_n 2, 1) := by decide +kernel
theorem dX10_giveUp_44 : decode cX10_giveUp 44 = .ok (.iconst (-1), 1) := by decide +kernel
theorem dX10_giveUp_45 : decode cX10_giveUp 45 = .ok (.ixor, 1) := by decide +kernel
theorem dX10_giveUp_46 : decode cX10_giveUp 46 = .ok (.iand, 1) := by decide +kernel
theorem dX10_giveUp_47 : decode cX10_giveUp 47 = .ok (.invokevirtual 199, 3) := by decide +kernel
theorem dX10_giveUp_50 : decode cX10_giveUp 50 = .ok (.invokestatic 202, 3) := by decide +kernel
theorem dX10_giveUp_53 : decode cX10_giveUp 53 = .ok (.ifCond .ne 5, 3) := by decide +kernel
theorem dX10_giveUp_56 : decode cX10_giveUp 56 = .ok (.iload_n 2, 1) := by decide +kernel
theorem dX10_giveUp_57 : decode cX10_giveUp 57 = .ok (.istore_n 1, 1) := by decide +kernel
theorem dX10_giveUp_58 : decode cX10_giveUp 58 = .ok (.iinc 2 1, 3) := by decide +kernel
theorem dX10_giveUp_61 : decode cX10_giveUp 61 = .ok (.goto (-57), 3) := by decide +kernel
theorem dX10_giveUp_64 : decode cX10_giveUp 64 = .ok (.iload_n 1, 1) := by decide +kernel
theorem dX10_giveUp_65 : decode cX10_giveUp 65 = .ok (.ireturn, 1) := by decide +kernel
theorem dX10_denial_0 : decode cX10_denial 0 = .ok (.aload_n 0, 1) := by decide +kernel
theorem dX10_denial_1 : decode cX10_denial 1 = .ok (.iload_n 1, 1) := by decide +kernel
theorem dX10_denial_2 : decode cX10_denial 2 = .ok (.invokevirtual 134, 3) := by decide +kernel
theorem dX10_denial_5 : decode cX10_denial 5 = .ok (.ifCond .ne 8, 3) := by decide +kernel
theorem dX10_denial_8 : decode cX10_denial 8 = .ok (.aload_n 0, 1) := by decide +kernel
theorem dX10_denial_9 : decode cX10_denial 9 = .ok (.invokevirtual 70, 3) := by decide +kernel
theorem dX10_denial_12 : decode cX10_denial 12 = .ok (.ireturn, 1) := by decide +kernel
theorem dX10_denial_13 : decode cX10_denial 13 = .ok (.aload_n 0, 1) := by decide +kernel
theorem dX10_denial_14 : decode cX10_denial 14 = .ok (.iload_n 1, 1) := by decide +kernel
theorem dX10_denial_15 : decode cX10_denial 15 = .ok (.invokevirtual 157, 3) := by decide +kernel
theorem dX10_denial_18 : decode cX10_denial 18 = .ok (.ifCond .ne 8, 3) := by decide +kernel
theorem dX10_denial_21 : decode cX10_denial 21 = .ok (.aload_n 0, 1) := by decide +kernel
theorem dX10_denial_22 : decode cX10_denial 22 = .ok (.invokevirtual 141, 3) := by decide +kernel
theorem dX10_denial_25 : decode cX10_denial 25 = .ok (.ireturn, 1) := by decide +kernel
theorem dX10_denial_26 : decode cX10_denial 26 = .ok (.aload_n 0, 1) := by decide +kernel
theorem dX10_denial_27 : decode cX10_denial 27 = .ok (.getfield 32, 3) := by decide +kernel
theorem dX10_denial_30 : decode cX10_denial 30 = .ok (.iload_n 1, 1) := by decide +kernel
theorem dX10_denial_31 : decode cX10_denial 31 = .ok (.invokevirtual 160, 3) := by decide +kernel
theorem dX10_denial_34 : decode cX10_denial 34 = .ok (.istore_n 2, 1) := by decide +kernel
theorem dX10_denial_35 : decode cX10_denial 35 = .ok (.iconst 0, 1) := by decide +kernel
theorem dX10_denial_36 : decode cX10_denial 36 = .ok (.istore_n 3, 1) := by decide +kernel
theorem dX10_denial_37 : decode cX10_denial 37 = .ok (.iconst 0, 1) := by decide +kernel
theorem dX10_denial_38 : decode cX10_denial 38 = .ok (.istore 4, 2) := by decide +kernel
theorem dX10_denial_40 : decode cX10_denial 40 = .ok (.iload 4, 2) := by decide +kernel
theorem dX10_denial_42 : decode cX10_denial 42 = .ok (.iconst 4, 1) := by decide +kernel
theorem dX10_denial_43 : decode cX10_denial 43 = .ok (.if_icmp .ge 70, 3) := by decide +kernel
theorem dX10_denial_46 : decode cX10_denial 46 = .ok (.iload 4, 2) := by decide +kernel
theorem dX10_denial_48 : decode cX10_denial 48 = .ok (.iconst 1, 1) := by decide +kernel
theorem dX10_denial_49 : decode cX10_denial 49 = .ok (.iand, 1) := by decide +kernel
theorem dX10_denial_50 : decode cX10_denial 50 = .ok (.istore 5, 2) := by decide +kernel
theorem dX10_denial_52 : decode cX10_denial 52 = .ok (.iload 4, 2) := by decide +kernel
theorem dX10_denial_54 : decode cX10_denial 54 = .ok (.iconst 1, 1) := by decide +kernel
theorem dX10_denial_55 : decode cX10_denial 55 = .ok (.ishr, 1) := by decide +kernel
theorem dX10_denial_56 : decode cX10_denial 56 = .ok (.istore 6, 2) := by decide +kernel
theorem dX10_denial_58 : decode cX10_denial 58 = .ok (.iload 5, 2) := by decide +kernel
theorem dX10_denial_60 : decode cX10_denial 60 = .ok (.iload 6, 2) := by decide +kernel
theorem dX10_denial_62 : decode cX10_denial 62 = .ok (.iload_n 2, 1) := by decide +kernel
theorem dX10_denial_63 : decode cX10_denial 63 = .ok (.invokestatic 205, 3) := by decide +kernel
theorem dX10_denial_66 : decode cX10_denial 66 = .ok (.iconst 1, 1) := by decide +kernel
theorem dX10_denial_67 : decode cX10_denial 67 = .ok (.iload 5, 2) := by decide +kernel
theorem dX10_denial_69 : decode cX10_denial 69 = .ok (.isub, 1) := by decide +kernel
theorem dX10_denial_70 : decode cX10_denial 70 = .ok (.iload 6, 2) := by decide +kernel
theorem dX10_denial_72 : decode cX10_denial 72 = .ok (.iload_n 2, 1) := by decide +kernel
theorem dX10_denial_73 : decode cX10_denial 73 = .ok (.invokestatic 205, 3) := by decide +kernel
theorem dX10_denial_76 : decode cX10_denial 76 = .ok (.if_icmp .lt 31, 3) := by decide +kernel
theorem dX10_denial_79 : decode cX10_denial 79 = .ok (.iload 5, 2) := by decide +kernel
theorem dX10_denial_81 : decode cX10_denial 81 = .ok (.iload 6, 2) := by decide +kernel
theorem dX10_denial_83 : decode cX10_denial 83 = .ok (.iload_n 2, 1) := by decide +kernel
theorem dX10_denial_84 : decode cX10_denial 84 = .ok (.invokestatic 209, 3) := by decide +kernel
theorem dX10_denial_87 : decode cX10_denial 87 = .ok (.iload 5, 2) := by decide +kernel
theorem dX10_denial_89 : decode cX10_denial 89 = .ok (.iconst 1, 1) := by decide +kernel
theorem dX10_denial_90 : decode cX10_denial 90 = .ok (.iload 6, 2) := by decide +kernel
theorem dX10_denial_92 : decode cX10_denial 92 = .ok (.isub, 1) := by decide +kernel
theorem dX10_denial_93 : decode cX10_denial 93 = .ok (.iload_n 2, 1) := by decide +kernel
theorem dX10_denial_94 : decode cX10_denial 94 = .ok (.invokestatic 209, 3) := by decide +kernel
theorem dX10_denial_97 : decode cX10_denial 97 = .ok (.if_icmp .lt 10, 3) := by decide +kernel
theorem dX10_denial_100 : decode cX10_denial 100 = .ok (.iload_n 3, 1) := by decide +kernel
theorem dX10_denial_101 : decode cX10_denial 101 = .ok (.iconst 1, 1) := by decide +kernel
theorem dX10_denial_102 : decode cX10_denial 102 = .ok (.iload 4, 2) := by decide +kernel
theorem dX10_denial_104 : decode cX10_denial 104 = .ok (.ishl, 1) := by decide +kernel
theorem dX10_denial_105 : decode cX10_denial 105 = .ok (.ior, 1) := by decide +kernel
theorem dX10_denial_106 : decode cX10_denial 106 = .ok (.istore_n 3, 1) := by decide +kernel
theorem dX10_denial_107 : decode cX10_denial 107 = .ok (.iinc 4 1, 3) := by decide +kernel
theorem dX10_denial_110 : decode cX10_denial 110 = .ok (.goto (-70), 3) := by decide +kernel
theorem dX10_denial_113 : decode cX10_denial 113 = .ok (.iload_n 3, 1) := by decide +kernel
theorem dX10_denial_114 : decode cX10_denial 114 = .ok (.ireturn, 1) := by decide +kernel
theorem dX10_fees_0 : decode cX10_fees 0 = .ok (.iload_n 1, 1) := by decide +kernel
theorem dX10_fees_1 : decode cX10_fees 1 = .ok (.iconst 0, 1) := by decide +kernel
theorem dX10_fees_2 : decode cX10_fees 2 = .ok (.iconst 1, 1) := by decide +kernel
theorem dX10_fees_3 : decode cX10_fees 3 = .ok (.invokestatic 66, 3) := by decide +kernel
theorem dX10_fees_6 : decode cX10_fees 6 = .ok (.ifCond .ne 8, 3) := by decide +kernel
theorem dX10_fees_9 : decode cX10_fees 9 = .ok (.aload_n 0, 1) := by decide +kernel
theorem dX10_fees_10 : decode cX10_fees 10 = .ok (.invokevirtual 70, 3) := by decide +kernel
theorem dX10_fees_13 : decode cX10_fees 13 = .ok (.ireturn, 1) := by decide +kernel
theorem dX10_fees_14 : decode cX10_fees 14 = .ok (.iconst (-1), 1) := by decide +kernel
theorem dX10_fees_15 : decode cX10_fees 15 = .ok (.istore_n 2, 1) := by decide +kernel
theorem dX10_fees_16 : decode cX10_fees 16 = .ok (.iconst (-1), 1) := by decide +kernel
theorem dX10_fees_17 : decode cX10_fees 17 = .ok (.istore_n 3, 1) := by decide +kernel
theorem dX10_fees_18 : decode cX10_fees 18 = .ok (.iconst 0, 1) := by decide +kernel
theorem dX10_fees_19 : decode cX10_fees 19 = .ok (.istore 4, 2) := by decide +kernel
theorem dX10_fees_21 : decode cX10_fees 21 = .ok (.iload 4, 2) := by decide +kernel
theorem dX10_fees_23 : decode cX10_fees 23 = .ok (.aload_n 0, 1) := by decide +kernel
theorem dX10_fees_24 : decode cX10_fees 24 = .ok (.getfield 32, 3) := by decide +kernel
theorem dX10_fees_27 : decode cX10_fees 27 = .ok (.getfield 105, 3) := by decide +kernel
theorem dX10_fees_30 : decode cX10_fees 30 = .ok (.getfield 78, 3) := by decide +kernel
theorem dX10_fees_33 : decode cX10_fees 33 = .ok (.if_icmp .ge 66, 3) := by decide +kernel
theorem dX10_fees_36 : decode cX10_fees 36 = .ok (.aload_n 0, 1) := by decide +kernel
theorem dX10_fees_37 : decode cX10_fees 37 = .ok (.getfield 55, 3) := by decide +kernel
theorem dX10_fees_40 : decode cX10_fees 40 = .ok (.aload_n 0, 1) := by decide +kernel
theorem dX10_fees_41 : decode cX10_fees 41 = .ok (.getfield 32, 3) := by decide +kernel
theorem dX10_fees_44 : decode cX10_fees 44 = .ok (.iload 4, 2) := by decide +kernel
theorem dX10_fees_46 : decode cX10_fees 46 = .ok (.iconst 1, 1) := by decide +kernel
theorem dX10_fees_47 : decode cX10_fees 47 = .ok (.invokevirtual 181, 3) := by decide +kernel
theorem dX10_fees_50 : decode cX10_fees 50 = .ok (.istore 5, 2) := by decide +kernel
theorem dX10_fees_52 : decode cX10_fees 52 = .ok (.iload 5, 2) := by decide +kernel
theorem dX10_fees_54 : decode cX10_fees 54 = .ok (.aload_n 0, 1) := by decide +kernel
theorem dX10_fees_55 : decode cX10_fees 55 = .ok (.getfield 32, 3) := by decide +kernel
theorem dX10_fees_58 : decode cX10_fees 58 = .ok (.getfield 105, 3) := by decide +kernel
theorem dX10_fees_61 : decode cX10_fees 61 = .ok (.iload 4, 2) := by decide +kernel
theorem dX10_fees_63 : decode cX10_fees 63 = .ok (.iconst 1, 1) := by decide +kernel
theorem dX10_fees_64 : decode cX10_fees 64 = .ok (.invokevirtual 166, 3) := by decide +kernel
theorem dX10_fees_67 : decode cX10_fees 67 = .ok (.iadd, 1) := by decide +kernel
theorem dX10_fees_68 : decode cX10_fees 68 = .ok (.istore 6, 2) := by decide +kernel
theorem dX10_fees_70 : decode cX10_fees 70 = .ok (.iload 5, 2) := by decide +kernel
theorem dX10_fees_72 : decode cX10_fees 72 = .ok (.iconst (-1), 1) := by decide +kernel
theorem dX10_fees_73 : decode cX10_fees 73 = .ok (.if_icmp .eq 20, 3) := by decide +kernel
theorem dX10_fees_76 : decode cX10_fees 76 = .ok (.iload_n 2, 1) := by decide +kernel
theorem dX10_fees_77 : decode cX10_fees 77 = .ok (.iconst (-1), 1) := by decide +kernel
theorem dX10_fees_78 : decode cX10_fees 78 = .ok (.if_icmp .eq 9, 3) := by decide +kernel
theorem dX10_fees_81 : decode cX10_fees 81 = .ok (.iload 6, 2) := by decide +kernel
theorem dX10_fees_83 : decode cX10_fees 83 = .ok (.iload_n 3, 1) := by decide +kernel
theorem dX10_fees_84 : decode cX10_fees 84 = .ok (.if_icmp .ge 9, 3) := by decide +kernel
theorem dX10_fees_87 : decode cX10_fees 87 = .ok (.iload 4, 2) := by decide +kernel
theorem dX10_fees_89 : decode cX10_fees 89 = .ok (.istore_n 2, 1) := by decide +kernel
theorem dX10_fees_90 : decode cX10_fees 90 = .ok (.iload 6, 2) := by decide +kernel
theorem dX10_fees_92 : decode cX10_fees 92 = .ok (.istore_n 3, 1) := by decide +kernel
theorem dX10_fees_93 : decode cX10_fees 93 = .ok (.iinc 4 1, 3) := by decide +kernel
theorem dX10_fees_96 : decode cX10_fees 96 = .ok (.goto (-75), 3) := by decide +kernel
theorem dX10_fees_99 : decode cX10_fees 99 = .ok (.iload_n 1, 1) := by decide +kernel
theorem dX10_fees_100 : decode cX10_fees 100 = .ok (.ifCond .ne 7, 3) := by decide +kernel
theorem dX10_fees_103 : decode cX10_fees 103 = .ok (.iload_n 2, 1) := by decide +kernel
theorem dX10_fees_104 : decode cX10_fees 104 = .ok (.goto 4, 3) := by decide +kernel
theorem dX10_fees_107 : decode cX10_fees 107 = .ok (.iload_n 3, 1) := by decide +kernel
theorem dX10_fees_108 : decode cX10_fees 108 = .ok (.ireturn, 1) := by decide +kernel
theorem dX10_rule_0 : decode cX10_rule 0 = .ok (.aload_n 0, 1) := by decide +kernel
theorem dX10_rule_1 : decode cX10_rule 1 = .ok (.iload_n 1, 1) := by decide +kernel
theorem dX10_rule_2 : decode cX10_rule 2 = .ok (.invokevirtual 178, 3) := by decide +kernel
theorem dX10_rule_5 : decode cX10_rule 5 = .ok (.ifCond .ne 8, 3) := by decide +kernel
theorem dX10_rule_8 : decode cX10_rule 8 = .ok (.aload_n 0, 1) := by decide +kernel
theorem dX10_rule_9 : decode cX10_rule 9 = .ok (.invokevirtual 70, 3) := by decide +kernel
theorem dX10_rule_12 : decode cX10_rule 12 = .ok (.ireturn, 1) := by decide +kernel
theorem dX10_rule_13 : decode cX10_rule 13 = .ok (.aload_n 0, 1) := by decide +kernel
theorem dX10_rule_14 : decode cX10_rule 14 = .ok (.getfield 32, 3) := by decide +kernel
theorem dX10_rule_17 : decode cX10_rule 17 = .ok (.getfield 105, 3) := by decide +kernel
theorem dX10_rule_20 : decode cX10_rule 20 = .ok (.iload_n 1, 1) := by decide +kernel
theorem dX10_rule_21 : decode cX10_rule 21 = .ok (.iconst 0, 1) := by decide +kernel
theorem dX10_rule_22 : decode cX10_rule 22 = .ok (.invokevirtual 166, 3) := by decide +kernel
theorem dX10_rule_25 : decode cX10_rule 25 = .ok (.aload_n 0, 1) := by decide +kernel
theorem dX10_rule_26 : decode cX10_rule 26 = .ok (.invokevirtual 169, 3) := by decide +kernel
theorem dX10_rule_29 : decode cX10_rule 29 = .ok (.iconst (-1), 1) := by decide +kernel
theorem dX10_rule_30 : decode cX10_rule 30 = .ok (.ixor, 1) := by decide +kernel
theorem dX10_rule_31 : decode cX10_rule 31 = .ok (.iand, 1) := by decide +kernel
theorem dX10_rule_32 : decode cX10_rule 32 = .ok (.ireturn, 1) := by decide +kernel
theorem dX10_note_0 : decode cX10_note 0 = .ok (.aload_n 0, 1) := by decide +kernel
theorem dX10_note_1 : decode cX10_note 1 = .ok (.iload_n 1, 1) := by decide +kernel
theorem dX10_note_2 : decode cX10_note 2 = .ok (.invokevirtual 134, 3) := by decide +kernel
theorem dX10_note_5 : decode cX10_note 5 = .ok (.ifCond .eq 23, 3) := by decide +kernel
theorem dX10_note_8 : decode cX10_note 8 = .ok (.iload_n 2, 1) := by decide +kernel
theorem dX10_note_9 : decode cX10_note 9 = .ok (.iconst 0, 1) := by decide +kernel
theorem dX10_note_10 : decode cX10_note 10 = .ok (.bipush 20, 2) := by decide +kernel
theorem dX10_note_12 : decode cX10_note 12 = .ok (.invokestatic 66, 3) := by decide +kernel
theorem dX10_note_15 : decode cX10_note 15 = .ok (.ifCond .eq 13, 3) := by decide +kernel
theorem dX10_note_18 : decode cX10_note 18 = .ok (.iload_n 3, 1) := by decide +kernel
theorem dX10_note_19 : decode cX10_note 19 = .ok (.iconst 0, 1) := by decide +kernel
theorem dX10_note_20 : decode cX10_note 20 = .ok (.bipush 60, 2) := by decide +kernel
theorem dX10_note_22 : decode cX10_note 22 = .ok (.invokestatic 66, 3) := by decide +kernel
theorem dX10_note_25 : decode cX10_note 25 = .ok (.ifCond .ne 8, 3) := by decide +kernel
theorem dX10_note_28 : decode cX10_note 28 = .ok (.aload_n 0, 1) := by decide +kernel
theorem dX10_note_29 : decode cX10_note 29 = .ok (.invokevirtual 70, 3) := by decide +kernel
theorem dX10_note_32 : decode cX10_note 32 = .ok (.ireturn, 1) := by decide +kernel
theorem dX10_note_33 : decode cX10_note 33 = .ok (.aload_n 0, 1) := by decide +kernel
theorem dX10_note_34 : decode cX10_note 34 = .ok (.getfield 32, 3) := by decide +kernel
theorem dX10_note_37 : decode cX10_note 37 = .ok (.getfield 212, 3) := by decide +kernel
theorem dX10_note_40 : decode cX10_note 40 = .ok (.invokevirtual 88, 3) := by decide +kernel
theorem dX10_note_43 : decode cX10_note 43 = .ok (.ifCond .eq 8, 3) := by decide +kernel
theorem dX10_note_46 : decode cX10_note 46 = .ok (.aload_n 0, 1) := by decide +kernel
theorem dX10_note_47 : decode cX10_note 47 = .ok (.invokevirtual 92, 3) := by decide +kernel
theorem dX10_note_50 : decode cX10_note 50 = .ok (.ireturn, 1) := by decide +kernel
theorem dX10_note_51 : decode cX10_note 51 = .ok (.aload_n 0, 1) := by decide +kernel
theorem dX10_note_52 : decode cX10_note 52 = .ok (.getfield 32, 3) := by decide +kernel
theorem dX10_note_55 : decode cX10_note 55 = .ok (.getfield 212, 3) := by decide +kernel
theorem dX10_note_58 : decode cX10_note 58 = .ok (.iload_n 1, 1) := by decide +kernel
theorem dX10_note_59 : decode cX10_note 59 = .ok (.iload_n 2, 1) := by decide +kernel
theorem dX10_note_60 : decode cX10_note 60 = .ok (.iload_n 3, 1) := by decide +kernel
theorem dX10_note_61 : decode cX10_note 61 = .ok (.iconst 0, 1) := by decide +kernel
theorem dX10_note_62 : decode cX10_note 62 = .ok (.invokevirtual 95, 3) := by decide +kernel
theorem dX10_note_65 : decode cX10_note 65 = .ok (.aload_n 0, 1) := by decide +kernel
theorem dX10_note_66 : decode cX10_note 66 = .ok (.getfield 32, 3) := by decide +kernel
theorem dX10_note_69 : decode cX10_note 69 = .ok (.getfield 212, 3) := by decide +kernel
theorem dX10_note_72 : decode cX10_note 72 = .ok (.getfield 78, 3) := by decide +kernel
theorem dX10_note_75 : decode cX10_note 75 = .ok (.ireturn, 1) := by decide +kernel
theorem dX10_heard_0 : decode cX10_heard 0 = .ok (.aload_n 0, 1) := by decide +kernel
theorem dX10_heard_1 : decode cX10_heard 1 = .ok (.iload_n 1, 1) := by decide +kernel
theorem dX10_heard_2 : decode cX10_heard 2 = .ok (.invokevirtual 178, 3) := by decide +kernel
theorem dX10_heard_5 : decode cX10_heard 5 = .ok (.ifCond .eq 12, 3) := by decide +kernel
theorem dX10_heard_8 : decode cX10_heard 8 = .ok (.iload_n 2, 1) := by decide +kernel
theorem dX10_heard_9 : decode cX10_heard 9 = .ok (.iconst 0, 1) := by decide +kernel
theorem dX10_heard_10 : decode cX10_heard 10 = .ok (.iconst 1, 1) := by decide +kernel
theorem dX10_heard_11 : decode cX10_heard 11 = .ok (.invokestatic 66, 3) := by decide +kernel
theorem dX10_heard_14 : decode cX10_heard 14 = .ok (.ifCond .ne 8, 3) := by decide +kernel
theorem dX10_heard_17 : decode cX10_heard 17 = .ok (.aload_n 0, 1) := by decide +kernel
theorem dX10_heard_18 : decode cX10_heard 18 = .ok (.invokevirtual 70, 3) := by decide +kernel
theorem dX10_heard_21 : decode cX10_heard 21 = .ok (.ireturn, 1) := by decide +kernel
theorem dX10_heard_22 : decode cX10_heard 22 = .ok (.aload_n 0, 1) := by decide +kernel
theorem dX10_heard_23 : decode cX10_heard 23 = .ok (.getfield 32, 3) := by decide +kernel
theorem dX10_heard_26 : decode cX10_heard 26 = .ok (.getfield 215, 3) := by decide +kernel
theorem dX10_heard_29 : decode cX10_heard 29 = .ok (.invokevirtual 88, 3) := by decide +kernel
theorem dX10_heard_32 : decode cX10_heard 32 = .ok (.ifCond .eq 8, 3) := by decide +kernel
theorem dX10_heard_35 : decode cX10_heard 35 = .ok (.aload_n 0, 1) := by decide +kernel
theorem dX10_heard_36 : decode cX10_heard 36 = .ok (.invokevirtual 92, 3) := by decide +kernel
theorem dX10_heard_39 : decode cX10_heard 39 = .ok (.ireturn, 1) := by decide +kernel
theorem dX10_heard_40 : decode cX10_heard 40 = .ok (.aload_n 0, 1) := by decide +kernel
theorem dX10_heard_41 : decode cX10_heard 41 = .ok (.getfield 32, 3) := by decide +kernel
theorem dX10_heard_44 : decode cX10_heard 44 = .ok (.getfield 215, 3) := by decide +kernel
theorem dX10_heard_47 : decode cX10_heard 47 = .ok (.iload_n 1, 1) := by decide +kernel
theorem dX10_heard_48 : decode cX10_heard 48 = .ok (.iload_n 2, 1) := by decide +kernel
theorem dX10_heard_49 : decode cX10_heard 49 = .ok (.iconst 0, 1) := by decide +kernel
theorem dX10_heard_50 : decode cX10_heard 50 = .ok (.iconst 0, 1) := by decide +kernel
theorem dX10_heard_51 : decode cX10_heard 51 = .ok (.invokevirtual 95, 3) := by decide +kernel
theorem dX10_heard_54 : decode cX10_heard 54 = .ok (.aload_n 0, 1) := by decide +kernel
theorem dX10_heard_55 : decode cX10_heard 55 = .ok (.getfield 32, 3) := by decide +kernel
theorem dX10_heard_58 : decode cX10_heard 58 = .ok (.getfield 215, 3) := by decide +kernel
theorem dX10_heard_61 : decode cX10_heard 61 = .ok (.getfield 78, 3) := by decide +kernel
theorem dX10_heard_64 : decode cX10_heard 64 = .ok (.ireturn, 1) := by decide +kernel
theorem dX10_forget_0 : decode cX10_forget 0 = .ok (.iload_n 1, 1) := by decide +kernel
theorem dX10_forget_1 : decode cX10_forget 1 = .ok (.iconst 0, 1) := by decide +kernel
theorem dX10_forget_2 : decode cX10_forget 2 = .ok (.iconst 1, 1) := by decide +kernel
theorem dX10_forget_3 : decode cX10_forget 3 = .ok (.invokestatic 66, 3) := by decide +kernel
theorem dX10_forget_6 : decode cX10_forget 6 = .ok (.ifCond .ne 8, 3) := by decide +kernel
theorem dX10_forget_9 : decode cX10_forget 9 = .ok (.aload_n 0, 1) := by decide +kernel
theorem dX10_forget_10 : decode cX10_forget 10 = .ok (.invokevirtual 70, 3) := by decide +kernel
theorem dX10_forget_13 : decode cX10_forget 13 = .ok (.ireturn, 1) := by decide +kernel
theorem dX10_forget_14 : decode cX10_forget 14 = .ok (.iload_n 1, 1) := by decide +kernel
theorem dX10_forget_15 : decode cX10_forget 15 = .ok (.ifCond .ne 13, 3) := by decide +kernel
theorem dX10_forget_18 : decode cX10_forget 18 = .ok (.aload_n 0, 1) := by decide +kernel
theorem dX10_forget_19 : decode cX10_forget 19 = .ok (.getfield 32, 3) := by decide +kernel
theorem dX10_forget_22 : decode cX10_forget 22 = .ok (.getfield 212, 3) := by decide +kernel
theorem dX10_forget_25 : decode cX10_forget 25 = .ok (.goto 10, 3) := by decide +kernel
theorem dX10_forget_28 : decode cX10_forget 28 = .ok (.aload_n 0, 1) := by decide +kernel
theorem dX10_forget_29 : decode cX10_forget 29 = .ok (.getfield 32, 3) := by decide +kernel
theorem dX10_forget_32 : decode cX10_forget 32 = .ok (.getfield 215, 3) := by decide +kernel
theorem dX10_forget_35 : decode cX10_forget 35 = .ok (.astore_n 2, 1) := by decide +kernel
theorem dX10_forget_36 : decode cX10_forget 36 = .ok (.aload_n 2, 1) := by decide +kernel
theorem dX10_forget_37 : decode cX10_forget 37 = .ok (.getfield 78, 3) := by decide +kernel
theorem dX10_forget_40 : decode cX10_forget 40 = .ok (.istore_n 3, 1) := by decide +kernel
theorem dX10_forget_41 : decode cX10_forget 41 = .ok (.aload_n 2, 1) := by decide +kernel
theorem dX10_forget_42 : decode cX10_forget 42 = .ok (.invokevirtual 102, 3) := by decide +kernel
theorem dX10_forget_45 : decode cX10_forget 45 = .ok (.iload_n 3, 1) := by decide +kernel
theorem dX10_forget_46 : decode cX10_forget 46 = .ok (.ireturn, 1) := by decide +kernel
theorem dX10_is_0 : decode cX10_is 0 = .ok (.aload_n 0, 1) := by decide +kernel
theorem dX10_is_1 : decode cX10_is 1 = .ok (.iload_n 1, 1) := by decide +kernel
theorem dX10_is_2 : decode cX10_is 2 = .ok (.invokevirtual 134, 3) := by decide +kernel
theorem dX10_is_5 : decode cX10_is 5 = .ok (.ifCond .ne 8, 3) := by decide +kernel
theorem dX10_is_8 : decode cX10_is 8 = .ok (.aload_n 0, 1) := by decide +kernel
theorem dX10_is_9 : decode cX10_is 9 = .ok (.invokevirtual 70, 3) := by decide +kernel
theorem dX10_is_12 : decode cX10_is 12 = .ok (.ireturn, 1) := by decide +kernel
theorem dX10_is_13 : decode cX10_is 13 = .ok (.aload_n 0, 1) := by decide +kernel
theorem dX10_is_14 : decode cX10_is 14 = .ok (.getfield 32, 3) := by decide +kernel
theorem dX10_is_17 : decode cX10_is 17 = .ok (.iload_n 1, 1) := by decide +kernel
theorem dX10_is_18 : decode cX10_is 18 = .ok (.invokevirtual 218, 3) := by decide +kernel
theorem dX10_is_21 : decode cX10_is 21 = .ok (.ireturn, 1) := by decide +kernel
theorem dX10_look_0 : decode cX10_look 0 = .ok (.aload_n 0, 1) := by decide +kernel
theorem dX10_look_1 : decode cX10_look 1 = .ok (.iload_n 1, 1) := by decide +kernel
theorem dX10_look_2 : decode cX10_look 2 = .ok (.invokevirtual 134, 3) := by decide +kernel
theorem dX10_look_5 : decode cX10_look 5 = .ok (.ifCond .ne 8, 3) := by decide +kernel
theorem dX10_look_8 : decode cX10_look 8 = .ok (.aload_n 0, 1) := by decide +kernel
theorem dX10_look_9 : decode cX10_look 9 = .ok (.invokevirtual 70, 3) := by decide +kernel
theorem dX10_look_12 : decode cX10_look 12 = .ok (.ireturn, 1) := by decide +kernel
theorem dX10_look_13 : decode cX10_look 13 = .ok (.aload_n 0, 1) := by decide +kernel
theorem dX10_look_14 : decode cX10_look 14 = .ok (.getfield 32, 3) := by decide +kernel
theorem dX10_look_17 : decode cX10_look 17 = .ok (.iload_n 1, 1) := by decide +kernel
theorem dX10_look_18 : decode cX10_look 18 = .ok (.invokevirtual 218, 3) := by decide +kernel
theorem dX10_look_21 : decode cX10_look 21 = .ok (.istore_n 2, 1) := by decide +kernel
theorem dX10_look_22 : decode cX10_look 22 = .ok (.iconst (-1), 1) := by decide +kernel
theorem dX10_look_23 : decode cX10_look 23 = .ok (.istore_n 3, 1) := by decide +kernel
theorem dX10_look_24 : decode cX10_look 24 = .ok (.bipush 7, 2) := by decide +kernel
theorem dX10_look_26 : decode cX10_look 26 = .ok (.istore 4, 2) := by decide +kernel
theorem dX10_look_28 : decode cX10_look 28 = .ok (.iconst 0, 1) := by decide +kernel
theorem dX10_look_29 : decode cX10_look 29 = .ok (.istore 5, 2) := by decide +kernel
theorem dX10_look_31 : decode cX10_look 31 = .ok (.iload 5, 2) := by decide +kernel
theorem dX10_look_33 : decode cX10_look 33 = .ok (.bipush 9, 2) := by decide +kernel
theorem dX10_look_35 : decode cX10_look 35 = .ok (.if_icmp .gt 40, 3) := by decide +kernel
theorem dX10_look_38 : decode cX10_look 38 = .ok (.iload_n 2, 1) := by decide +kernel
theorem dX10_look_39 : decode cX10_look 39 = .ok (.ifCond .eq 36, 3) := by decide +kernel
theorem dX10_look_42 : decode cX10_look 42 = .ok (.aload_n 0, 1) := by decide +kernel
theorem dX10_look_43 : decode cX10_look 43 = .ok (.getfield 32, 3) := by decide +kernel
theorem dX10_look_46 : decode cX10_look 46 = .ok (.iload_n 1, 1) := by decide +kernel
theorem dX10_look_47 : decode cX10_look 47 = .ok (.iload_n 2, 1) := by decide +kernel
theorem dX10_look_48 : decode cX10_look 48 = .ok (.iload 5, 2) := by decide +kernel
theorem dX10_look_50 : decode cX10_look 50 = .ok (.invokevirtual 221, 3) := by decide +kernel
theorem dX10_look_53 : decode cX10_look 53 = .ok (.istore 6, 2) := by decide +kernel
theorem dX10_look_55 : decode cX10_look 55 = .ok (.iload 6, 2) := by decide +kernel
theorem dX10_look_57 : decode cX10_look 57 = .ok (.iload 4, 2) := by decide +kernel
theorem dX10_look_59 : decode cX10_look 59 = .ok (.if_icmp .ge 10, 3) := by decide +kernel
theorem dX10_look_62 : decode cX10_look 62 = .ok (.iload 6, 2) := by decide +kernel
theorem dX10_look_64 : decode cX10_look 64 = .ok (.istore 4, 2) := by decide +kernel
theorem dX10_look_66 : decode cX10_look 66 = .ok (.iload 5, 2) := by decide +kernel
theorem dX10_look_68 : decode cX10_look 68 = .ok (.istore_n 3, 1) := by decide +kernel
theorem dX10_look_69 : decode cX10_look 69 = .ok (.iinc 5 1, 3) := by decide +kernel
theorem dX10_look_72 : decode cX10_look 72 = .ok (.goto (-41), 3) := by decide +kernel
theorem dX10_look_75 : decode cX10_look 75 = .ok (.iload_n 3, 1) := by decide +kernel
theorem dX10_look_76 : decode cX10_look 76 = .ok (.ireturn, 1) := by decide +kernel
theorem dX10_truth_0 : decode cX10_truth 0 = .ok (.iload_n 1, 1) := by decide +kernel
theorem dX10_truth_1 : decode cX10_truth 1 = .ok (.iconst 0, 1) := by decide +kernel
theorem dX10_truth_2 : decode cX10_truth 2 = .ok (.iconst 2, 1) := by decide +kernel
theorem dX10_truth_3 : decode cX10_truth 3 = .ok (.invokestatic 66, 3) := by decide +kernel
theorem dX10_truth_6 : decode cX10_truth 6 = .ok (.ifCond .ne 8, 3) := by decide +kernel
theorem dX10_truth_9 : decode cX10_truth 9 = .ok (.aload_n 0, 1) := by decide +kernel
theorem dX10_truth_10 : decode cX10_truth 10 = .ok (.invokevirtual 70, 3) := by decide +kernel
theorem dX10_truth_13 : decode cX10_truth 13 = .ok (.ireturn, 1) := by decide +kernel
theorem dX10_truth_14 : decode cX10_truth 14 = .ok (.iconst 0, 1) := by decide +kernel
theorem dX10_truth_15 : decode cX10_truth 15 = .ok (.istore_n 2, 1) := by decide +kernel
theorem dX10_truth_16 : decode cX10_truth 16 = .ok (.sipush 255, 3) := by decide +kernel
theorem dX10_truth_19 : decode cX10_truth 19 = .ok (.istore_n 3, 1) := by decide +kernel
theorem dX10_truth_20 : decode cX10_truth 20 = .ok (.iconst 0, 1) := by decide +kernel
theorem dX10_truth_21 : decode cX10_truth 21 = .ok (.istore 4, 2) := by decide +kernel
theorem dX10_truth_23 : decode cX10_truth 23 = .ok (.iconst 0, 1) := by decide +kernel
theorem dX10_truth_24 : decode cX10_truth 24 = .ok (.istore 5, 2) := by decide +kernel
theorem dX10_truth_26 : decode cX10_truth 26 = .ok (.iload 5, 2) := by decide +kernel
theorem dX10_truth_28 : decode cX10_truth 28 = .ok (.sipush 255, 3) := by decide +kernel
theorem dX10_truth_31 : decode cX10_truth 31 = .ok (.if_icmp .gt 44, 3) := by decide +kernel
theorem dX10_truth_34 : decode cX10_truth 34 = .ok (.iload 5, 2) := by decide +kernel
theorem dX10_truth_36 : decode cX10_truth 36 = .ok (.invokestatic 202, 3) := by decide +kernel
theorem dX10_truth_39 : decode cX10_truth 39 = .ok (.ifCond .ne 30, 3) := by decide +kernel
theorem dX10_truth_42 : decode cX10_truth 42 = .ok (.aload_n 0, 1) := by decide +kernel
theorem dX10_truth_43 : decode cX10_truth 43 = .ok (.getfield 32, 3) := by decide +kernel
theorem dX10_truth_46 : decode cX10_truth 46 = .ok (.iload 5, 2) := by decide +kernel
theorem dX10_truth_48 : decode cX10_truth 48 = .ok (.invokevirtual 225, 3) := by decide +kernel
theorem dX10_truth_51 : decode cX10_truth 51 = .ok (.ifCond .eq 18, 3) := by decide +kernel
theorem dX10_truth_54 : decode cX10_truth 54 = .ok (.iinc 2 1, 3) := by decide +kernel
theorem dX10_truth_57 : decode cX10_truth 57 = .ok (.iload_n 3, 1) := by decide +kernel
theorem dX10_truth_58 : decode cX10_truth 58 = .ok (.iload 5, 2) := by decide +kernel
theorem dX10_truth_60 : decode cX10_truth 60 = .ok (.iand, 1) := by decide +kernel
theorem dX10_truth_61 : decode cX10_truth 61 = .ok (.istore_n 3, 1) := by decide +kernel
theorem dX10_truth_62 : decode cX10_truth 62 = .ok (.iload 4, 2) := by decide +kernel
theorem dX10_truth_64 : decode cX10_truth 64 = .ok (.iload 5, 2) := by decide +kernel
theorem dX10_truth_66 : decode cX10_truth 66 = .ok (.ior, 1) := by decide +kernel
theorem dX10_truth_67 : decode cX10_truth 67 = .ok (.istore 4, 2) := by decide +kernel
theorem dX10_truth_69 : decode cX10_truth 69 = .ok (.iinc 5 1, 3) := by decide +kernel
theorem dX10_truth_72 : decode cX10_truth 72 = .ok (.goto (-46), 3) := by decide +kernel
theorem dX10_truth_75 : decode cX10_truth 75 = .ok (.iload_n 1, 1) := by decide +kernel
theorem dX10_truth_76 : decode cX10_truth 76 = .ok (.ifCond .ne 5, 3) := by decide +kernel
theorem dX10_truth_79 : decode cX10_truth 79 = .ok (.iload_n 2, 1) := by decide +kernel
theorem dX10_truth_80 : decode cX10_truth 80 = .ok (.ireturn, 1) := by decide +kernel
theorem dX10_truth_81 : decode cX10_truth 81 = .ok (.iload_n 1, 1) := by decide +kernel
theorem dX10_truth_82 : decode cX10_truth 82 = .ok (.iconst 2, 1) := by decide +kernel
theorem dX10_truth_83 : decode cX10_truth 83 = .ok (.if_icmp .ne 6, 3) := by decide +kernel
theorem dX10_truth_86 : decode cX10_truth 86 = .ok (.iload 4, 2) := by decide +kernel
theorem dX10_truth_88 : decode cX10_truth 88 = .ok (.ireturn, 1) := by decide +kernel
theorem dX10_truth_89 : decode cX10_truth 89 = .ok (.iload_n 2, 1) := by decide +kernel
theorem dX10_truth_90 : decode cX10_truth 90 = .ok (.ifCond .ne 7, 3) := by decide +kernel
theorem dX10_truth_93 : decode cX10_truth 93 = .ok (.iconst (-1), 1) := by decide +kernel
theorem dX10_truth_94 : decode cX10_truth 94 = .ok (.goto 4, 3) := by decide +kernel
theorem dX10_truth_97 : decode cX10_truth 97 = .ok (.iload_n 3, 1) := by decide +kernel
theorem dX10_truth_98 : decode cX10_truth 98 = .ok (.ireturn, 1) := by decide +kernel
theorem dX10_odds_0 : decode cX10_odds 0 = .ok (.aload_n 0, 1) := by decide +kernel
theorem dX10_odds_1 : decode cX10_odds 1 = .ok (.iload_n 1, 1) := by decide +kernel
theorem dX10_odds_2 : decode cX10_odds 2 = .ok (.invokevirtual 178, 3) := by decide +kernel
theorem dX10_odds_5 : decode cX10_odds 5 = .ok (.ifCond .eq 13, 3) := by decide +kernel
theorem dX10_odds_8 : decode cX10_odds 8 = .ok (.iload_n 2, 1) := by decide +kernel
theorem dX10_odds_9 : decode cX10_odds 9 = .ok (.iconst 0, 1) := by decide +kernel
theorem dX10_odds_10 : decode cX10_odds 10 = .ok (.bipush 10, 2) := by decide +kernel
theorem dX10_odds_12 : decode cX10_odds 12 = .ok (.invokestatic 66, 3) := by decide +kernel
theorem dX10_odds_15 : decode cX10_odds 15 = .ok (.ifCond .ne 8, 3) := by decide +kernel
theorem dX10_odds_18 : decode cX10_odds 18 = .ok (.aload_n 0, 1) := by decide +kernel
theorem dX10_odds_19 : decode cX10_odds 19 = .ok (.invokevirtual 70, 3) := by decide +kernel
theorem dX10_odds_22 : decode cX10_odds 22 = .ok (.ireturn, 1) := by decide +kernel
theorem dX10_odds_23 : decode cX10_odds 23 = .ok (.aload_n 0, 1) := by decide +kernel
theorem dX10_odds_24 : decode cX10_odds 24 = .ok (.getfield 32, 3) := by decide +kernel
theorem dX10_odds_27 : decode cX10_odds 27 = .ok (.invokevirtual 228, 3) := by decide +kernel
theorem dX10_odds_30 : decode cX10_odds 30 = .ok (.istore_n 3, 1) := by decide +kernel
theorem dX10_odds_31 : decode cX10_odds 31 = .ok (.iload_n 3, 1) := by decide +kernel
theorem dX10_odds_32 : decode cX10_odds 32 = .ok (.invokestatic 125, 3) := by decide +kernel
theorem dX10_odds_35 : decode cX10_odds 35 = .ok (.istore 4, 2) := by decide +kernel
theorem dX10_odds_37 : decode cX10_odds 37 = .ok (.lconst 0, 1) := by decide +kernel
theorem dX10_odds_38 : decode cX10_odds 38 = .ok (.lstore 5, 2) := by decide +kernel
theorem dX10_odds_40 : decode cX10_odds 40 = .ok (.iconst 0, 1) := by decide +kernel
theorem dX10_odds_41 : decode cX10_odds 41 = .ok (.istore 7, 2) := by decide +kernel
theorem dX10_odds_43 : decode cX10_odds 43 = .ok (.iload 7, 2) := by decide +kernel
theorem dX10_odds_45 : decode cX10_odds 45 = .ok (.bipush 64, 2) := by decide +kernel
theorem dX10_odds_47 : decode cX10_odds 47 = .ok (.if_icmp .ge 79, 3) := by decide +kernel
theorem dX10_odds_50 : decode cX10_odds 50 = .ok (.iload 7, 2) := by decide +kernel
theorem dX10_odds_52 : decode cX10_odds 52 = .ok (.iload_n 3, 1) := by decide +kernel
theorem dX10_odds_53 : decode cX10_odds 53 = .ok (.iconst (-1), 1) := by decide +kernel
theorem dX10_odds_54 : decode cX10_odds 54 = .ok (.ixor, 1) := by decide +kernel
theorem dX10_odds_55 : decode cX10_odds 55 = .ok (.iand, 1) := by decide +kernel
theorem dX10_odds_56 : decode cX10_odds 56 = .ok (.ifCond .ne 64, 3) := by decide +kernel
theorem dX10_odds_59 : decode cX10_odds 59 = .ok (.aload_n 0, 1) := by decide +kernel
theorem dX10_odds_60 : decode cX10_odds 60 = .ok (.getfield 32, 3) := by decide +kernel
theorem dX10_odds_63 : decode cX10_odds 63 = .ok (.iload_n 1, 1) := by decide +kernel
theorem dX10_odds_64 : decode cX10_odds 64 = .ok (.aload_n 0, 1) := by decide +kernel
theorem dX10_odds_65 : decode cX10_odds 65 = .ok (.getfield 32, 3) := by decide +kernel
theorem dX10_odds_68 : decode cX10_odds 68 = .ok (.aload_n 0, 1) := by decide +kernel
theorem dX10_odds_69 : decode cX10_odds 69 = .ok (.getfield 32, 3) := by decide +kernel
theorem dX10_odds_72 : decode cX10_odds 72 = .ok (.getfield 122, 3) := by decide +kernel
theorem dX10_odds_75 : decode cX10_odds 75 = .ok (.iload 7, 2) := by decide +kernel
theorem dX10_odds_77 : decode cX10_odds 77 = .ok (.iconst (-1), 1) := by decide +kernel
theorem dX10_odds_78 : decode cX10_odds 78 = .ok (.ixor, 1) := by decide +kernel
theorem dX10_odds_79 : decode cX10_odds 79 = .ok (.iand, 1) := by decide +kernel
theorem dX10_odds_80 : decode cX10_odds 80 = .ok (.invokevirtual 199, 3) := by decide +kernel
theorem dX10_odds_83 : decode cX10_odds 83 = .ok (.invokevirtual 231, 3) := by decide +kernel
theorem dX10_odds_86 : decode cX10_odds 86 = .ok (.ifCond .eq 34, 3) := by decide +kernel
theorem dX10_odds_89 : decode cX10_odds 89 = .ok (.iload 7, 2) := by decide +kernel
theorem dX10_odds_91 : decode cX10_odds 91 = .ok (.invokestatic 125, 3) := by decide +kernel
theorem dX10_odds_94 : decode cX10_odds 94 = .ok (.istore 8, 2) := by decide +kernel
theorem dX10_odds_96 : decode cX10_odds 96 = .ok (.lload 5, 2) := by decide +kernel
theorem dX10_odds_98 : decode cX10_odds 98 = .ok (.iload_n 2, 1) := by decide +kernel
theorem dX10_odds_99 : decode cX10_odds 99 = .ok (.iload 8, 2) := by decide +kernel
theorem dX10_odds_101 : decode cX10_odds 101 = .ok (.invokestatic 234, 3) := by decide +kernel
theorem dX10_odds_104 : decode cX10_odds 104 = .ok (.bipush 10, 2) := by decide +kernel
theorem dX10_odds_106 : decode cX10_odds 106 = .ok (.iload_n 2, 1) := by decide +kernel
theorem dX10_odds_107 : decode cX10_odds 107 = .ok (.isub, 1) := by decide +kernel
theorem dX10_odds_108 : decode cX10_odds 108 = .ok (.iload 4, 2) := by decide +kernel
theorem dX10_odds_110 : decode cX10_odds 110 = .ok (.iload 8, 2) := by decide +kernel
theorem dX10_odds_112 : decode cX10_odds 112 = .ok (.isub, 1) := by decide +kernel
theorem dX10_odds_113 : decode cX10_odds 113 = .ok (.invokestatic 234, 3) := by decide +kernel
theorem dX10_odds_116 : decode cX10_odds 116 = .ok (.lmul, 1) := by decide +kernel
theorem dX10_odds_117 : decode cX10_odds 117 = .ok (.ladd, 1) := by decide +kernel
theorem dX10_odds_118 : decode cX10_odds 118 = .ok (.lstore 5, 2) := by decide +kernel
theorem dX10_odds_120 : decode cX10_odds 120 = .ok (.iinc 7 1, 3) := by decide +kernel
theorem dX10_odds_123 : decode cX10_odds 123 = .ok (.goto (-80), 3) := by decide +kernel
theorem dX10_odds_126 : decode cX10_odds 126 = .ok (.aload_n 0, 1) := by decide +kernel
theorem dX10_odds_127 : decode cX10_odds 127 = .ok (.lload 5, 2) := by decide +kernel
theorem dX10_odds_129 : decode cX10_odds 129 = .ok (.bipush 10, 2) := by decide +kernel
theorem dX10_odds_131 : decode cX10_odds 131 = .ok (.iload 4, 2) := by decide +kernel
theorem dX10_odds_133 : decode cX10_odds 133 = .ok (.invokestatic 234, 3) := by decide +kernel
theorem dX10_odds_136 : decode cX10_odds 136 = .ok (.invokevirtual 238, 3) := by decide +kernel
theorem dX10_odds_139 : decode cX10_odds 139 = .ok (.iconst 1, 1) := by decide +kernel
theorem dX10_odds_140 : decode cX10_odds 140 = .ok (.ireturn, 1) := by decide +kernel
theorem dX10_terms_0 : decode cX10_terms 0 = .ok (.iload_n 1, 1) := by decide +kernel
theorem dX10_terms_1 : decode cX10_terms 1 = .ok (.iconst 0, 1) := by decide +kernel
theorem dX10_terms_2 : decode cX10_terms 2 = .ok (.ldc 242, 2) := by decide +kernel
theorem dX10_terms_4 : decode cX10_terms 4 = .ok (.invokestatic 66, 3) := by decide +kernel
theorem dX10_terms_7 : decode cX10_terms 7 = .ok (.ifCond .eq 13, 3) := by decide +kernel
theorem dX10_terms_10 : decode cX10_terms 10 = .ok (.iload_n 2, 1) := by decide +kernel
theorem dX10_terms_11 : decode cX10_terms 11 = .ok (.iconst 0, 1) := by decide +kernel
theorem dX10_terms_12 : decode cX10_terms 12 = .ok (.bipush 60, 2) := by decide +kernel
theorem dX10_terms_14 : decode cX10_terms 14 = .ok (.invokestatic 66, 3) := by decide +kernel
theorem dX10_terms_17 : decode cX10_terms 17 = .ok (.ifCond .ne 8, 3) := by decide +kernel
theorem dX10_terms_20 : decode cX10_terms 20 = .ok (.aload_n 0, 1) := by decide +kernel
theorem dX10_terms_21 : decode cX10_terms 21 = .ok (.invokevirtual 70, 3) := by decide +kernel
theorem dX10_terms_24 : decode cX10_terms 24 = .ok (.ireturn, 1) := by decide +kernel
theorem dX10_terms_25 : decode cX10_terms 25 = .ok (.iload_n 1, 1) := by decide +kernel
theorem dX10_terms_26 : decode cX10_terms 26 = .ok (.i2l, 1) := by decide +kernel
theorem dX10_terms_27 : decode cX10_terms 27 = .ok (.lstore_n 3, 1) := by decide +kernel
theorem dX10_terms_28 : decode cX10_terms 28 = .ok (.aload_n 0, 1) := by decide +kernel
theorem dX10_terms_29 : decode cX10_terms 29 = .ok (.getfield 32, 3) := by decide +kernel
theorem dX10_terms_32 : decode cX10_terms 32 = .ok (.getfield 122, 3) := by decide +kernel
theorem dX10_terms_35 : decode cX10_terms 35 = .ok (.istore 5, 2) := by decide +kernel
theorem dX10_terms_37 : decode cX10_terms 37 = .ok (.aload_n 0, 1) := by decide +kernel
theorem dX10_terms_38 : decode cX10_terms 38 = .ok (.getfield 32, 3) := by decide +kernel
theorem dX10_terms_41 : decode cX10_terms 41 = .ok (.getfield 144, 3) := by decide +kernel
theorem dX10_terms_44 : decode cX10_terms 44 = .ok (.istore 6, 2) := by decide +kernel
theorem dX10_terms_46 : decode cX10_terms 46 = .ok (.iconst 0, 1) := by decide +kernel
theorem dX10_terms_47 : decode cX10_terms 47 = .ok (.istore 7, 2) := by decide +kernel
theorem dX10_terms_49 : decode cX10_terms 49 = .ok (.iload 7, 2) := by decide +kernel
theorem dX10_terms_51 : decode cX10_terms 51 = .ok (.iload_n 2, 1) := by decide +kernel
theorem dX10_terms_52 : decode cX10_terms 52 = .ok (.if_icmp .ge 64, 3) := by decide +kernel
theorem dX10_terms_55 : decode cX10_terms 55 = .ok (.lload_n 3, 1) := by decide +kernel
theorem dX10_terms_56 : decode cX10_terms 56 = .ok (.ldc2_w 243, 3) := by decide +kernel
theorem dX10_terms_59 : decode cX10_terms 59 = .ok (.lmul, 1) := by decide +kernel
theorem dX10_terms_60 : decode cX10_terms 60 = .ok (.ldc2_w 245, 3) := by decide +kernel
theorem dX10_terms_63 : decode cX10_terms 63 = .ok (.ladd, 1) := by decide +kernel
theorem dX10_terms_64 : decode cX10_terms 64 = .ok (.ldc2_w 247, 3) := by decide +kernel
theorem dX10_terms_67 : decode cX10_terms 67 = .ok (.lrem, 1) := by decide +kernel
theorem dX10_terms_68 : decode cX10_terms 68 = .ok (.lstore_n 3, 1) := by decide +kernel
theorem dX10_terms_69 : decode cX10_terms 69 = .ok (.lload_n 3, 1) := by decide +kernel
theorem dX10_terms_70 : decode cX10_terms 70 = .ok (.ldc2_w 249, 3) := by decide +kernel
theorem dX10_terms_73 : decode cX10_terms 73 = .ok (.ldiv, 1) := by decide +kernel
theorem dX10_terms_74 : decode cX10_terms 74 = .ok (.ldc2_w 251, 3) := by decide +kernel
theorem dX10_terms_77 : decode cX10_terms 77 = .ok (.lrem, 1) := by decide +kernel
theorem dX10_terms_78 : decode cX10_terms 78 = .ok (.l2i, 1) := by decide +kernel
theorem dX10_terms_79 : decode cX10_terms 79 = .ok (.istore 8, 2) := by decide +kernel
theorem dX10_terms_81 : decode cX10_terms 81 = .ok (.aload_n 0, 1) := by decide +kernel
theorem dX10_terms_82 : decode cX10_terms 82 = .ok (.getfield 32, 3) := by decide +kernel
theorem dX10_terms_85 : decode cX10_terms 85 = .ok (.iload 8, 2) := by decide +kernel
theorem dX10_terms_87 : decode cX10_terms 87 = .ok (.iload 5, 2) := by decide +kernel
theorem dX10_terms_89 : decode cX10_terms 89 = .ok (.iload 6, 2) := by decide +kernel
theorem dX10_terms_91 : decode cX10_terms 91 = .ok (.invokevirtual 253, 3) := by decide +kernel
theorem dX10_terms_94 : decode cX10_terms 94 = .ok (.istore 9, 2) := by decide +kernel
theorem dX10_terms_96 : decode cX10_terms 96 = .ok (.iload 9, 2) := by decide +kernel
theorem dX10_terms_98 : decode cX10_terms 98 = .ok (.iload 5, 2) := by decide +kernel
theorem dX10_terms_100 : decode cX10_terms 100 = .ok (.if_icmp .le 6, 3) := by decide +kernel
theorem dX10_terms_103 : decode cX10_terms 103 = .ok (.iinc 6 1, 3) := by decide +kernel
theorem dX10_terms_106 : decode cX10_terms 106 = .ok (.iload 9, 2) := by decide +kernel
theorem dX10_terms_108 : decode cX10_terms 108 = .ok (.istore 5, 2) := by decide +kernel
theorem dX10_terms_110 : decode cX10_terms 110 = .ok (.iinc 7 1, 3) := by decide +kernel
theorem dX10_terms_113 : decode cX10_terms 113 = .ok (.goto (-64), 3) := by decide +kernel
theorem dX10_terms_116 : decode cX10_terms 116 = .ok (.aload_n 0, 1) := by decide +kernel
theorem dX10_terms_117 : decode cX10_terms 117 = .ok (.getfield 32, 3) := by decide +kernel
theorem dX10_terms_120 : decode cX10_terms 120 = .ok (.aload_n 0, 1) := by decide +kernel
theorem dX10_terms_121 : decode cX10_terms 121 = .ok (.getfield 32, 3) := by decide +kernel
theorem dX10_terms_124 : decode cX10_terms 124 = .ok (.iload 5, 2) := by decide +kernel
theorem dX10_terms_126 : decode cX10_terms 126 = .ok (.invokevirtual 199, 3) := by decide +kernel
theorem dX10_terms_129 : decode cX10_terms 129 = .ok (.invokevirtual 175, 3) := by decide +kernel
theorem dX10_terms_132 : decode cX10_terms 132 = .ok (.invokestatic 125, 3) := by decide +kernel
theorem dX10_terms_135 : decode cX10_terms 135 = .ok (.ireturn, 1) := by decide +kernel
theorem dX10_part_0 : decode cX10_part 0 = .ok (.iload_n 1, 1) := by decide +kernel
theorem dX10_part_1 : decode cX10_part 1 = .ok (.iconst 0, 1) := by decide +kernel
theorem dX10_part_2 : decode cX10_part 2 = .ok (.iconst 1, 1) := by decide +kernel
theorem dX10_part_3 : decode cX10_part 3 = .ok (.invokestatic 66, 3) := by decide +kernel
theorem dX10_part_6 : decode cX10_part 6 = .ok (.ifCond .ne 9, 3) := by decide +kernel
theorem dX10_part_9 : decode cX10_part 9 = .ok (.aload_n 0, 1) := by decide +kernel
theorem dX10_part_10 : decode cX10_part 10 = .ok (.invokevirtual 70, 3) := by decide +kernel
theorem dX10_part_13 : decode cX10_part 13 = .ok (.i2l, 1) := by decide +kernel
theorem dX10_part_14 : decode cX10_part 14 = .ok (.lreturn, 1) := by decide +kernel
theorem dX10_part_15 : decode cX10_part 15 = .ok (.iload_n 1, 1) := by decide +kernel
theorem dX10_part_16 : decode cX10_part 16 = .ok (.ifCond .ne 10, 3) := by decide +kernel
theorem dX10_part_19 : decode cX10_part 19 = .ok (.aload_n 0, 1) := by decide +kernel
theorem dX10_part_20 : decode cX10_part 20 = .ok (.getfield 59, 3) := by decide +kernel
theorem dX10_part_23 : decode cX10_part 23 = .ok (.goto 7, 3) := by decide +kernel
theorem dX10_part_26 : decode cX10_part 26 = .ok (.aload_n 0, 1) := by decide +kernel
theorem dX10_part_27 : decode cX10_part 27 = .ok (.getfield 63, 3) := by decide +kernel
theorem dX10_part_30 : decode cX10_part 30 = .ok (.lreturn, 1) := by decide +kernel
theorem dX10_image_0 : decode cX10_image 0 = .ok (.iload_n 1, 1) := by decide +kernel
theorem dX10_image_1 : decode cX10_image 1 = .ok (.iconst 0, 1) := by decide +kernel
theorem dX10_image_2 : decode cX10_image 2 = .ok (.iconst 1, 1) := by decide +kernel
theorem dX10_image_3 : decode cX10_image 3 = .ok (.invokestatic 66, 3) := by decide +kernel
theorem dX10_image_6 : decode cX10_image 6 = .ok (.ifCond .ne 8, 3) := by decide +kernel
theorem dX10_image_9 : decode cX10_image 9 = .ok (.aload_n 0, 1) := by decide +kernel
theorem dX10_image_10 : decode cX10_image 10 = .ok (.invokevirtual 70, 3) := by decide +kernel
theorem dX10_image_13 : decode cX10_image 13 = .ok (.ireturn, 1) := by decide +kernel
theorem dX10_image_14 : decode cX10_image 14 = .ok (.iload_n 1, 1) := by decide +kernel
theorem dX10_image_15 : decode cX10_image 15 = .ok (.ifCond .ne 22, 3) := by decide +kernel
theorem dX10_image_18 : decode cX10_image 18 = .ok (.aload_n 0, 1) := by decide +kernel
theorem dX10_image_19 : decode cX10_image 19 = .ok (.getfield 39, 3) := by decide +kernel
theorem dX10_image_22 : decode cX10_image 22 = .ok (.aload_n 0, 1) := by decide +kernel
theorem dX10_image_23 : decode cX10_image 23 = .ok (.getfield 32, 3) := by decide +kernel
theorem dX10_image_26 : decode cX10_image 26 = .ok (.invokevirtual 118, 3) := by decide +kernel
theorem dX10_image_29 : decode cX10_image 29 = .ok (.aload_n 0, 1) := by decide +kernel
theorem dX10_image_30 : decode cX10_image 30 = .ok (.iconst 1, 1) := by decide +kernel
theorem dX10_image_31 : decode cX10_image 31 = .ok (.putfield 256, 3) := by decide +kernel
theorem dX10_image_34 : decode cX10_image 34 = .ok (.goto 19, 3) := by decide +kernel
theorem dX10_image_37 : decode cX10_image 37 = .ok (.aload_n 0, 1) := by decide +kernel
theorem dX10_image_38 : decode cX10_image 38 = .ok (.getfield 42, 3) := by decide +kernel
theorem dX10_image_41 : decode cX10_image 41 = .ok (.aload_n 0, 1) := by decide +kernel
theorem dX10_image_42 : decode cX10_image 42 = .ok (.getfield 32, 3) := by decide +kernel
theorem dX10_image_45 : decode cX10_image 45 = .ok (.invokevirtual 118, 3) := by decide +kernel
theorem dX10_image_48 : decode cX10_image 48 = .ok (.aload_n 0, 1) := by decide +kernel
theorem dX10_image_49 : decode cX10_image 49 = .ok (.iconst 1, 1) := by decide +kernel
theorem dX10_image_50 : decode cX10_image 50 = .ok (.putfield 260, 3) := by decide +kernel
theorem dX10_image_53 : decode cX10_image 53 = .ok (.iconst 1, 1) := by decide +kernel
theorem dX10_image_54 : decode cX10_image 54 = .ok (.ireturn, 1) := by decide +kernel
theorem dX10_from_0 : decode cX10_from 0 = .ok (.iload_n 1, 1) := by decide +kernel
theorem dX10_from_1 : decode cX10_from 1 = .ok (.iconst 0, 1) := by decide +kernel
theorem dX10_from_2 : decode cX10_from 2 = .ok (.iconst 1, 1) := by decide +kernel
theorem dX10_from_3 : decode cX10_from 3 = .ok (.invokestatic 66, 3) := by decide +kernel
theorem dX10_from_6 : decode cX10_from 6 = .ok (.ifCond .ne 8, 3) := by decide +kernel
theorem dX10_from_9 : decode cX10_from 9 = .ok (.aload_n 0, 1) := by decide +kernel
theorem dX10_from_10 : decode cX10_from 10 = .ok (.invokevirtual 70, 3) := by decide +kernel
theorem dX10_from_13 : decode cX10_from 13 = .ok (.ireturn, 1) := by decide +kernel
theorem dX10_from_14 : decode cX10_from 14 = .ok (.iload_n 1, 1) := by decide +kernel
theorem dX10_from_15 : decode cX10_from 15 = .ok (.ifCond .ne 13, 3) := by decide +kernel
theorem dX10_from_18 : decode cX10_from 18 = .ok (.aload_n 0, 1) := by decide +kernel
theorem dX10_from_19 : decode cX10_from 19 = .ok (.getfield 256, 3) := by decide +kernel
theorem dX10_from_22 : decode cX10_from 22 = .ok (.ifCond .ne 18, 3) := by decide +kernel
theorem dX10_from_25 : decode cX10_from 25 = .ok (.goto 10, 3) := by decide +kernel
theorem dX10_from_28 : decode cX10_from 28 = .ok (.aload_n 0, 1) := by decide +kernel
theorem dX10_from_29 : decode cX10_from 29 = .ok (.getfield 260, 3) := by decide +kernel
theorem dX10_from_32 : decode cX10_from 32 = .ok (.ifCond .ne 8, 3) := by decide +kernel
theorem dX10_from_35 : decode cX10_from 35 = .ok (.aload_n 0, 1) := by decide +kernel
theorem dX10_from_36 : decode cX10_from 36 = .ok (.invokevirtual 141, 3) := by decide +kernel
theorem dX10_from_39 : decode cX10_from 39 = .ok (.ireturn, 1) := by decide +kernel
theorem dX10_from_40 : decode cX10_from 40 = .ok (.aload_n 0, 1) := by decide +kernel
theorem dX10_from_41 : decode cX10_from 41 = .ok (.getfield 32, 3) := by decide +kernel
theorem dX10_from_44 : decode cX10_from 44 = .ok (.iload_n 1, 1) := by decide +kernel
theorem dX10_from_45 : decode cX10_from 45 = .ok (.ifCond .ne 10, 3) := by decide +kernel
theorem dX10_from_48 : decode cX10_from 48 = .ok (.aload_n 0, 1) := by decide +kernel
theorem dX10_from_49 : decode cX10_from 49 = .ok (.getfield 39, 3) := by decide +kernel
theorem dX10_from_52 : decode cX10_from 52 = .ok (.goto 7, 3) := by decide +kernel
theorem dX10_from_55 : decode cX10_from 55 = .ok (.aload_n 0, 1) := by decide +kernel
theorem dX10_from_56 : decode cX10_from 56 = .ok (.getfield 42, 3) := by decide +kernel
theorem dX10_from_59 : decode cX10_from 59 = .ok (.invokevirtual 118, 3) := by decide +kernel
theorem dX10_from_62 : decode cX10_from 62 = .ok (.iconst 1, 1) := by decide +kernel
theorem dX10_from_63 : decode cX10_from 63 = .ok (.ireturn, 1) := by decide +kernel
theorem dX10_status_0 : decode cX10_status 0 = .ok (.iload_n 1, 1) := by decide +kernel
theorem dX10_status_1 : decode cX10_status 1 = .ok (.tableswitch 42 0 2 #[27, 32, 37], 27) := by decide +kernel
theorem dX10_status_28 : decode cX10_status 28 = .ok (.aload_n 0, 1) := by decide +kernel
theorem dX10_status_29 : decode cX10_status 29 = .ok (.getfield 263, 3) := by decide +kernel
theorem dX10_status_32 : decode cX10_status 32 = .ok (.ireturn, 1) := by decide +kernel
theorem dX10_status_33 : decode cX10_status 33 = .ok (.aload_n 0, 1) := by decide +kernel
theorem dX10_status_34 : decode cX10_status 34 = .ok (.getfield 266, 3) := by decide +kernel
theorem dX10_status_37 : decode cX10_status 37 = .ok (.ireturn, 1) := by decide +kernel
theorem dX10_status_38 : decode cX10_status 38 = .ok (.aload_n 0, 1) := by decide +kernel
theorem dX10_status_39 : decode cX10_status 39 = .ok (.getfield 269, 3) := by decide +kernel
theorem dX10_status_42 : decode cX10_status 42 = .ok (.ireturn, 1) := by decide +kernel
theorem dX10_status_43 : decode cX10_status 43 = .ok (.aload_n 0, 1) := by decide +kernel
theorem dX10_status_44 : decode cX10_status 44 = .ok (.invokevirtual 70, 3) := by decide +kernel
theorem dX10_status_47 : decode cX10_status 47 = .ok (.pop, 1) := by decide +kernel
theorem dX10_status_48 : decode cX10_status 48 = .ok (.iconst (-1), 1) := by decide +kernel
theorem dX10_status_49 : decode cX10_status 49 = .ok (.ireturn, 1) := by decide +kernel
theorem dX10_count_0 : decode cX10_count 0 = .ok (.iload_n 1, 1) := by decide +kernel
theorem dX10_count_1 : decode cX10_count 1 = .ok (.tableswitch 129 0 7 #[47, 58, 69, 77, 88, 99, 110, 121], 47) := by decide +kernel
theorem dX10_count_48 : decode cX10_count 48 = .ok (.aload_n 0, 1) := by decide +kernel
theorem dX10_count_49 : decode cX10_count 49 = .ok (.getfield 32, 3) := by decide +kernel
theorem dX10_count_52 : decode cX10_count 52 = .ok (.getfield 74, 3) := by decide +kernel
theorem dX10_count_55 : decode cX10_count 55 = .ok (.getfield 78, 3) := by decide +kernel
theorem dX10_count_58 : decode cX10_count 58 = .ok (.ireturn, 1) := by decide +kernel
theorem dX10_count_59 : decode cX10_count 59 = .ok (.aload_n 0, 1) := by decide +kernel
theorem dX10_count_60 : decode cX10_count 60 = .ok (.getfield 32, 3) := by decide +kernel
theorem dX10_count_63 : decode cX10_count 63 = .ok (.getfield 105, 3) := by decide +kernel
theorem dX10_count_66 : decode cX10_count 66 = .ok (.getfield 78, 3) := by decide +kernel
theorem dX10_count_69 : decode cX10_count 69 = .ok (.ireturn, 1) := by decide +kernel
theorem dX10_count_70 : decode cX10_count 70 = .ok (.aload_n 0, 1) := by decide +kernel
theorem dX10_count_71 : decode cX10_count 71 = .ok (.invokevirtual 169, 3) := by decide +kernel
theorem dX10_count_74 : decode cX10_count 74 = .ok (.invokestatic 125, 3) := by decide +kernel
theorem dX10_count_77 : decode cX10_count 77 = .ok (.ireturn, 1) := by decide +kernel
theorem dX10_count_78 : decode cX10_count 78 = .ok (.aload_n 0, 1) := by decide +kernel
theorem dX10_count_79 : decode cX10_count 79 = .ok (.getfield 32, 3) := by decide +kernel
theorem dX10_count_82 : decode cX10_count 82 = .ok (.getfield 122, 3) := by decide +kernel
theorem dX10_count_85 : decode cX10_count 85 = .ok (.invokestatic 125, 3) := by decide +kernel
theorem dX10_count_88 : decode cX10_count 88 = .ok (.ireturn, 1) := by decide +kernel
theorem dX10_count_89 : decode cX10_count 89 = .ok (.aload_n 0, 1) := by decide +kernel
theorem dX10_count_90 : decode cX10_count 90 = .ok (.getfield 32, 3) := by decide +kernel
theorem dX10_count_93 : decode cX10_count 93 = .ok (.getfield 212, 3) := by decide +kernel
theorem dX10_count_96 : decode cX10_count 96 = .ok (.getfield 78, 3) := by decide +kernel
theorem dX10_count_99 : decode cX10_count 99 = .ok (.ireturn, 1) := by decide +kernel
theorem dX10_count_100 : decode cX10_count 100 = .ok (.aload_n 0, 1) := by decide +kernel
theorem dX10_count_101 : decode cX10_count 101 = .ok (.getfield 32, 3) := by decide +kernel
theorem dX10_count_104 : decode cX10_count 104 = .ok (.getfield 215, 3) := by decide +kernel
theorem dX10_count_107 : decode cX10_count 107 = .ok (.getfield 78, 3) := by decide +kernel
theorem dX10_count_110 : decode cX10_count 110 = .ok (.ireturn, 1) := by decide +kernel
theorem dX10_count_111 : decode cX10_count 111 = .ok (.aload_n 0, 1) := by decide +kernel
theorem dX10_count_112 : decode cX10_count 112 = .ok (.getfield 32, 3) := by decide +kernel
theorem dX10_count_115 : decode cX10_count 115 = .ok (.getfield 99, 3) := by decide +kernel
theorem dX10_count_118 : decode cX10_count 118 = .ok (.getfield 78, 3) := by decide +kernel
theorem dX10_count_121 : decode cX10_count 121 = .ok (.ireturn, 1) := by decide +kernel
theorem dX10_count_122 : decode cX10_count 122 = .ok (.aload_n 0, 1) := by decide +kernel
theorem dX10_count_123 : decode cX10_count 123 = .ok (.getfield 48, 3) := by decide +kernel
theorem dX10_count_126 : decode cX10_count 126 = .ok (.getfield 111, 3) := by decide +kernel
theorem dX10_count_129 : decode cX10_count 129 = .ok (.ireturn, 1) := by decide +kernel
theorem dX10_count_130 : decode cX10_count 130 = .ok (.aload_n 0, 1) := by decide +kernel
theorem dX10_count_131 : decode cX10_count 131 = .ok (.invokevirtual 70, 3) := by decide +kernel
theorem dX10_count_134 : decode cX10_count 134 = .ok (.ireturn, 1) := by decide +kernel
theorem dX10_digest_0 : decode cX10_digest 0 = .ok (.ldc2_w 272, 3) := by decide +kernel
theorem dX10_digest_3 : decode cX10_digest 3 = .ok (.lstore_n 1, 1) := by decide +kernel
theorem dX10_digest_4 : decode cX10_digest 4 = .ok (.iconst 0, 1) := by decide +kernel
theorem dX10_digest_5 : decode cX10_digest 5 = .ok (.istore_n 3, 1) := by decide +kernel
theorem dX10_digest_6 : decode cX10_digest 6 = .ok (.iload_n 3, 1) := by decide +kernel
theorem dX10_digest_7 : decode cX10_digest 7 = .ok (.bipush 7, 2) := by decide +kernel
theorem dX10_digest_9 : decode cX10_digest 9 = .ok (.if_icmp .gt 22, 3) := by decide +kernel
theorem dX10_digest_12 : decode cX10_digest 12 = .ok (.ldc2_w 274, 3) := by decide +kernel
theorem dX10_digest_15 : decode cX10_digest 15 = .ok (.lload_n 1, 1) := by decide +kernel
theorem dX10_digest_16 : decode cX10_digest 16 = .ok (.lmul, 1) := by decide +kernel
theorem dX10_digest_17 : decode cX10_digest 17 = .ok (.aload_n 0, 1) := by decide +kernel
theorem dX10_digest_18 : decode cX10_digest 18 = .ok (.iload_n 3, 1) := by decide +kernel
theorem dX10_digest_19 : decode cX10_digest 19 = .ok (.invokevirtual 276, 3) := by decide +kernel
theorem dX10_digest_22 : decode cX10_digest 22 = .ok (.i2l, 1) := by decide +kernel
theorem dX10_digest_23 : decode cX10_digest 23 = .ok (.ladd, 1) := by decide +kernel
theorem dX10_digest_24 : decode cX10_digest 24 = .ok (.lstore_n 1, 1) := by decide +kernel
theorem dX10_digest_25 : decode cX10_digest 25 = .ok (.iinc 3 1, 3) := by decide +kernel
theorem dX10_digest_28 : decode cX10_digest 28 = .ok (.goto (-22), 3) := by decide +kernel
theorem dX10_digest_31 : decode cX10_digest 31 = .ok (.iconst 0, 1) := by decide +kernel
theorem dX10_digest_32 : decode cX10_digest 32 = .ok (.istore_n 3, 1) := by decide +kernel
theorem dX10_digest_33 : decode cX10_digest 33 = .ok (.iload_n 3, 1) := by decide +kernel
theorem dX10_digest_34 : decode cX10_digest 34 = .ok (.iconst 4, 1) := by decide +kernel
theorem dX10_digest_35 : decode cX10_digest 35 = .ok (.if_icmp .gt 22, 3) := by decide +kernel
theorem dX10_digest_38 : decode cX10_digest 38 = .ok (.ldc2_w 274, 3) := by decide +kernel
theorem dX10_digest_41 : decode cX10_digest 41 = .ok (.lload_n 1, 1) := by decide +kernel
theorem dX10_digest_42 : decode cX10_digest 42 = .ok (.lmul, 1) := by decide +kernel
theorem dX10_digest_43 : decode cX10_digest 43 = .ok (.aload_n 0, 1) := by decide +kernel
theorem dX10_digest_44 : decode cX10_digest 44 = .ok (.iload_n 3, 1) := by decide +kernel
theorem dX10_digest_45 : decode cX10_digest 45 = .ok (.invokevirtual 279, 3) := by decide +kernel
theorem dX10_digest_48 : decode cX10_digest 48 = .ok (.i2l, 1) := by decide +kernel
theorem dX10_digest_49 : decode cX10_digest 49 = .ok (.ladd, 1) := by decide +kernel
theorem dX10_digest_50 : decode cX10_digest 50 = .ok (.lstore_n 1, 1) := by decide +kernel
theorem dX10_digest_51 : decode cX10_digest 51 = .ok (.iinc 3 1, 3) := by decide +kernel
theorem dX10_digest_54 : decode cX10_digest 54 = .ok (.goto (-21), 3) := by decide +kernel
theorem dX10_digest_57 : decode cX10_digest 57 = .ok (.aload_n 0, 1) := by decide +kernel
theorem dX10_digest_58 : decode cX10_digest 58 = .ok (.getfield 32, 3) := by decide +kernel
theorem dX10_digest_61 : decode cX10_digest 61 = .ok (.getfield 74, 3) := by decide +kernel
theorem dX10_digest_64 : decode cX10_digest 64 = .ok (.lload_n 1, 1) := by decide +kernel
theorem dX10_digest_65 : decode cX10_digest 65 = .ok (.invokevirtual 282, 3) := by decide +kernel
theorem dX10_digest_68 : decode cX10_digest 68 = .ok (.lstore_n 1, 1) := by decide +kernel
theorem dX10_digest_69 : decode cX10_digest 69 = .ok (.aload_n 0, 1) := by decide +kernel
theorem dX10_digest_70 : decode cX10_digest 70 = .ok (.getfield 32, 3) := by decide +kernel
theorem dX10_digest_73 : decode cX10_digest 73 = .ok (.getfield 105, 3) := by decide +kernel
theorem dX10_digest_76 : decode cX10_digest 76 = .ok (.lload_n 1, 1) := by decide +kernel
theorem dX10_digest_77 : decode cX10_digest 77 = .ok (.invokevirtual 282, 3) := by decide +kernel
theorem dX10_digest_80 : decode cX10_digest 80 = .ok (.lstore_n 1, 1) := by decide +kernel
theorem dX10_digest_81 : decode cX10_digest 81 = .ok (.aload_n 0, 1) := by decide +kernel
theorem dX10_digest_82 : decode cX10_digest 82 = .ok (.getfield 32, 3) := by decide +kernel
theorem dX10_digest_85 : decode cX10_digest 85 = .ok (.getfield 212, 3) := by decide +kernel
theorem dX10_digest_88 : decode cX10_digest 88 = .ok (.lload_n 1, 1) := by decide +kernel
theorem dX10_digest_89 : decode cX10_digest 89 = .ok (.invokevirtual 282, 3) := by decide +kernel
theorem dX10_digest_92 : decode cX10_digest 92 = .ok (.lstore_n 1, 1) := by decide +kernel
theorem dX10_digest_93 : decode cX10_digest 93 = .ok (.aload_n 0, 1) := by decide +kernel
theorem dX10_digest_94 : decode cX10_digest 94 = .ok (.getfield 32, 3) := by decide +kernel
theorem dX10_digest_97 : decode cX10_digest 97 = .ok (.getfield 215, 3) := by decide +kernel
theorem dX10_digest_100 : decode cX10_digest 100 = .ok (.lload_n 1, 1) := by decide +kernel
theorem dX10_digest_101 : decode cX10_digest 101 = .ok (.invokevirtual 282, 3) := by decide +kernel
theorem dX10_digest_104 : decode cX10_digest 104 = .ok (.lstore_n 1, 1) := by decide +kernel
theorem dX10_digest_105 : decode cX10_digest 105 = .ok (.ldc2_w 274, 3) := by decide +kernel
theorem dX10_digest_108 : decode cX10_digest 108 = .ok (.lload_n 1, 1) := by decide +kernel
theorem dX10_digest_109 : decode cX10_digest 109 = .ok (.lmul, 1) := by decide +kernel
theorem dX10_digest_110 : decode cX10_digest 110 = .ok (.aload_n 0, 1) := by decide +kernel
theorem dX10_digest_111 : decode cX10_digest 111 = .ok (.getfield 59, 3) := by decide +kernel
theorem dX10_digest_114 : decode cX10_digest 114 = .ok (.ladd, 1) := by decide +kernel
theorem dX10_digest_115 : decode cX10_digest 115 = .ok (.lstore_n 1, 1) := by decide +kernel
theorem dX10_digest_116 : decode cX10_digest 116 = .ok (.ldc2_w 274, 3) := by decide +kernel
theorem dX10_digest_119 : decode cX10_digest 119 = .ok (.lload_n 1, 1) := by decide +kernel
theorem dX10_digest_120 : decode cX10_digest 120 = .ok (.lmul, 1) := by decide +kernel
theorem dX10_digest_121 : decode cX10_digest 121 = .ok (.aload_n 0, 1) := by decide +kernel
theorem dX10_digest_122 : decode cX10_digest 122 = .ok (.getfield 63, 3) := by decide +kernel
theorem dX10_digest_125 : decode cX10_digest 125 = .ok (.ladd, 1) := by decide +kernel
theorem dX10_digest_126 : decode cX10_digest 126 = .ok (.lreturn, 1) := by decide +kernel
theorem dX10_refuseBad_0 : decode cX10_refuseBad 0 = .ok (.aload_n 0, 1) := by decide +kernel
theorem dX10_refuseBad_1 : decode cX10_refuseBad 1 = .ok (.dup, 1) := by decide +kernel
theorem dX10_refuseBad_2 : decode cX10_refuseBad 2 = .ok (.getfield 263, 3) := by decide +kernel
theorem dX10_refuseBad_5 : decode cX10_refuseBad 5 = .ok (.iconst 1, 1) := by decide +kernel
theorem dX10_refuseBad_6 : decode cX10_refuseBad 6 = .ok (.iadd, 1) := by decide +kernel
theorem dX10_refuseBad_7 : decode cX10_refuseBad 7 = .ok (.putfield 263, 3) := by decide +kernel
theorem dX10_refuseBad_10 : decode cX10_refuseBad 10 = .ok (.bipush (-2), 2) := by decide +kernel
theorem dX10_refuseBad_12 : decode cX10_refuseBad 12 = .ok (.ireturn, 1) := by decide +kernel
theorem dX10_refuseNo_0 : decode cX10_refuseNo 0 = .ok (.aload_n 0, 1) := by decide +kernel
theorem dX10_refuseNo_1 : decode cX10_refuseNo 1 = .ok (.dup, 1) := by decide +kernel
theorem dX10_refuseNo_2 : decode cX10_refuseNo 2 = .ok (.getfield 266, 3) := by decide +kernel
theorem dX10_refuseNo_5 : decode cX10_refuseNo 5 = .ok (.iconst 1, 1) := by decide +kernel
theorem dX10_refuseNo_6 : decode cX10_refuseNo 6 = .ok (.iadd, 1) := by decide +kernel
theorem dX10_refuseNo_7 : decode cX10_refuseNo 7 = .ok (.putfield 266, 3) := by decide +kernel
theorem dX10_refuseNo_10 : decode cX10_refuseNo 10 = .ok (.bipush (-3), 2) := by decide +kernel
theorem dX10_refuseNo_12 : decode cX10_refuseNo 12 = .ok (.ireturn, 1) := by decide +kernel
theorem dX10_refuseFull_0 : decode cX10_refuseFull 0 = .ok (.aload_n 0, 1) := by decide +kernel
theorem dX10_refuseFull_1 : decode cX10_refuseFull 1 = .ok (.dup, 1) := by decide +kernel
theorem dX10_refuseFull_2 : decode cX10_refuseFull 2 = .ok (.getfield 269, 3) := by decide +kernel
theorem dX10_refuseFull_5 : decode cX10_refuseFull 5 = .ok (.iconst 1, 1) := by decide +kernel
theorem dX10_refuseFull_6 : decode cX10_refuseFull 6 = .ok (.iadd, 1) := by decide +kernel
theorem dX10_refuseFull_7 : decode cX10_refuseFull 7 = .ok (.putfield 269, 3) := by decide +kernel
theorem dX10_refuseFull_10 : decode cX10_refuseFull 10 = .ok (.bipush (-4), 2) := by decide +kernel
theorem dX10_refuseFull_12 : decode cX10_refuseFull 12 = .ok (.ireturn, 1) := by decide +kernel
theorem dX10_within_0 : decode cX10_within 0 = .ok (.iload_n 0, 1) := by decide +kernel
theorem dX10_within_1 : decode cX10_within 1 = .ok (.iload_n 1, 1) := by decide +kernel
theorem dX10_within_2 : decode cX10_within 2 = .ok (.if_icmp .lt 12, 3) := by decide +kernel
theorem dX10_within_5 : decode cX10_within 5 = .ok (.iload_n 0, 1) := by decide +kernel
theorem dX10_within_6 : decode cX10_within 6 = .ok (.iload_n 2, 1) := by decide +kernel
theorem dX10_within_7 : decode cX10_within 7 = .ok (.if_icmp .gt 7, 3) := by decide +kernel
theorem dX10_within_10 : decode cX10_within 10 = .ok (.iconst 1, 1) := by decide +kernel
theorem dX10_within_11 : decode cX10_within 11 = .ok (.goto 4, 3) := by decide +kernel
theorem dX10_within_14 : decode cX10_within 14 = .ok (.iconst 0, 1) := by decide +kernel
theorem dX10_within_15 : decode cX10_within 15 = .ok (.ireturn, 1) := by decide +kernel
theorem dX10_isFiction_0 : decode cX10_isFiction 0 = .ok (.iload_n 1, 1) := by decide +kernel
theorem dX10_isFiction_1 : decode cX10_isFiction 1 = .ok (.ifCond .lt 21, 3) := by decide +kernel
theorem dX10_isFiction_4 : decode cX10_isFiction 4 = .ok (.iload_n 1, 1) := by decide +kernel
theorem dX10_isFiction_5 : decode cX10_isFiction 5 = .ok (.aload_n 0, 1) := by decide +kernel
theorem dX10_isFiction_6 : decode cX10_isFiction 6 = .ok (.getfield 32, 3) := by decide +kernel
theorem dX10_isFiction_9 : decode cX10_isFiction 9 = .ok (.getfield 74, 3) := by decide +kernel
theorem dX10_isFiction_12 : decode cX10_isFiction 12 = .ok (.getfield 78, 3) := by decide +kernel
theorem dX10_isFiction_15 : decode cX10_isFiction 15 = .ok (.if_icmp .ge 7, 3) := by decide +kernel
theorem dX10_isFiction_18 : decode cX10_isFiction 18 = .ok (.iconst 1, 1) := by decide +kernel
theorem dX10_isFiction_19 : decode cX10_isFiction 19 = .ok (.goto 4, 3) := by decide +kernel
theorem dX10_isFiction_22 : decode cX10_isFiction 22 = .ok (.iconst 0, 1) := by decide +kernel
theorem dX10_isFiction_23 : decode cX10_isFiction 23 = .ok (.ireturn, 1) := by decide +kernel
theorem dX10_isCourt_0 : decode cX10_isCourt 0 = .ok (.iload_n 1, 1) := by decide +kernel
theorem dX10_isCourt_1 : decode cX10_isCourt 1 = .ok (.ifCond .lt 21, 3) := by decide +kernel
theorem dX10_isCourt_4 : decode cX10_isCourt 4 = .ok (.iload_n 1, 1) := by decide +kernel
theorem dX10_isCourt_5 : decode cX10_isCourt 5 = .ok (.aload_n 0, 1) := by decide +kernel
theorem dX10_isCourt_6 : decode cX10_isCourt 6 = .ok (.getfield 32, 3) := by decide +kernel
theorem dX10_isCourt_9 : decode cX10_isCourt 9 = .ok (.getfield 105, 3) := by decide +kernel
theorem dX10_isCourt_12 : decode cX10_isCourt 12 = .ok (.getfield 78, 3) := by decide +kernel
theorem dX10_isCourt_15 : decode cX10_isCourt 15 = .ok (.if_icmp .ge 7, 3) := by decide +kernel
theorem dX10_isCourt_18 : decode cX10_isCourt 18 = .ok (.iconst 1, 1) := by decide +kernel
theorem dX10_isCourt_19 : decode cX10_isCourt 19 = .ok (.goto 4, 3) := by decide +kernel
theorem dX10_isCourt_22 : decode cX10_isCourt 22 = .ok (.iconst 0, 1) := by decide +kernel
theorem dX10_isCourt_23 : decode cX10_isCourt 23 = .ok (.ireturn, 1) := by decide +kernel
theorem dX10_isPleaded_0 : decode cX10_isPleaded 0 = .ok (.aload_n 0, 1) := by decide +kernel
theorem dX10_isPleaded_1 : decode cX10_isPleaded 1 = .ok (.getfield 32, 3) := by decide +kernel
theorem dX10_isPleaded_4 : decode cX10_isPleaded 4 = .ok (.getfield 122, 3) := by decide +kernel
theorem dX10_isPleaded_7 : decode cX10_isPleaded 7 = .ok (.iload_n 1, 1) := by decide +kernel
theorem dX10_isPleaded_8 : decode cX10_isPleaded 8 = .ok (.invokestatic 286, 3) := by decide +kernel
theorem dX10_isPleaded_11 : decode cX10_isPleaded 11 = .ok (.ireturn, 1) := by decide +kernel
theorem dX10_mayPlead_0 : decode cX10_mayPlead 0 = .ok (.aload_n 0, 1) := by decide +kernel
theorem dX10_mayPlead_1 : decode cX10_mayPlead 1 = .ok (.iload_n 1, 1) := by decide +kernel
theorem dX10_mayPlead_2 : decode cX10_mayPlead 2 = .ok (.invokevirtual 157, 3) := by decide +kernel
theorem dX10_mayPlead_5 : decode cX10_mayPlead 5 = .ok (.ifCond .ne 29, 3) := by decide +kernel
theorem dX10_mayPlead_8 : decode cX10_mayPlead 8 = .ok (.aload_n 0, 1) := by decide +kernel
theorem dX10_mayPlead_9 : decode cX10_mayPlead 9 = .ok (.getfield 32, 3) := by decide +kernel
theorem dX10_mayPlead_12 : decode cX10_mayPlead 12 = .ok (.iload_n 1, 1) := by decide +kernel
theorem dX10_mayPlead_13 : decode cX10_mayPlead 13 = .ok (.aload_n 0, 1) := by decide +kernel
theorem dX10_mayPlead_14 : decode cX10_mayPlead 14 = .ok (.invokevirtual 169, 3) := by decide +kernel
theorem dX10_mayPlead_17 : decode cX10_mayPlead 17 = .ok (.aload_n 0, 1) := by decide +kernel
theorem dX10_mayPlead_18 : decode cX10_mayPlead 18 = .ok (.getfield 32, 3) := by decide +kernel
theorem dX10_mayPlead_21 : decode cX10_mayPlead 21 = .ok (.getfield 144, 3) := by decide +kernel
theorem dX10_mayPlead_24 : decode cX10_mayPlead 24 = .ok (.invokevirtual 289, 3) := by decide +kernel
theorem dX10_mayPlead_27 : decode cX10_mayPlead 27 = .ok (.ifCond .eq 7, 3) := by decide +kernel
theorem dX10_mayPlead_30 : decode cX10_mayPlead 30 = .ok (.iconst 1, 1) := by decide +kernel
theorem dX10_mayPlead_31 : decode cX10_mayPlead 31 = .ok (.goto 4, 3) := by decide +kernel
theorem dX10_mayPlead_34 : decode cX10_mayPlead 34 = .ok (.iconst 0, 1) := by decide +kernel
theorem dX10_mayPlead_35 : decode cX10_mayPlead 35 = .ok (.ireturn, 1) := by decide +kernel
theorem dX10_supposed_0 : decode cX10_supposed 0 = .ok (.aload_n 0, 1) := by decide +kernel
theorem dX10_supposed_1 : decode cX10_supposed 1 = .ok (.getfield 32, 3) := by decide +kernel
theorem dX10_supposed_4 : decode cX10_supposed 4 = .ok (.aload_n 0, 1) := by decide +kernel
theorem dX10_supposed_5 : decode cX10_supposed 5 = .ok (.getfield 32, 3) := by decide +kernel
theorem dX10_supposed_8 : decode cX10_supposed 8 = .ok (.getfield 122, 3) := by decide +kernel
theorem dX10_supposed_11 : decode cX10_supposed 11 = .ok (.invokevirtual 199, 3) := by decide +kernel
theorem dX10_supposed_14 : decode cX10_supposed 14 = .ok (.ireturn, 1) := by decide +kernel
theorem dX10_holds_0 : decode cX10_holds 0 = .ok (.iload_n 0, 1) := by decide +kernel
theorem dX10_holds_1 : decode cX10_holds 1 = .ok (.iload_n 1, 1) := by decide +kernel
theorem dX10_holds_2 : decode cX10_holds 2 = .ok (.ishr, 1) := by decide +kernel
theorem dX10_holds_3 : decode cX10_holds 3 = .ok (.iconst 1, 1) := by decide +kernel
theorem dX10_holds_4 : decode cX10_holds 4 = .ok (.iand, 1) := by decide +kernel
theorem dX10_holds_5 : decode cX10_holds 5 = .ok (.iconst 1, 1) := by decide +kernel
theorem dX10_holds_6 : decode cX10_holds 6 = .ok (.if_icmp .ne 7, 3) := by decide +kernel
theorem dX10_holds_9 : decode cX10_holds 9 = .ok (.iconst 1, 1) := by decide +kernel
theorem dX10_holds_10 : decode cX10_holds 10 = .ok (.goto 4, 3) := by decide +kernel
theorem dX10_holds_13 : decode cX10_holds 13 = .ok (.iconst 0, 1) := by decide +kernel
theorem dX10_holds_14 : decode cX10_holds 14 = .ok (.ireturn, 1) := by decide +kernel
theorem dX10_fewer_0 : decode cX10_fewer 0 = .ok (.iload_n 1, 1) := by decide +kernel
theorem dX10_fewer_1 : decode cX10_fewer 1 = .ok (.iconst (-1), 1) := by decide +kernel
theorem dX10_fewer_2 : decode cX10_fewer 2 = .ok (.if_icmp .eq 14, 3) := by decide +kernel
theorem dX10_fewer_5 : decode cX10_fewer 5 = .ok (.iload_n 0, 1) := by decide +kernel
theorem dX10_fewer_6 : decode cX10_fewer 6 = .ok (.invokestatic 125, 3) := by decide +kernel
theorem dX10_fewer_9 : decode cX10_fewer 9 = .ok (.iload_n 1, 1) := by decide +kernel
theorem dX10_fewer_10 : decode cX10_fewer 10 = .ok (.invokestatic 125, 3) := by decide +kernel
theorem dX10_fewer_13 : decode cX10_fewer 13 = .ok (.if_icmp .ge 7, 3) := by decide +kernel
theorem dX10_fewer_16 : decode cX10_fewer 16 = .ok (.iconst 1, 1) := by decide +kernel
theorem dX10_fewer_17 : decode cX10_fewer 17 = .ok (.goto 4, 3) := by decide +kernel
theorem dX10_fewer_20 : decode cX10_fewer 20 = .ok (.iconst 0, 1) := by decide +kernel
theorem dX10_fewer_21 : decode cX10_fewer 21 = .ok (.ireturn, 1) := by decide +kernel
theorem dX10_contradictIn_0 : decode cX10_contradictIn 0 = .ok (.iload_n 0, 1) := by decide +kernel
theorem dX10_contradictIn_1 : decode cX10_contradictIn 1 = .ok (.iload_n 0, 1) := by decide +kernel
theorem dX10_contradictIn_2 : decode cX10_contradictIn 2 = .ok (.iconst 1, 1) := by decide +kernel
theorem dX10_contradictIn_3 : decode cX10_contradictIn 3 = .ok (.ishr, 1) := by decide +kernel
theorem dX10_contradictIn_4 : decode cX10_contradictIn 4 = .ok (.iand, 1) := by decide +kernel
theorem dX10_contradictIn_5 : decode cX10_contradictIn 5 = .ok (.bipush 85, 2) := by decide +kernel
theorem dX10_contradictIn_7 : decode cX10_contradictIn 7 = .ok (.iand, 1) := by decide +kernel
theorem dX10_contradictIn_8 : decode cX10_contradictIn 8 = .ok (.ifCond .eq 7, 3) := by decide +kernel
theorem dX10_contradictIn_11 : decode cX10_contradictIn 11 = .ok (.iconst 1, 1) := by decide +kernel
theorem dX10_contradictIn_12 : decode cX10_contradictIn 12 = .ok (.goto 4, 3) := by decide +kernel
theorem dX10_contradictIn_15 : decode cX10_contradictIn 15 = .ok (.iconst 0, 1) := by decide +kernel
theorem dX10_contradictIn_16 : decode cX10_contradictIn 16 = .ok (.ireturn, 1) := by decide +kernel
theorem dX10_pairsIn_0 : decode cX10_pairsIn 0 = .ok (.iconst 0, 1) := by decide +kernel
theorem dX10_pairsIn_1 : decode cX10_pairsIn 1 = .ok (.istore_n 1, 1) := by decide +kernel
theorem dX10_pairsIn_2 : decode cX10_pairsIn 2 = .ok (.iconst 0, 1) := by decide +kernel
theorem dX10_pairsIn_3 : decode cX10_pairsIn 3 = .ok (.istore_n 2, 1) := by decide +kernel
theorem dX10_pairsIn_4 : decode cX10_pairsIn 4 = .ok (.iload_n 2, 1) := by decide +kernel
theorem dX10_pairsIn_5 : decode cX10_pairsIn 5 = .ok (.iconst 4, 1) := by decide +kernel
theorem dX10_pairsIn_6 : decode cX10_pairsIn 6 = .ok (.if_icmp .ge 26, 3) := by decide +kernel
theorem dX10_pairsIn_9 : decode cX10_pairsIn 9 = .ok (.iload_n 0, 1) := by decide +kernel
theorem dX10_pairsIn_10 : decode cX10_pairsIn 10 = .ok (.iconst 2, 1) := by decide +kernel
theorem dX10_pairsIn_11 : decode cX10_pairsIn 11 = .ok (.iload_n 2, 1) := by decide +kernel
theorem dX10_pairsIn_12 : decode cX10_pairsIn 12 = .ok (.imul, 1) := by decide +kernel
theorem dX10_pairsIn_13 : decode cX10_pairsIn 13 = .ok (.ishr, 1) := by decide +kernel
theorem dX10_pairsIn_14 : decode cX10_pairsIn 14 = .ok (.iconst 3, 1) := by decide +kernel
theorem dX10_pairsIn_15 : decode cX10_pairsIn 15 = .ok (.iand, 1) := by decide +kernel
theorem dX10_pairsIn_16 : decode cX10_pairsIn 16 = .ok (.iconst 3, 1) := by decide +kernel
theorem dX10_pairsIn_17 : decode cX10_pairsIn 17 = .ok (.if_icmp .ne 9, 3) := by decide +kernel
theorem dX10_pairsIn_20 : decode cX10_pairsIn 20 = .ok (.iload_n 1, 1) := by decide +kernel
theorem dX10_pairsIn_21 : decode cX10_pairsIn 21 = .ok (.iconst 1, 1) := by decide +kernel
theorem dX10_pairsIn_22 : decode cX10_pairsIn 22 = .ok (.iload_n 2, 1) := by decide +kernel
theorem dX10_pairsIn_23 : decode cX10_pairsIn 23 = .ok (.ishl, 1) := by decide +kernel
theorem dX10_pairsIn_24 : decode cX10_pairsIn 24 = .ok (.ior, 1) := by decide +kernel
theorem dX10_pairsIn_25 : decode cX10_pairsIn 25 = .ok (.istore_n 1, 1) := by decide +kernel
theorem dX10_pairsIn_26 : decode cX10_pairsIn 26 = .ok (.iinc 2 1, 3) := by decide +kernel
theorem dX10_pairsIn_29 : decode cX10_pairsIn 29 = .ok (.goto (-25), 3) := by decide +kernel
theorem dX10_pairsIn_32 : decode cX10_pairsIn 32 = .ok (.iload_n 1, 1) := by decide +kernel
theorem dX10_pairsIn_33 : decode cX10_pairsIn 33 = .ok (.ireturn, 1) := by decide +kernel
theorem dX10_gainOfOne_0 : decode cX10_gainOfOne 0 = .ok (.iload_n 0, 1) := by decide +kernel
theorem dX10_gainOfOne_1 : decode cX10_gainOfOne 1 = .ok (.iconst 1, 1) := by decide +kernel
theorem dX10_gainOfOne_2 : decode cX10_gainOfOne 2 = .ok (.if_icmp .ne 5, 3) := by decide +kernel
theorem dX10_gainOfOne_5 : decode cX10_gainOfOne 5 = .ok (.iconst 0, 1) := by decide +kernel
theorem dX10_gainOfOne_6 : decode cX10_gainOfOne 6 = .ok (.ireturn, 1) := by decide +kernel
theorem dX10_gainOfOne_7 : decode cX10_gainOfOne 7 = .ok (.iload_n 1, 1) := by decide +kernel
theorem dX10_gainOfOne_8 : decode cX10_gainOfOne 8 = .ok (.ifCond .ne 12, 3) := by decide +kernel
theorem dX10_gainOfOne_11 : decode cX10_gainOfOne 11 = .ok (.iload_n 2, 1) := by decide +kernel
theorem dX10_gainOfOne_12 : decode cX10_gainOfOne 12 = .ok (.ifCond .eq 8, 3) := by decide +kernel
theorem dX10_gainOfOne_15 : decode cX10_gainOfOne 15 = .ok (.bipush (-3), 2) := by decide +kernel
theorem dX10_gainOfOne_17 : decode cX10_gainOfOne 17 = .ok (.goto 4, 3) := by decide +kernel
theorem dX10_gainOfOne_20 : decode cX10_gainOfOne 20 = .ok (.iconst 2, 1) := by decide +kernel
theorem dX10_gainOfOne_21 : decode cX10_gainOfOne 21 = .ok (.ireturn, 1) := by decide +kernel
theorem dX10_gainOfOther_0 : decode cX10_gainOfOther 0 = .ok (.iload_n 1, 1) := by decide +kernel
theorem dX10_gainOfOther_1 : decode cX10_gainOfOther 1 = .ok (.iconst 1, 1) := by decide +kernel
theorem dX10_gainOfOther_2 : decode cX10_gainOfOther 2 = .ok (.if_icmp .ne 5, 3) := by decide +kernel
theorem dX10_gainOfOther_5 : decode cX10_gainOfOther 5 = .ok (.iconst 0, 1) := by decide +kernel
theorem dX10_gainOfOther_6 : decode cX10_gainOfOther 6 = .ok (.ireturn, 1) := by decide +kernel
theorem dX10_gainOfOther_7 : decode cX10_gainOfOther 7 = .ok (.iload_n 0, 1) := by decide +kernel
theorem dX10_gainOfOther_8 : decode cX10_gainOfOther 8 = .ok (.ifCond .ne 11, 3) := by decide +kernel
theorem dX10_gainOfOther_11 : decode cX10_gainOfOther 11 = .ok (.iload_n 2, 1) := by decide +kernel
theorem dX10_gainOfOther_12 : decode cX10_gainOfOther 12 = .ok (.ifCond .eq 7, 3) := by decide +kernel
theorem dX10_gainOfOther_15 : decode cX10_gainOfOther 15 = .ok (.iconst 3, 1) := by decide +kernel
theorem dX10_gainOfOther_16 : decode cX10_gainOfOther 16 = .ok (.goto 4, 3) := by decide +kernel
theorem dX10_gainOfOther_19 : decode cX10_gainOfOther 19 = .ok (.iconst (-1), 1) := by decide +kernel
theorem dX10_gainOfOther_20 : decode cX10_gainOfOther 20 = .ok (.ireturn, 1) := by decide +kernel
theorem dX10_power_0 : decode cX10_power 0 = .ok (.lconst 1, 1) := by decide +kernel
theorem dX10_power_1 : decode cX10_power 1 = .ok (.lstore_n 2, 1) := by decide +kernel
theorem dX10_power_2 : decode cX10_power 2 = .ok (.iconst 0, 1) := by decide +kernel
theorem dX10_power_3 : decode cX10_power 3 = .ok (.istore 4, 2) := by decide +kernel
theorem dX10_power_5 : decode cX10_power 5 = .ok (.iload 4, 2) := by decide +kernel
theorem dX10_power_7 : decode cX10_power 7 = .ok (.iload_n 1, 1) := by decide +kernel
theorem dX10_power_8 : decode cX10_power 8 = .ok (.if_icmp .ge 14, 3) := by decide +kernel
theorem dX10_power_11 : decode cX10_power 11 = .ok (.lload_n 2, 1) := by decide +kernel
theorem dX10_power_12 : decode cX10_power 12 = .ok (.iload_n 0, 1) := by decide +kernel
theorem dX10_power_13 : decode cX10_power 13 = .ok (.i2l, 1) := by decide +kernel
theorem dX10_power_14 : decode cX10_power 14 = .ok (.lmul, 1) := by decide +kernel
theorem dX10_power_15 : decode cX10_power 15 = .ok (.lstore_n 2, 1) := by decide +kernel
theorem dX10_power_16 : decode cX10_power 16 = .ok (.iinc 4 1, 3) := by decide +kernel
theorem dX10_power_19 : decode cX10_power 19 = .ok (.goto (-14), 3) := by decide +kernel
theorem dX10_power_22 : decode cX10_power 22 = .ok (.lload_n 2, 1) := by decide +kernel
theorem dX10_power_23 : decode cX10_power 23 = .ok (.lreturn, 1) := by decide +kernel
theorem dX10_keepFraction_0 : decode cX10_keepFraction 0 = .ok (.lload_n 1, 1) := by decide +kernel
theorem dX10_keepFraction_1 : decode cX10_keepFraction 1 = .ok (.lload_n 3, 1) := by decide +kernel
theorem dX10_keepFraction_2 : decode cX10_keepFraction 2 = .ok (.invokestatic 292, 3) := by decide +kernel
theorem dX10_keepFraction_5 : decode cX10_keepFraction 5 = .ok (.lstore 5, 2) := by decide +kernel
theorem dX10_keepFraction_7 : decode cX10_keepFraction 7 = .ok (.lload 5, 2) := by decide +kernel
theorem dX10_keepFraction_9 : decode cX10_keepFraction 9 = .ok (.lconst 0, 1) := by decide +kernel
theorem dX10_keepFraction_10 : decode cX10_keepFraction 10 = .ok (.lcmp, 1) := by decide +kernel
theorem dX10_keepFraction_11 : decode cX10_keepFraction 11 = .ok (.ifCond .le 19, 3) := by decide +kernel
theorem dX10_keepFraction_14 : decode cX10_keepFraction 14 = .ok (.aload_n 0, 1) := by decide +kernel
theorem dX10_keepFraction_15 : decode cX10_keepFraction 15 = .ok (.lload_n 1, 1) := by decide +kernel
theorem dX10_keepFraction_16 : decode cX10_keepFraction 16 = .ok (.lload 5, 2) := by decide +kernel
theorem dX10_keepFraction_18 : decode cX10_keepFraction 18 = .ok (.ldiv, 1) := by decide +kernel
theorem dX10_keepFraction_19 : decode cX10_keepFraction 19 = .ok (.putfield 59, 3) := by decide +kernel
theorem dX10_keepFraction_22 : decode cX10_keepFraction 22 = .ok (.aload_n 0, 1) := by decide +kernel
theorem dX10_keepFraction_23 : decode cX10_keepFraction 23 = .ok (.lload_n 3, 1) := by decide +kernel
theorem dX10_keepFraction_24 : decode cX10_keepFraction 24 = .ok (.lload 5, 2) := by decide +kernel
theorem dX10_keepFraction_26 : decode cX10_keepFraction 26 = .ok (.ldiv, 1) := by decide +kernel
theorem dX10_keepFraction_27 : decode cX10_keepFraction 27 = .ok (.putfield 63, 3) := by decide +kernel
theorem dX10_keepFraction_30 : decode cX10_keepFraction 30 = .ok (.return_, 1) := by decide +kernel
theorem dX10_commonDivisor_0 : decode cX10_commonDivisor 0 = .ok (.lload_n 0, 1) := by decide +kernel
theorem dX10_commonDivisor_1 : decode cX10_commonDivisor 1 = .ok (.lstore 4, 2) := by decide +kernel
theorem dX10_commonDivisor_3 : decode cX10_commonDivisor 3 = .ok (.lload_n 2, 1) := by decide +kernel
theorem dX10_commonDivisor_4 : decode cX10_commonDivisor 4 = .ok (.lstore 6, 2) := by decide +kernel
theorem dX10_commonDivisor_6 : decode cX10_commonDivisor 6 = .ok (.iconst 0, 1) := by decide +kernel
theorem dX10_commonDivisor_7 : decode cX10_commonDivisor 7 = .ok (.istore 8, 2) := by decide +kernel
theorem dX10_commonDivisor_9 : decode cX10_commonDivisor 9 = .ok (.iload 8, 2) := by decide +kernel
theorem dX10_commonDivisor_11 : decode cX10_commonDivisor 11 = .ok (.sipush 200, 3) := by decide +kernel
theorem dX10_commonDivisor_14 : decode cX10_commonDivisor 14 = .ok (.if_icmp .ge 31, 3) := by decide +kernel
theorem dX10_commonDivisor_17 : decode cX10_commonDivisor 17 = .ok (.lload 6, 2) := by decide +kernel
theorem dX10_commonDivisor_19 : decode cX10_commonDivisor 19 = .ok (.lconst 0, 1) := by decide +kernel
theorem dX10_commonDivisor_20 : decode cX10_commonDivisor 20 = .ok (.lcmp, 1) := by decide +kernel
theorem dX10_commonDivisor_21 : decode cX10_commonDivisor 21 = .ok (.ifCond .eq 24, 3) := by decide +kernel
theorem dX10_commonDivisor_24 : decode cX10_commonDivisor 24 = .ok (.lload 4, 2) := by decide +kernel
theorem dX10_commonDivisor_26 : decode cX10_commonDivisor 26 = .ok (.lload 6, 2) := by decide +kernel
theorem dX10_commonDivisor_28 : decode cX10_commonDivisor 28 = .ok (.lrem, 1) := by decide +kernel
theorem dX10_commonDivisor_29 : decode cX10_commonDivisor 29 = .ok (.lstore 9, 2) := by decide +kernel
theorem dX10_commonDivisor_31 : decode cX10_commonDivisor 31 = .ok (.lload 6, 2) := by decide +kernel
theorem dX10_commonDivisor_33 : decode cX10_commonDivisor 33 = .ok (.lstore 4, 2) := by decide +kernel
theorem dX10_commonDivisor_35 : decode cX10_commonDivisor 35 = .ok (.lload 9, 2) := by decide +kernel
theorem dX10_commonDivisor_37 : decode cX10_commonDivisor 37 = .ok (.lstore 6, 2) := by decide +kernel
theorem dX10_commonDivisor_39 : decode cX10_commonDivisor 39 = .ok (.iinc 8 1, 3) := by decide +kernel
theorem dX10_commonDivisor_42 : decode cX10_commonDivisor 42 = .ok (.goto (-33), 3) := by decide +kernel
theorem dX10_commonDivisor_45 : decode cX10_commonDivisor 45 = .ok (.lload 4, 2) := by decide +kernel
theorem dX10_commonDivisor_47 : decode cX10_commonDivisor 47 = .ok (.lreturn, 1) := by decide +kernel
theorem dJ6_bitCount_0f7a4_0 : decode cJ6_bitCount_0f7a4 0 = .ok (.iload_n 0, 1) := by decide +kernel
theorem dJ6_bitCount_0f7a4_1 : decode cJ6_bitCount_0f7a4 1 = .ok (.iload_n 0, 1) := by decide +kernel
theorem dJ6_bitCount_0f7a4_2 : decode cJ6_bitCount_0f7a4 2 = .ok (.iconst 1, 1) := by decide +kernel
theorem dJ6_bitCount_0f7a4_3 : decode cJ6_bitCount_0f7a4 3 = .ok (.iushr, 1) := by decide +kernel
theorem dJ6_bitCount_0f7a4_4 : decode cJ6_bitCount_0f7a4 4 = .ok (.ldc_w 265, 3) := by decide +kernel
theorem dJ6_bitCount_0f7a4_7 : decode cJ6_bitCount_0f7a4 7 = .ok (.iand, 1) := by decide +kernel
theorem dJ6_bitCount_0f7a4_8 : decode cJ6_bitCount_0f7a4 8 = .ok (.isub, 1) := by decide +kernel
theorem dJ6_bitCount_0f7a4_9 : decode cJ6_bitCount_0f7a4 9 = .ok (.istore_n 0, 1) := by decide +kernel
theorem dJ6_bitCount_0f7a4_10 : decode cJ6_bitCount_0f7a4 10 = .ok (.iload_n 0, 1) := by decide +kernel
theorem dJ6_bitCount_0f7a4_11 : decode cJ6_bitCount_0f7a4 11 = .ok (.ldc_w 266, 3) := by decide +kernel
theorem dJ6_bitCount_0f7a4_14 : decode cJ6_bitCount_0f7a4 14 = .ok (.iand, 1) := by decide +kernel
theorem dJ6_bitCount_0f7a4_15 : decode cJ6_bitCount_0f7a4 15 = .ok (.iload_n 0, 1) := by decide +kernel
theorem dJ6_bitCount_0f7a4_16 : decode cJ6_bitCount_0f7a4 16 = .ok (.iconst 2, 1) := by decide +kernel
theorem dJ6_bitCount_0f7a4_17 : decode cJ6_bitCount_0f7a4 17 = .ok (.iushr, 1) := by decide +kernel
theorem dJ6_bitCount_0f7a4_18 : decode cJ6_bitCount_0f7a4 18 = .ok (.ldc_w 266, 3) := by decide +kernel
theorem dJ6_bitCount_0f7a4_21 : decode cJ6_bitCount_0f7a4 21 = .ok (.iand, 1) := by decide +kernel
theorem dJ6_bitCount_0f7a4_22 : decode cJ6_bitCount_0f7a4 22 = .ok (.iadd, 1) := by decide +kernel
theorem dJ6_bitCount_0f7a4_23 : decode cJ6_bitCount_0f7a4 23 = .ok (.istore_n 0, 1) := by decide +kernel
theorem dJ6_bitCount_0f7a4_24 : decode cJ6_bitCount_0f7a4 24 = .ok (.iload_n 0, 1) := by decide +kernel
theorem dJ6_bitCount_0f7a4_25 : decode cJ6_bitCount_0f7a4 25 = .ok (.iload_n 0, 1) := by decide +kernel
theorem dJ6_bitCount_0f7a4_26 : decode cJ6_bitCount_0f7a4 26 = .ok (.iconst 4, 1) := by decide +kernel
theorem dJ6_bitCount_0f7a4_27 : decode cJ6_bitCount_0f7a4 27 = .ok (.iushr, 1) := by decide +kernel
theorem dJ6_bitCount_0f7a4_28 : decode cJ6_bitCount_0f7a4 28 = .ok (.iadd, 1) := by decide +kernel
theorem dJ6_bitCount_0f7a4_29 : decode cJ6_bitCount_0f7a4 29 = .ok (.ldc_w 267, 3) := by decide +kernel
theorem dJ6_bitCount_0f7a4_32 : decode cJ6_bitCount_0f7a4 32 = .ok (.iand, 1) := by decide +kernel
theorem dJ6_bitCount_0f7a4_33 : decode cJ6_bitCount_0f7a4 33 = .ok (.istore_n 0, 1) := by decide +kernel
theorem dJ6_bitCount_0f7a4_34 : decode cJ6_bitCount_0f7a4 34 = .ok (.iload_n 0, 1) := by decide +kernel
theorem dJ6_bitCount_0f7a4_35 : decode cJ6_bitCount_0f7a4 35 = .ok (.iload_n 0, 1) := by decide +kernel
theorem dJ6_bitCount_0f7a4_36 : decode cJ6_bitCount_0f7a4 36 = .ok (.bipush 8, 2) := by decide +kernel
theorem dJ6_bitCount_0f7a4_38 : decode cJ6_bitCount_0f7a4 38 = .ok (.iushr, 1) := by decide +kernel
theorem dJ6_bitCount_0f7a4_39 : decode cJ6_bitCount_0f7a4 39 = .ok (.iadd, 1) := by decide +kernel
theorem dJ6_bitCount_0f7a4_40 : decode cJ6_bitCount_0f7a4 40 = .ok (.istore_n 0, 1) := by decide +kernel
theorem dJ6_bitCount_0f7a4_41 : decode cJ6_bitCount_0f7a4 41 = .ok (.iload_n 0, 1) := by decide +kernel
theorem dJ6_bitCount_0f7a4_42 : decode cJ6_bitCount_0f7a4 42 = .ok (.iload_n 0, 1) := by decide +kernel
theorem dJ6_bitCount_0f7a4_43 : decode cJ6_bitCount_0f7a4 43 = .ok (.bipush 16, 2) := by decide +kernel
theorem dJ6_bitCount_0f7a4_45 : decode cJ6_bitCount_0f7a4 45 = .ok (.iushr, 1) := by decide +kernel
theorem dJ6_bitCount_0f7a4_46 : decode cJ6_bitCount_0f7a4 46 = .ok (.iadd, 1) := by decide +kernel
theorem dJ6_bitCount_0f7a4_47 : decode cJ6_bitCount_0f7a4 47 = .ok (.istore_n 0, 1) := by decide +kernel
theorem dJ6_bitCount_0f7a4_48 : decode cJ6_bitCount_0f7a4 48 = .ok (.iload_n 0, 1) := by decide +kernel
theorem dJ6_bitCount_0f7a4_49 : decode cJ6_bitCount_0f7a4 49 = .ok (.bipush 63, 2) := by decide +kernel
theorem dJ6_bitCount_0f7a4_51 : decode cJ6_bitCount_0f7a4 51 = .ok (.iand, 1) := by decide +kernel
theorem dJ6_bitCount_0f7a4_52 : decode cJ6_bitCount_0f7a4 52 = .ok (.ireturn, 1) := by decide +kernel
end
section
noncomputable def mJ6_bitCount_0f7a4 (a1 : Int32) : Option Int32 := nm (a1 - ((a1.toUInt32 >>> ((1 : Int32).toUInt32 &&& Int32.toUInt32 31)).toInt32 &&& (1431655765 : Int32))) fun x1 => nm ((x1 &&& (858993459 : Int32)) + ((x1.toUInt32 >>> ((2 : Int32).toUInt32 &&& Int32.toUInt32 31)).toInt32 &&& (858993459 : Int32))) fun x2 => nm ((x2 + (x2.toUInt32 >>> ((4 : Int32).toUInt32 &&& Int32.toUInt32 31)).toInt32) &&& (252645135 : Int32)) fun x3 => nm (x3 + (x3.toUInt32 >>> ((8 : Int32).toUInt32 &&& Int32.toUInt32 31)).toInt32) fun x4 => nm (x4 + (x4.toUInt32 >>> ((16 : Int32).toUInt32 &&& Int32.toUInt32 31)).toInt32) fun x5 => some (x5 &&& (63 : Int32))
set_option maxHeartbeats 4000000 in
set_option maxRecDepth 100000 in
theorem tcJ6_bitCount_0f7a4 (l : Launch) (D : va_G) (cs : CS) (a1 : Int32) (z : Int32) (hm : mJ6_bitCount_0f7a4 a1 = some z) : Met l yJ6_bitCount_0f7a4 (Cond.code yJ6_bitCount_0f7a4 cJ6_bitCount_0f7a4 1 (some .int) :: gw_tbl) ({ frames := 0, cells := 0, slots := 0, locals := 0 }) (PcR D cs ([]) [.int a1]) (QRi z) 0 0 NoF := by
  refine met_R rfl (Nat.le_of_ble_eq_true rfl) (fun p e s m below meth c E hP ls hl => ?_)
  obtain ⟨hx, hb, hr, hml, hown, hlk, hT, hN, hK⟩ := id E
  have hl : lv_has ls 1 [(0, .int a1)] := hl
  unfold mJ6_bitCount_0f7a4 at hm
  refine lv_iload_n hx hb dJ6_bitCount_0f7a4_0 rfl (lv_at hl 0 rfl) ?_
  refine lv_iload_n hx hb dJ6_bitCount_0f7a4_1 rfl (lv_at hl 0 rfl) ?_
  refine lv_iconst (v := (1 : Int32)) hx hb dJ6_bitCount_0f7a4_2 (by decide) ?_
  refine lv_iushr hx hb dJ6_bitCount_0f7a4_3 rfl ?_
  refine lv_ldcw hx hb hown (hT _ tw_428) dJ6_bitCount_0f7a4_4 ?_
  refine lv_iand hx hb dJ6_bitCount_0f7a4_7 ?_
  refine lv_isub hx hb dJ6_bitCount_0f7a4_8 ?_
  refine xi_nm hm (fun x1 hm => ?_)
  refine lv_istore_n (lv' := [(0, .int x1)]) hx hb dJ6_bitCount_0f7a4_9 rfl hl (by decide) rfl (fun ls hl => ?_)
  refine lv_iload_n hx hb dJ6_bitCount_0f7a4_10 rfl (lv_at hl 0 rfl) ?_
  refine lv_ldcw hx hb hown (hT _ tw_429) dJ6_bitCount_0f7a4_11 ?_
  refine lv_iand hx hb dJ6_bitCount_0f7a4_14 ?_
  refine lv_iload_n hx hb dJ6_bitCount_0f7a4_15 rfl (lv_at hl 0 rfl) ?_
  refine lv_iconst (v := (2 : Int32)) hx hb dJ6_bitCount_0f7a4_16 (by decide) ?_
  refine lv_iushr hx hb dJ6_bitCount_0f7a4_17 rfl ?_
  refine lv_ldcw hx hb hown (hT _ tw_429) dJ6_bitCount_0f7a4_18 ?_
  refine lv_iand hx hb dJ6_bitCount_0f7a4_21 ?_
  refine lv_iadd hx hb dJ6_bitCount_0f7a4_22 ?_
  refine xi_nm hm (fun x2 hm => ?_)
  refine lv_istore_n (lv' := [(0, .int x2)]) hx hb dJ6_bitCount_0f7a4_23 rfl hl (by decide) rfl (fun ls hl => ?_)
  refine lv_iload_n hx hb dJ6_bitCount_0f7a4_24 rfl (lv_at hl 0 rfl) ?_
  refine lv_iload_n hx hb dJ6_bitCount_0f7a4_25 rfl (lv_at hl 0 rfl) ?_
  refine lv_iconst (v := (4 : Int32)) hx hb dJ6_bitCount_0f7a4_26 (by decide) ?_
  refine lv_iushr hx hb dJ6_bitCount_0f7a4_27 rfl ?_
  refine lv_iadd hx hb dJ6_bitCount_0f7a4_28 ?_
  refine lv_ldcw hx hb hown (hT _ tw_430) dJ6_bitCount_0f7a4_29 ?_
  refine lv_iand hx hb dJ6_bitCount_0f7a4_32 ?_
  refine xi_nm hm (fun x3 hm => ?_)
  refine lv_istore_n (lv' := [(0, .int x3)]) hx hb dJ6_bitCount_0f7a4_33 rfl hl (by decide) rfl (fun ls hl => ?_)
  refine lv_iload_n hx hb dJ6_bitCount_0f7a4_34 rfl (lv_at hl 0 rfl) ?_
  refine lv_iload_n hx hb dJ6_bitCount_0f7a4_35 rfl (lv_at hl 0 rfl) ?_
  refine lv_bipush (v := (8 : Int32)) hx hb dJ6_bitCount_0f7a4_36 (by decide) ?_
  refine lv_iushr hx hb dJ6_bitCount_0f7a4_38 rfl ?_
  refine lv_iadd hx hb dJ6_bitCount_0f7a4_39 ?_
  refine xi_nm hm (fun x4 hm => ?_)
  refine lv_istore_n (lv' := [(0, .int x4)]) hx hb dJ6_bitCount_0f7a4_40 rfl hl (by decide) rfl (fun ls hl => ?_)
  refine lv_iload_n hx hb dJ6_bitCount_0f7a4_41 rfl (lv_at hl 0 rfl) ?_
  refine lv_iload_n hx hb dJ6_bitCount_0f7a4_42 rfl (lv_at hl 0 rfl) ?_
  refine lv_bipush (v := (16 : Int32)) hx hb dJ6_bitCount_0f7a4_43 (by decide) ?_
  refine lv_iushr hx hb dJ6_bitCount_0f7a4_45 rfl ?_
  refine lv_iadd hx hb dJ6_bitCount_0f7a4_46 ?_
  refine xi_nm hm (fun x5 hm => ?_)
  refine lv_istore_n (lv' := [(0, .int x5)]) hx hb dJ6_bitCount_0f7a4_47 rfl hl (by decide) rfl (fun ls hl => ?_)
  refine lv_iload_n hx hb dJ6_bitCount_0f7a4_48 rfl (lv_at hl 0 rfl) ?_
  refine lv_bipush (v := (63 : Int32)) hx hb dJ6_bitCount_0f7a4_49 (by decide) ?_
  refine lv_iand hx hb dJ6_bitCount_0f7a4_51 ?_
  exact x_iretR hx hb hr hlk hm dJ6_bitCount_0f7a4_52
noncomputable def mX10_within (a1 : Int32) (a2 : Int32) (a3 : Int32) : Option Int32 := (if a1 < a2 then zo (0 : Int32) (some (0 : Int32)) else (if a3 < a1 then zo (0 : Int32) (some (0 : Int32)) else zo (1 : Int32) (some (1 : Int32))))
set_option maxHeartbeats 4000000 in
set_option maxRecDepth 100000 in
theorem tcX10_within (l : Launch) (D : va_G) (cs : CS) (a1 : Int32) (a2 : Int32) (a3 : Int32) (z : Int32) (hm : mX10_within a1 a2 a3 = some z) : Met l yX10_within (Cond.code yX10_within cX10_within 3 (some .boolean) :: gw_tbl) ({ frames := 0, cells := 0, slots := 0, locals := 0 }) (PcR D cs ([]) [.int a1, .int a2, .int a3]) (QRi z) 0 0 NoF := by
  refine met_R rfl (Nat.le_of_ble_eq_true rfl) (fun p e s m below meth c E hP ls hl => ?_)
  obtain ⟨hx, hb, hr, hml, hown, hlk, hT, hN, hK⟩ := id E
  have hl : lv_has ls 3 [(0, .int a1), (1, .int a2), (2, .int a3)] := hl
  unfold mX10_within at hm
  refine lv_iload_n hx hb dX10_within_0 rfl (lv_at hl 0 rfl) ?_
  refine lv_iload_n hx hb dX10_within_1 rfl (lv_at hl 1 rfl) ?_
  refine x_icmp_lt (tgt := 14) hx hb dX10_within_2 (by decide) hm (fun hm => ?_) (fun hm => ?_)
  · refine lv_iconst (v := (0 : Int32)) hx hb dX10_within_14 (by decide) ?_
    exact x_zretR hx hb hr hlk hm dX10_within_15
  · refine lv_iload_n hx hb dX10_within_5 rfl (lv_at hl 0 rfl) ?_
    refine lv_iload_n hx hb dX10_within_6 rfl (lv_at hl 2 rfl) ?_
    refine x_icmp_gt (tgt := 14) hx hb dX10_within_7 (by decide) hm (fun hm => ?_) (fun hm => ?_)
    · refine lv_iconst (v := (0 : Int32)) hx hb dX10_within_14 (by decide) ?_
      exact x_zretR hx hb hr hlk hm dX10_within_15
    · refine lv_iconst (v := (1 : Int32)) hx hb dX10_within_10 (by decide) ?_
      refine lv_goto (tgt := 15) hx hb dX10_within_11 (by decide) ?_
      exact x_zretR hx hb hr hlk hm dX10_within_15
noncomputable def mX10_holds (a1 : Int32) (a2 : Int32) : Option Int32 := (if ((a1 >>> (a2 &&& 31)) &&& (1 : Int32)) = (1 : Int32) then zo (1 : Int32) (some (1 : Int32)) else zo (0 : Int32) (some (0 : Int32)))
set_option maxHeartbeats 4000000 in
set_option maxRecDepth 100000 in
theorem tcX10_holds (l : Launch) (D : va_G) (cs : CS) (a1 : Int32) (a2 : Int32) (z : Int32) (hm : mX10_holds a1 a2 = some z) : Met l yX10_holds (Cond.code yX10_holds cX10_holds 2 (some .boolean) :: gw_tbl) ({ frames := 0, cells := 0, slots := 0, locals := 0 }) (PcR D cs ([]) [.int a1, .int a2]) (QRi z) 0 0 NoF := by
  refine met_R rfl (Nat.le_of_ble_eq_true rfl) (fun p e s m below meth c E hP ls hl => ?_)
  obtain ⟨hx, hb, hr, hml, hown, hlk, hT, hN, hK⟩ := id E
  have hl : lv_has ls 2 [(0, .int a1), (1, .int a2)] := hl
  unfold mX10_holds at hm
  refine lv_iload_n hx hb dX10_holds_0 rfl (lv_at hl 0 rfl) ?_
  refine lv_iload_n hx hb dX10_holds_1 rfl (lv_at hl 1 rfl) ?_
  refine lv_ishr hx hb dX10_holds_2 ?_
  refine lv_iconst (v := (1 : Int32)) hx hb dX10_holds_3 (by decide) ?_
  refine lv_iand hx hb dX10_holds_4 ?_
  refine lv_iconst (v := (1 : Int32)) hx hb dX10_holds_5 (by decide) ?_
  refine x_icmp_ne (tgt := 13) hx hb dX10_holds_6 (by decide) hm (fun hm => ?_) (fun hm => ?_)
  · refine lv_iconst (v := (0 : Int32)) hx hb dX10_holds_13 (by decide) ?_
    exact x_zretR hx hb hr hlk hm dX10_holds_14
  · refine lv_iconst (v := (1 : Int32)) hx hb dX10_holds_9 (by decide) ?_
    refine lv_goto (tgt := 14) hx hb dX10_holds_10 (by decide) ?_
    exact x_zretR hx hb hr hlk hm dX10_holds_14
noncomputable def mX10_fewer (a1 : Int32) (a2 : Int32) : Option Int32 := (if a2 = (-1 : Int32) then zo (1 : Int32) (some (1 : Int32)) else (mJ6_bitCount_0f7a4 a1).bind fun r1 => (mJ6_bitCount_0f7a4 a2).bind fun r2 => (if r2 ≤ r1 then zo (0 : Int32) (some (0 : Int32)) else zo (1 : Int32) (some (1 : Int32))))
set_option maxHeartbeats 4000000 in
set_option maxRecDepth 100000 in
theorem tcX10_fewer (l : Launch) (D : va_G) (cs : CS) (a1 : Int32) (a2 : Int32) (z : Int32) (hm : mX10_fewer a1 a2 = some z) : Met l yX10_fewer (Cond.code yX10_fewer cX10_fewer 2 (some .boolean) :: gw_tbl) ({ frames := 1, cells := 0, slots := 0, locals := 20 }) (PcR D cs ([]) [.int a1, .int a2]) (QRi z) 0 0 NoF := by
  refine met_R rfl (Nat.le_of_ble_eq_true rfl) (fun p e s m below meth c E hP ls hl => ?_)
  obtain ⟨hx, hb, hr, hml, hown, hlk, hT, hN, hK⟩ := id E
  have hl : lv_has ls 2 [(0, .int a1), (1, .int a2)] := hl
  unfold mX10_fewer at hm
  refine lv_iload_n hx hb dX10_fewer_0 rfl (lv_at hl 1 rfl) ?_
  refine lv_iconst (v := (-1 : Int32)) hx hb dX10_fewer_1 (by decide) ?_
  refine x_icmp_eq (tgt := 16) hx hb dX10_fewer_2 (by decide) hm (fun hm => ?_) (fun hm => ?_)
  · refine lv_iconst (v := (1 : Int32)) hx hb dX10_fewer_16 (by decide) ?_
    refine lv_goto (tgt := 21) hx hb dX10_fewer_17 (by decide) ?_
    exact x_zretR hx hb hr hlk hm dX10_fewer_21
  · refine lv_iload_n hx hb dX10_fewer_5 rfl (lv_at hl 0 rfl) ?_
    refine xS_i (As := [.int a1]) (rest := []) hx hb hml hown hT hN hK hP cw_X10_125 hm (fun z h => tcJ6_bitCount_0f7a4 l D cs a1 z h) ⟨rfl, rfl⟩ ⟨by decide, by decide⟩ hl.1 rfl rfl (Nat.le_of_ble_eq_true rfl) dX10_fewer_6 ⟨Nat.zero_le _, Nat.zero_le _⟩ (fun r1 hm => ?_)
    refine lv_iload_n hx hb dX10_fewer_9 rfl (lv_at hl 1 rfl) ?_
    refine xS_i (As := [.int a2]) (rest := [.int r1]) hx hb hml hown hT hN hK hP cw_X10_125 hm (fun z h => tcJ6_bitCount_0f7a4 l D cs a2 z h) ⟨rfl, rfl⟩ ⟨by decide, by decide⟩ hl.1 rfl rfl (Nat.le_of_ble_eq_true rfl) dX10_fewer_10 ⟨Nat.zero_le _, Nat.zero_le _⟩ (fun r2 hm => ?_)
    refine x_icmp_ge (tgt := 20) hx hb dX10_fewer_13 (by decide) hm (fun hm => ?_) (fun hm => ?_)
    · refine lv_iconst (v := (0 : Int32)) hx hb dX10_fewer_20 (by decide) ?_
      exact x_zretR hx hb hr hlk hm dX10_fewer_21
    · refine lv_iconst (v := (1 : Int32)) hx hb dX10_fewer_16 (by decide) ?_
      refine lv_goto (tgt := 21) hx hb dX10_fewer_17 (by decide) ?_
      exact x_zretR hx hb hr hlk hm dX10_fewer_21
noncomputable def mX10_contradictIn (a1 : Int32) : Option Int32 := (if ((a1 &&& (a1 >>> ((1 : Int32) &&& 31))) &&& (85 : Int32)) = 0 then zo (0 : Int32) (some (0 : Int32)) else zo (1 : Int32) (some (1 : Int32)))
set_option maxHeartbeats 4000000 in
set_option maxRecDepth 100000 in
theorem tcX10_contradictIn (l : Launch) (D : va_G) (cs : CS) (a1 : Int32) (z : Int32) (hm : mX10_contradictIn a1 = some z) : Met l yX10_contradictIn (Cond.code yX10_contradictIn cX10_contradictIn 1 (some .boolean) :: gw_tbl) ({ frames := 0, cells := 0, slots := 0, locals := 0 }) (PcR D cs ([]) [.int a1]) (QRi z) 0 0 NoF := by
  refine met_R rfl (Nat.le_of_ble_eq_true rfl) (fun p e s m below meth c E hP ls hl => ?_)
  obtain ⟨hx, hb, hr, hml, hown, hlk, hT, hN, hK⟩ := id E
  have hl : lv_has ls 1 [(0, .int a1)] := hl
  unfold mX10_contradictIn at hm
  refine lv_iload_n hx hb dX10_contradictIn_0 rfl (lv_at hl 0 rfl) ?_
  refine lv_iload_n hx hb dX10_contradictIn_1 rfl (lv_at hl 0 rfl) ?_
  refine lv_iconst (v := (1 : Int32)) hx hb dX10_contradictIn_2 (by decide) ?_
  refine lv_ishr hx hb dX10_contradictIn_3 ?_
  refine lv_iand hx hb dX10_contradictIn_4 ?_
  refine lv_bipush (v := (85 : Int32)) hx hb dX10_contradictIn_5 (by decide) ?_
  refine lv_iand hx hb dX10_contradictIn_7 ?_
  refine x_if_eq (tgt := 15) hx hb dX10_contradictIn_8 (by decide) hm (fun hm => ?_) (fun hm => ?_)
  · refine lv_iconst (v := (0 : Int32)) hx hb dX10_contradictIn_15 (by decide) ?_
    exact x_zretR hx hb hr hlk hm dX10_contradictIn_16
  · refine lv_iconst (v := (1 : Int32)) hx hb dX10_contradictIn_11 (by decide) ?_
    refine lv_goto (tgt := 16) hx hb dX10_contradictIn_12 (by decide) ?_
    exact x_zretR hx hb hr hlk hm dX10_contradictIn_16
noncomputable def mX10_pairsIn_L4  : Nat → Int32 → Int32 → Int32 → Option Int32 := fun n => Nat.rec (motive := fun _ => Int32 → Int32 → Int32 → Option Int32) (fun _ _ _ => none) (fun _ rc => fun y0 y1 y2 => (if (4 : Int32) ≤ y2 then some y1 else (if ((y0 >>> (((2 : Int32) * y2) &&& 31)) &&& (3 : Int32)) = (3 : Int32) then nm (y1 ||| ((1 : Int32) <<< (y2 &&& 31))) fun x2 => nm (y2 + (1 : Int32)) fun x3 => rc y0 x2 x3 else nm (y2 + (1 : Int32)) fun x1 => rc y0 y1 x1))) n
theorem mX10_pairsIn_L4_s  (n : Nat) (y0 : Int32) (y1 : Int32) (y2 : Int32) : mX10_pairsIn_L4  (n + 1) y0 y1 y2 = (if (4 : Int32) ≤ y2 then some y1 else (if ((y0 >>> (((2 : Int32) * y2) &&& 31)) &&& (3 : Int32)) = (3 : Int32) then nm (y1 ||| ((1 : Int32) <<< (y2 &&& 31))) fun x2 => nm (y2 + (1 : Int32)) fun x3 => (mX10_pairsIn_L4  n) y0 x2 x3 else nm (y2 + (1 : Int32)) fun x1 => (mX10_pairsIn_L4  n) y0 y1 x1)) := rfl
noncomputable def mX10_pairsIn (a1 : Int32) : Option Int32 := mX10_pairsIn_L4 FU a1 (0 : Int32) (0 : Int32)
set_option maxHeartbeats 4000000 in
set_option maxRecDepth 100000 in
theorem kX10_pairsIn_L4 {p : Program} {l : Launch} {e : Env} {s : State} {m : MethodId} {below : List Frame} {meth : Method} {c : Code} {D : va_G} {cs : CS}   {a1 : Int32} (E : EV p s m [.int a1].toArray meth c cX10_pairsIn 3 RX10 (some .int) D cs) (hP : va_P D classes ([]) s.heap) (z : Int32) : ∀ (n : Nat) (y0 : Int32) (y1 : Int32) (y2 : Int32), mX10_pairsIn_L4  n y0 y1 y2 = some z → ∀ ls : Array Slot, lv_has ls 3 [(0, .int y0), (1, .int y1), (2, .int y2)] → W p l e ({ frames := 0, cells := 0, slots := 0, locals := 0 }) s m [.int a1].toArray below meth c s.heap [] 0 0 (MQ below (QRi z) [.int a1].toArray s 0 0 NoF) (F0 m 4 ls []) := by
  obtain ⟨hx, hb, hr, hml, hown, hlk, hT, hN, hK⟩ := id E
  intro n
  induction n with
  | zero =>
    intro y0 y1 y2 hm
    exact nomatch (show (none : Option Int32) = some z from hm)
  | succ n ih =>
    intro y0 y1 y2 hm ls hl
    rw [mX10_pairsIn_L4_s] at hm
    refine lv_iload_n hx hb dX10_pairsIn_4 rfl (lv_at hl 2 rfl) ?_
    refine lv_iconst (v := (4 : Int32)) hx hb dX10_pairsIn_5 (by decide) ?_
    refine x_icmp_ge (tgt := 32) hx hb dX10_pairsIn_6 (by decide) hm (fun hm => ?_) (fun hm => ?_)
    · refine lv_iload_n hx hb dX10_pairsIn_32 rfl (lv_at hl 1 rfl) ?_
      exact x_iretR hx hb hr hlk hm dX10_pairsIn_33
    · refine lv_iload_n hx hb dX10_pairsIn_9 rfl (lv_at hl 0 rfl) ?_
      refine lv_iconst (v := (2 : Int32)) hx hb dX10_pairsIn_10 (by decide) ?_
      refine lv_iload_n hx hb dX10_pairsIn_11 rfl (lv_at hl 2 rfl) ?_
      refine lv_imul hx hb dX10_pairsIn_12 ?_
      refine lv_ishr hx hb dX10_pairsIn_13 ?_
      refine lv_iconst (v := (3 : Int32)) hx hb dX10_pairsIn_14 (by decide) ?_
      refine lv_iand hx hb dX10_pairsIn_15 ?_
      refine lv_iconst (v := (3 : Int32)) hx hb dX10_pairsIn_16 (by decide) ?_
      refine x_icmp_ne (tgt := 26) hx hb dX10_pairsIn_17 (by decide) hm (fun hm => ?_) (fun hm => ?_)
      · refine x_iinc (lv' := fun x1 => [(2, .int x1), (0, .int y0), (1, .int y1)]) hx hb dX10_pairsIn_26 hl (k := 2) rfl (by decide) (v0 := (1 : Int32)) (by decide) (fun _ => rfl) hm (fun x1 ls hm hl => ?_)
        refine lv_goto (tgt := 4) hx hb dX10_pairsIn_29 (by decide) ?_
        exact ih y0 y1 x1 hm ls (lv_sub hl [1, 2, 0] rfl)
      · refine lv_iload_n hx hb dX10_pairsIn_20 rfl (lv_at hl 1 rfl) ?_
        refine lv_iconst (v := (1 : Int32)) hx hb dX10_pairsIn_21 (by decide) ?_
        refine lv_iload_n hx hb dX10_pairsIn_22 rfl (lv_at hl 2 rfl) ?_
        refine lv_ishl hx hb dX10_pairsIn_23 ?_
        refine lv_ior hx hb dX10_pairsIn_24 ?_
        refine xi_nm hm (fun x2 hm => ?_)
        refine lv_istore_n (lv' := [(1, .int x2), (0, .int y0), (2, .int y2)]) hx hb dX10_pairsIn_25 rfl hl (by decide) rfl (fun ls hl => ?_)
        refine x_iinc (lv' := fun x3 => [(2, .int x3), (1, .int x2), (0, .int y0)]) hx hb dX10_pairsIn_26 hl (k := 2) rfl (by decide) (v0 := (1 : Int32)) (by decide) (fun _ => rfl) hm (fun x3 ls hm hl => ?_)
        refine lv_goto (tgt := 4) hx hb dX10_pairsIn_29 (by decide) ?_
        exact ih y0 x2 x3 hm ls (lv_sub hl [2, 1, 0] rfl)
set_option maxHeartbeats 4000000 in
set_option maxRecDepth 100000 in
theorem tcX10_pairsIn (l : Launch) (D : va_G) (cs : CS) (a1 : Int32) (z : Int32) (hm : mX10_pairsIn a1 = some z) : Met l yX10_pairsIn (Cond.code yX10_pairsIn cX10_pairsIn 3 (some .int) :: gw_tbl) ({ frames := 0, cells := 0, slots := 0, locals := 0 }) (PcR D cs ([]) [.int a1]) (QRi z) 0 0 NoF := by
  refine met_R rfl (Nat.le_of_ble_eq_true rfl) (fun p e s m below meth c E hP ls hl => ?_)
  obtain ⟨hx, hb, hr, hml, hown, hlk, hT, hN, hK⟩ := id E
  have hl : lv_has ls 3 [(0, .int a1)] := hl
  unfold mX10_pairsIn at hm
  refine lv_iconst (v := (0 : Int32)) hx hb dX10_pairsIn_0 (by decide) ?_
  refine lv_istore_n (lv' := [(1, .int (0 : Int32)), (0, .int a1)]) hx hb dX10_pairsIn_1 rfl hl (by decide) rfl (fun ls hl => ?_)
  refine lv_iconst (v := (0 : Int32)) hx hb dX10_pairsIn_2 (by decide) ?_
  refine lv_istore_n (lv' := [(2, .int (0 : Int32)), (1, .int (0 : Int32)), (0, .int a1)]) hx hb dX10_pairsIn_3 rfl hl (by decide) rfl (fun ls hl => ?_)
  exact kX10_pairsIn_L4 E hP _ FU a1 (0 : Int32) (0 : Int32) hm ls (lv_sub hl [2, 1, 0] rfl)
noncomputable def mX10_gainOfOne (a1 : Int32) (a2 : Int32) (a3 : Int32) : Option Int32 := (if a1 = (1 : Int32) then some (0 : Int32) else (if a2 = 0 then (if a3 = 0 then some (2 : Int32) else some (-3 : Int32)) else some (2 : Int32)))
set_option maxHeartbeats 4000000 in
set_option maxRecDepth 100000 in
theorem tcX10_gainOfOne (l : Launch) (D : va_G) (cs : CS) (a1 : Int32) (a2 : Int32) (a3 : Int32) (z : Int32) (hm : mX10_gainOfOne a1 a2 a3 = some z) : Met l yX10_gainOfOne (Cond.code yX10_gainOfOne cX10_gainOfOne 3 (some .int) :: gw_tbl) ({ frames := 0, cells := 0, slots := 0, locals := 0 }) (PcR D cs ([]) [.int a1, .int a2, .int a3]) (QRi z) 0 0 NoF := by
  refine met_R rfl (Nat.le_of_ble_eq_true rfl) (fun p e s m below meth c E hP ls hl => ?_)
  obtain ⟨hx, hb, hr, hml, hown, hlk, hT, hN, hK⟩ := id E
  have hl : lv_has ls 3 [(0, .int a1), (1, .int a2), (2, .int a3)] := hl
  unfold mX10_gainOfOne at hm
  refine lv_iload_n hx hb dX10_gainOfOne_0 rfl (lv_at hl 0 rfl) ?_
  refine lv_iconst (v := (1 : Int32)) hx hb dX10_gainOfOne_1 (by decide) ?_
  refine x_icmp_ne (tgt := 7) hx hb dX10_gainOfOne_2 (by decide) hm (fun hm => ?_) (fun hm => ?_)
  · refine lv_iload_n hx hb dX10_gainOfOne_7 rfl (lv_at hl 1 rfl) ?_
    refine x_if_ne (tgt := 20) hx hb dX10_gainOfOne_8 (by decide) hm (fun hm => ?_) (fun hm => ?_)
    · refine lv_iconst (v := (2 : Int32)) hx hb dX10_gainOfOne_20 (by decide) ?_
      exact x_iretR hx hb hr hlk hm dX10_gainOfOne_21
    · refine lv_iload_n hx hb dX10_gainOfOne_11 rfl (lv_at hl 2 rfl) ?_
      refine x_if_eq (tgt := 20) hx hb dX10_gainOfOne_12 (by decide) hm (fun hm => ?_) (fun hm => ?_)
      · refine lv_iconst (v := (2 : Int32)) hx hb dX10_gainOfOne_20 (by decide) ?_
        exact x_iretR hx hb hr hlk hm dX10_gainOfOne_21
      · refine lv_bipush (v := (-3 : Int32)) hx hb dX10_gainOfOne_15 (by decide) ?_
        refine lv_goto (tgt := 21) hx hb dX10_gainOfOne_17 (by decide) ?_
        exact x_iretR hx hb hr hlk hm dX10_gainOfOne_21
  · refine lv_iconst (v := (0 : Int32)) hx hb dX10_gainOfOne_5 (by decide) ?_
    exact x_iretR hx hb hr hlk hm dX10_gainOfOne_6
noncomputable def mX10_gainOfOther (a1 : Int32) (a2 : Int32) (a3 : Int32) : Option Int32 := (if a2 = (1 : Int32) then some (0 : Int32) else (if a1 = 0 then (if a3 = 0 then some (-1 : Int32) else some (3 : Int32)) else some (-1 : Int32)))
set_option maxHeartbeats 4000000 in
set_option maxRecDepth 100000 in
theorem tcX10_gainOfOther (l : Launch) (D : va_G) (cs : CS) (a1 : Int32) (a2 : Int32) (a3 : Int32) (z : Int32) (hm : mX10_gainOfOther a1 a2 a3 = some z) : Met l yX10_gainOfOther (Cond.code yX10_gainOfOther cX10_gainOfOther 3 (some .int) :: gw_tbl) ({ frames := 0, cells := 0, slots := 0, locals := 0 }) (PcR D cs ([]) [.int a1, .int a2, .int a3]) (QRi z) 0 0 NoF := by
  refine met_R rfl (Nat.le_of_ble_eq_true rfl) (fun p e s m below meth c E hP ls hl => ?_)
  obtain ⟨hx, hb, hr, hml, hown, hlk, hT, hN, hK⟩ := id E
  have hl : lv_has ls 3 [(0, .int a1), (1, .int a2), (2, .int a3)] := hl
  unfold mX10_gainOfOther at hm
  refine lv_iload_n hx hb dX10_gainOfOther_0 rfl (lv_at hl 1 rfl) ?_
  refine lv_iconst (v := (1 : Int32)) hx hb dX10_gainOfOther_1 (by decide) ?_
  refine x_icmp_ne (tgt := 7) hx hb dX10_gainOfOther_2 (by decide) hm (fun hm => ?_) (fun hm => ?_)
  · refine lv_iload_n hx hb dX10_gainOfOther_7 rfl (lv_at hl 0 rfl) ?_
    refine x_if_ne (tgt := 19) hx hb dX10_gainOfOther_8 (by decide) hm (fun hm => ?_) (fun hm => ?_)
    · refine lv_iconst (v := (-1 : Int32)) hx hb dX10_gainOfOther_19 (by decide) ?_
      exact x_iretR hx hb hr hlk hm dX10_gainOfOther_20
    · refine lv_iload_n hx hb dX10_gainOfOther_11 rfl (lv_at hl 2 rfl) ?_
      refine x_if_eq (tgt := 19) hx hb dX10_gainOfOther_12 (by decide) hm (fun hm => ?_) (fun hm => ?_)
      · refine lv_iconst (v := (-1 : Int32)) hx hb dX10_gainOfOther_19 (by decide) ?_
        exact x_iretR hx hb hr hlk hm dX10_gainOfOther_20
      · refine lv_iconst (v := (3 : Int32)) hx hb dX10_gainOfOther_15 (by decide) ?_
        refine lv_goto (tgt := 20) hx hb dX10_gainOfOther_16 (by decide) ?_
        exact x_iretR hx hb hr hlk hm dX10_gainOfOther_20
  · refine lv_iconst (v := (0 : Int32)) hx hb dX10_gainOfOther_5 (by decide) ?_
    exact x_iretR hx hb hr hlk hm dX10_gainOfOther_6
noncomputable def mX10_power_L5  : Nat → Int32 → Int32 → Int64 → Int32 → Option Int64 := fun n => Nat.rec (motive := fun _ => Int32 → Int32 → Int64 → Int32 → Option Int64) (fun _ _ _ _ => none) (fun _ rc => fun y0 y1 y2 y4 => (if y1 ≤ y4 then some y2 else nm (y2 * y0.toInt64) fun x1 => nm (y4 + (1 : Int32)) fun x2 => rc y0 y1 x1 x2)) n
theorem mX10_power_L5_s  (n : Nat) (y0 : Int32) (y1 : Int32) (y2 : Int64) (y4 : Int32) : mX10_power_L5  (n + 1) y0 y1 y2 y4 = (if y1 ≤ y4 then some y2 else nm (y2 * y0.toInt64) fun x1 => nm (y4 + (1 : Int32)) fun x2 => (mX10_power_L5  n) y0 y1 x1 x2) := rfl
noncomputable def mX10_power (a1 : Int32) (a2 : Int32) : Option Int64 := mX10_power_L5 FU a1 a2 (1 : Int64) (0 : Int32)
set_option maxHeartbeats 4000000 in
set_option maxRecDepth 100000 in
theorem kX10_power_L5 {p : Program} {l : Launch} {e : Env} {s : State} {m : MethodId} {below : List Frame} {meth : Method} {c : Code} {D : va_G} {cs : CS}   {a1 : Int32} {a2 : Int32} (E : EV p s m [.int a1, .int a2].toArray meth c cX10_power 5 RX10 (some .long) D cs) (hP : va_P D classes ([]) s.heap) (z : Int64) : ∀ (n : Nat) (y0 : Int32) (y1 : Int32) (y2 : Int64) (y4 : Int32), mX10_power_L5  n y0 y1 y2 y4 = some z → ∀ ls : Array Slot, lv_has ls 5 [(0, .int y0), (1, .int y1), (2, .long y2), (4, .int y4)] → W p l e ({ frames := 0, cells := 0, slots := 0, locals := 0 }) s m [.int a1, .int a2].toArray below meth c s.heap [] 0 0 (MQ below (QRl z) [.int a1, .int a2].toArray s 0 0 NoF) (F0 m 5 ls []) := by
  obtain ⟨hx, hb, hr, hml, hown, hlk, hT, hN, hK⟩ := id E
  intro n
  induction n with
  | zero =>
    intro y0 y1 y2 y4 hm
    exact nomatch (show (none : Option Int64) = some z from hm)
  | succ n ih =>
    intro y0 y1 y2 y4 hm ls hl
    rw [mX10_power_L5_s] at hm
    refine lv_iload hx hb dX10_power_5 (lv_at hl 3 rfl) ?_
    refine lv_iload_n hx hb dX10_power_7 rfl (lv_at hl 1 rfl) ?_
    refine x_icmp_ge (tgt := 22) hx hb dX10_power_8 (by decide) hm (fun hm => ?_) (fun hm => ?_)
    · refine lv_lload_n hx hb dX10_power_22 rfl (lv_at hl 2 rfl) ?_
      exact x_lretR hx hb hr hlk hm dX10_power_23
    · refine lv_lload_n hx hb dX10_power_11 rfl (lv_at hl 2 rfl) ?_
      refine lv_iload_n hx hb dX10_power_12 rfl (lv_at hl 0 rfl) ?_
      refine lv_i2l hx hb dX10_power_13 rfl ?_
      refine lv_lmul hx hb dX10_power_14 ?_
      refine xl_nm hm (fun x1 hm => ?_)
      refine lv_lstore_n (lv' := [(2, .long x1), (0, .int y0), (1, .int y1), (4, .int y4)]) hx hb dX10_power_15 rfl hl (by decide) rfl (fun ls hl => ?_)
      refine x_iinc (lv' := fun x2 => [(4, .int x2), (2, .long x1), (0, .int y0), (1, .int y1)]) hx hb dX10_power_16 hl (k := 3) rfl (by decide) (v0 := (1 : Int32)) (by decide) (fun _ => rfl) hm (fun x2 ls hm hl => ?_)
      refine lv_goto (tgt := 5) hx hb dX10_power_19 (by decide) ?_
      exact ih y0 y1 x1 x2 hm ls (lv_sub hl [2, 3, 1, 0] rfl)
set_option maxHeartbeats 4000000 in
set_option maxRecDepth 100000 in
theorem tcX10_power (l : Launch) (D : va_G) (cs : CS) (a1 : Int32) (a2 : Int32) (z : Int64) (hm : mX10_power a1 a2 = some z) : Met l yX10_power (Cond.code yX10_power cX10_power 5 (some .long) :: gw_tbl) ({ frames := 0, cells := 0, slots := 0, locals := 0 }) (PcR D cs ([]) [.int a1, .int a2]) (QRl z) 0 0 NoF := by
  refine met_R rfl (Nat.le_of_ble_eq_true rfl) (fun p e s m below meth c E hP ls hl => ?_)
  obtain ⟨hx, hb, hr, hml, hown, hlk, hT, hN, hK⟩ := id E
  have hl : lv_has ls 5 [(0, .int a1), (1, .int a2)] := hl
  unfold mX10_power at hm
  refine lv_lconst (v := (1 : Int64)) hx hb dX10_power_0 (by decide) ?_
  refine lv_lstore_n (lv' := [(2, .long (1 : Int64)), (0, .int a1), (1, .int a2)]) hx hb dX10_power_1 rfl hl (by decide) rfl (fun ls hl => ?_)
  refine lv_iconst (v := (0 : Int32)) hx hb dX10_power_2 (by decide) ?_
  refine lv_istore (lv' := [(4, .int (0 : Int32)), (2, .long (1 : Int64)), (0, .int a1), (1, .int a2)]) hx hb dX10_power_3 hl (by decide) rfl (fun ls hl => ?_)
  exact kX10_power_L5 E hP _ FU a1 a2 (1 : Int64) (0 : Int32) hm ls (lv_sub hl [2, 3, 1, 0] rfl)
noncomputable def mX10_commonDivisor_L9  : Nat → Int64 → Int64 → Int32 → Option Int64 := fun n => Nat.rec (motive := fun _ => Int64 → Int64 → Int32 → Option Int64) (fun _ _ _ => none) (fun _ rc => fun y4 y6 y8 => (if (200 : Int32) ≤ y8 then some y4 else (if y6 = (0 : Int64) then some y4 else nzl y6 <| nm (y4 - y4 / y6 * y6) fun x1 => nm (y8 + (1 : Int32)) fun x2 => rc y6 x1 x2))) n
theorem mX10_commonDivisor_L9_s  (n : Nat) (y4 : Int64) (y6 : Int64) (y8 : Int32) : mX10_commonDivisor_L9  (n + 1) y4 y6 y8 = (if (200 : Int32) ≤ y8 then some y4 else (if y6 = (0 : Int64) then some y4 else nzl y6 <| nm (y4 - y4 / y6 * y6) fun x1 => nm (y8 + (1 : Int32)) fun x2 => (mX10_commonDivisor_L9  n) y6 x1 x2)) := rfl
noncomputable def mX10_commonDivisor (a1 : Int64) (a2 : Int64) : Option Int64 := mX10_commonDivisor_L9 FU a1 a2 (0 : Int32)
set_option maxHeartbeats 4000000 in
set_option maxRecDepth 100000 in
theorem kX10_commonDivisor_L9 {p : Program} {l : Launch} {e : Env} {s : State} {m : MethodId} {below : List Frame} {meth : Method} {c : Code} {D : va_G} {cs : CS}   {a1 : Int64} {a2 : Int64} (E : EV p s m [.long a1, .long a2].toArray meth c cX10_commonDivisor 11 RX10 (some .long) D cs) (hP : va_P D classes ([]) s.heap) (z : Int64) : ∀ (n : Nat) (y4 : Int64) (y6 : Int64) (y8 : Int32), mX10_commonDivisor_L9  n y4 y6 y8 = some z → ∀ ls : Array Slot, lv_has ls 11 [(4, .long y4), (6, .long y6), (8, .int y8)] → W p l e ({ frames := 0, cells := 0, slots := 0, locals := 0 }) s m [.long a1, .long a2].toArray below meth c s.heap [] 0 0 (MQ below (QRl z) [.long a1, .long a2].toArray s 0 0 NoF) (F0 m 9 ls []) := by
  obtain ⟨hx, hb, hr, hml, hown, hlk, hT, hN, hK⟩ := id E
  intro n
  induction n with
  | zero =>
    intro y4 y6 y8 hm
    exact nomatch (show (none : Option Int64) = some z from hm)
  | succ n ih =>
    intro y4 y6 y8 hm ls hl
    rw [mX10_commonDivisor_L9_s] at hm
    refine lv_iload hx hb dX10_commonDivisor_9 (lv_at hl 2 rfl) ?_
    refine lv_sipush (v := (200 : Int32)) hx hb dX10_commonDivisor_11 (by decide) ?_
    refine x_icmp_ge (tgt := 45) hx hb dX10_commonDivisor_14 (by decide) hm (fun hm => ?_) (fun hm => ?_)
    · refine lv_lload hx hb dX10_commonDivisor_45 (lv_at hl 0 rfl) ?_
      exact x_lretR hx hb hr hlk hm dX10_commonDivisor_47
    · refine lv_lload hx hb dX10_commonDivisor_17 (lv_at hl 1 rfl) ?_
      refine lv_lconst (v := (0 : Int64)) hx hb dX10_commonDivisor_19 (by decide) ?_
      refine x_lcmp_eq (tgt := 45) hx hb dX10_commonDivisor_20 dX10_commonDivisor_21 (by decide) hm (fun hm => ?_) (fun hm => ?_)
      · refine lv_lload hx hb dX10_commonDivisor_45 (lv_at hl 0 rfl) ?_
        exact x_lretR hx hb hr hlk hm dX10_commonDivisor_47
      · refine lv_lload hx hb dX10_commonDivisor_24 (lv_at hl 0 rfl) ?_
        refine lv_lload hx hb dX10_commonDivisor_26 (lv_at hl 1 rfl) ?_
        refine x_lrem hx hb hm dX10_commonDivisor_28 (fun hm => ?_)
        refine xl_nm hm (fun x1 hm => ?_)
        refine lv_lstore (lv' := [(9, .long x1), (4, .long y4), (6, .long y6), (8, .int y8)]) hx hb dX10_commonDivisor_29 hl (by decide) rfl (fun ls hl => ?_)
        refine lv_lload hx hb dX10_commonDivisor_31 (lv_at hl 2 rfl) ?_
        refine lv_lstore (lv' := [(4, .long y6), (9, .long x1), (6, .long y6), (8, .int y8)]) hx hb dX10_commonDivisor_33 hl (by decide) rfl (fun ls hl => ?_)
        refine lv_lload hx hb dX10_commonDivisor_35 (lv_at hl 1 rfl) ?_
        refine lv_lstore (lv' := [(6, .long x1), (4, .long y6), (9, .long x1), (8, .int y8)]) hx hb dX10_commonDivisor_37 hl (by decide) rfl (fun ls hl => ?_)
        refine x_iinc (lv' := fun x2 => [(8, .int x2), (6, .long x1), (4, .long y6), (9, .long x1)]) hx hb dX10_commonDivisor_39 hl (k := 3) rfl (by decide) (v0 := (1 : Int32)) (by decide) (fun _ => rfl) hm (fun x2 ls hm hl => ?_)
        refine lv_goto (tgt := 9) hx hb dX10_commonDivisor_42 (by decide) ?_
        exact ih y6 x1 x2 hm ls (lv_sub hl [2, 1, 0] rfl)
set_option maxHeartbeats 4000000 in
set_option maxRecDepth 100000 in
theorem tcX10_commonDivisor (l : Launch) (D : va_G) (cs : CS) (a1 : Int64) (a2 : Int64) (z : Int64) (hm : mX10_commonDivisor a1 a2 = some z) : Met l yX10_commonDivisor (Cond.code yX10_commonDivisor cX10_commonDivisor 11 (some .long) :: gw_tbl) ({ frames := 0, cells := 0, slots := 0, locals := 0 }) (PcR D cs ([]) [.long a1, .long a2]) (QRl z) 0 0 NoF := by
  refine met_R rfl (Nat.le_of_ble_eq_true rfl) (fun p e s m below meth c E hP ls hl => ?_)
  obtain ⟨hx, hb, hr, hml, hown, hlk, hT, hN, hK⟩ := id E
  have hl : lv_has ls 11 [(0, .long a1), (2, .long a2)] := hl
  unfold mX10_commonDivisor at hm
  refine lv_lload_n hx hb dX10_commonDivisor_0 rfl (lv_at hl 0 rfl) ?_
  refine lv_lstore (lv' := [(4, .long a1), (0, .long a1), (2, .long a2)]) hx hb dX10_commonDivisor_1 hl (by decide) rfl (fun ls hl => ?_)
  refine lv_lload_n hx hb dX10_commonDivisor_3 rfl (lv_at hl 2 rfl) ?_
  refine lv_lstore (lv' := [(6, .long a2), (4, .long a1), (0, .long a1), (2, .long a2)]) hx hb dX10_commonDivisor_4 hl (by decide) rfl (fun ls hl => ?_)
  refine lv_iconst (v := (0 : Int32)) hx hb dX10_commonDivisor_6 (by decide) ?_
  refine lv_istore (lv' := [(8, .int (0 : Int32)), (6, .long a2), (4, .long a1), (0, .long a1), (2, .long a2)]) hx hb dX10_commonDivisor_7 hl (by decide) rfl (fun ls hl => ?_)
  exact kX10_commonDivisor_L9 E hP _ FU a1 a2 (0 : Int32) hm ls (lv_sub hl [2, 1, 0] rfl)
noncomputable def mX7_isFull (mo wi : Int32) (nn : Nat) (S : RS) : Option Int32 := (if (S.1) < mo then zo (0 : Int32) (some (0 : Int32)) else zo (1 : Int32) (some (1 : Int32)))
set_option maxHeartbeats 4000000 in
set_option maxRecDepth 100000 in
theorem tcX7_isFull (l : Launch) (D : va_G) (cs : CS) (ad : Nat → Nat) (b : Nat) (mo wi : Int32) (nn : Nat) (S : RS) (z : Int32) (hm : mX7_isFull mo wi nn S = some z) : Met l yX7_isFull (Cond.code yX7_isFull cX7_isFull 1 (some .boolean) :: gw_tbl) ({ frames := 0, cells := 0, slots := 0, locals := 0 }) (PcR D cs (WR cs ad b mo wi nn S) [.ref (ad b)]) (QRi z) 0 0 NoF := by
  refine met_R rfl (Nat.le_of_ble_eq_true rfl) (fun p e s m below meth c E hP ls hl => ?_)
  obtain ⟨hx, hb, hr, hml, hown, hlk, hT, hN, hK⟩ := id E
  have hl : lv_has ls 1 [(0, .ref (ad b))] := hl
  unfold mX7_isFull at hm
  refine lv_aload_n hx hb dX7_isFull_0 rfl (lv_at hl 0 rfl) ?_
  refine gf_X7_26 (v := .int (S.1)) hx hb hT hown hK hP 0 rfl rfl dX7_isFull_1 ?_
  refine lv_aload_n hx hb dX7_isFull_4 rfl (lv_at hl 0 rfl) ?_
  refine gf_X7_7 (v := .int mo) hx hb hT hown hK hP 0 rfl rfl dX7_isFull_5 ?_
  refine x_icmp_lt (tgt := 15) hx hb dX7_isFull_8 (by decide) hm (fun hm => ?_) (fun hm => ?_)
  · refine lv_iconst (v := (0 : Int32)) hx hb dX7_isFull_15 (by decide) ?_
    exact x_zretR hx hb hr hlk hm dX7_isFull_16
  · refine lv_iconst (v := (1 : Int32)) hx hb dX7_isFull_11 (by decide) ?_
    refine lv_goto (tgt := 16) hx hb dX7_isFull_12 (by decide) ?_
    exact x_zretR hx hb hr hlk hm dX7_isFull_16
noncomputable def mX7_empty (mo wi : Int32) (nn : Nat) (S : RS) : Option RS := nm ((0 : Int32), S.2) fun S1 => some S1
set_option maxHeartbeats 4000000 in
set_option maxRecDepth 100000 in
theorem tcX7_empty (l : Launch) (D : va_G) (cs : CS) (ad : Nat → Nat) (b : Nat) (mo wi : Int32) (nn : Nat) (sz : Nat) (S : RS) (z : RS) (hm : mX7_empty mo wi nn S = some z) : Met l yX7_empty (Cond.code yX7_empty cX7_empty 1 none :: gw_tbl) ({ frames := 0, cells := 0, slots := 0, locals := 0 }) (PcW D cs sz (WR cs ad b mo wi nn S) [.ref (ad b)]) (QWv D cs (va_A (WR cs ad b mo wi nn S) sz) (fun u => WR cs ad b mo wi nn u) z) 0 0 (va_A (WR cs ad b mo wi nn S) sz) := by
  refine met_W rfl (Nat.le_of_ble_eq_true rfl) (fun p e s m below meth c E hP hD hS hA ls hl => ?_)
  generalize va_A (WR cs ad b mo wi nn S) sz = A at hD hS hA ⊢
  obtain ⟨hx, hb, hr, hml, hown, hlk, hT, hN, hK⟩ := id E
  obtain ⟨H, hH⟩ : ∃ H, H = s.heap := ⟨_, rfl⟩
  obtain ⟨locs, hlo⟩ : ∃ L : List Loc, L = [] := ⟨_, rfl⟩
  have hP : va_P D classes (WR cs ad b mo wi nn S) H := by rw [hH]; exact hP
  have hS : va_S A s.heap H locs := by rw [hH, hlo]; exact hS
  rw [show W p l e _ s m _ below meth c s.heap [] 0 0 = W p l e _ s m _ below meth c H locs 0 0 by rw [hH, hlo]]
  have hl : lv_has ls 1 [(0, .ref (ad b))] := hl
  unfold mX7_empty at hm
  refine lv_aload_n hx hb dX7_empty_0 rfl (lv_at hl 0 rfl) ?_
  refine lv_iconst (v := (0 : Int32)) hx hb dX7_empty_1 (by decide) ?_
  refine pf_X7_26 (wf := (fun u => WR cs ad b mo wi nn u)) (u0 := ((0 : Int32), S.2)) hx hb hT hown hK hP hD hS 0 rfl (Nat.le_of_ble_eq_true rfl) rfl rfl rfl hm dX7_empty_2 (fun S1 H locs hm hP hD hS => ?_)
  exact x_vretW (wf := (fun u => WR cs ad b mo wi nn u)) hx hb hr hlk hK hP hD hS hm dX7_empty_5
noncomputable def mX7_cell (mo wi : Int32) (nn : Nat) (S : RS) (a1 : Int32) (a2 : Int32) : Option Int32 := nm ((a1 * wi) + a2) fun x1 => (if x1 < 0 then some (0 : Int32) else (if (Int32.ofNat nn) ≤ x1 then some (0 : Int32) else ald S.2 nn x1 fun v2 => some v2))
set_option maxHeartbeats 4000000 in
set_option maxRecDepth 100000 in
theorem tcX7_cell (l : Launch) (D : va_G) (cs : CS) (ad : Nat → Nat) (b : Nat) (mo wi : Int32) (nn : Nat) (S : RS) (a1 : Int32) (a2 : Int32) (z : Int32) (hm : mX7_cell mo wi nn S a1 a2 = some z) : Met l yX7_cell (Cond.code yX7_cell cX7_cell 4 (some .int) :: gw_tbl) ({ frames := 0, cells := 0, slots := 0, locals := 0 }) (PcR D cs (WR cs ad b mo wi nn S) [.ref (ad b), .int a1, .int a2]) (QRi z) 0 0 NoF := by
  refine met_R rfl (Nat.le_of_ble_eq_true rfl) (fun p e s m below meth c E hP ls hl => ?_)
  obtain ⟨hx, hb, hr, hml, hown, hlk, hT, hN, hK⟩ := id E
  have hl : lv_has ls 4 [(0, .ref (ad b)), (1, .int a1), (2, .int a2)] := hl
  unfold mX7_cell at hm
  refine lv_iload_n hx hb dX7_cell_0 rfl (lv_at hl 1 rfl) ?_
  refine lv_aload_n hx hb dX7_cell_1 rfl (lv_at hl 0 rfl) ?_
  refine gf_X7_13 (v := .int wi) hx hb hT hown hK hP 0 rfl rfl dX7_cell_2 ?_
  refine lv_imul hx hb dX7_cell_5 ?_
  refine lv_iload_n hx hb dX7_cell_6 rfl (lv_at hl 2 rfl) ?_
  refine lv_iadd hx hb dX7_cell_7 ?_
  refine xi_nm hm (fun x1 hm => ?_)
  refine lv_istore_n (lv' := [(3, .int x1), (0, .ref (ad b)), (1, .int a1), (2, .int a2)]) hx hb dX7_cell_8 rfl hl (by decide) rfl (fun ls hl => ?_)
  refine lv_iload_n hx hb dX7_cell_9 rfl (lv_at hl 0 rfl) ?_
  refine x_if_lt (tgt := 31) hx hb dX7_cell_10 (by decide) hm (fun hm => ?_) (fun hm => ?_)
  · refine lv_iconst (v := (0 : Int32)) hx hb dX7_cell_31 (by decide) ?_
    exact x_iretR hx hb hr hlk hm dX7_cell_32
  · refine lv_iload_n hx hb dX7_cell_13 rfl (lv_at hl 0 rfl) ?_
    refine lv_aload_n hx hb dX7_cell_14 rfl (lv_at hl 1 rfl) ?_
    refine gf_X7_22 (v := .ref (ad (b + 1))) hx hb hT hown hK hP 0 rfl rfl dX7_cell_15 ?_
    refine va_alen (v := (Int32.ofNat nn)) hx hb hK hP 1 0 rfl rfl rfl dX7_cell_18 ?_
    refine x_icmp_ge (tgt := 31) hx hb dX7_cell_19 (by decide) hm (fun hm => ?_) (fun hm => ?_)
    · refine lv_iconst (v := (0 : Int32)) hx hb dX7_cell_31 (by decide) ?_
      exact x_iretR hx hb hr hlk hm dX7_cell_32
    · refine lv_aload_n hx hb dX7_cell_22 rfl (lv_at hl 1 rfl) ?_
      refine gf_X7_22 (v := .ref (ad (b + 1))) hx hb hT hown hK hP 0 rfl rfl dX7_cell_23 ?_
      refine lv_iload_n hx hb dX7_cell_26 rfl (lv_at hl 0 rfl) ?_
      refine x_iald hx hb hK hP 1 rfl hm dX7_cell_27 (fun v2 hm => ?_)
      refine lv_goto (tgt := 32) hx hb dX7_cell_28 (by decide) ?_
      exact x_iretR hx hb hr hlk hm dX7_cell_32
noncomputable def mX7_put (mo wi : Int32) (nn : Nat) (S : RS) (a1 : Int32) (a2 : Int32) (a3 : Int32) : Option RS := nm ((a1 * wi) + a2) fun x1 => (if wi ≤ a2 then some S else (if x1 < 0 then some S else (if (Int32.ofNat nn) ≤ x1 then some S else ast nn x1 <| nm (S.1, upd S.2 x1.toNatClampNeg a3) fun S2 => some S2)))
set_option maxHeartbeats 4000000 in
set_option maxRecDepth 100000 in
theorem tcX7_put (l : Launch) (D : va_G) (cs : CS) (ad : Nat → Nat) (b : Nat) (mo wi : Int32) (nn : Nat) (sz : Nat) (S : RS) (a1 : Int32) (a2 : Int32) (a3 : Int32) (z : RS) (hm : mX7_put mo wi nn S a1 a2 a3 = some z) : Met l yX7_put (Cond.code yX7_put cX7_put 5 none :: gw_tbl) ({ frames := 0, cells := 0, slots := 0, locals := 0 }) (PcW D cs sz (WR cs ad b mo wi nn S) [.ref (ad b), .int a1, .int a2, .int a3]) (QWv D cs (va_A (WR cs ad b mo wi nn S) sz) (fun u => WR cs ad b mo wi nn u) z) 0 0 (va_A (WR cs ad b mo wi nn S) sz) := by
  refine met_W rfl (Nat.le_of_ble_eq_true rfl) (fun p e s m below meth c E hP hD hS hA ls hl => ?_)
  generalize va_A (WR cs ad b mo wi nn S) sz = A at hD hS hA ⊢
  obtain ⟨hx, hb, hr, hml, hown, hlk, hT, hN, hK⟩ := id E
  obtain ⟨H, hH⟩ : ∃ H, H = s.heap := ⟨_, rfl⟩
  obtain ⟨locs, hlo⟩ : ∃ L : List Loc, L = [] := ⟨_, rfl⟩
  have hP : va_P D classes (WR cs ad b mo wi nn S) H := by rw [hH]; exact hP
  have hS : va_S A s.heap H locs := by rw [hH, hlo]; exact hS
  rw [show W p l e _ s m _ below meth c s.heap [] 0 0 = W p l e _ s m _ below meth c H locs 0 0 by rw [hH, hlo]]
  have hl : lv_has ls 5 [(0, .ref (ad b)), (1, .int a1), (2, .int a2), (3, .int a3)] := hl
  unfold mX7_put at hm
  refine lv_iload_n hx hb dX7_put_0 rfl (lv_at hl 1 rfl) ?_
  refine lv_aload_n hx hb dX7_put_1 rfl (lv_at hl 0 rfl) ?_
  refine gf_X7_13 (v := .int wi) hx hb hT hown hK hP 0 rfl rfl dX7_put_2 ?_
  refine lv_imul hx hb dX7_put_5 ?_
  refine lv_iload_n hx hb dX7_put_6 rfl (lv_at hl 2 rfl) ?_
  refine lv_iadd hx hb dX7_put_7 ?_
  refine xi_nm hm (fun x1 hm => ?_)
  refine lv_istore (lv' := [(4, .int x1), (0, .ref (ad b)), (1, .int a1), (2, .int a2), (3, .int a3)]) hx hb dX7_put_8 hl (by decide) rfl (fun ls hl => ?_)
  refine lv_iload_n hx hb dX7_put_10 rfl (lv_at hl 3 rfl) ?_
  refine lv_aload_n hx hb dX7_put_11 rfl (lv_at hl 1 rfl) ?_
  refine gf_X7_13 (v := .int wi) hx hb hT hown hK hP 0 rfl rfl dX7_put_12 ?_
  refine x_icmp_ge (tgt := 41) hx hb dX7_put_15 (by decide) hm (fun hm => ?_) (fun hm => ?_)
  · exact x_vretW (wf := (fun u => WR cs ad b mo wi nn u)) hx hb hr hlk hK hP hD hS hm dX7_put_41
  · refine lv_iload hx hb dX7_put_18 (lv_at hl 0 rfl) ?_
    refine x_if_lt (tgt := 41) hx hb dX7_put_20 (by decide) hm (fun hm => ?_) (fun hm => ?_)
    · exact x_vretW (wf := (fun u => WR cs ad b mo wi nn u)) hx hb hr hlk hK hP hD hS hm dX7_put_41
    · refine lv_iload hx hb dX7_put_23 (lv_at hl 0 rfl) ?_
      refine lv_aload_n hx hb dX7_put_25 rfl (lv_at hl 1 rfl) ?_
      refine gf_X7_22 (v := .ref (ad (b + 1))) hx hb hT hown hK hP 0 rfl rfl dX7_put_26 ?_
      refine va_alen (v := (Int32.ofNat nn)) hx hb hK hP 1 0 rfl rfl rfl dX7_put_29 ?_
      refine x_icmp_ge (tgt := 41) hx hb dX7_put_30 (by decide) hm (fun hm => ?_) (fun hm => ?_)
      · exact x_vretW (wf := (fun u => WR cs ad b mo wi nn u)) hx hb hr hlk hK hP hD hS hm dX7_put_41
      · refine lv_aload_n hx hb dX7_put_33 rfl (lv_at hl 1 rfl) ?_
        refine gf_X7_22 (v := .ref (ad (b + 1))) hx hb hT hown hK hP 0 rfl rfl dX7_put_34 ?_
        refine lv_iload hx hb dX7_put_37 (lv_at hl 0 rfl) ?_
        refine lv_iload_n hx hb dX7_put_39 rfl (lv_at hl 4 rfl) ?_
        refine x_iast hx hb hK hP hD hS 1 rfl (fun j => (S.1, upd S.2 j a3)) (fun u => WR cs ad b mo wi nn u) (fun _ => rfl) hm dX7_put_40 (fun S2 H locs hm hP hD hS => ?_)
        exact x_vretW (wf := (fun u => WR cs ad b mo wi nn u)) hx hb hr hlk hK hP hD hS hm dX7_put_41
noncomputable def mX7_dropLast (mo wi : Int32) (nn : Nat) (S : RS) : Option RS := (if (S.1) ≤ 0 then some S else nm (((S.1) - (1 : Int32)), S.2) fun S1 => some S1)
set_option maxHeartbeats 4000000 in
set_option maxRecDepth 100000 in
theorem tcX7_dropLast (l : Launch) (D : va_G) (cs : CS) (ad : Nat → Nat) (b : Nat) (mo wi : Int32) (nn : Nat) (sz : Nat) (S : RS) (z : RS) (hm : mX7_dropLast mo wi nn S = some z) : Met l yX7_dropLast (Cond.code yX7_dropLast cX7_dropLast 1 none :: gw_tbl) ({ frames := 0, cells := 0, slots := 0, locals := 0 }) (PcW D cs sz (WR cs ad b mo wi nn S) [.ref (ad b)]) (QWv D cs (va_A (WR cs ad b mo wi nn S) sz) (fun u => WR cs ad b mo wi nn u) z) 0 0 (va_A (WR cs ad b mo wi nn S) sz) := by
  refine met_W rfl (Nat.le_of_ble_eq_true rfl) (fun p e s m below meth c E hP hD hS hA ls hl => ?_)
  generalize va_A (WR cs ad b mo wi nn S) sz = A at hD hS hA ⊢
  obtain ⟨hx, hb, hr, hml, hown, hlk, hT, hN, hK⟩ := id E
  obtain ⟨H, hH⟩ : ∃ H, H = s.heap := ⟨_, rfl⟩
  obtain ⟨locs, hlo⟩ : ∃ L : List Loc, L = [] := ⟨_, rfl⟩
  have hP : va_P D classes (WR cs ad b mo wi nn S) H := by rw [hH]; exact hP
  have hS : va_S A s.heap H locs := by rw [hH, hlo]; exact hS
  rw [show W p l e _ s m _ below meth c s.heap [] 0 0 = W p l e _ s m _ below meth c H locs 0 0 by rw [hH, hlo]]
  have hl : lv_has ls 1 [(0, .ref (ad b))] := hl
  unfold mX7_dropLast at hm
  refine lv_aload_n hx hb dX7_dropLast_0 rfl (lv_at hl 0 rfl) ?_
  refine gf_X7_26 (v := .int (S.1)) hx hb hT hown hK hP 0 rfl rfl dX7_dropLast_1 ?_
  refine x_if_le (tgt := 17) hx hb dX7_dropLast_4 (by decide) hm (fun hm => ?_) (fun hm => ?_)
  · exact x_vretW (wf := (fun u => WR cs ad b mo wi nn u)) hx hb hr hlk hK hP hD hS hm dX7_dropLast_17
  · refine lv_aload_n hx hb dX7_dropLast_7 rfl (lv_at hl 0 rfl) ?_
    refine lv_dup hx hb dX7_dropLast_8 rfl ?_
    refine gf_X7_26 (v := .int (S.1)) hx hb hT hown hK hP 0 rfl rfl dX7_dropLast_9 ?_
    refine lv_iconst (v := (1 : Int32)) hx hb dX7_dropLast_12 (by decide) ?_
    refine lv_isub hx hb dX7_dropLast_13 ?_
    refine pf_X7_26 (wf := (fun u => WR cs ad b mo wi nn u)) (u0 := (((S.1) - (1 : Int32)), S.2)) hx hb hT hown hK hP hD hS 0 rfl (Nat.le_of_ble_eq_true rfl) rfl rfl rfl hm dX7_dropLast_14 (fun S1 H locs hm hP hD hS => ?_)
    exact x_vretW (wf := (fun u => WR cs ad b mo wi nn u)) hx hb hr hlk hK hP hD hS hm dX7_dropLast_17
noncomputable def mX7_digestFrom_L17 (mo wi : Int32) (nn : Nat) (S : RS) : Nat → Int64 → Int32 → Int32 → Option Int64 := fun n => Nat.rec (motive := fun _ => Int64 → Int32 → Int32 → Option Int64) (fun _ _ _ => none) (fun _ rc => fun y3 y5 y6 => (if wi ≤ y6 then some y3 else (mX7_cell mo wi nn S y5 y6).bind fun r1 => nm (((31 : Int64) * y3) + r1.toInt64) fun x2 => nm (y6 + (1 : Int32)) fun x3 => rc x2 y5 x3)) n
theorem mX7_digestFrom_L17_s (mo wi : Int32) (nn : Nat) (S : RS) (n : Nat) (y3 : Int64) (y5 : Int32) (y6 : Int32) : mX7_digestFrom_L17 mo wi nn S (n + 1) y3 y5 y6 = (if wi ≤ y6 then some y3 else (mX7_cell mo wi nn S y5 y6).bind fun r1 => nm (((31 : Int64) * y3) + r1.toInt64) fun x2 => nm (y6 + (1 : Int32)) fun x3 => (mX7_digestFrom_L17 mo wi nn S n) x2 y5 x3) := rfl
noncomputable def mX7_digestFrom_L5 (mo wi : Int32) (nn : Nat) (S : RS) : Nat → Int64 → Int32 → Option Int64 := fun n => Nat.rec (motive := fun _ => Int64 → Int32 → Option Int64) (fun _ _ => none) (fun _ rc => fun y3 y5 => (if (S.1) ≤ y5 then some y3 else (mX7_digestFrom_L17 mo wi nn S FU y3 y5 (0 : Int32)).bind fun x4 => nm (y5 + (1 : Int32)) fun x5 => rc x4 x5)) n
theorem mX7_digestFrom_L5_s (mo wi : Int32) (nn : Nat) (S : RS) (n : Nat) (y3 : Int64) (y5 : Int32) : mX7_digestFrom_L5 mo wi nn S (n + 1) y3 y5 = (if (S.1) ≤ y5 then some y3 else (mX7_digestFrom_L17 mo wi nn S FU y3 y5 (0 : Int32)).bind fun x4 => nm (y5 + (1 : Int32)) fun x5 => (mX7_digestFrom_L5 mo wi nn S n) x4 x5) := rfl
noncomputable def mX7_digestFrom (mo wi : Int32) (nn : Nat) (S : RS) (a1 : Int64) : Option Int64 := mX7_digestFrom_L5 mo wi nn S FU a1 (0 : Int32)
set_option maxHeartbeats 4000000 in
set_option maxRecDepth 100000 in
theorem kX7_digestFrom_L17 {p : Program} {l : Launch} {e : Env} {s : State} {m : MethodId} {below : List Frame} {meth : Method} {c : Code} {D : va_G} {cs : CS}  {ad : Nat → Nat} {b : Nat} {mo wi : Int32} {nn : Nat} {S : RS} {a1 : Int64} (E : EV p s m [.ref (ad b), .long a1].toArray meth c cX7_digestFrom 7 RX7 (some .long) D cs) (hP : va_P D classes (WR cs ad b mo wi nn S) s.heap) {Q : State → Prop} (z : Int64) : ∀ (n : Nat) (y3 : Int64) (y5 : Int32) (y6 : Int32), mX7_digestFrom_L17 mo wi nn S n y3 y5 y6 = some z → ∀ ls : Array Slot, lv_has ls 7 [(0, .ref (ad b)), (3, .long y3), (5, .int y5), (6, .int y6)] → (∀ ls : Array Slot, lv_has ls 7 [(0, .ref (ad b)), (3, .long z), (5, .int y5)] → W p l e ({ frames := 1, cells := 0, slots := 0, locals := 23 }) s m [.ref (ad b), .long a1].toArray below meth c s.heap [] 0 0 Q (F0 m 48 ls [])) → W p l e ({ frames := 1, cells := 0, slots := 0, locals := 23 }) s m [.ref (ad b), .long a1].toArray below meth c s.heap [] 0 0 Q (F0 m 17 ls []) := by
  obtain ⟨hx, hb, hr, hml, hown, hlk, hT, hN, hK⟩ := id E
  intro n
  induction n with
  | zero =>
    intro y3 y5 y6 hm
    exact nomatch (show (none : Option Int64) = some z from hm)
  | succ n ih =>
    intro y3 y5 y6 hm ls hl kk
    rw [mX7_digestFrom_L17_s] at hm
    refine lv_iload hx hb dX7_digestFrom_17 (lv_at hl 3 rfl) ?_
    refine lv_aload_n hx hb dX7_digestFrom_19 rfl (lv_at hl 0 rfl) ?_
    refine gf_X7_13 (v := .int wi) hx hb hT hown hK hP 0 rfl rfl dX7_digestFrom_20 ?_
    refine x_icmp_ge (tgt := 48) hx hb dX7_digestFrom_23 (by decide) hm (fun hm => ?_) (fun hm => ?_)
    · cases hm
      exact kk ls (lv_sub hl [0, 1, 2] rfl)
    · refine lv_ldc2 hx hb hown (hT _ tw_796) dX7_digestFrom_26 ?_
      refine lv_lload_n hx hb dX7_digestFrom_29 rfl (lv_at hl 1 rfl) ?_
      refine lv_lmul hx hb dX7_digestFrom_30 ?_
      refine lv_aload_n hx hb dX7_digestFrom_31 rfl (lv_at hl 0 rfl) ?_
      refine lv_iload hx hb dX7_digestFrom_32 (lv_at hl 2 rfl) ?_
      refine lv_iload hx hb dX7_digestFrom_34 (lv_at hl 3 rfl) ?_
      refine xV_i (As := [.int y5, .int y6]) (rest := [.long ((31 : Int64) * y3)]) hx hb hml hown hT hN hK hP cw_X7_42 hm (fun z h => tcX7_cell l D cs ad b mo wi nn S y5 y6 z h) ⟨rfl, rfl⟩ ⟨by decide, by decide⟩ (b := (ad b)) 0 rfl rfl rfl hl.1 rfl rfl (Nat.le_of_ble_eq_true rfl) dX7_digestFrom_36 ⟨Nat.zero_le _, Nat.zero_le _⟩ (fun r1 hm => ?_)
      refine lv_i2l hx hb dX7_digestFrom_39 rfl ?_
      refine lv_ladd hx hb dX7_digestFrom_40 ?_
      refine xl_nm hm (fun x2 hm => ?_)
      refine lv_lstore_n (lv' := [(3, .long x2), (0, .ref (ad b)), (5, .int y5), (6, .int y6)]) hx hb dX7_digestFrom_41 rfl hl (by decide) rfl (fun ls hl => ?_)
      refine x_iinc (lv' := fun x3 => [(6, .int x3), (3, .long x2), (0, .ref (ad b)), (5, .int y5)]) hx hb dX7_digestFrom_42 hl (k := 3) rfl (by decide) (v0 := (1 : Int32)) (by decide) (fun _ => rfl) hm (fun x3 ls hm hl => ?_)
      refine lv_goto (tgt := 17) hx hb dX7_digestFrom_45 (by decide) ?_
      exact ih x2 y5 x3 hm ls (lv_sub hl [2, 1, 3, 0] rfl) kk
set_option maxHeartbeats 4000000 in
set_option maxRecDepth 100000 in
theorem kX7_digestFrom_L5 {p : Program} {l : Launch} {e : Env} {s : State} {m : MethodId} {below : List Frame} {meth : Method} {c : Code} {D : va_G} {cs : CS}  {ad : Nat → Nat} {b : Nat} {mo wi : Int32} {nn : Nat} {S : RS} {a1 : Int64} (E : EV p s m [.ref (ad b), .long a1].toArray meth c cX7_digestFrom 7 RX7 (some .long) D cs) (hP : va_P D classes (WR cs ad b mo wi nn S) s.heap) (z : Int64) : ∀ (n : Nat) (y3 : Int64) (y5 : Int32), mX7_digestFrom_L5 mo wi nn S n y3 y5 = some z → ∀ ls : Array Slot, lv_has ls 7 [(0, .ref (ad b)), (3, .long y3), (5, .int y5)] → W p l e ({ frames := 1, cells := 0, slots := 0, locals := 23 }) s m [.ref (ad b), .long a1].toArray below meth c s.heap [] 0 0 (MQ below (QRl z) [.ref (ad b), .long a1].toArray s 0 0 NoF) (F0 m 5 ls []) := by
  obtain ⟨hx, hb, hr, hml, hown, hlk, hT, hN, hK⟩ := id E
  intro n
  induction n with
  | zero =>
    intro y3 y5 hm
    exact nomatch (show (none : Option Int64) = some z from hm)
  | succ n ih =>
    intro y3 y5 hm ls hl
    rw [mX7_digestFrom_L5_s] at hm
    refine lv_iload hx hb dX7_digestFrom_5 (lv_at hl 2 rfl) ?_
    refine lv_aload_n hx hb dX7_digestFrom_7 rfl (lv_at hl 0 rfl) ?_
    refine gf_X7_26 (v := .int (S.1)) hx hb hT hown hK hP 0 rfl rfl dX7_digestFrom_8 ?_
    refine x_icmp_ge (tgt := 54) hx hb dX7_digestFrom_11 (by decide) hm (fun hm => ?_) (fun hm => ?_)
    · refine lv_lload_n hx hb dX7_digestFrom_54 rfl (lv_at hl 1 rfl) ?_
      exact x_lretR hx hb hr hlk hm dX7_digestFrom_55
    · refine lv_iconst (v := (0 : Int32)) hx hb dX7_digestFrom_14 (by decide) ?_
      refine lv_istore (lv' := [(6, .int (0 : Int32)), (0, .ref (ad b)), (3, .long y3), (5, .int y5)]) hx hb dX7_digestFrom_15 hl (by decide) rfl (fun ls hl => ?_)
      obtain ⟨x4, he, hm⟩ := ob_some hm
      refine kX7_digestFrom_L17 E hP _ FU y3 y5 (0 : Int32) he ls (lv_sub hl [1, 2, 3, 0] rfl) (fun ls hl => ?_)
      refine x_iinc (lv' := fun x5 => [(5, .int x5), (0, .ref (ad b)), (3, .long x4)]) hx hb dX7_digestFrom_48 hl (k := 2) rfl (by decide) (v0 := (1 : Int32)) (by decide) (fun _ => rfl) hm (fun x5 ls hm hl => ?_)
      refine lv_goto (tgt := 5) hx hb dX7_digestFrom_51 (by decide) ?_
      exact ih x4 x5 hm ls (lv_sub hl [1, 2, 0] rfl)
set_option maxHeartbeats 4000000 in
set_option maxRecDepth 100000 in
theorem tcX7_digestFrom (l : Launch) (D : va_G) (cs : CS) (ad : Nat → Nat) (b : Nat) (mo wi : Int32) (nn : Nat) (S : RS) (a1 : Int64) (z : Int64) (hm : mX7_digestFrom mo wi nn S a1 = some z) : Met l yX7_digestFrom (Cond.code yX7_digestFrom cX7_digestFrom 7 (some .long) :: gw_tbl) ({ frames := 1, cells := 0, slots := 0, locals := 23 }) (PcR D cs (WR cs ad b mo wi nn S) [.ref (ad b), .long a1]) (QRl z) 0 0 NoF := by
  refine met_R rfl (Nat.le_of_ble_eq_true rfl) (fun p e s m below meth c E hP ls hl => ?_)
  obtain ⟨hx, hb, hr, hml, hown, hlk, hT, hN, hK⟩ := id E
  have hl : lv_has ls 7 [(0, .ref (ad b)), (1, .long a1)] := hl
  unfold mX7_digestFrom at hm
  refine lv_lload_n hx hb dX7_digestFrom_0 rfl (lv_at hl 1 rfl) ?_
  refine lv_lstore_n (lv' := [(3, .long a1), (0, .ref (ad b)), (1, .long a1)]) hx hb dX7_digestFrom_1 rfl hl (by decide) rfl (fun ls hl => ?_)
  refine lv_iconst (v := (0 : Int32)) hx hb dX7_digestFrom_2 (by decide) ?_
  refine lv_istore (lv' := [(5, .int (0 : Int32)), (3, .long a1), (0, .ref (ad b)), (1, .long a1)]) hx hb dX7_digestFrom_3 hl (by decide) rfl (fun ls hl => ?_)
  exact kX7_digestFrom_L5 E hP _ FU a1 (0 : Int32) hm ls (lv_sub hl [2, 1, 0] rfl)
noncomputable def mX7_add (mo wi : Int32) (nn : Nat) (S : RS) (a1 : Int32) (a2 : Int32) (a3 : Int32) (a4 : Int32) : Option RS := (mX7_isFull mo wi nn S).bind fun r1 => (if r1 = 0 then (mX7_put mo wi nn S (S.1) (0 : Int32) a1).bind fun S2 => (mX7_put mo wi nn S2 (S2.1) (1 : Int32) a2).bind fun S3 => (mX7_put mo wi nn S3 (S3.1) (2 : Int32) a3).bind fun S4 => (mX7_put mo wi nn S4 (S4.1) (3 : Int32) a4).bind fun S5 => nm (((S5.1) + (1 : Int32)), S5.2) fun S6 => some S6 else some S)
set_option maxHeartbeats 4000000 in
set_option maxRecDepth 100000 in
theorem tcX7_add (l : Launch) (D : va_G) (cs : CS) (ad : Nat → Nat) (b : Nat) (mo wi : Int32) (nn : Nat) (sz : Nat) (S : RS) (a1 : Int32) (a2 : Int32) (a3 : Int32) (a4 : Int32) (z : RS) (hm : mX7_add mo wi nn S a1 a2 a3 a4 = some z) : Met l yX7_add (Cond.code yX7_add cX7_add 5 none :: gw_tbl) ({ frames := 1, cells := 0, slots := 0, locals := 24 }) (PcW D cs sz (WR cs ad b mo wi nn S) [.ref (ad b), .int a1, .int a2, .int a3, .int a4]) (QWv D cs (va_A (WR cs ad b mo wi nn S) sz) (fun u => WR cs ad b mo wi nn u) z) 0 0 (va_A (WR cs ad b mo wi nn S) sz) := by
  refine met_W rfl (Nat.le_of_ble_eq_true rfl) (fun p e s m below meth c E hP hD hS hA ls hl => ?_)
  generalize va_A (WR cs ad b mo wi nn S) sz = A at hD hS hA ⊢
  obtain ⟨hx, hb, hr, hml, hown, hlk, hT, hN, hK⟩ := id E
  obtain ⟨H, hH⟩ : ∃ H, H = s.heap := ⟨_, rfl⟩
  obtain ⟨locs, hlo⟩ : ∃ L : List Loc, L = [] := ⟨_, rfl⟩
  have hP : va_P D classes (WR cs ad b mo wi nn S) H := by rw [hH]; exact hP
  have hS : va_S A s.heap H locs := by rw [hH, hlo]; exact hS
  rw [show W p l e _ s m _ below meth c s.heap [] 0 0 = W p l e _ s m _ below meth c H locs 0 0 by rw [hH, hlo]]
  have hl : lv_has ls 5 [(0, .ref (ad b)), (1, .int a1), (2, .int a2), (3, .int a3), (4, .int a4)] := hl
  unfold mX7_add at hm
  refine lv_aload_n hx hb dX7_add_0 rfl (lv_at hl 0 rfl) ?_
  refine xV_i (As := []) (rest := []) hx hb hml hown hT hN hK hP cw_X7_29 hm (fun z h => tcX7_isFull l D cs ad b mo wi nn S z h) ⟨rfl, rfl⟩ ⟨by decide, by decide⟩ (b := (ad b)) 0 rfl rfl rfl hl.1 rfl rfl (Nat.le_of_ble_eq_true rfl) dX7_add_1 ⟨Nat.zero_le _, Nat.zero_le _⟩ (fun r1 hm => ?_)
  refine x_if_eq (tgt := 8) hx hb dX7_add_4 (by decide) hm (fun hm => ?_) (fun hm => ?_)
  · refine lv_aload_n hx hb dX7_add_8 rfl (lv_at hl 0 rfl) ?_
    refine lv_aload_n hx hb dX7_add_9 rfl (lv_at hl 0 rfl) ?_
    refine gf_X7_26 (v := .int (S.1)) hx hb hT hown hK hP 0 rfl rfl dX7_add_10 ?_
    refine lv_iconst (v := (0 : Int32)) hx hb dX7_add_13 (by decide) ?_
    refine lv_iload_n hx hb dX7_add_14 rfl (lv_at hl 1 rfl) ?_
    refine xVW_v (As := [.int (S.1), .int (0 : Int32), .int a1]) (rest := []) (wr := []) (wg := (fun u => WR cs ad b mo wi nn u)) hx hb hml hown hT hN hK hP hD hS hA cw_X7_33 hm (fun z h => tcX7_put l D cs ad b mo wi nn H.size S (S.1) (0 : Int32) a1 z h) ⟨rfl, rfl⟩ ⟨by decide, by decide⟩ [0, 1] [] [0, 1] rfl (by decide) rfl (by decide) (by decide) (fun _ => rfl) (by decide) (b := (ad b)) 0 rfl rfl rfl hl.1 rfl rfl (Nat.le_of_ble_eq_true rfl) dX7_add_15 ⟨Nat.zero_le _, Nat.zero_le _⟩ (fun S2 H locs hm hP hD hS => ?_)
    refine lv_aload_n hx hb dX7_add_18 rfl (lv_at hl 0 rfl) ?_
    refine lv_aload_n hx hb dX7_add_19 rfl (lv_at hl 0 rfl) ?_
    refine gf_X7_26 (v := .int (S2.1)) hx hb hT hown hK hP 0 rfl rfl dX7_add_20 ?_
    refine lv_iconst (v := (1 : Int32)) hx hb dX7_add_23 (by decide) ?_
    refine lv_iload_n hx hb dX7_add_24 rfl (lv_at hl 2 rfl) ?_
    refine xVW_v (As := [.int (S2.1), .int (1 : Int32), .int a2]) (rest := []) (wr := []) (wg := (fun u => WR cs ad b mo wi nn u)) hx hb hml hown hT hN hK hP hD hS hA cw_X7_33 hm (fun z h => tcX7_put l D cs ad b mo wi nn H.size S2 (S2.1) (1 : Int32) a2 z h) ⟨rfl, rfl⟩ ⟨by decide, by decide⟩ [0, 1] [] [0, 1] rfl (by decide) rfl (by decide) (by decide) (fun _ => rfl) (by decide) (b := (ad b)) 0 rfl rfl rfl hl.1 rfl rfl (Nat.le_of_ble_eq_true rfl) dX7_add_25 ⟨Nat.zero_le _, Nat.zero_le _⟩ (fun S3 H locs hm hP hD hS => ?_)
    refine lv_aload_n hx hb dX7_add_28 rfl (lv_at hl 0 rfl) ?_
    refine lv_aload_n hx hb dX7_add_29 rfl (lv_at hl 0 rfl) ?_
    refine gf_X7_26 (v := .int (S3.1)) hx hb hT hown hK hP 0 rfl rfl dX7_add_30 ?_
    refine lv_iconst (v := (2 : Int32)) hx hb dX7_add_33 (by decide) ?_
    refine lv_iload_n hx hb dX7_add_34 rfl (lv_at hl 3 rfl) ?_
    refine xVW_v (As := [.int (S3.1), .int (2 : Int32), .int a3]) (rest := []) (wr := []) (wg := (fun u => WR cs ad b mo wi nn u)) hx hb hml hown hT hN hK hP hD hS hA cw_X7_33 hm (fun z h => tcX7_put l D cs ad b mo wi nn H.size S3 (S3.1) (2 : Int32) a3 z h) ⟨rfl, rfl⟩ ⟨by decide, by decide⟩ [0, 1] [] [0, 1] rfl (by decide) rfl (by decide) (by decide) (fun _ => rfl) (by decide) (b := (ad b)) 0 rfl rfl rfl hl.1 rfl rfl (Nat.le_of_ble_eq_true rfl) dX7_add_35 ⟨Nat.zero_le _, Nat.zero_le _⟩ (fun S4 H locs hm hP hD hS => ?_)
    refine lv_aload_n hx hb dX7_add_38 rfl (lv_at hl 0 rfl) ?_
    refine lv_aload_n hx hb dX7_add_39 rfl (lv_at hl 0 rfl) ?_
    refine gf_X7_26 (v := .int (S4.1)) hx hb hT hown hK hP 0 rfl rfl dX7_add_40 ?_
    refine lv_iconst (v := (3 : Int32)) hx hb dX7_add_43 (by decide) ?_
    refine lv_iload hx hb dX7_add_44 (lv_at hl 4 rfl) ?_
    refine xVW_v (As := [.int (S4.1), .int (3 : Int32), .int a4]) (rest := []) (wr := []) (wg := (fun u => WR cs ad b mo wi nn u)) hx hb hml hown hT hN hK hP hD hS hA cw_X7_33 hm (fun z h => tcX7_put l D cs ad b mo wi nn H.size S4 (S4.1) (3 : Int32) a4 z h) ⟨rfl, rfl⟩ ⟨by decide, by decide⟩ [0, 1] [] [0, 1] rfl (by decide) rfl (by decide) (by decide) (fun _ => rfl) (by decide) (b := (ad b)) 0 rfl rfl rfl hl.1 rfl rfl (Nat.le_of_ble_eq_true rfl) dX7_add_46 ⟨Nat.zero_le _, Nat.zero_le _⟩ (fun S5 H locs hm hP hD hS => ?_)
    refine lv_aload_n hx hb dX7_add_49 rfl (lv_at hl 0 rfl) ?_
    refine lv_dup hx hb dX7_add_50 rfl ?_
    refine gf_X7_26 (v := .int (S5.1)) hx hb hT hown hK hP 0 rfl rfl dX7_add_51 ?_
    refine lv_iconst (v := (1 : Int32)) hx hb dX7_add_54 (by decide) ?_
    refine lv_iadd hx hb dX7_add_55 ?_
    refine pf_X7_26 (wf := (fun u => WR cs ad b mo wi nn u)) (u0 := (((S5.1) + (1 : Int32)), S5.2)) hx hb hT hown hK hP hD hS 0 rfl (Nat.le_of_ble_eq_true rfl) rfl rfl rfl hm dX7_add_56 (fun S6 H locs hm hP hD hS => ?_)
    exact x_vretW (wf := (fun u => WR cs ad b mo wi nn u)) hx hb hr hlk hK hP hD hS hm dX7_add_59
  · exact x_vretW (wf := (fun u => WR cs ad b mo wi nn u)) hx hb hr hlk hK hP hD hS hm dX7_add_7
noncomputable def mX7_dropFirst_L5 (mo wi : Int32) (nn : Nat) : Nat → Int32 → RS → Option RS := fun n => Nat.rec (motive := fun _ => Int32 → RS → Option RS) (fun _ _ => none) (fun _ rc => fun y1 S => (if (Int32.ofNat nn) ≤ y1 then (mX7_dropLast mo wi nn S).bind fun S1 => some S1 else nm (y1 - wi) fun x2 => (if x2 < 0 then nm (y1 + (1 : Int32)) fun x3 => rc x3 S else ald S.2 nn y1 fun v4 => ast nn x2 <| nm (S.1, upd S.2 x2.toNatClampNeg v4) fun S5 => nm (y1 + (1 : Int32)) fun x6 => rc x6 S5))) n
theorem mX7_dropFirst_L5_s (mo wi : Int32) (nn : Nat) (n : Nat) (y1 : Int32) (S : RS) : mX7_dropFirst_L5 mo wi nn (n + 1) y1 S = (if (Int32.ofNat nn) ≤ y1 then (mX7_dropLast mo wi nn S).bind fun S1 => some S1 else nm (y1 - wi) fun x2 => (if x2 < 0 then nm (y1 + (1 : Int32)) fun x3 => (mX7_dropFirst_L5 mo wi nn n) x3 S else ald S.2 nn y1 fun v4 => ast nn x2 <| nm (S.1, upd S.2 x2.toNatClampNeg v4) fun S5 => nm (y1 + (1 : Int32)) fun x6 => (mX7_dropFirst_L5 mo wi nn n) x6 S5)) := rfl
noncomputable def mX7_dropFirst (mo wi : Int32) (nn : Nat) (S : RS) : Option RS := mX7_dropFirst_L5 mo wi nn FU wi S
set_option maxHeartbeats 4000000 in
set_option maxRecDepth 100000 in
theorem kX7_dropFirst_L5 {p : Program} {l : Launch} {e : Env} {s : State} {m : MethodId} {below : List Frame} {meth : Method} {c : Code} {D : va_G} {cs : CS} {A : Nat → Prop} {ad : Nat → Nat} {b : Nat} {mo wi : Int32} {nn : Nat}  (E : EV p s m [.ref (ad b)].toArray meth c cX7_dropFirst 3 RX7 none D cs) (hA : ∀ q : Nat, s.heap.size ≤ q → A q) (z : RS) : ∀ (n : Nat) (y1 : Int32) (S : RS), mX7_dropFirst_L5 mo wi nn n y1 S = some z → ∀ (H : Heap) (locs : List Loc), va_P D classes (WR cs ad b mo wi nn S) H → va_D A (WR cs ad b mo wi nn S) → va_S A s.heap H locs → ∀ ls : Array Slot, lv_has ls 3 [(0, .ref (ad b)), (1, .int y1)] → W p l e ({ frames := 1, cells := 0, slots := 0, locals := 20 }) s m [.ref (ad b)].toArray below meth c H locs 0 0 (MQ below (QWv D cs A (fun u => WR cs ad b mo wi nn u) z) [.ref (ad b)].toArray s 0 0 A) (F0 m 5 ls []) := by
  obtain ⟨hx, hb, hr, hml, hown, hlk, hT, hN, hK⟩ := id E
  intro n
  induction n with
  | zero =>
    intro y1 S hm
    exact nomatch (show (none : Option RS) = some z from hm)
  | succ n ih =>
    intro y1 S hm H locs hP hD hS ls hl
    rw [mX7_dropFirst_L5_s] at hm
    refine lv_iload_n hx hb dX7_dropFirst_5 rfl (lv_at hl 1 rfl) ?_
    refine lv_aload_n hx hb dX7_dropFirst_6 rfl (lv_at hl 0 rfl) ?_
    refine gf_X7_22 (v := .ref (ad (b + 1))) hx hb hT hown hK hP 0 rfl rfl dX7_dropFirst_7 ?_
    refine va_alen (v := (Int32.ofNat nn)) hx hb hK hP 1 0 rfl rfl rfl dX7_dropFirst_10 ?_
    refine x_icmp_ge (tgt := 43) hx hb dX7_dropFirst_11 (by decide) hm (fun hm => ?_) (fun hm => ?_)
    · refine lv_aload_n hx hb dX7_dropFirst_43 rfl (lv_at hl 0 rfl) ?_
      refine xVW_v (As := []) (rest := []) (wr := []) (wg := (fun u => WR cs ad b mo wi nn u)) hx hb hml hown hT hN hK hP hD hS hA cw_X7_37 hm (fun z h => tcX7_dropLast l D cs ad b mo wi nn H.size S z h) ⟨rfl, rfl⟩ ⟨by decide, by decide⟩ [0, 1] [] [0, 1] rfl (by decide) rfl (by decide) (by decide) (fun _ => rfl) (by decide) (b := (ad b)) 0 rfl rfl rfl hl.1 rfl rfl (Nat.le_of_ble_eq_true rfl) dX7_dropFirst_44 ⟨Nat.zero_le _, Nat.zero_le _⟩ (fun S1 H locs hm hP hD hS => ?_)
      exact x_vretW (wf := (fun u => WR cs ad b mo wi nn u)) hx hb hr hlk hK hP hD hS hm dX7_dropFirst_47
    · refine lv_iload_n hx hb dX7_dropFirst_14 rfl (lv_at hl 1 rfl) ?_
      refine lv_aload_n hx hb dX7_dropFirst_15 rfl (lv_at hl 0 rfl) ?_
      refine gf_X7_13 (v := .int wi) hx hb hT hown hK hP 0 rfl rfl dX7_dropFirst_16 ?_
      refine lv_isub hx hb dX7_dropFirst_19 ?_
      refine xi_nm hm (fun x2 hm => ?_)
      refine lv_istore_n (lv' := [(2, .int x2), (0, .ref (ad b)), (1, .int y1)]) hx hb dX7_dropFirst_20 rfl hl (by decide) rfl (fun ls hl => ?_)
      refine lv_iload_n hx hb dX7_dropFirst_21 rfl (lv_at hl 0 rfl) ?_
      refine x_if_lt (tgt := 37) hx hb dX7_dropFirst_22 (by decide) hm (fun hm => ?_) (fun hm => ?_)
      · refine x_iinc (lv' := fun x3 => [(1, .int x3), (2, .int x2), (0, .ref (ad b))]) hx hb dX7_dropFirst_37 hl (k := 2) rfl (by decide) (v0 := (1 : Int32)) (by decide) (fun _ => rfl) hm (fun x3 ls hm hl => ?_)
        refine lv_goto (tgt := 5) hx hb dX7_dropFirst_40 (by decide) ?_
        exact ih x3 S hm H locs hP hD hS ls (lv_sub hl [2, 0] rfl)
      · refine lv_aload_n hx hb dX7_dropFirst_25 rfl (lv_at hl 1 rfl) ?_
        refine gf_X7_22 (v := .ref (ad (b + 1))) hx hb hT hown hK hP 0 rfl rfl dX7_dropFirst_26 ?_
        refine lv_iload_n hx hb dX7_dropFirst_29 rfl (lv_at hl 0 rfl) ?_
        refine lv_aload_n hx hb dX7_dropFirst_30 rfl (lv_at hl 1 rfl) ?_
        refine gf_X7_22 (v := .ref (ad (b + 1))) hx hb hT hown hK hP 0 rfl rfl dX7_dropFirst_31 ?_
        refine lv_iload_n hx hb dX7_dropFirst_34 rfl (lv_at hl 2 rfl) ?_
        refine x_iald hx hb hK hP 1 rfl hm dX7_dropFirst_35 (fun v4 hm => ?_)
        refine x_iast hx hb hK hP hD hS 1 rfl (fun j => (S.1, upd S.2 j v4)) (fun u => WR cs ad b mo wi nn u) (fun _ => rfl) hm dX7_dropFirst_36 (fun S5 H locs hm hP hD hS => ?_)
        refine x_iinc (lv' := fun x6 => [(1, .int x6), (2, .int x2), (0, .ref (ad b))]) hx hb dX7_dropFirst_37 hl (k := 2) rfl (by decide) (v0 := (1 : Int32)) (by decide) (fun _ => rfl) hm (fun x6 ls hm hl => ?_)
        refine lv_goto (tgt := 5) hx hb dX7_dropFirst_40 (by decide) ?_
        exact ih x6 S5 hm H locs hP hD hS ls (lv_sub hl [2, 0] rfl)
set_option maxHeartbeats 4000000 in
set_option maxRecDepth 100000 in
theorem tcX7_dropFirst (l : Launch) (D : va_G) (cs : CS) (ad : Nat → Nat) (b : Nat) (mo wi : Int32) (nn : Nat) (sz : Nat) (S : RS) (z : RS) (hm : mX7_dropFirst mo wi nn S = some z) : Met l yX7_dropFirst (Cond.code yX7_dropFirst cX7_dropFirst 3 none :: gw_tbl) ({ frames := 1, cells := 0, slots := 0, locals := 20 }) (PcW D cs sz (WR cs ad b mo wi nn S) [.ref (ad b)]) (QWv D cs (va_A (WR cs ad b mo wi nn S) sz) (fun u => WR cs ad b mo wi nn u) z) 0 0 (va_A (WR cs ad b mo wi nn S) sz) := by
  refine met_W rfl (Nat.le_of_ble_eq_true rfl) (fun p e s m below meth c E hP hD hS hA ls hl => ?_)
  generalize va_A (WR cs ad b mo wi nn S) sz = A at hD hS hA ⊢
  obtain ⟨hx, hb, hr, hml, hown, hlk, hT, hN, hK⟩ := id E
  obtain ⟨H, hH⟩ : ∃ H, H = s.heap := ⟨_, rfl⟩
  obtain ⟨locs, hlo⟩ : ∃ L : List Loc, L = [] := ⟨_, rfl⟩
  have hP : va_P D classes (WR cs ad b mo wi nn S) H := by rw [hH]; exact hP
  have hS : va_S A s.heap H locs := by rw [hH, hlo]; exact hS
  rw [show W p l e _ s m _ below meth c s.heap [] 0 0 = W p l e _ s m _ below meth c H locs 0 0 by rw [hH, hlo]]
  have hl : lv_has ls 3 [(0, .ref (ad b))] := hl
  unfold mX7_dropFirst at hm
  refine lv_aload_n hx hb dX7_dropFirst_0 rfl (lv_at hl 0 rfl) ?_
  refine gf_X7_13 (v := .int wi) hx hb hT hown hK hP 0 rfl rfl dX7_dropFirst_1 ?_
  refine lv_istore_n (lv' := [(1, .int wi), (0, .ref (ad b))]) hx hb dX7_dropFirst_4 rfl hl (by decide) rfl (fun ls hl => ?_)
  exact kX7_dropFirst_L5 E hA _ FU wi S hm H locs hP hD hS ls (lv_sub hl [1, 0] rfl)
noncomputable def mX7_become_L2 (nn : Nat) (O : RS) : Nat → Int32 → RS → Option RS := fun n => Nat.rec (motive := fun _ => Int32 → RS → Option RS) (fun _ _ => none) (fun _ rc => fun y2 S => (if (Int32.ofNat nn) ≤ y2 then nm ((O.1), S.2) fun S1 => some S1 else (if (Int32.ofNat nn) ≤ y2 then nm ((O.1), S.2) fun S2 => some S2 else ald O.2 nn y2 fun v3 => ast nn y2 <| nm (S.1, upd S.2 y2.toNatClampNeg v3) fun S4 => nm (y2 + (1 : Int32)) fun x5 => rc x5 S4))) n
theorem mX7_become_L2_s (nn : Nat) (O : RS) (n : Nat) (y2 : Int32) (S : RS) : mX7_become_L2 nn O (n + 1) y2 S = (if (Int32.ofNat nn) ≤ y2 then nm ((O.1), S.2) fun S1 => some S1 else (if (Int32.ofNat nn) ≤ y2 then nm ((O.1), S.2) fun S2 => some S2 else ald O.2 nn y2 fun v3 => ast nn y2 <| nm (S.1, upd S.2 y2.toNatClampNeg v3) fun S4 => nm (y2 + (1 : Int32)) fun x5 => (mX7_become_L2 nn O n) x5 S4)) := rfl
noncomputable def mX7_become (nn : Nat) (O : RS) (S : RS) : Option RS := mX7_become_L2 nn O FU (0 : Int32) S
set_option maxHeartbeats 4000000 in
set_option maxRecDepth 100000 in
theorem kX7_become_L2 {p : Program} {l : Launch} {e : Env} {s : State} {m : MethodId} {below : List Frame} {meth : Method} {c : Code} {D : va_G} {cs : CS} {A : Nat → Prop} {ad : Nat → Nat} {b b2 : Nat} {mo wi : Int32} {nn : Nat} {O : RS}  (E : EV p s m [.ref (ad b), .ref (ad b2)].toArray meth c cX7_become 3 RX7 none D cs) (hA : ∀ q : Nat, s.heap.size ≤ q → A q) (z : RS) : ∀ (n : Nat) (y2 : Int32) (S : RS), mX7_become_L2 nn O n y2 S = some z → ∀ (H : Heap) (locs : List Loc), va_P D classes (WR2 cs ad b b2 mo wi nn O S) H → va_D A (WR2 cs ad b b2 mo wi nn O S) → va_S A s.heap H locs → ∀ ls : Array Slot, lv_has ls 3 [(0, .ref (ad b)), (1, .ref (ad b2)), (2, .int y2)] → W p l e ({ frames := 0, cells := 0, slots := 0, locals := 0 }) s m [.ref (ad b), .ref (ad b2)].toArray below meth c H locs 0 0 (MQ below (QWv D cs A (fun u => WR2 cs ad b b2 mo wi nn O u) z) [.ref (ad b), .ref (ad b2)].toArray s 0 0 A) (F0 m 2 ls []) := by
  obtain ⟨hx, hb, hr, hml, hown, hlk, hT, hN, hK⟩ := id E
  intro n
  induction n with
  | zero =>
    intro y2 S hm
    exact nomatch (show (none : Option RS) = some z from hm)
  | succ n ih =>
    intro y2 S hm H locs hP hD hS ls hl
    rw [mX7_become_L2_s] at hm
    refine lv_iload_n hx hb dX7_become_2 rfl (lv_at hl 2 rfl) ?_
    refine lv_aload_n hx hb dX7_become_3 rfl (lv_at hl 0 rfl) ?_
    refine gf_X7_22 (v := .ref (ad (b + 1))) hx hb hT hown hK hP 0 rfl rfl dX7_become_4 ?_
    refine va_alen (v := (Int32.ofNat nn)) hx hb hK hP 1 0 rfl rfl rfl dX7_become_7 ?_
    refine x_icmp_ge (tgt := 38) hx hb dX7_become_8 (by decide) hm (fun hm => ?_) (fun hm => ?_)
    · refine lv_aload_n hx hb dX7_become_38 rfl (lv_at hl 0 rfl) ?_
      refine lv_aload_n hx hb dX7_become_39 rfl (lv_at hl 1 rfl) ?_
      refine gf_X7_26 (v := .int (O.1)) hx hb hT hown hK hP 2 rfl rfl dX7_become_40 ?_
      refine pf_X7_26 (wf := (fun u => WR2 cs ad b b2 mo wi nn O u)) (u0 := ((O.1), S.2)) hx hb hT hown hK hP hD hS 0 rfl (Nat.le_of_ble_eq_true rfl) rfl rfl rfl hm dX7_become_43 (fun S1 H locs hm hP hD hS => ?_)
      exact x_vretW (wf := (fun u => WR2 cs ad b b2 mo wi nn O u)) hx hb hr hlk hK hP hD hS hm dX7_become_46
    · refine lv_iload_n hx hb dX7_become_11 rfl (lv_at hl 2 rfl) ?_
      refine lv_aload_n hx hb dX7_become_12 rfl (lv_at hl 1 rfl) ?_
      refine gf_X7_22 (v := .ref (ad (b2 + 1))) hx hb hT hown hK hP 2 rfl rfl dX7_become_13 ?_
      refine va_alen (v := (Int32.ofNat nn)) hx hb hK hP 3 0 rfl rfl rfl dX7_become_16 ?_
      refine x_icmp_ge (tgt := 38) hx hb dX7_become_17 (by decide) hm (fun hm => ?_) (fun hm => ?_)
      · refine lv_aload_n hx hb dX7_become_38 rfl (lv_at hl 0 rfl) ?_
        refine lv_aload_n hx hb dX7_become_39 rfl (lv_at hl 1 rfl) ?_
        refine gf_X7_26 (v := .int (O.1)) hx hb hT hown hK hP 2 rfl rfl dX7_become_40 ?_
        refine pf_X7_26 (wf := (fun u => WR2 cs ad b b2 mo wi nn O u)) (u0 := ((O.1), S.2)) hx hb hT hown hK hP hD hS 0 rfl (Nat.le_of_ble_eq_true rfl) rfl rfl rfl hm dX7_become_43 (fun S2 H locs hm hP hD hS => ?_)
        exact x_vretW (wf := (fun u => WR2 cs ad b b2 mo wi nn O u)) hx hb hr hlk hK hP hD hS hm dX7_become_46
      · refine lv_aload_n hx hb dX7_become_20 rfl (lv_at hl 0 rfl) ?_
        refine gf_X7_22 (v := .ref (ad (b + 1))) hx hb hT hown hK hP 0 rfl rfl dX7_become_21 ?_
        refine lv_iload_n hx hb dX7_become_24 rfl (lv_at hl 2 rfl) ?_
        refine lv_aload_n hx hb dX7_become_25 rfl (lv_at hl 1 rfl) ?_
        refine gf_X7_22 (v := .ref (ad (b2 + 1))) hx hb hT hown hK hP 2 rfl rfl dX7_become_26 ?_
        refine lv_iload_n hx hb dX7_become_29 rfl (lv_at hl 2 rfl) ?_
        refine x_iald hx hb hK hP 3 rfl hm dX7_become_30 (fun v3 hm => ?_)
        refine x_iast hx hb hK hP hD hS 1 rfl (fun j => (S.1, upd S.2 j v3)) (fun u => WR2 cs ad b b2 mo wi nn O u) (fun _ => rfl) hm dX7_become_31 (fun S4 H locs hm hP hD hS => ?_)
        refine x_iinc (lv' := fun x5 => [(2, .int x5), (0, .ref (ad b)), (1, .ref (ad b2))]) hx hb dX7_become_32 hl (k := 2) rfl (by decide) (v0 := (1 : Int32)) (by decide) (fun _ => rfl) hm (fun x5 ls hm hl => ?_)
        refine lv_goto (tgt := 2) hx hb dX7_become_35 (by decide) ?_
        exact ih x5 S4 hm H locs hP hD hS ls (lv_sub hl [1, 2, 0] rfl)
set_option maxHeartbeats 4000000 in
set_option maxRecDepth 100000 in
theorem tcX7_become (l : Launch) (D : va_G) (cs : CS) (ad : Nat → Nat) (b b2 : Nat) (mo wi : Int32) (nn : Nat) (O : RS) (sz : Nat) (S : RS) (z : RS) (hm : mX7_become nn O S = some z) : Met l yX7_become (Cond.code yX7_become cX7_become 3 none :: gw_tbl) ({ frames := 0, cells := 0, slots := 0, locals := 0 }) (PcW D cs sz (WR2 cs ad b b2 mo wi nn O S) [.ref (ad b), .ref (ad b2)]) (QWv D cs (va_A (WR2 cs ad b b2 mo wi nn O S) sz) (fun u => WR2 cs ad b b2 mo wi nn O u) z) 0 0 (va_A (WR2 cs ad b b2 mo wi nn O S) sz) := by
  refine met_W rfl (Nat.le_of_ble_eq_true rfl) (fun p e s m below meth c E hP hD hS hA ls hl => ?_)
  generalize va_A (WR2 cs ad b b2 mo wi nn O S) sz = A at hD hS hA ⊢
  obtain ⟨hx, hb, hr, hml, hown, hlk, hT, hN, hK⟩ := id E
  obtain ⟨H, hH⟩ : ∃ H, H = s.heap := ⟨_, rfl⟩
  obtain ⟨locs, hlo⟩ : ∃ L : List Loc, L = [] := ⟨_, rfl⟩
  have hP : va_P D classes (WR2 cs ad b b2 mo wi nn O S) H := by rw [hH]; exact hP
  have hS : va_S A s.heap H locs := by rw [hH, hlo]; exact hS
  rw [show W p l e _ s m _ below meth c s.heap [] 0 0 = W p l e _ s m _ below meth c H locs 0 0 by rw [hH, hlo]]
  have hl : lv_has ls 3 [(0, .ref (ad b)), (1, .ref (ad b2))] := hl
  unfold mX7_become at hm
  refine lv_iconst (v := (0 : Int32)) hx hb dX7_become_0 (by decide) ?_
  refine lv_istore_n (lv' := [(2, .int (0 : Int32)), (0, .ref (ad b)), (1, .ref (ad b2))]) hx hb dX7_become_1 rfl hl (by decide) rfl (fun ls hl => ?_)
  exact kX7_become_L2 E hA _ FU (0 : Int32) S hm H locs hP hD hS ls (lv_sub hl [1, 2, 0] rfl)
end
section
/-! a method of a superclass called on this; a method of the KINDS called by the receiver's own class -/
theorem nm_ex {α β : Type} {x : α} {k : α → Option β} {z : β} (hm : nm x k = some z) : ∃ u, k u = some z ∧ u = x := ⟨x, hm, rfl⟩
def CWU (own : String) (idx : Nat) (x : MethodName) (owner : String) (y : MethodName) (bytes : ByteArray) (maxL : Nat) (ret : Option FieldType) (n : Nat) : Prop :=
  Cond.methodLink own idx x ∈ gw_tbl ∧ Cond.sameMethod x.cls owner x.name x.desc ∈ gw_tbl ∧ Cond.superclass own x.cls ∈ gw_tbl ∧ Cond.instanceMethod y ∈ gw_tbl ∧ Cond.initialized y.cls ∈ gw_tbl ∧ Cond.code y bytes maxL ret ∈ gw_tbl ∧ y = ⟨owner, x.name, x.desc⟩ ∧ x.name ≠ "<init>" ∧ (parseMethodDescriptor y.desc).map (fun d => d.parameters.length) = some n
def CWO (own : String) (idx : Nat) (C : String) (x y : MethodName) (bytes : ByteArray) (maxL : Nat) (ret : Option FieldType) (n : Nat) : Prop :=
  Cond.methodLink own idx x ∈ gw_tbl ∧ Cond.sameMethod x.cls x.cls x.name x.desc ∈ gw_tbl ∧ Cond.selects C x y ∈ gw_tbl ∧ Cond.instanceMethod y ∈ gw_tbl ∧ Cond.initialized y.cls ∈ gw_tbl ∧ Cond.code y bytes maxL ret ∈ gw_tbl ∧ Cond.instanceMethod x ∈ gw_tbl ∧ (∃ b0 m0 r0, Cond.code x b0 m0 r0 ∈ gw_tbl) ∧ x.cls ≠ "java/lang/invoke/MethodHandle" ∧ x.cls ≠ "java/lang/invoke/VarHandle" ∧ (parseMethodDescriptor x.desc).map (fun d => d.parameters.length) = some n
theorem sub_refl {s : State} {y : MethodName} {cn r0 : ClassId} (h1 : s.vm.findClass y.cls = some cn) (h2 : s.vm.findClass y.cls = some r0) : s.vm.isSubclass cn r0 = true := by
  have h : cn = r0 := Option.some.inj (h1.symm.trans h2)
  rw [h]
  simp [Vm.isSubclass, Vm.isSubclassAux]
theorem sub_step {s : State} {args : Array Value} {A B : String} {cn r0 : ClassId} (hs : (Cond.superclass A B).before args s = true) (h1 : s.vm.findClass A = some cn) (h2 : s.vm.findClass B = some r0) : s.vm.isSubclass cn r0 = true := by
  obtain ⟨ps, dk, kp, hps, hdk, hkp, hsuper, -, -, -⟩ := Cond.superclass_spec h1 hs
  have h : ps = r0 := Option.some.inj (hps.symm.trans h2)
  subst h
  have hlt : 0 < s.vm.classes.size := Nat.lt_of_le_of_lt (Nat.zero_le _) (Array.getElem?_eq_some_iff.mp hdk).1
  obtain ⟨k, hk⟩ : ∃ k, s.vm.classes.size = k + 1 := ⟨s.vm.classes.size - 1, by omega⟩
  simp [Vm.isSubclass, hk, Vm.isSubclassAux, hdk, hsuper]
section KU
variable {p : Program} {l : Launch} {e : Env} {R : Room} {s : State} {m : MethodId} {args : Array Value} {below : List Frame} {meth : Method} {c : Code}
theorem my_callSU {T : State} {locs : List Loc} {cells slots : Nat} (X : Stand p l e R s m args below meth c T locs cells slots) (hexec : p.tables.exec = Jvm.exec) {own owner : String} {index : Nat} {x y : MethodName} {bytes : ByteArray} {maxL : Nat} {ret : Option FieldType} (hy : y = ⟨owner, x.name, x.desc⟩)
    (hown : s.vm.findClass own = some m.cls) (hlink : (Cond.methodLink own index x).before args s = true) (hsame : (Cond.sameMethod x.cls owner x.name x.desc).before args s = true) (hsup : (Cond.superclass own x.cls).before args s = true)
    (hsubc : ∀ cn r0, s.vm.findClass x.cls = some cn → s.vm.findClass y.cls = some r0 → s.vm.isSubclass cn r0 = true)
    (hinst : (Cond.instanceMethod y).before args s = true) (hcode : (Cond.code y bytes maxL ret).before args s = true) (hno : x.name ≠ "<init>")
    {W : Nat} {Pre : Pt → Array Value → Prop} {Post : Pt → Array Value → Option Value → Pt → Prop} (hK : Back l R p e below s args y 3 W Pre Post)
    {b : Addr} {cellB : Cell} {kB : Class} (hcell : T.heap[b]? = some cellB) (hobj : cellB.vm.isStatics = false) (hkB : s.vm.classes[cellB.cls]? = some kB)
    {g : JFrame} (hg : g.method = m) (hsize : g.locals.size = c.maxLocals) {argsL rest : List Value} (hlen : ∀ sig, parseMethodDescriptor y.desc = some sig → argsL.length = sig.parameters.length)
    (hstack : g.stack = argsL.reverse ++ .ref b :: rest) (hW : 2 * g.monitorRoom + (rest.map fun v => v.category).sum ≤ W) (hdg : decode c.code g.pc = .ok (.invokespecial index, 3))
    (hpre : ∀ vm₁, s.WarmedH vm₁ → Pre ⟨T.setVm vm₁, locs, cells, slots⟩ (Value.ref b :: argsL).toArray) :
    ∃ (v : Option Value) (vm₁ : Vm) (B : Pt), s.WarmedH vm₁ ∧ Stand p l e R s m args below meth c B.U B.locs B.cells B.slots ∧ Post ⟨T.setVm vm₁, locs, cells, slots⟩ (Value.ref b :: argsL).toArray v B ∧
      ∀ target, Steps p.tables e below (B.U.setTop { g with pc := g.pc + 3, stack := v.toList ++ rest }) target → Steps p.tables e below (T.setTop g) target := by
  obtain ⟨mk, methM, hnamed, hmethM, hstM, habM⟩ := Cond.instanceMethod_spec hinst
  obtain ⟨methM', cM, hmethM', -, -, -, -, -, -, hsigM⟩ := Cond.code_spec hnamed hcode
  cases hmethM.symm.trans hmethM'
  obtain ⟨ps, dk, kp, hps, hdk, hkp, hsuper, -, -, hnid⟩ := Cond.superclass_spec hown hsup
  have hsub := hsubc ps mk.cls hps (findClass_of_methodNamed hnamed)
  have hn : s.methodNamed? ⟨owner, x.name, x.desc⟩ = some mk := by rw [← hy]; exact hnamed
  obtain ⟨vm₁, X₁, hstep₁⟩ := X.invokespecialUp hexec hown hlink hsame hn hmethM hstM habM hno hdk hnid hps hsuper hsub (a := b) (cell := cellB) hcell
    (fun z h => by rw [h] at hobj; cases hobj) hkB (g := g) hg (argsL := argsL) (rest := rest) (hlen _ hsigM) hstack hdg
  obtain ⟨v, B, X', hpost, hsteps⟩ := hK m meth c ⟨T.setVm vm₁, locs, cells, slots⟩ { g with stack := rest } (.invokespecial index) mk (Value.ref b :: argsL).toArray X₁ hg hsize hdg hW (X₁.named hnamed) (hpre vm₁ X₁.warmed)
  exact ⟨v, vm₁, B, X₁.warmed, X', hpost, fun target h => hstep₁ _ (by rw [doInvoke_state]; exact hsteps.trans h)⟩
variable {H : Heap} {locs : List Loc} {cells slots : Nat} {Q : State → Prop} {cc : ByteArray} {pc : Nat} {ls : Array Slot} {rest : List Value} {D : va_G} {cs : CS} {β : Type} {z : β} {nL : Nat} {own : String} {y : MethodName} {bytes : ByteArray} {maxL n idx : Nat} {ret : Option FieldType} {rm : Room} {b : Addr} {As : List Value} {st0 : List Value} {ci : Nat}
theorem xU_i {f : Option Int32} {k : Int32 → Option β} (hx : p.tables.exec = Jvm.exec) (hb : c.code = cc) (hml : c.maxLocals = nL) (hown : s.vm.findClass own = some m.cls) (hT : ∀ w ∈ gw_tbl, w.before args s = true) (hN : NW s) (hK : va_K D classes (tyz cs) s) (hP : va_P D classes [(b, .inr (ci, []))] H) (hci : ci < 12) {x : MethodName} {owner : String} (cw : CWU own idx x owner y bytes maxL ret n) (hsub : ∀ cn r0, s.vm.findClass x.cls = some cn → s.vm.findClass y.cls = some r0 → s.vm.isSubclass cn r0 = true) (hm : f.bind k = some z) (hM : ∀ r, f = some r → Met l y (Cond.code y bytes maxL ret :: gw_tbl) rm (PcR D cs [(b, .inr (ci, []))] (.ref b :: As)) (QRi r) 0 0 NoF) (h0 : rm.cells = 0 ∧ rm.slots = 0) (hr : RoomOk rm R maxL) (hls : ls.size = nL) (hn : As.length = n) (hst : st0 = As.reverse ++ .ref b :: rest) (hW : (rest.map fun v => v.category).sum ≤ 8) (hdg : decode cc pc = .ok (.invokespecial idx, 3)) (hcl : cells ≤ R.cells ∧ slots ≤ R.slots)
    (kk : ∀ r : Int32, k r = some z → W p l e R s m args below meth c H locs cells slots Q (F0 m (pc + 3) ls (.int r :: rest))) : W p l e R s m args below meth c H locs cells slots Q (F0 m pc ls st0) := by
  obtain ⟨r, hf, hm⟩ := ob_some hm
  obtain ⟨a1, a2, a3, a4, a5, a6, a7, a8, a9⟩ := cw
  obtain ⟨q, hq⟩ : ∃ q, classes[ci]? = some q := ⟨_, List.getElem?_eq_getElem hci⟩
  obtain ⟨cellB, hcB, hoB, hclB⟩ := va_recv hK hP hq (q0 := 0) rfl
  obtain ⟨-, hfc, kB, hkB, -⟩ := hK.1 ci q hq
  have hce : D.1 ci = cellB.cls := Option.some.inj (hfc.symm.trans hclB)
  rw [hce] at hkB
  have hBk : Back l R p e below s args y 3 8 (PreOf R 0 0 (PcR D cs [(b, .inr (ci, []))] (.ref b :: As))) (PostOf (QRi r) 0 0 NoF) := back_of (bytes := bytes) (maxL := maxL) (ret := ret) (hM r hf) PcR_blind h0.1 h0.2 hr.1 hr.2 (gw_pay hT a6) List.mem_cons_self (fun a' U hW => word_at hW (gw_good a5) (hT _ a5))
  refine vp_callSi (rest := rest) (post := fun r' => r' = r) (a := (Value.ref b :: As).toArray) ?_ (fun r' hr' => ?_)
  · intro T hTT X
    obtain ⟨v, vm₁, ⟨U', l2, c2, s2⟩, hW₁, X', ⟨g', mk, t, L, e1, e2, hq, h1, hL, h2, h3⟩, st⟩ := my_callSU X hx (bytes := bytes) (maxL := maxL) (ret := ret) a7 hown (hT _ a1) (hT _ a2) (hT _ a3) hsub (hT _ a4) (hT _ a6) a8 hBk (by rw [hTT]; exact hcB) hoB hkB (g := F0 m pc ls st0) rfl (hls.trans hml.symm) (argsL := As) (rest := rest) (fun sig h => by rw [h] at a9; exact hn.trans (Option.some.inj a9).symm) hst (lv_room hW) (by rw [hb]; exact hdg)
      (fun vm₁ hW₁ => ⟨hcl.1, hcl.2, pcR_at hN hK hP _ hTT hW₁⟩)
    dsimp only [Pt.U, Pt.locs, Pt.cells, Pt.slots] at X' e1 e2 h1 h2 h3 st
    subst h1; subst h2; subst h3
    exact ⟨v, (T.setVm vm₁).calling g' mk (Value.ref b :: As).toArray, t, U', L, hTT, X', hL, e1, hq, st⟩
  · subst hr'
    exact kk _ hm
theorem xO_i {f : Option Int32} {k : Int32 → Option β} (hx : p.tables.exec = Jvm.exec) (hb : c.code = cc) (hml : c.maxLocals = nL) (hown : s.vm.findClass own = some m.cls) (hT : ∀ w ∈ gw_tbl, w.before args s = true) (hN : NW s) (hK : va_K D classes (tyz cs) s) (hP : va_P D classes [(b, .inr (ci, []))] H) {q : vw_C} (hq : classes[ci]? = some q) {x : MethodName} (cw : CWO own idx q.1 x y bytes maxL ret n) (hm : f.bind k = some z) (hM : ∀ r, f = some r → Met l y (Cond.code y bytes maxL ret :: gw_tbl) rm (PcR D cs [(b, .inr (ci, []))] (.ref b :: As)) (QRi r) 0 0 NoF) (h0 : rm.cells = 0 ∧ rm.slots = 0) (hr : RoomOk rm R maxL) (hls : ls.size = nL) (hn : As.length = n) (hst : st0 = As.reverse ++ .ref b :: rest) (hW : (rest.map fun v => v.category).sum ≤ 8) (hdg : decode cc pc = .ok (.invokevirtual idx, 3)) (hcl : cells ≤ R.cells ∧ slots ≤ R.slots)
    (kk : ∀ r : Int32, k r = some z → W p l e R s m args below meth c H locs cells slots Q (F0 m (pc + 3) ls (.int r :: rest))) : W p l e R s m args below meth c H locs cells slots Q (F0 m pc ls st0) := by
  obtain ⟨r, hf, hm⟩ := ob_some hm
  obtain ⟨a1, a2, a3, a4, a5, a6, a7, ⟨b0, m0, r0, a8⟩, a9, a10, a11⟩ := cw
  have cu : va_CU R s args own q.1 x.cls idx x y bytes maxL ret (Cond.code y bytes maxL ret :: gw_tbl) rm 0 0 n := by
    refine ⟨⟨h0.1, h0.2, hr.1, hr.2, gw_pay hT a6, List.mem_cons_self⟩, hT _ a6, hT _ a5, ⟨a9, a10⟩, fun sig h => ?_, hT _ a1, hT _ a2, va_Decl.of (hT _ a7) (hT _ a8), hT _ a3, hT _ a4⟩
    rw [h] at a11
    exact (Option.some.inj a11).symm
  refine vp_callSi (run_drop (va_runU (n := n) (b := b) (As := As) (rest := rest) ⟨hx, hb, hml, hown, hT⟩ (hM r hf) cu ⟨PcR_blind, va_recv hK hP hq (q0 := 0) rfl, pcR_at hN hK hP⟩ rfl hn hls hst (lv_room hW) hdg hcl)) (fun r' hr' => ?_)
  subst hr'
  exact kk _ hm
end KU
def adq {β : Type} (n : Nat) (i : Int32) (k : Nat → Option β) : Option β := if i < 0 ∨ n ≤ i.toNatClampNeg then none else k i.toNatClampNeg
abbrev QRa (ad : Nat → Nat) (z : Nat) := va_Sr (fun k => k < 6 ∧ k = z) (fun k => Value.ref (ad (2 + k)))
section KV
variable {p : Program} {l : Launch} {e : Env} {R : Room} {s : State} {m : MethodId} {args : Array Value} {below : List Frame} {meth : Method} {c : Code} {H : Heap} {locs : List Loc} {cells slots : Nat} {Q : State → Prop} {cc : ByteArray} {pc : Nat} {ls : Array Slot} {rest : List Value} {D : va_G} {cs : CS} {ws : va_W} {β : Type} {z : β} {ad : Nat → Nat}
theorem x_aald (hx : p.tables.exec = Jvm.exec) (hb : c.code = cc) (hK : va_K D classes (tyz cs) s) (hP : va_P D classes ws H) {a : Nat} (q0 : Nat) (ha : ws[q0]? = some (a, .inl (cs 2, 6, .inr (.inr (.inr (.inr (fun k => some (ad (2 + k))))))))) {i : Int32} {k : Nat → Option β} (hm : adq 6 i k = some z) (hdg : decode cc pc = .ok (.aaload, 1))
    (kk : ∀ j : Nat, j < 6 → k j = some z → W p l e R s m args below meth c H locs cells slots Q (F0 m (pc + 1) ls (.ref (ad (2 + j)) :: rest))) : W p l e R s m args below meth c H locs cells slots Q (F0 m pc ls (.int i :: .ref a :: rest)) := by
  unfold adq at hm
  by_cases hc : i < 0 ∨ 6 ≤ i.toNatClampNeg
  · rw [if_pos hc] at hm; cases hm
  · rw [if_neg hc] at hm
    exact va_aldq hx hb hK hP q0 2 ha rfl hc hdg (kk _ (by omega) hm)
theorem x_aretR {v z : Nat} {N : String} (hx : p.tables.exec = Jvm.exec) (hb : c.code = cc) (hr : meth.sig.returnType = some (.object N)) (hlk : meth.locks = false) (hv : v < 6) (hm : some v = some z) (hdg : decode cc pc = .ok (.areturn, 1)) : W p l e R s m args below meth c s.heap [] 0 0 (MQ below (QRa ad z) args s 0 0 NoF) (F0 m pc ls [.ref (ad (2 + v))]) :=
  W.aret hx hb hr (Or.inl ⟨N, rfl⟩) (Or.inr ⟨_, rfl⟩) (fun t ht _ => ⟨v, rfl, ⟨hv, Option.some.inj hm⟩, ht⟩) (fun _ h => nomatch h) hdg hlk
variable {y : MethodName} {bytes : ByteArray} {maxL n idx nL : Nat} {ret : Option FieldType} {rm : Room} {own C : String} {b : Addr} {As : List Value} {wc : va_W} {st0 : List Value}
theorem xV_a {f : Option Nat} {k : Nat → Option β} (hx : p.tables.exec = Jvm.exec) (hb : c.code = cc) (hml : c.maxLocals = nL) (hown : s.vm.findClass own = some m.cls) (hT : ∀ w ∈ gw_tbl, w.before args s = true) (hN : NW s) (hK : va_K D classes (tyz cs) s) (hP : va_P D classes wc H) (cw : CWV own idx C y bytes maxL ret n) (hm : f.bind k = some z) (hM : ∀ r, f = some r → Met l y (Cond.code y bytes maxL ret :: gw_tbl) rm (PcR D cs wc (.ref b :: As)) (QRa ad r) 0 0 NoF) (h0 : rm.cells = 0 ∧ rm.slots = 0) (hr : RoomOk rm R maxL) (q0 : Nat) {ci : Nat} {q : vw_C} {fs : List Value} (hc : classes[ci]? = some q) (he : wc[q0]? = some (b, .inr (ci, fs))) (hC : q.1 = C) (hls : ls.size = nL) (hn : As.length = n) (hst : st0 = As.reverse ++ .ref b :: rest) (hW : (rest.map fun v => v.category).sum ≤ 8) (hdg : decode cc pc = .ok (.invokevirtual idx, 3)) (hcl : cells ≤ R.cells ∧ slots ≤ R.slots)
    (kk : ∀ r : Nat, r < 6 → k r = some z → W p l e R s m args below meth c H locs cells slots Q (F0 m (pc + 3) ls (.ref (ad (2 + r)) :: rest))) : W p l e R s m args below meth c H locs cells slots Q (F0 m pc ls st0) := by
  obtain ⟨r, hf, hm⟩ := ob_some hm
  refine va_csr (run_drop (va_runV (n := n) (b := b) (As := As) (rest := rest) ⟨hx, hb, hml, hown, hT⟩ (hM r hf) (CWV.mk hT cw h0.1 h0.2 hr) ⟨PcR_blind, (by rw [← hC]; exact va_recv hK hP hc he), pcR_at hN hK hP⟩ rfl hn hls hst (lv_room hW) hdg hcl)) (fun r' hr' => ?_)
  obtain ⟨h6, rfl⟩ := hr'
  exact kk _ h6 hm
end KV
theorem cwu_X1_7 : CWU RX1 7 ⟨"DoeRoe$Plain", "allows", "(III)Z"⟩ RX6 yX6_allows cX6_allows 4 (some .boolean) 3 := ⟨tw_480, tw_476, tw_48, tw_474, tw_2, tw_493, rfl, by decide, by decide +kernel⟩
theorem cwu_X1_11 : CWU RX1 11 ⟨"DoeRoe$Plain", "cost", "(II)I"⟩ RX6 yX6_cost cX6_cost 3 (some .int) 2 := ⟨tw_509, tw_505, tw_48, tw_503, tw_2, tw_520, rfl, by decide, by decide +kernel⟩
theorem cwu_X2_7 : CWU RX2 7 ⟨"DoeRoe$Plain", "allows", "(III)Z"⟩ RX6 yX6_allows cX6_allows 4 (some .boolean) 3 := ⟨tw_484, tw_476, tw_62, tw_474, tw_2, tw_493, rfl, by decide, by decide +kernel⟩
theorem cwu_X5_7 : CWU RX5 7 ⟨"DoeRoe$Plain", "cost", "(II)I"⟩ RX6 yX6_cost cX6_cost 3 (some .int) 2 := ⟨tw_514, tw_505, tw_41, tw_503, tw_2, tw_520, rfl, by decide, by decide +kernel⟩
theorem cwu_X8_7 : CWU RX8 7 ⟨"DoeRoe$Force", "cost", "(II)I"⟩ RX1 yX1_cost cX1_cost 3 (some .int) 2 := ⟨tw_518, tw_1185, tw_69, tw_507, tw_4, tw_508, rfl, by decide, by decide +kernel⟩
theorem cwu_X9_7 : CWU RX9 7 ⟨"DoeRoe$Persons", "allows", "(III)Z"⟩ RX6 yX6_allows cX6_allows 4 (some .boolean) 3 := ⟨tw_490, tw_491, tw_55, tw_474, tw_2, tw_493, rfl, by decide, by decide +kernel⟩
theorem hsub_X1 {s : State} {args : Array Value} {y : MethodName} (_ : ∀ w ∈ gw_tbl, w.before args s = true) : ∀ cn r0, s.vm.findClass y.cls = some cn → s.vm.findClass y.cls = some r0 → s.vm.isSubclass cn r0 = true := fun _ _ h1 h2 => sub_refl h1 h2
theorem hsub_X2 {s : State} {args : Array Value} {y : MethodName} (_ : ∀ w ∈ gw_tbl, w.before args s = true) : ∀ cn r0, s.vm.findClass y.cls = some cn → s.vm.findClass y.cls = some r0 → s.vm.isSubclass cn r0 = true := fun _ _ h1 h2 => sub_refl h1 h2
theorem hsub_X5 {s : State} {args : Array Value} {y : MethodName} (_ : ∀ w ∈ gw_tbl, w.before args s = true) : ∀ cn r0, s.vm.findClass y.cls = some cn → s.vm.findClass y.cls = some r0 → s.vm.isSubclass cn r0 = true := fun _ _ h1 h2 => sub_refl h1 h2
theorem hsub_X8 {s : State} {args : Array Value} {y : MethodName} (_ : ∀ w ∈ gw_tbl, w.before args s = true) : ∀ cn r0, s.vm.findClass y.cls = some cn → s.vm.findClass y.cls = some r0 → s.vm.isSubclass cn r0 = true := fun _ _ h1 h2 => sub_refl h1 h2
theorem hsub_X9 {s : State} {args : Array Value} (hT : ∀ w ∈ gw_tbl, w.before args s = true) : ∀ cn r0, s.vm.findClass "DoeRoe$Persons" = some cn → s.vm.findClass yX6_allows.cls = some r0 → s.vm.isSubclass cn r0 = true := fun _ _ h1 h2 => sub_step (hT _ tw_41) h1 h2
noncomputable def mX6_allows (a1 : Int32) (a2 : Int32) (a3 : Int32) : Option Int32 := (if a2 = a1 then zo (1 : Int32) (some (1 : Int32)) else zo (0 : Int32) (some (0 : Int32)))
set_option maxHeartbeats 4000000 in
set_option maxRecDepth 100000 in
theorem tcX6_allows (l : Launch) (D : va_G) (cs : CS) (ho ci : Nat) (hci : ci < 12) (a1 : Int32) (a2 : Int32) (a3 : Int32) (z : Int32) (hm : mX6_allows a1 a2 a3 = some z) : Met l yX6_allows (Cond.code yX6_allows cX6_allows 4 (some .boolean) :: gw_tbl) ({ frames := 0, cells := 0, slots := 0, locals := 0 }) (PcR D cs ([(ho, .inr (ci, []))]) [.ref ho, .int a1, .int a2, .int a3]) (QRi z) 0 0 NoF := by
  refine met_R rfl (Nat.le_of_ble_eq_true rfl) (fun p e s m below meth c E hP ls hl => ?_)
  obtain ⟨hx, hb, hr, hml, hown, hlk, hT, hN, hK⟩ := id E
  have hl : lv_has ls 4 [(0, .ref ho), (1, .int a1), (2, .int a2), (3, .int a3)] := hl
  unfold mX6_allows at hm
  refine lv_iload_n hx hb dX6_allows_0 rfl (lv_at hl 2 rfl) ?_
  refine lv_iload_n hx hb dX6_allows_1 rfl (lv_at hl 1 rfl) ?_
  refine x_icmp_ne (tgt := 9) hx hb dX6_allows_2 (by decide) hm (fun hm => ?_) (fun hm => ?_)
  · refine lv_iconst (v := (0 : Int32)) hx hb dX6_allows_9 (by decide) ?_
    exact x_zretR hx hb hr hlk hm dX6_allows_10
  · refine lv_iconst (v := (1 : Int32)) hx hb dX6_allows_5 (by decide) ?_
    refine lv_goto (tgt := 10) hx hb dX6_allows_6 (by decide) ?_
    exact x_zretR hx hb hr hlk hm dX6_allows_10
noncomputable def mX6_cost (a1 : Int32) (a2 : Int32) : Option Int32 := some a1
set_option maxHeartbeats 4000000 in
set_option maxRecDepth 100000 in
theorem tcX6_cost (l : Launch) (D : va_G) (cs : CS) (ho ci : Nat) (hci : ci < 12) (a1 : Int32) (a2 : Int32) (z : Int32) (hm : mX6_cost a1 a2 = some z) : Met l yX6_cost (Cond.code yX6_cost cX6_cost 3 (some .int) :: gw_tbl) ({ frames := 0, cells := 0, slots := 0, locals := 0 }) (PcR D cs ([(ho, .inr (ci, []))]) [.ref ho, .int a1, .int a2]) (QRi z) 0 0 NoF := by
  refine met_R rfl (Nat.le_of_ble_eq_true rfl) (fun p e s m below meth c E hP ls hl => ?_)
  obtain ⟨hx, hb, hr, hml, hown, hlk, hT, hN, hK⟩ := id E
  have hl : lv_has ls 3 [(0, .ref ho), (1, .int a1), (2, .int a2)] := hl
  unfold mX6_cost at hm
  refine lv_iload_n hx hb dX6_cost_0 rfl (lv_at hl 1 rfl) ?_
  exact x_iretR hx hb hr hlk hm dX6_cost_1
noncomputable def mX6_losesWith (a1 : Int32) : Option Int32 := zo (0 : Int32) (some (0 : Int32))
set_option maxHeartbeats 4000000 in
set_option maxRecDepth 100000 in
theorem tcX6_losesWith (l : Launch) (D : va_G) (cs : CS) (ho ci : Nat) (hci : ci < 12) (a1 : Int32) (z : Int32) (hm : mX6_losesWith a1 = some z) : Met l yX6_losesWith (Cond.code yX6_losesWith cX6_losesWith 2 (some .boolean) :: gw_tbl) ({ frames := 0, cells := 0, slots := 0, locals := 0 }) (PcR D cs ([(ho, .inr (ci, []))]) [.ref ho, .int a1]) (QRi z) 0 0 NoF := by
  refine met_R rfl (Nat.le_of_ble_eq_true rfl) (fun p e s m below meth c E hP ls hl => ?_)
  obtain ⟨hx, hb, hr, hml, hown, hlk, hT, hN, hK⟩ := id E
  have hl : lv_has ls 2 [(0, .ref ho), (1, .int a1)] := hl
  unfold mX6_losesWith at hm
  refine lv_iconst (v := (0 : Int32)) hx hb dX6_losesWith_0 (by decide) ?_
  exact x_zretR hx hb hr hlk hm dX6_losesWith_1
noncomputable def mX5_cost (a1 : Int32) (a2 : Int32) : Option Int32 := (mX6_cost a1 a2).bind fun r1 => (if a2 < (2 : Int32) then some r1 else some ((r1 + (1 : Int32)) / (2 : Int32)))
set_option maxHeartbeats 4000000 in
set_option maxRecDepth 100000 in
theorem tcX5_cost (l : Launch) (D : va_G) (cs : CS) (ho ci : Nat) (hci : ci < 12) (a1 : Int32) (a2 : Int32) (z : Int32) (hm : mX5_cost a1 a2 = some z) : Met l yX5_cost (Cond.code yX5_cost cX5_cost 4 (some .int) :: gw_tbl) ({ frames := 1, cells := 0, slots := 0, locals := 22 }) (PcR D cs ([(ho, .inr (ci, []))]) [.ref ho, .int a1, .int a2]) (QRi z) 0 0 NoF := by
  refine met_R rfl (Nat.le_of_ble_eq_true rfl) (fun p e s m below meth c E hP ls hl => ?_)
  obtain ⟨hx, hb, hr, hml, hown, hlk, hT, hN, hK⟩ := id E
  have hl : lv_has ls 4 [(0, .ref ho), (1, .int a1), (2, .int a2)] := hl
  unfold mX5_cost at hm
  refine lv_aload_n hx hb dX5_cost_0 rfl (lv_at hl 0 rfl) ?_
  refine lv_iload_n hx hb dX5_cost_1 rfl (lv_at hl 1 rfl) ?_
  refine lv_iload_n hx hb dX5_cost_2 rfl (lv_at hl 2 rfl) ?_
  refine xU_i (As := [.int a1, .int a2]) (rest := []) hx hb hml hown hT hN hK hP hci cwu_X5_7 (hsub_X5 hT) hm (fun z h => tcX6_cost l D cs ho ci hci a1 a2 z h) ⟨rfl, rfl⟩ ⟨by decide, by decide⟩ hl.1 rfl rfl (Nat.le_of_ble_eq_true rfl) dX5_cost_3 ⟨Nat.zero_le _, Nat.zero_le _⟩ (fun r1 hm => ?_)
  refine lv_istore_n (lv' := [(3, .int r1), (0, .ref ho), (1, .int a1), (2, .int a2)]) hx hb dX5_cost_6 rfl hl (by decide) rfl (fun ls hl => ?_)
  refine lv_iload_n hx hb dX5_cost_7 rfl (lv_at hl 3 rfl) ?_
  refine lv_iconst (v := (2 : Int32)) hx hb dX5_cost_8 (by decide) ?_
  refine x_icmp_lt (tgt := 20) hx hb dX5_cost_9 (by decide) hm (fun hm => ?_) (fun hm => ?_)
  · refine lv_iload_n hx hb dX5_cost_20 rfl (lv_at hl 0 rfl) ?_
    exact x_iretR hx hb hr hlk hm dX5_cost_21
  · refine lv_iload_n hx hb dX5_cost_12 rfl (lv_at hl 0 rfl) ?_
    refine lv_iconst (v := (1 : Int32)) hx hb dX5_cost_13 (by decide) ?_
    refine lv_iadd hx hb dX5_cost_14 ?_
    refine lv_iconst (v := (2 : Int32)) hx hb dX5_cost_15 (by decide) ?_
    refine lv_idiv hx hb dX5_cost_16 (by decide) ?_
    refine lv_goto (tgt := 21) hx hb dX5_cost_17 (by decide) ?_
    exact x_iretR hx hb hr hlk hm dX5_cost_21
noncomputable def mX5_losesWith (a1 : Int32) : Option Int32 := (if a1 < (2 : Int32) then zo (0 : Int32) (some (0 : Int32)) else zo (1 : Int32) (some (1 : Int32)))
set_option maxHeartbeats 4000000 in
set_option maxRecDepth 100000 in
theorem tcX5_losesWith (l : Launch) (D : va_G) (cs : CS) (ho ci : Nat) (hci : ci < 12) (a1 : Int32) (z : Int32) (hm : mX5_losesWith a1 = some z) : Met l yX5_losesWith (Cond.code yX5_losesWith cX5_losesWith 2 (some .boolean) :: gw_tbl) ({ frames := 0, cells := 0, slots := 0, locals := 0 }) (PcR D cs ([(ho, .inr (ci, []))]) [.ref ho, .int a1]) (QRi z) 0 0 NoF := by
  refine met_R rfl (Nat.le_of_ble_eq_true rfl) (fun p e s m below meth c E hP ls hl => ?_)
  obtain ⟨hx, hb, hr, hml, hown, hlk, hT, hN, hK⟩ := id E
  have hl : lv_has ls 2 [(0, .ref ho), (1, .int a1)] := hl
  unfold mX5_losesWith at hm
  refine lv_iload_n hx hb dX5_losesWith_0 rfl (lv_at hl 1 rfl) ?_
  refine lv_iconst (v := (2 : Int32)) hx hb dX5_losesWith_1 (by decide) ?_
  refine x_icmp_lt (tgt := 9) hx hb dX5_losesWith_2 (by decide) hm (fun hm => ?_) (fun hm => ?_)
  · refine lv_iconst (v := (0 : Int32)) hx hb dX5_losesWith_9 (by decide) ?_
    exact x_zretR hx hb hr hlk hm dX5_losesWith_10
  · refine lv_iconst (v := (1 : Int32)) hx hb dX5_losesWith_5 (by decide) ?_
    refine lv_goto (tgt := 10) hx hb dX5_losesWith_6 (by decide) ?_
    exact x_zretR hx hb hr hlk hm dX5_losesWith_10
noncomputable def mX1_allows (a1 : Int32) (a2 : Int32) (a3 : Int32) : Option Int32 := (if a3 = 0 then zo (1 : Int32) (some (1 : Int32)) else (mX6_allows a1 a2 a3).bind fun r1 => (if r1 = 0 then zo (0 : Int32) (some (0 : Int32)) else zo (1 : Int32) (some (1 : Int32))))
set_option maxHeartbeats 4000000 in
set_option maxRecDepth 100000 in
theorem tcX1_allows (l : Launch) (D : va_G) (cs : CS) (ho ci : Nat) (hci : ci < 12) (a1 : Int32) (a2 : Int32) (a3 : Int32) (z : Int32) (hm : mX1_allows a1 a2 a3 = some z) : Met l yX1_allows (Cond.code yX1_allows cX1_allows 4 (some .boolean) :: gw_tbl) ({ frames := 1, cells := 0, slots := 0, locals := 23 }) (PcR D cs ([(ho, .inr (ci, []))]) [.ref ho, .int a1, .int a2, .int a3]) (QRi z) 0 0 NoF := by
  refine met_R rfl (Nat.le_of_ble_eq_true rfl) (fun p e s m below meth c E hP ls hl => ?_)
  obtain ⟨hx, hb, hr, hml, hown, hlk, hT, hN, hK⟩ := id E
  have hl : lv_has ls 4 [(0, .ref ho), (1, .int a1), (2, .int a2), (3, .int a3)] := hl
  unfold mX1_allows at hm
  refine lv_iload_n hx hb dX1_allows_0 rfl (lv_at hl 3 rfl) ?_
  refine x_if_eq (tgt := 14) hx hb dX1_allows_1 (by decide) hm (fun hm => ?_) (fun hm => ?_)
  · refine lv_iconst (v := (1 : Int32)) hx hb dX1_allows_14 (by decide) ?_
    refine lv_goto (tgt := 19) hx hb dX1_allows_15 (by decide) ?_
    exact x_zretR hx hb hr hlk hm dX1_allows_19
  · refine lv_aload_n hx hb dX1_allows_4 rfl (lv_at hl 0 rfl) ?_
    refine lv_iload_n hx hb dX1_allows_5 rfl (lv_at hl 1 rfl) ?_
    refine lv_iload_n hx hb dX1_allows_6 rfl (lv_at hl 2 rfl) ?_
    refine lv_iload_n hx hb dX1_allows_7 rfl (lv_at hl 3 rfl) ?_
    refine xU_i (As := [.int a1, .int a2, .int a3]) (rest := []) hx hb hml hown hT hN hK hP hci cwu_X1_7 (hsub_X1 hT) hm (fun z h => tcX6_allows l D cs ho ci hci a1 a2 a3 z h) ⟨rfl, rfl⟩ ⟨by decide, by decide⟩ hl.1 rfl rfl (Nat.le_of_ble_eq_true rfl) dX1_allows_8 ⟨Nat.zero_le _, Nat.zero_le _⟩ (fun r1 hm => ?_)
    refine x_if_eq (tgt := 18) hx hb dX1_allows_11 (by decide) hm (fun hm => ?_) (fun hm => ?_)
    · refine lv_iconst (v := (0 : Int32)) hx hb dX1_allows_18 (by decide) ?_
      exact x_zretR hx hb hr hlk hm dX1_allows_19
    · refine lv_iconst (v := (1 : Int32)) hx hb dX1_allows_14 (by decide) ?_
      refine lv_goto (tgt := 19) hx hb dX1_allows_15 (by decide) ?_
      exact x_zretR hx hb hr hlk hm dX1_allows_19
noncomputable def mX1_cost (a1 : Int32) (a2 : Int32) : Option Int32 := (mX6_cost a1 a2).bind fun r1 => some (r1 + (2 : Int32))
set_option maxHeartbeats 4000000 in
set_option maxRecDepth 100000 in
theorem tcX1_cost (l : Launch) (D : va_G) (cs : CS) (ho ci : Nat) (hci : ci < 12) (a1 : Int32) (a2 : Int32) (z : Int32) (hm : mX1_cost a1 a2 = some z) : Met l yX1_cost (Cond.code yX1_cost cX1_cost 3 (some .int) :: gw_tbl) ({ frames := 1, cells := 0, slots := 0, locals := 22 }) (PcR D cs ([(ho, .inr (ci, []))]) [.ref ho, .int a1, .int a2]) (QRi z) 0 0 NoF := by
  refine met_R rfl (Nat.le_of_ble_eq_true rfl) (fun p e s m below meth c E hP ls hl => ?_)
  obtain ⟨hx, hb, hr, hml, hown, hlk, hT, hN, hK⟩ := id E
  have hl : lv_has ls 3 [(0, .ref ho), (1, .int a1), (2, .int a2)] := hl
  unfold mX1_cost at hm
  refine lv_aload_n hx hb dX1_cost_0 rfl (lv_at hl 0 rfl) ?_
  refine lv_iload_n hx hb dX1_cost_1 rfl (lv_at hl 1 rfl) ?_
  refine lv_iload_n hx hb dX1_cost_2 rfl (lv_at hl 2 rfl) ?_
  refine xU_i (As := [.int a1, .int a2]) (rest := []) hx hb hml hown hT hN hK hP hci cwu_X1_11 (hsub_X1 hT) hm (fun z h => tcX6_cost l D cs ho ci hci a1 a2 z h) ⟨rfl, rfl⟩ ⟨by decide, by decide⟩ hl.1 rfl rfl (Nat.le_of_ble_eq_true rfl) dX1_cost_3 ⟨Nat.zero_le _, Nat.zero_le _⟩ (fun r1 hm => ?_)
  refine lv_iconst (v := (2 : Int32)) hx hb dX1_cost_6 (by decide) ?_
  refine lv_iadd hx hb dX1_cost_7 ?_
  exact x_iretR hx hb hr hlk hm dX1_cost_8
noncomputable def mX9_allows (a1 : Int32) (a2 : Int32) (a3 : Int32) : Option Int32 := (if (a3 &&& (1 : Int32)) = (1 : Int32) then (mX6_allows a1 a2 a3).bind fun r1 => (if r1 = 0 then zo (0 : Int32) (some (0 : Int32)) else zo (1 : Int32) (some (1 : Int32))) else zo (0 : Int32) (some (0 : Int32)))
set_option maxHeartbeats 4000000 in
set_option maxRecDepth 100000 in
theorem tcX9_allows (l : Launch) (D : va_G) (cs : CS) (ho ci : Nat) (hci : ci < 12) (a1 : Int32) (a2 : Int32) (a3 : Int32) (z : Int32) (hm : mX9_allows a1 a2 a3 = some z) : Met l yX9_allows (Cond.code yX9_allows cX9_allows 4 (some .boolean) :: gw_tbl) ({ frames := 1, cells := 0, slots := 0, locals := 23 }) (PcR D cs ([(ho, .inr (ci, []))]) [.ref ho, .int a1, .int a2, .int a3]) (QRi z) 0 0 NoF := by
  refine met_R rfl (Nat.le_of_ble_eq_true rfl) (fun p e s m below meth c E hP ls hl => ?_)
  obtain ⟨hx, hb, hr, hml, hown, hlk, hT, hN, hK⟩ := id E
  have hl : lv_has ls 4 [(0, .ref ho), (1, .int a1), (2, .int a2), (3, .int a3)] := hl
  unfold mX9_allows at hm
  refine lv_iload_n hx hb dX9_allows_0 rfl (lv_at hl 3 rfl) ?_
  refine lv_iconst (v := (1 : Int32)) hx hb dX9_allows_1 (by decide) ?_
  refine lv_iand hx hb dX9_allows_2 ?_
  refine lv_iconst (v := (1 : Int32)) hx hb dX9_allows_3 (by decide) ?_
  refine x_icmp_ne (tgt := 21) hx hb dX9_allows_4 (by decide) hm (fun hm => ?_) (fun hm => ?_)
  · refine lv_iconst (v := (0 : Int32)) hx hb dX9_allows_21 (by decide) ?_
    exact x_zretR hx hb hr hlk hm dX9_allows_22
  · refine lv_aload_n hx hb dX9_allows_7 rfl (lv_at hl 0 rfl) ?_
    refine lv_iload_n hx hb dX9_allows_8 rfl (lv_at hl 1 rfl) ?_
    refine lv_iload_n hx hb dX9_allows_9 rfl (lv_at hl 2 rfl) ?_
    refine lv_iload_n hx hb dX9_allows_10 rfl (lv_at hl 3 rfl) ?_
    refine xU_i (As := [.int a1, .int a2, .int a3]) (rest := []) hx hb hml hown hT hN hK hP hci cwu_X9_7 (hsub_X9 hT) hm (fun z h => tcX6_allows l D cs ho ci hci a1 a2 a3 z h) ⟨rfl, rfl⟩ ⟨by decide, by decide⟩ hl.1 rfl rfl (Nat.le_of_ble_eq_true rfl) dX9_allows_11 ⟨Nat.zero_le _, Nat.zero_le _⟩ (fun r1 hm => ?_)
    refine x_if_eq (tgt := 21) hx hb dX9_allows_14 (by decide) hm (fun hm => ?_) (fun hm => ?_)
    · refine lv_iconst (v := (0 : Int32)) hx hb dX9_allows_21 (by decide) ?_
      exact x_zretR hx hb hr hlk hm dX9_allows_22
    · refine lv_iconst (v := (1 : Int32)) hx hb dX9_allows_17 (by decide) ?_
      refine lv_goto (tgt := 22) hx hb dX9_allows_18 (by decide) ?_
      exact x_zretR hx hb hr hlk hm dX9_allows_22
noncomputable def mX9_losesWith (a1 : Int32) : Option Int32 := (if a1 < (1 : Int32) then zo (0 : Int32) (some (0 : Int32)) else zo (1 : Int32) (some (1 : Int32)))
set_option maxHeartbeats 4000000 in
set_option maxRecDepth 100000 in
theorem tcX9_losesWith (l : Launch) (D : va_G) (cs : CS) (ho ci : Nat) (hci : ci < 12) (a1 : Int32) (z : Int32) (hm : mX9_losesWith a1 = some z) : Met l yX9_losesWith (Cond.code yX9_losesWith cX9_losesWith 2 (some .boolean) :: gw_tbl) ({ frames := 0, cells := 0, slots := 0, locals := 0 }) (PcR D cs ([(ho, .inr (ci, []))]) [.ref ho, .int a1]) (QRi z) 0 0 NoF := by
  refine met_R rfl (Nat.le_of_ble_eq_true rfl) (fun p e s m below meth c E hP ls hl => ?_)
  obtain ⟨hx, hb, hr, hml, hown, hlk, hT, hN, hK⟩ := id E
  have hl : lv_has ls 2 [(0, .ref ho), (1, .int a1)] := hl
  unfold mX9_losesWith at hm
  refine lv_iload_n hx hb dX9_losesWith_0 rfl (lv_at hl 1 rfl) ?_
  refine lv_iconst (v := (1 : Int32)) hx hb dX9_losesWith_1 (by decide) ?_
  refine x_icmp_lt (tgt := 9) hx hb dX9_losesWith_2 (by decide) hm (fun hm => ?_) (fun hm => ?_)
  · refine lv_iconst (v := (0 : Int32)) hx hb dX9_losesWith_9 (by decide) ?_
    exact x_zretR hx hb hr hlk hm dX9_losesWith_10
  · refine lv_iconst (v := (1 : Int32)) hx hb dX9_losesWith_5 (by decide) ?_
    refine lv_goto (tgt := 10) hx hb dX9_losesWith_6 (by decide) ?_
    exact x_zretR hx hb hr hlk hm dX9_losesWith_10
noncomputable def mX2_allows (a1 : Int32) (a2 : Int32) (a3 : Int32) : Option Int32 := (if (1 : Int32) ≤ a2 then zo (1 : Int32) (some (1 : Int32)) else (mX6_allows a1 a2 a3).bind fun r1 => (if r1 = 0 then zo (0 : Int32) (some (0 : Int32)) else zo (1 : Int32) (some (1 : Int32))))
set_option maxHeartbeats 4000000 in
set_option maxRecDepth 100000 in
theorem tcX2_allows (l : Launch) (D : va_G) (cs : CS) (ho ci : Nat) (hci : ci < 12) (a1 : Int32) (a2 : Int32) (a3 : Int32) (z : Int32) (hm : mX2_allows a1 a2 a3 = some z) : Met l yX2_allows (Cond.code yX2_allows cX2_allows 4 (some .boolean) :: gw_tbl) ({ frames := 1, cells := 0, slots := 0, locals := 23 }) (PcR D cs ([(ho, .inr (ci, []))]) [.ref ho, .int a1, .int a2, .int a3]) (QRi z) 0 0 NoF := by
  refine met_R rfl (Nat.le_of_ble_eq_true rfl) (fun p e s m below meth c E hP ls hl => ?_)
  obtain ⟨hx, hb, hr, hml, hown, hlk, hT, hN, hK⟩ := id E
  have hl : lv_has ls 4 [(0, .ref ho), (1, .int a1), (2, .int a2), (3, .int a3)] := hl
  unfold mX2_allows at hm
  refine lv_iload_n hx hb dX2_allows_0 rfl (lv_at hl 2 rfl) ?_
  refine lv_iconst (v := (1 : Int32)) hx hb dX2_allows_1 (by decide) ?_
  refine x_icmp_ge (tgt := 15) hx hb dX2_allows_2 (by decide) hm (fun hm => ?_) (fun hm => ?_)
  · refine lv_iconst (v := (1 : Int32)) hx hb dX2_allows_15 (by decide) ?_
    refine lv_goto (tgt := 20) hx hb dX2_allows_16 (by decide) ?_
    exact x_zretR hx hb hr hlk hm dX2_allows_20
  · refine lv_aload_n hx hb dX2_allows_5 rfl (lv_at hl 0 rfl) ?_
    refine lv_iload_n hx hb dX2_allows_6 rfl (lv_at hl 1 rfl) ?_
    refine lv_iload_n hx hb dX2_allows_7 rfl (lv_at hl 2 rfl) ?_
    refine lv_iload_n hx hb dX2_allows_8 rfl (lv_at hl 3 rfl) ?_
    refine xU_i (As := [.int a1, .int a2, .int a3]) (rest := []) hx hb hml hown hT hN hK hP hci cwu_X2_7 (hsub_X2 hT) hm (fun z h => tcX6_allows l D cs ho ci hci a1 a2 a3 z h) ⟨rfl, rfl⟩ ⟨by decide, by decide⟩ hl.1 rfl rfl (Nat.le_of_ble_eq_true rfl) dX2_allows_9 ⟨Nat.zero_le _, Nat.zero_le _⟩ (fun r1 hm => ?_)
    refine x_if_eq (tgt := 19) hx hb dX2_allows_12 (by decide) hm (fun hm => ?_) (fun hm => ?_)
    · refine lv_iconst (v := (0 : Int32)) hx hb dX2_allows_19 (by decide) ?_
      exact x_zretR hx hb hr hlk hm dX2_allows_20
    · refine lv_iconst (v := (1 : Int32)) hx hb dX2_allows_15 (by decide) ?_
      refine lv_goto (tgt := 20) hx hb dX2_allows_16 (by decide) ?_
      exact x_zretR hx hb hr hlk hm dX2_allows_20
noncomputable def mX8_cost (a1 : Int32) (a2 : Int32) : Option Int32 := (mX1_cost a1 a2).bind fun r1 => some (r1 + a2)
set_option maxHeartbeats 4000000 in
set_option maxRecDepth 100000 in
theorem tcX8_cost (l : Launch) (D : va_G) (cs : CS) (ho ci : Nat) (hci : ci < 12) (a1 : Int32) (a2 : Int32) (z : Int32) (hm : mX8_cost a1 a2 = some z) : Met l yX8_cost (Cond.code yX8_cost cX8_cost 3 (some .int) :: gw_tbl) ({ frames := 2, cells := 0, slots := 0, locals := 44 }) (PcR D cs ([(ho, .inr (ci, []))]) [.ref ho, .int a1, .int a2]) (QRi z) 0 0 NoF := by
  refine met_R rfl (Nat.le_of_ble_eq_true rfl) (fun p e s m below meth c E hP ls hl => ?_)
  obtain ⟨hx, hb, hr, hml, hown, hlk, hT, hN, hK⟩ := id E
  have hl : lv_has ls 3 [(0, .ref ho), (1, .int a1), (2, .int a2)] := hl
  unfold mX8_cost at hm
  refine lv_aload_n hx hb dX8_cost_0 rfl (lv_at hl 0 rfl) ?_
  refine lv_iload_n hx hb dX8_cost_1 rfl (lv_at hl 1 rfl) ?_
  refine lv_iload_n hx hb dX8_cost_2 rfl (lv_at hl 2 rfl) ?_
  refine xU_i (As := [.int a1, .int a2]) (rest := []) hx hb hml hown hT hN hK hP hci cwu_X8_7 (hsub_X8 hT) hm (fun z h => tcX1_cost l D cs ho ci hci a1 a2 z h) ⟨rfl, rfl⟩ ⟨by decide, by decide⟩ hl.1 rfl rfl (Nat.le_of_ble_eq_true rfl) dX8_cost_3 ⟨Nat.zero_le _, Nat.zero_le _⟩ (fun r1 hm => ?_)
  refine lv_iload_n hx hb dX8_cost_6 rfl (lv_at hl 2 rfl) ?_
  refine lv_iadd hx hb dX8_cost_7 ?_
  exact x_iretR hx hb hr hlk hm dX8_cost_8
noncomputable def mX8_losesWith (a1 : Int32) : Option Int32 := (if a1 < (3 : Int32) then zo (0 : Int32) (some (0 : Int32)) else zo (1 : Int32) (some (1 : Int32)))
set_option maxHeartbeats 4000000 in
set_option maxRecDepth 100000 in
theorem tcX8_losesWith (l : Launch) (D : va_G) (cs : CS) (ho ci : Nat) (hci : ci < 12) (a1 : Int32) (z : Int32) (hm : mX8_losesWith a1 = some z) : Met l yX8_losesWith (Cond.code yX8_losesWith cX8_losesWith 2 (some .boolean) :: gw_tbl) ({ frames := 0, cells := 0, slots := 0, locals := 0 }) (PcR D cs ([(ho, .inr (ci, []))]) [.ref ho, .int a1]) (QRi z) 0 0 NoF := by
  refine met_R rfl (Nat.le_of_ble_eq_true rfl) (fun p e s m below meth c E hP ls hl => ?_)
  obtain ⟨hx, hb, hr, hml, hown, hlk, hT, hN, hK⟩ := id E
  have hl : lv_has ls 2 [(0, .ref ho), (1, .int a1)] := hl
  unfold mX8_losesWith at hm
  refine lv_iload_n hx hb dX8_losesWith_0 rfl (lv_at hl 1 rfl) ?_
  refine lv_iconst (v := (3 : Int32)) hx hb dX8_losesWith_1 (by decide) ?_
  refine x_icmp_lt (tgt := 9) hx hb dX8_losesWith_2 (by decide) hm (fun hm => ?_) (fun hm => ?_)
  · refine lv_iconst (v := (0 : Int32)) hx hb dX8_losesWith_9 (by decide) ?_
    exact x_zretR hx hb hr hlk hm dX8_losesWith_10
  · refine lv_iconst (v := (1 : Int32)) hx hb dX8_losesWith_5 (by decide) ?_
    refine lv_goto (tgt := 10) hx hb dX8_losesWith_6 (by decide) ?_
    exact x_zretR hx hb hr hlk hm dX8_losesWith_10
noncomputable def v_allows (k : Nat) (a1 a2 a3 : Int32) : Option Int32 := match k with
  | 0 => mX6_allows a1 a2 a3
  | 1 => mX6_allows a1 a2 a3
  | 2 => mX1_allows a1 a2 a3
  | 3 => mX9_allows a1 a2 a3
  | 4 => mX2_allows a1 a2 a3
  | _ => mX1_allows a1 a2 a3
theorem cwo_97_0 : CWO RX3 97 RX6 yX6_allows yX6_allows cX6_allows 4 (some .boolean) 3 := ⟨tw_473, tw_476, tw_475, tw_474, tw_2, tw_493, tw_474, ⟨_, _, _, tw_493⟩, by decide, by decide, by decide +kernel⟩
theorem cwo_97_1 : CWO RX3 97 RX5 yX6_allows yX6_allows cX6_allows 4 (some .boolean) 3 := ⟨tw_473, tw_476, tw_485, tw_474, tw_2, tw_493, tw_474, ⟨_, _, _, tw_493⟩, by decide, by decide, by decide +kernel⟩
theorem cwo_97_2 : CWO RX3 97 RX1 yX6_allows yX1_allows cX1_allows 4 (some .boolean) 3 := ⟨tw_473, tw_476, tw_477, tw_478, tw_4, tw_479, tw_474, ⟨_, _, _, tw_493⟩, by decide, by decide, by decide +kernel⟩
theorem cwo_97_3 : CWO RX3 97 RX9 yX6_allows yX9_allows cX9_allows 4 (some .boolean) 3 := ⟨tw_473, tw_476, tw_487, tw_488, tw_5, tw_489, tw_474, ⟨_, _, _, tw_493⟩, by decide, by decide, by decide +kernel⟩
theorem cwo_97_4 : CWO RX3 97 RX2 yX6_allows yX2_allows cX2_allows 4 (some .boolean) 3 := ⟨tw_473, tw_476, tw_481, tw_482, tw_6, tw_483, tw_474, ⟨_, _, _, tw_493⟩, by decide, by decide, by decide +kernel⟩
theorem cwo_97_5 : CWO RX3 97 RX8 yX6_allows yX1_allows cX1_allows 4 (some .boolean) 3 := ⟨tw_473, tw_476, tw_486, tw_478, tw_4, tw_479, tw_474, ⟨_, _, _, tw_493⟩, by decide, by decide, by decide +kernel⟩
set_option maxHeartbeats 4000000 in
theorem xK_97 {p : Program} {l : Launch} {e : Env} {R : Room} {s : State} {m : MethodId} {args : Array Value} {below : List Frame} {meth : Method} {c : Code} {H : Heap} {locs : List Loc} {cells slots : Nat} {Q : State → Prop} {cc : ByteArray} {pc : Nat} {ls : Array Slot} {rest : List Value} {D : va_G} {cs : CS} {β : Type} {z : β} {ad : Nat → Nat} {b nL : Nat} {M : MT} {a1 a2 a3 : Int32} {j : Nat} {kf : Int32 → Option β} (hx : p.tables.exec = Jvm.exec) (hb : c.code = cc) (hml : c.maxLocals = nL) (hown : s.vm.findClass RX3 = some m.cls) (hT : ∀ w ∈ gw_tbl, w.before args s = true) (hN : NW s) (hK : va_K D classes (tyz cs) s) (hP : va_P D classes (WT cs ad b M) H) (hj : j < 6) (hm : (v_allows j a1 a2 a3).bind kf = some z) (hR : 2 ≤ R.frames ∧ 46 ≤ R.locals) (hls : ls.size = nL) (hW : (rest.map fun v => v.category).sum ≤ 8) (hdg : decode cc pc = .ok (.invokevirtual 97, 3)) (hcl : cells ≤ R.cells ∧ slots ≤ R.slots)
    (kk : ∀ r : Int32, kf r = some z → W p l e R s m args below meth c H locs cells slots Q (F0 m (pc + 3) ls (.int r :: rest))) : W p l e R s m args below meth c H locs cells slots Q (F0 m pc ls (.int a3 :: .int a2 :: .int a1 :: .ref (ad (2 + j)) :: rest)) := by
  match j, hj with
  | 0, _ => exact xO_i (As := [.int a1, .int a2, .int a3]) (rest := rest) (b := ad 2) (ci := 6) hx hb hml hown hT hN hK (hP.sub (ws' := [(ad 2, .inr (6, []))]) [13] rfl) rfl cwo_97_0 hm (fun z h => tcX6_allows l D cs (ad 2) 6 (by decide) a1 a2 a3 z h) ⟨rfl, rfl⟩ ⟨Nat.le_trans (by decide) hR.1, Nat.le_trans (by decide) hR.2⟩ hls rfl rfl hW hdg hcl kk
  | 1, _ => exact xO_i (As := [.int a1, .int a2, .int a3]) (rest := rest) (b := ad 3) (ci := 5) hx hb hml hown hT hN hK (hP.sub (ws' := [(ad 3, .inr (5, []))]) [14] rfl) rfl cwo_97_1 hm (fun z h => tcX6_allows l D cs (ad 3) 5 (by decide) a1 a2 a3 z h) ⟨rfl, rfl⟩ ⟨Nat.le_trans (by decide) hR.1, Nat.le_trans (by decide) hR.2⟩ hls rfl rfl hW hdg hcl kk
  | 2, _ => exact xO_i (As := [.int a1, .int a2, .int a3]) (rest := rest) (b := ad 4) (ci := 1) hx hb hml hown hT hN hK (hP.sub (ws' := [(ad 4, .inr (1, []))]) [15] rfl) rfl cwo_97_2 hm (fun z h => tcX1_allows l D cs (ad 4) 1 (by decide) a1 a2 a3 z h) ⟨rfl, rfl⟩ ⟨Nat.le_trans (by decide) hR.1, Nat.le_trans (by decide) hR.2⟩ hls rfl rfl hW hdg hcl kk
  | 3, _ => exact xO_i (As := [.int a1, .int a2, .int a3]) (rest := rest) (b := ad 5) (ci := 9) hx hb hml hown hT hN hK (hP.sub (ws' := [(ad 5, .inr (9, []))]) [16] rfl) rfl cwo_97_3 hm (fun z h => tcX9_allows l D cs (ad 5) 9 (by decide) a1 a2 a3 z h) ⟨rfl, rfl⟩ ⟨Nat.le_trans (by decide) hR.1, Nat.le_trans (by decide) hR.2⟩ hls rfl rfl hW hdg hcl kk
  | 4, _ => exact xO_i (As := [.int a1, .int a2, .int a3]) (rest := rest) (b := ad 6) (ci := 2) hx hb hml hown hT hN hK (hP.sub (ws' := [(ad 6, .inr (2, []))]) [17] rfl) rfl cwo_97_4 hm (fun z h => tcX2_allows l D cs (ad 6) 2 (by decide) a1 a2 a3 z h) ⟨rfl, rfl⟩ ⟨Nat.le_trans (by decide) hR.1, Nat.le_trans (by decide) hR.2⟩ hls rfl rfl hW hdg hcl kk
  | 5, _ => exact xO_i (As := [.int a1, .int a2, .int a3]) (rest := rest) (b := ad 7) (ci := 8) hx hb hml hown hT hN hK (hP.sub (ws' := [(ad 7, .inr (8, []))]) [18] rfl) rfl cwo_97_5 hm (fun z h => tcX1_allows l D cs (ad 7) 8 (by decide) a1 a2 a3 z h) ⟨rfl, rfl⟩ ⟨Nat.le_trans (by decide) hR.1, Nat.le_trans (by decide) hR.2⟩ hls rfl rfl hW hdg hcl kk
noncomputable def v_cost (k : Nat) (a1 a2 : Int32) : Option Int32 := match k with
  | 0 => mX6_cost a1 a2
  | 1 => mX5_cost a1 a2
  | 2 => mX1_cost a1 a2
  | 3 => mX5_cost a1 a2
  | 4 => mX6_cost a1 a2
  | _ => mX8_cost a1 a2
theorem cwo_101_0 : CWO RX3 101 RX6 yX6_cost yX6_cost cX6_cost 3 (some .int) 2 := ⟨tw_502, tw_505, tw_504, tw_503, tw_2, tw_520, tw_503, ⟨_, _, _, tw_520⟩, by decide, by decide, by decide +kernel⟩
theorem cwo_101_1 : CWO RX3 101 RX5 yX6_cost yX5_cost cX5_cost 4 (some .int) 2 := ⟨tw_502, tw_505, tw_511, tw_512, tw_3, tw_513, tw_503, ⟨_, _, _, tw_520⟩, by decide, by decide, by decide +kernel⟩
theorem cwo_101_2 : CWO RX3 101 RX1 yX6_cost yX1_cost cX1_cost 3 (some .int) 2 := ⟨tw_502, tw_505, tw_506, tw_507, tw_4, tw_508, tw_503, ⟨_, _, _, tw_520⟩, by decide, by decide, by decide +kernel⟩
theorem cwo_101_3 : CWO RX3 101 RX9 yX6_cost yX5_cost cX5_cost 4 (some .int) 2 := ⟨tw_502, tw_505, tw_519, tw_512, tw_3, tw_513, tw_503, ⟨_, _, _, tw_520⟩, by decide, by decide, by decide +kernel⟩
theorem cwo_101_4 : CWO RX3 101 RX2 yX6_cost yX6_cost cX6_cost 3 (some .int) 2 := ⟨tw_502, tw_505, tw_510, tw_503, tw_2, tw_520, tw_503, ⟨_, _, _, tw_520⟩, by decide, by decide, by decide +kernel⟩
theorem cwo_101_5 : CWO RX3 101 RX8 yX6_cost yX8_cost cX8_cost 3 (some .int) 2 := ⟨tw_502, tw_505, tw_515, tw_516, tw_7, tw_517, tw_503, ⟨_, _, _, tw_520⟩, by decide, by decide, by decide +kernel⟩
set_option maxHeartbeats 4000000 in
theorem xK_101 {p : Program} {l : Launch} {e : Env} {R : Room} {s : State} {m : MethodId} {args : Array Value} {below : List Frame} {meth : Method} {c : Code} {H : Heap} {locs : List Loc} {cells slots : Nat} {Q : State → Prop} {cc : ByteArray} {pc : Nat} {ls : Array Slot} {rest : List Value} {D : va_G} {cs : CS} {β : Type} {z : β} {ad : Nat → Nat} {b nL : Nat} {M : MT} {a1 a2 : Int32} {j : Nat} {kf : Int32 → Option β} (hx : p.tables.exec = Jvm.exec) (hb : c.code = cc) (hml : c.maxLocals = nL) (hown : s.vm.findClass RX3 = some m.cls) (hT : ∀ w ∈ gw_tbl, w.before args s = true) (hN : NW s) (hK : va_K D classes (tyz cs) s) (hP : va_P D classes (WT cs ad b M) H) (hj : j < 6) (hm : (v_cost j a1 a2).bind kf = some z) (hR : 3 ≤ R.frames ∧ 66 ≤ R.locals) (hls : ls.size = nL) (hW : (rest.map fun v => v.category).sum ≤ 8) (hdg : decode cc pc = .ok (.invokevirtual 101, 3)) (hcl : cells ≤ R.cells ∧ slots ≤ R.slots)
    (kk : ∀ r : Int32, kf r = some z → W p l e R s m args below meth c H locs cells slots Q (F0 m (pc + 3) ls (.int r :: rest))) : W p l e R s m args below meth c H locs cells slots Q (F0 m pc ls (.int a2 :: .int a1 :: .ref (ad (2 + j)) :: rest)) := by
  match j, hj with
  | 0, _ => exact xO_i (As := [.int a1, .int a2]) (rest := rest) (b := ad 2) (ci := 6) hx hb hml hown hT hN hK (hP.sub (ws' := [(ad 2, .inr (6, []))]) [13] rfl) rfl cwo_101_0 hm (fun z h => tcX6_cost l D cs (ad 2) 6 (by decide) a1 a2 z h) ⟨rfl, rfl⟩ ⟨Nat.le_trans (by decide) hR.1, Nat.le_trans (by decide) hR.2⟩ hls rfl rfl hW hdg hcl kk
  | 1, _ => exact xO_i (As := [.int a1, .int a2]) (rest := rest) (b := ad 3) (ci := 5) hx hb hml hown hT hN hK (hP.sub (ws' := [(ad 3, .inr (5, []))]) [14] rfl) rfl cwo_101_1 hm (fun z h => tcX5_cost l D cs (ad 3) 5 (by decide) a1 a2 z h) ⟨rfl, rfl⟩ ⟨Nat.le_trans (by decide) hR.1, Nat.le_trans (by decide) hR.2⟩ hls rfl rfl hW hdg hcl kk
  | 2, _ => exact xO_i (As := [.int a1, .int a2]) (rest := rest) (b := ad 4) (ci := 1) hx hb hml hown hT hN hK (hP.sub (ws' := [(ad 4, .inr (1, []))]) [15] rfl) rfl cwo_101_2 hm (fun z h => tcX1_cost l D cs (ad 4) 1 (by decide) a1 a2 z h) ⟨rfl, rfl⟩ ⟨Nat.le_trans (by decide) hR.1, Nat.le_trans (by decide) hR.2⟩ hls rfl rfl hW hdg hcl kk
  | 3, _ => exact xO_i (As := [.int a1, .int a2]) (rest := rest) (b := ad 5) (ci := 9) hx hb hml hown hT hN hK (hP.sub (ws' := [(ad 5, .inr (9, []))]) [16] rfl) rfl cwo_101_3 hm (fun z h => tcX5_cost l D cs (ad 5) 9 (by decide) a1 a2 z h) ⟨rfl, rfl⟩ ⟨Nat.le_trans (by decide) hR.1, Nat.le_trans (by decide) hR.2⟩ hls rfl rfl hW hdg hcl kk
  | 4, _ => exact xO_i (As := [.int a1, .int a2]) (rest := rest) (b := ad 6) (ci := 2) hx hb hml hown hT hN hK (hP.sub (ws' := [(ad 6, .inr (2, []))]) [17] rfl) rfl cwo_101_4 hm (fun z h => tcX6_cost l D cs (ad 6) 2 (by decide) a1 a2 z h) ⟨rfl, rfl⟩ ⟨Nat.le_trans (by decide) hR.1, Nat.le_trans (by decide) hR.2⟩ hls rfl rfl hW hdg hcl kk
  | 5, _ => exact xO_i (As := [.int a1, .int a2]) (rest := rest) (b := ad 7) (ci := 8) hx hb hml hown hT hN hK (hP.sub (ws' := [(ad 7, .inr (8, []))]) [18] rfl) rfl cwo_101_5 hm (fun z h => tcX8_cost l D cs (ad 7) 8 (by decide) a1 a2 z h) ⟨rfl, rfl⟩ ⟨Nat.le_trans (by decide) hR.1, Nat.le_trans (by decide) hR.2⟩ hls rfl rfl hW hdg hcl kk
noncomputable def v_losesWith (k : Nat) (a1 : Int32) : Option Int32 := match k with
  | 0 => mX6_losesWith a1
  | 1 => mX5_losesWith a1
  | 2 => mX6_losesWith a1
  | 3 => mX9_losesWith a1
  | 4 => mX6_losesWith a1
  | _ => mX8_losesWith a1
theorem cwo_104_0 : CWO RX3 104 RX6 yX6_losesWith yX6_losesWith cX6_losesWith 2 (some .boolean) 1 := ⟨tw_543, tw_546, tw_545, tw_544, tw_2, tw_558, tw_544, ⟨_, _, _, tw_558⟩, by decide, by decide, by decide +kernel⟩
theorem cwo_104_1 : CWO RX3 104 RX5 yX6_losesWith yX5_losesWith cX5_losesWith 2 (some .boolean) 1 := ⟨tw_543, tw_546, tw_549, tw_550, tw_3, tw_551, tw_544, ⟨_, _, _, tw_558⟩, by decide, by decide, by decide +kernel⟩
theorem cwo_104_2 : CWO RX3 104 RX1 yX6_losesWith yX6_losesWith cX6_losesWith 2 (some .boolean) 1 := ⟨tw_543, tw_546, tw_547, tw_544, tw_2, tw_558, tw_544, ⟨_, _, _, tw_558⟩, by decide, by decide, by decide +kernel⟩
theorem cwo_104_3 : CWO RX3 104 RX9 yX6_losesWith yX9_losesWith cX9_losesWith 2 (some .boolean) 1 := ⟨tw_543, tw_546, tw_555, tw_556, tw_5, tw_557, tw_544, ⟨_, _, _, tw_558⟩, by decide, by decide, by decide +kernel⟩
theorem cwo_104_4 : CWO RX3 104 RX2 yX6_losesWith yX6_losesWith cX6_losesWith 2 (some .boolean) 1 := ⟨tw_543, tw_546, tw_548, tw_544, tw_2, tw_558, tw_544, ⟨_, _, _, tw_558⟩, by decide, by decide, by decide +kernel⟩
theorem cwo_104_5 : CWO RX3 104 RX8 yX6_losesWith yX8_losesWith cX8_losesWith 2 (some .boolean) 1 := ⟨tw_543, tw_546, tw_552, tw_553, tw_7, tw_554, tw_544, ⟨_, _, _, tw_558⟩, by decide, by decide, by decide +kernel⟩
set_option maxHeartbeats 4000000 in
theorem xK_104 {p : Program} {l : Launch} {e : Env} {R : Room} {s : State} {m : MethodId} {args : Array Value} {below : List Frame} {meth : Method} {c : Code} {H : Heap} {locs : List Loc} {cells slots : Nat} {Q : State → Prop} {cc : ByteArray} {pc : Nat} {ls : Array Slot} {rest : List Value} {D : va_G} {cs : CS} {β : Type} {z : β} {ad : Nat → Nat} {b nL : Nat} {M : MT} {a1 : Int32} {j : Nat} {kf : Int32 → Option β} (hx : p.tables.exec = Jvm.exec) (hb : c.code = cc) (hml : c.maxLocals = nL) (hown : s.vm.findClass RX3 = some m.cls) (hT : ∀ w ∈ gw_tbl, w.before args s = true) (hN : NW s) (hK : va_K D classes (tyz cs) s) (hP : va_P D classes (WT cs ad b M) H) (hj : j < 6) (hm : (v_losesWith j a1).bind kf = some z) (hR : 1 ≤ R.frames ∧ 21 ≤ R.locals) (hls : ls.size = nL) (hW : (rest.map fun v => v.category).sum ≤ 8) (hdg : decode cc pc = .ok (.invokevirtual 104, 3)) (hcl : cells ≤ R.cells ∧ slots ≤ R.slots)
    (kk : ∀ r : Int32, kf r = some z → W p l e R s m args below meth c H locs cells slots Q (F0 m (pc + 3) ls (.int r :: rest))) : W p l e R s m args below meth c H locs cells slots Q (F0 m pc ls (.int a1 :: .ref (ad (2 + j)) :: rest)) := by
  match j, hj with
  | 0, _ => exact xO_i (As := [.int a1]) (rest := rest) (b := ad 2) (ci := 6) hx hb hml hown hT hN hK (hP.sub (ws' := [(ad 2, .inr (6, []))]) [13] rfl) rfl cwo_104_0 hm (fun z h => tcX6_losesWith l D cs (ad 2) 6 (by decide) a1 z h) ⟨rfl, rfl⟩ ⟨Nat.le_trans (by decide) hR.1, Nat.le_trans (by decide) hR.2⟩ hls rfl rfl hW hdg hcl kk
  | 1, _ => exact xO_i (As := [.int a1]) (rest := rest) (b := ad 3) (ci := 5) hx hb hml hown hT hN hK (hP.sub (ws' := [(ad 3, .inr (5, []))]) [14] rfl) rfl cwo_104_1 hm (fun z h => tcX5_losesWith l D cs (ad 3) 5 (by decide) a1 z h) ⟨rfl, rfl⟩ ⟨Nat.le_trans (by decide) hR.1, Nat.le_trans (by decide) hR.2⟩ hls rfl rfl hW hdg hcl kk
  | 2, _ => exact xO_i (As := [.int a1]) (rest := rest) (b := ad 4) (ci := 1) hx hb hml hown hT hN hK (hP.sub (ws' := [(ad 4, .inr (1, []))]) [15] rfl) rfl cwo_104_2 hm (fun z h => tcX6_losesWith l D cs (ad 4) 1 (by decide) a1 z h) ⟨rfl, rfl⟩ ⟨Nat.le_trans (by decide) hR.1, Nat.le_trans (by decide) hR.2⟩ hls rfl rfl hW hdg hcl kk
  | 3, _ => exact xO_i (As := [.int a1]) (rest := rest) (b := ad 5) (ci := 9) hx hb hml hown hT hN hK (hP.sub (ws' := [(ad 5, .inr (9, []))]) [16] rfl) rfl cwo_104_3 hm (fun z h => tcX9_losesWith l D cs (ad 5) 9 (by decide) a1 z h) ⟨rfl, rfl⟩ ⟨Nat.le_trans (by decide) hR.1, Nat.le_trans (by decide) hR.2⟩ hls rfl rfl hW hdg hcl kk
  | 4, _ => exact xO_i (As := [.int a1]) (rest := rest) (b := ad 6) (ci := 2) hx hb hml hown hT hN hK (hP.sub (ws' := [(ad 6, .inr (2, []))]) [17] rfl) rfl cwo_104_4 hm (fun z h => tcX6_losesWith l D cs (ad 6) 2 (by decide) a1 z h) ⟨rfl, rfl⟩ ⟨Nat.le_trans (by decide) hR.1, Nat.le_trans (by decide) hR.2⟩ hls rfl rfl hW hdg hcl kk
  | 5, _ => exact xO_i (As := [.int a1]) (rest := rest) (b := ad 7) (ci := 8) hx hb hml hown hT hN hK (hP.sub (ws' := [(ad 7, .inr (8, []))]) [18] rfl) rfl cwo_104_5 hm (fun z h => tcX8_losesWith l D cs (ad 7) 8 (by decide) a1 z h) ⟨rfl, rfl⟩ ⟨Nat.le_trans (by decide) hR.1, Nat.le_trans (by decide) hR.2⟩ hls rfl rfl hW hdg hcl kk
end
section
noncomputable def mX3_kindNumbered (S : MT) (a1 : Int32) : Option Nat := (if a1 < 0 then none else (if a1 < (6 : Int32) then adq 6 a1 fun j1 => some j1 else none))
set_option maxHeartbeats 4000000 in
set_option maxRecDepth 100000 in
theorem tcX3_kindNumbered (l : Launch) (D : va_G) (cs : CS) (ad : Nat → Nat) (b : Nat) (S : MT) (a1 : Int32) (z : Nat) (hm : mX3_kindNumbered S a1 = some z) : Met l yX3_kindNumbered (Cond.code yX3_kindNumbered cX3_kindNumbered 3 (some (.object "DoeRoe$Plain")) :: gw_tbl) ({ frames := 0, cells := 0, slots := 0, locals := 0 }) (PcR D cs (WT cs ad b S) [.ref (ad b), .int a1]) (QRa ad z) 0 0 NoF := by
  refine met_R rfl (Nat.le_of_ble_eq_true rfl) (fun p e s m below meth c E hP ls hl => ?_)
  obtain ⟨hx, hb, hr, hml, hown, hlk, hT, hN, hK⟩ := id E
  have hl : lv_has ls 3 [(0, .ref (ad b)), (1, .int a1)] := hl
  unfold mX3_kindNumbered at hm
  refine lv_iload_n hx hb dX3_kindNumbered_0 rfl (lv_at hl 1 rfl) ?_
  refine x_if_lt (tgt := 13) hx hb dX3_kindNumbered_1 (by decide) hm (fun hm => ?_) (fun hm => ?_)
  · refine lv_aload_n hx hb dX3_kindNumbered_13 rfl (lv_at hl 0 rfl) ?_
    refine gf_X3_18 (v := .ref (ad (b + 1))) hx hb hT hown hK hP 0 rfl rfl dX3_kindNumbered_14 ?_
    cases hm
  · refine lv_iload_n hx hb dX3_kindNumbered_4 rfl (lv_at hl 1 rfl) ?_
    refine lv_aload_n hx hb dX3_kindNumbered_5 rfl (lv_at hl 0 rfl) ?_
    refine gf_X3_9 (v := .ref (ad 1)) hx hb hT hown hK hP 0 rfl rfl dX3_kindNumbered_6 ?_
    refine va_alen (v := (6 : Int32)) hx hb hK hP 12 2 rfl rfl rfl dX3_kindNumbered_9 ?_
    refine x_icmp_lt (tgt := 18) hx hb dX3_kindNumbered_10 (by decide) hm (fun hm => ?_) (fun hm => ?_)
    · refine lv_aload_n hx hb dX3_kindNumbered_18 rfl (lv_at hl 0 rfl) ?_
      refine gf_X3_9 (v := .ref (ad 1)) hx hb hT hown hK hP 0 rfl rfl dX3_kindNumbered_19 ?_
      refine lv_iload_n hx hb dX3_kindNumbered_22 rfl (lv_at hl 1 rfl) ?_
      refine x_aald hx hb hK hP 12 rfl hm dX3_kindNumbered_23 (fun j1 hj1 hm => ?_)
      refine lv_astore_n (lv' := [(2, .ref (ad (2 + j1))), (0, .ref (ad b)), (1, .int a1)]) hx hb dX3_kindNumbered_24 rfl hl (by decide) rfl (fun ls hl => ?_)
      refine lv_aload_n hx hb dX3_kindNumbered_25 rfl (lv_at hl 0 rfl) ?_
      refine lv_ifnonnull (tgt := 36) hx hb dX3_kindNumbered_26 (by decide) ?_
      refine lv_aload_n hx hb dX3_kindNumbered_36 rfl (lv_at hl 0 rfl) ?_
      exact x_aretR hx hb hr hlk hj1 hm dX3_kindNumbered_37
    · refine lv_aload_n hx hb dX3_kindNumbered_13 rfl (lv_at hl 0 rfl) ?_
      refine gf_X3_18 (v := .ref (ad (b + 1))) hx hb hT hown hK hP 0 rfl rfl dX3_kindNumbered_14 ?_
      cases hm
noncomputable def mX3_allowed (S : MT) (a1 : Int32) (a2 : Int32) (a3 : Int32) : Option Int32 := (mX7_cell (6 : Int32) (4 : Int32) 24 (S.1 0) a1 (1 : Int32)).bind fun r1 => (mJ6_bitCount_0f7a4 r1).bind fun r2 => (mJ6_bitCount_0f7a4 (r1 &&& a2)).bind fun r3 => (mX7_cell (6 : Int32) (4 : Int32) 24 (S.1 0) a1 (0 : Int32)).bind fun r4 => (mX3_kindNumbered S r4).bind fun r5 => (v_allows r5 r2 r3 a3).bind fun r6 => zo r6 (some r6)
set_option maxHeartbeats 4000000 in
set_option maxRecDepth 100000 in
theorem tcX3_allowed (l : Launch) (D : va_G) (cs : CS) (ad : Nat → Nat) (b : Nat) (S : MT) (a1 : Int32) (a2 : Int32) (a3 : Int32) (z : Int32) (hm : mX3_allowed S a1 a2 a3 = some z) : Met l yX3_allowed (Cond.code yX3_allowed cX3_allowed 7 (some .boolean) :: gw_tbl) ({ frames := 2, cells := 0, slots := 0, locals := 46 }) (PcR D cs (WT cs ad b S) [.ref (ad b), .int a1, .int a2, .int a3]) (QRi z) 0 0 NoF := by
  refine met_R rfl (Nat.le_of_ble_eq_true rfl) (fun p e s m below meth c E hP ls hl => ?_)
  obtain ⟨hx, hb, hr, hml, hown, hlk, hT, hN, hK⟩ := id E
  have hl : lv_has ls 7 [(0, .ref (ad b)), (1, .int a1), (2, .int a2), (3, .int a3)] := hl
  unfold mX3_allowed at hm
  refine lv_aload_n hx hb dX3_allowed_0 rfl (lv_at hl 0 rfl) ?_
  refine gf_X3_27 (v := .ref (ad (b + 2))) hx hb hT hown hK hP 0 rfl rfl dX3_allowed_1 ?_
  refine lv_iload_n hx hb dX3_allowed_4 rfl (lv_at hl 1 rfl) ?_
  refine lv_iconst (v := (1 : Int32)) hx hb dX3_allowed_5 (by decide) ?_
  refine xV_i (As := [.int a1, .int (1 : Int32)]) (rest := []) hx hb hml hown hT hN hK (hP.sub (ws' := WR cs ad (b + 2) (6 : Int32) (4 : Int32) 24 (S.1 0)) [2, 3] rfl) cw_X3_80 hm (fun z h => tcX7_cell l D cs ad (b + 2) (6 : Int32) (4 : Int32) 24 (S.1 0) a1 (1 : Int32) z h) ⟨rfl, rfl⟩ ⟨by decide, by decide⟩ (b := (ad (b + 2))) 0 rfl rfl rfl hl.1 rfl rfl (Nat.le_of_ble_eq_true rfl) dX3_allowed_6 ⟨Nat.zero_le _, Nat.zero_le _⟩ (fun r1 hm => ?_)
  refine lv_istore (lv' := [(4, .int r1), (0, .ref (ad b)), (1, .int a1), (2, .int a2), (3, .int a3)]) hx hb dX3_allowed_9 hl (by decide) rfl (fun ls hl => ?_)
  refine lv_iload hx hb dX3_allowed_11 (lv_at hl 0 rfl) ?_
  refine xS_i (As := [.int r1]) (rest := []) hx hb hml hown hT hN hK (hP.sub (ws' := []) [] rfl) cw_X3_87 hm (fun z h => tcJ6_bitCount_0f7a4 l D cs r1 z h) ⟨rfl, rfl⟩ ⟨by decide, by decide⟩ hl.1 rfl rfl (Nat.le_of_ble_eq_true rfl) dX3_allowed_13 ⟨Nat.zero_le _, Nat.zero_le _⟩ (fun r2 hm => ?_)
  refine lv_istore (lv' := [(5, .int r2), (4, .int r1), (0, .ref (ad b)), (1, .int a1), (2, .int a2), (3, .int a3)]) hx hb dX3_allowed_16 hl (by decide) rfl (fun ls hl => ?_)
  refine lv_iload hx hb dX3_allowed_18 (lv_at hl 1 rfl) ?_
  refine lv_iload_n hx hb dX3_allowed_20 rfl (lv_at hl 4 rfl) ?_
  refine lv_iand hx hb dX3_allowed_21 ?_
  refine xS_i (As := [.int (r1 &&& a2)]) (rest := []) hx hb hml hown hT hN hK (hP.sub (ws' := []) [] rfl) cw_X3_87 hm (fun z h => tcJ6_bitCount_0f7a4 l D cs (r1 &&& a2) z h) ⟨rfl, rfl⟩ ⟨by decide, by decide⟩ hl.1 rfl rfl (Nat.le_of_ble_eq_true rfl) dX3_allowed_22 ⟨Nat.zero_le _, Nat.zero_le _⟩ (fun r3 hm => ?_)
  refine lv_istore (lv' := [(6, .int r3), (5, .int r2), (4, .int r1), (0, .ref (ad b)), (1, .int a1), (2, .int a2), (3, .int a3)]) hx hb dX3_allowed_25 hl (by decide) rfl (fun ls hl => ?_)
  refine lv_aload_n hx hb dX3_allowed_27 rfl (lv_at hl 3 rfl) ?_
  refine lv_aload_n hx hb dX3_allowed_28 rfl (lv_at hl 3 rfl) ?_
  refine gf_X3_27 (v := .ref (ad (b + 2))) hx hb hT hown hK hP 0 rfl rfl dX3_allowed_29 ?_
  refine lv_iload_n hx hb dX3_allowed_32 rfl (lv_at hl 4 rfl) ?_
  refine lv_iconst (v := (0 : Int32)) hx hb dX3_allowed_33 (by decide) ?_
  refine xV_i (As := [.int a1, .int (0 : Int32)]) (rest := [.ref (ad b)]) hx hb hml hown hT hN hK (hP.sub (ws' := WR cs ad (b + 2) (6 : Int32) (4 : Int32) 24 (S.1 0)) [2, 3] rfl) cw_X3_80 hm (fun z h => tcX7_cell l D cs ad (b + 2) (6 : Int32) (4 : Int32) 24 (S.1 0) a1 (0 : Int32) z h) ⟨rfl, rfl⟩ ⟨by decide, by decide⟩ (b := (ad (b + 2))) 0 rfl rfl rfl hl.1 rfl rfl (Nat.le_of_ble_eq_true rfl) dX3_allowed_34 ⟨Nat.zero_le _, Nat.zero_le _⟩ (fun r4 hm => ?_)
  refine xV_a (As := [.int r4]) (rest := []) hx hb hml hown hT hN hK hP cw_X3_93 hm (fun z h => tcX3_kindNumbered l D cs ad b S r4 z h) ⟨rfl, rfl⟩ ⟨by decide, by decide⟩ (b := (ad b)) 0 rfl rfl rfl hl.1 rfl rfl (Nat.le_of_ble_eq_true rfl) dX3_allowed_37 ⟨Nat.zero_le _, Nat.zero_le _⟩ (fun r5 hr5 hm => ?_)
  refine lv_iload hx hb dX3_allowed_40 (lv_at hl 1 rfl) ?_
  refine lv_iload hx hb dX3_allowed_42 (lv_at hl 0 rfl) ?_
  refine lv_iload_n hx hb dX3_allowed_44 rfl (lv_at hl 6 rfl) ?_
  refine xK_97 (rest := []) hx hb hml hown hT hN hK hP hr5 hm ⟨by decide, by decide⟩ hl.1 (Nat.le_of_ble_eq_true rfl) dX3_allowed_45 ⟨Nat.zero_le _, Nat.zero_le _⟩ (fun r6 hm => ?_)
  exact x_zretR hx hb hr hlk hm dX3_allowed_48
noncomputable def mX3_ownCost (S : MT) (a1 : Int32) (a2 : Int32) : Option Int32 := (mX7_cell (6 : Int32) (4 : Int32) 24 (S.1 0) a1 (0 : Int32)).bind fun r1 => (mX3_kindNumbered S r1).bind fun r2 => (mX7_cell (6 : Int32) (4 : Int32) 24 (S.1 0) a1 (3 : Int32)).bind fun r3 => (v_cost r2 r3 a2).bind fun r4 => some r4
set_option maxHeartbeats 4000000 in
set_option maxRecDepth 100000 in
theorem tcX3_ownCost (l : Launch) (D : va_G) (cs : CS) (ad : Nat → Nat) (b : Nat) (S : MT) (a1 : Int32) (a2 : Int32) (z : Int32) (hm : mX3_ownCost S a1 a2 = some z) : Met l yX3_ownCost (Cond.code yX3_ownCost cX3_ownCost 3 (some .int) :: gw_tbl) ({ frames := 3, cells := 0, slots := 0, locals := 66 }) (PcR D cs (WT cs ad b S) [.ref (ad b), .int a1, .int a2]) (QRi z) 0 0 NoF := by
  refine met_R rfl (Nat.le_of_ble_eq_true rfl) (fun p e s m below meth c E hP ls hl => ?_)
  obtain ⟨hx, hb, hr, hml, hown, hlk, hT, hN, hK⟩ := id E
  have hl : lv_has ls 3 [(0, .ref (ad b)), (1, .int a1), (2, .int a2)] := hl
  unfold mX3_ownCost at hm
  refine lv_aload_n hx hb dX3_ownCost_0 rfl (lv_at hl 0 rfl) ?_
  refine lv_aload_n hx hb dX3_ownCost_1 rfl (lv_at hl 0 rfl) ?_
  refine gf_X3_27 (v := .ref (ad (b + 2))) hx hb hT hown hK hP 0 rfl rfl dX3_ownCost_2 ?_
  refine lv_iload_n hx hb dX3_ownCost_5 rfl (lv_at hl 1 rfl) ?_
  refine lv_iconst (v := (0 : Int32)) hx hb dX3_ownCost_6 (by decide) ?_
  refine xV_i (As := [.int a1, .int (0 : Int32)]) (rest := [.ref (ad b)]) hx hb hml hown hT hN hK (hP.sub (ws' := WR cs ad (b + 2) (6 : Int32) (4 : Int32) 24 (S.1 0)) [2, 3] rfl) cw_X3_80 hm (fun z h => tcX7_cell l D cs ad (b + 2) (6 : Int32) (4 : Int32) 24 (S.1 0) a1 (0 : Int32) z h) ⟨rfl, rfl⟩ ⟨by decide, by decide⟩ (b := (ad (b + 2))) 0 rfl rfl rfl hl.1 rfl rfl (Nat.le_of_ble_eq_true rfl) dX3_ownCost_7 ⟨Nat.zero_le _, Nat.zero_le _⟩ (fun r1 hm => ?_)
  refine xV_a (As := [.int r1]) (rest := []) hx hb hml hown hT hN hK hP cw_X3_93 hm (fun z h => tcX3_kindNumbered l D cs ad b S r1 z h) ⟨rfl, rfl⟩ ⟨by decide, by decide⟩ (b := (ad b)) 0 rfl rfl rfl hl.1 rfl rfl (Nat.le_of_ble_eq_true rfl) dX3_ownCost_10 ⟨Nat.zero_le _, Nat.zero_le _⟩ (fun r2 hr2 hm => ?_)
  refine lv_aload_n hx hb dX3_ownCost_13 rfl (lv_at hl 0 rfl) ?_
  refine gf_X3_27 (v := .ref (ad (b + 2))) hx hb hT hown hK hP 0 rfl rfl dX3_ownCost_14 ?_
  refine lv_iload_n hx hb dX3_ownCost_17 rfl (lv_at hl 1 rfl) ?_
  refine lv_iconst (v := (3 : Int32)) hx hb dX3_ownCost_18 (by decide) ?_
  refine xV_i (As := [.int a1, .int (3 : Int32)]) (rest := [.ref (ad (2 + r2))]) hx hb hml hown hT hN hK (hP.sub (ws' := WR cs ad (b + 2) (6 : Int32) (4 : Int32) 24 (S.1 0)) [2, 3] rfl) cw_X3_80 hm (fun z h => tcX7_cell l D cs ad (b + 2) (6 : Int32) (4 : Int32) 24 (S.1 0) a1 (3 : Int32) z h) ⟨rfl, rfl⟩ ⟨by decide, by decide⟩ (b := (ad (b + 2))) 0 rfl rfl rfl hl.1 rfl rfl (Nat.le_of_ble_eq_true rfl) dX3_ownCost_19 ⟨Nat.zero_le _, Nat.zero_le _⟩ (fun r3 hm => ?_)
  refine lv_iload_n hx hb dX3_ownCost_22 rfl (lv_at hl 2 rfl) ?_
  refine xK_101 (rest := []) hx hb hml hown hT hN hK hP hr2 hm ⟨by decide, by decide⟩ hl.1 (Nat.le_of_ble_eq_true rfl) dX3_ownCost_23 ⟨Nat.zero_le _, Nat.zero_le _⟩ (fun r4 hm => ?_)
  exact x_iretR hx hb hr hlk hm dX3_ownCost_26
noncomputable def mX3_denialWins (S : MT) (a1 : Int32) : Option Int32 := (mX7_cell (6 : Int32) (4 : Int32) 24 (S.1 0) a1 (1 : Int32)).bind fun r1 => (mJ6_bitCount_0f7a4 (r1 &&& ((S.2 7) ^^^ (-1 : Int32)))).bind fun r2 => (mX7_cell (6 : Int32) (4 : Int32) 24 (S.1 0) a1 (0 : Int32)).bind fun r3 => (mX3_kindNumbered S r3).bind fun r4 => (v_losesWith r4 r2).bind fun r5 => zo r5 (some r5)
set_option maxHeartbeats 4000000 in
set_option maxRecDepth 100000 in
theorem tcX3_denialWins (l : Launch) (D : va_G) (cs : CS) (ad : Nat → Nat) (b : Nat) (S : MT) (a1 : Int32) (z : Int32) (hm : mX3_denialWins S a1 = some z) : Met l yX3_denialWins (Cond.code yX3_denialWins cX3_denialWins 3 (some .boolean) :: gw_tbl) ({ frames := 1, cells := 0, slots := 0, locals := 23 }) (PcR D cs (WT cs ad b S) [.ref (ad b), .int a1]) (QRi z) 0 0 NoF := by
  refine met_R rfl (Nat.le_of_ble_eq_true rfl) (fun p e s m below meth c E hP ls hl => ?_)
  obtain ⟨hx, hb, hr, hml, hown, hlk, hT, hN, hK⟩ := id E
  have hl : lv_has ls 3 [(0, .ref (ad b)), (1, .int a1)] := hl
  unfold mX3_denialWins at hm
  refine lv_aload_n hx hb dX3_denialWins_0 rfl (lv_at hl 0 rfl) ?_
  refine gf_X3_27 (v := .ref (ad (b + 2))) hx hb hT hown hK hP 0 rfl rfl dX3_denialWins_1 ?_
  refine lv_iload_n hx hb dX3_denialWins_4 rfl (lv_at hl 1 rfl) ?_
  refine lv_iconst (v := (1 : Int32)) hx hb dX3_denialWins_5 (by decide) ?_
  refine xV_i (As := [.int a1, .int (1 : Int32)]) (rest := []) hx hb hml hown hT hN hK (hP.sub (ws' := WR cs ad (b + 2) (6 : Int32) (4 : Int32) 24 (S.1 0)) [2, 3] rfl) cw_X3_80 hm (fun z h => tcX7_cell l D cs ad (b + 2) (6 : Int32) (4 : Int32) 24 (S.1 0) a1 (1 : Int32) z h) ⟨rfl, rfl⟩ ⟨by decide, by decide⟩ (b := (ad (b + 2))) 0 rfl rfl rfl hl.1 rfl rfl (Nat.le_of_ble_eq_true rfl) dX3_denialWins_6 ⟨Nat.zero_le _, Nat.zero_le _⟩ (fun r1 hm => ?_)
  refine lv_aload_n hx hb dX3_denialWins_9 rfl (lv_at hl 0 rfl) ?_
  refine gf_X3_43 (v := .int (S.2 7)) hx hb hT hown hK hP 0 rfl rfl dX3_denialWins_10 ?_
  refine lv_iconst (v := (-1 : Int32)) hx hb dX3_denialWins_13 (by decide) ?_
  refine lv_ixor hx hb dX3_denialWins_14 ?_
  refine lv_iand hx hb dX3_denialWins_15 ?_
  refine xS_i (As := [.int (r1 &&& ((S.2 7) ^^^ (-1 : Int32)))]) (rest := []) hx hb hml hown hT hN hK (hP.sub (ws' := []) [] rfl) cw_X3_87 hm (fun z h => tcJ6_bitCount_0f7a4 l D cs (r1 &&& ((S.2 7) ^^^ (-1 : Int32))) z h) ⟨rfl, rfl⟩ ⟨by decide, by decide⟩ hl.1 rfl rfl (Nat.le_of_ble_eq_true rfl) dX3_denialWins_16 ⟨Nat.zero_le _, Nat.zero_le _⟩ (fun r2 hm => ?_)
  refine lv_istore_n (lv' := [(2, .int r2), (0, .ref (ad b)), (1, .int a1)]) hx hb dX3_denialWins_19 rfl hl (by decide) rfl (fun ls hl => ?_)
  refine lv_aload_n hx hb dX3_denialWins_20 rfl (lv_at hl 1 rfl) ?_
  refine lv_aload_n hx hb dX3_denialWins_21 rfl (lv_at hl 1 rfl) ?_
  refine gf_X3_27 (v := .ref (ad (b + 2))) hx hb hT hown hK hP 0 rfl rfl dX3_denialWins_22 ?_
  refine lv_iload_n hx hb dX3_denialWins_25 rfl (lv_at hl 2 rfl) ?_
  refine lv_iconst (v := (0 : Int32)) hx hb dX3_denialWins_26 (by decide) ?_
  refine xV_i (As := [.int a1, .int (0 : Int32)]) (rest := [.ref (ad b)]) hx hb hml hown hT hN hK (hP.sub (ws' := WR cs ad (b + 2) (6 : Int32) (4 : Int32) 24 (S.1 0)) [2, 3] rfl) cw_X3_80 hm (fun z h => tcX7_cell l D cs ad (b + 2) (6 : Int32) (4 : Int32) 24 (S.1 0) a1 (0 : Int32) z h) ⟨rfl, rfl⟩ ⟨by decide, by decide⟩ (b := (ad (b + 2))) 0 rfl rfl rfl hl.1 rfl rfl (Nat.le_of_ble_eq_true rfl) dX3_denialWins_27 ⟨Nat.zero_le _, Nat.zero_le _⟩ (fun r3 hm => ?_)
  refine xV_a (As := [.int r3]) (rest := []) hx hb hml hown hT hN hK hP cw_X3_93 hm (fun z h => tcX3_kindNumbered l D cs ad b S r3 z h) ⟨rfl, rfl⟩ ⟨by decide, by decide⟩ (b := (ad b)) 0 rfl rfl rfl hl.1 rfl rfl (Nat.le_of_ble_eq_true rfl) dX3_denialWins_30 ⟨Nat.zero_le _, Nat.zero_le _⟩ (fun r4 hr4 hm => ?_)
  refine lv_iload_n hx hb dX3_denialWins_33 rfl (lv_at hl 0 rfl) ?_
  refine xK_104 (rest := []) hx hb hml hown hT hN hK hP hr4 hm ⟨by decide, by decide⟩ hl.1 (Nat.le_of_ble_eq_true rfl) dX3_denialWins_34 ⟨Nat.zero_le _, Nat.zero_le _⟩ (fun r5 hm => ?_)
  exact x_zretR hx hb hr hlk hm dX3_denialWins_37
noncomputable def mX3_pleadedThatLose_L4 (S : MT) : Nat → Int32 → Int32 → Option Int32 := fun n => Nat.rec (motive := fun _ => Int32 → Int32 → Option Int32) (fun _ _ => none) (fun _ rc => fun y1 y2 => (if ((S.1 0).1) ≤ y2 then some y1 else (mX10_holds (S.2 8) y2).bind fun r1 => (if r1 = 0 then nm (y2 + (1 : Int32)) fun x2 => rc y1 x2 else (mX3_denialWins S y2).bind fun r3 => (if r3 = 0 then nm (y2 + (1 : Int32)) fun x4 => rc y1 x4 else nm (y1 ||| ((1 : Int32) <<< (y2 &&& 31))) fun x5 => nm (y2 + (1 : Int32)) fun x6 => rc x5 x6)))) n
theorem mX3_pleadedThatLose_L4_s (S : MT) (n : Nat) (y1 : Int32) (y2 : Int32) : mX3_pleadedThatLose_L4 S (n + 1) y1 y2 = (if ((S.1 0).1) ≤ y2 then some y1 else (mX10_holds (S.2 8) y2).bind fun r1 => (if r1 = 0 then nm (y2 + (1 : Int32)) fun x2 => (mX3_pleadedThatLose_L4 S n) y1 x2 else (mX3_denialWins S y2).bind fun r3 => (if r3 = 0 then nm (y2 + (1 : Int32)) fun x4 => (mX3_pleadedThatLose_L4 S n) y1 x4 else nm (y1 ||| ((1 : Int32) <<< (y2 &&& 31))) fun x5 => nm (y2 + (1 : Int32)) fun x6 => (mX3_pleadedThatLose_L4 S n) x5 x6))) := rfl
noncomputable def mX3_pleadedThatLose (S : MT) : Option Int32 := mX3_pleadedThatLose_L4 S FU (0 : Int32) (0 : Int32)
set_option maxHeartbeats 4000000 in
set_option maxRecDepth 100000 in
theorem kX3_pleadedThatLose_L4 {p : Program} {l : Launch} {e : Env} {s : State} {m : MethodId} {below : List Frame} {meth : Method} {c : Code} {D : va_G} {cs : CS}  {ad : Nat → Nat} {b : Nat} {S : MT}  (E : EV p s m [.ref (ad b)].toArray meth c cX3_pleadedThatLose 3 RX3 (some .int) D cs) (hP : va_P D classes (WT cs ad b S) s.heap) (z : Int32) : ∀ (n : Nat) (y1 : Int32) (y2 : Int32), mX3_pleadedThatLose_L4 S n y1 y2 = some z → ∀ ls : Array Slot, lv_has ls 3 [(0, .ref (ad b)), (1, .int y1), (2, .int y2)] → W p l e ({ frames := 2, cells := 0, slots := 0, locals := 45 }) s m [.ref (ad b)].toArray below meth c s.heap [] 0 0 (MQ below (QRi z) [.ref (ad b)].toArray s 0 0 NoF) (F0 m 4 ls []) := by
  obtain ⟨hx, hb, hr, hml, hown, hlk, hT, hN, hK⟩ := id E
  intro n
  induction n with
  | zero =>
    intro y1 y2 hm
    exact nomatch (show (none : Option Int32) = some z from hm)
  | succ n ih =>
    intro y1 y2 hm ls hl
    rw [mX3_pleadedThatLose_L4_s] at hm
    refine lv_iload_n hx hb dX3_pleadedThatLose_4 rfl (lv_at hl 2 rfl) ?_
    refine lv_aload_n hx hb dX3_pleadedThatLose_5 rfl (lv_at hl 0 rfl) ?_
    refine gf_X3_27 (v := .ref (ad (b + 2))) hx hb hT hown hK hP 0 rfl rfl dX3_pleadedThatLose_6 ?_
    refine gf_X3_77 (v := .int ((S.1 0).1)) hx hb hT hown hK hP 2 rfl rfl dX3_pleadedThatLose_9 ?_
    refine x_icmp_ge (tgt := 46) hx hb dX3_pleadedThatLose_12 (by decide) hm (fun hm => ?_) (fun hm => ?_)
    · refine lv_iload_n hx hb dX3_pleadedThatLose_46 rfl (lv_at hl 1 rfl) ?_
      exact x_iretR hx hb hr hlk hm dX3_pleadedThatLose_47
    · refine lv_aload_n hx hb dX3_pleadedThatLose_15 rfl (lv_at hl 0 rfl) ?_
      refine gf_X3_53 (v := .int (S.2 8)) hx hb hT hown hK hP 0 rfl rfl dX3_pleadedThatLose_16 ?_
      refine lv_iload_n hx hb dX3_pleadedThatLose_19 rfl (lv_at hl 2 rfl) ?_
      refine xN_i (As := [.int (S.2 8), .int y2]) (rest := []) hx hb hml hown hT hN hK (hP.sub (ws' := []) [] rfl) cw_X3_108 hm (fun z h => tcX10_holds l D cs (S.2 8) y2 z h) ⟨rfl, rfl⟩ ⟨by decide, by decide⟩ hl.1 rfl rfl (Nat.le_of_ble_eq_true rfl) dX3_pleadedThatLose_20 ⟨Nat.zero_le _, Nat.zero_le _⟩ (fun r1 hm => ?_)
      refine x_if_eq (tgt := 40) hx hb dX3_pleadedThatLose_23 (by decide) hm (fun hm => ?_) (fun hm => ?_)
      · refine x_iinc (lv' := fun x2 => [(2, .int x2), (0, .ref (ad b)), (1, .int y1)]) hx hb dX3_pleadedThatLose_40 hl (k := 2) rfl (by decide) (v0 := (1 : Int32)) (by decide) (fun _ => rfl) hm (fun x2 ls hm hl => ?_)
        refine lv_goto (tgt := 4) hx hb dX3_pleadedThatLose_43 (by decide) ?_
        exact ih y1 x2 hm ls (lv_sub hl [1, 2, 0] rfl)
      · refine lv_aload_n hx hb dX3_pleadedThatLose_26 rfl (lv_at hl 0 rfl) ?_
        refine lv_iload_n hx hb dX3_pleadedThatLose_27 rfl (lv_at hl 2 rfl) ?_
        refine xV_i (As := [.int y2]) (rest := []) hx hb hml hown hT hN hK hP cw_X3_112 hm (fun z h => tcX3_denialWins l D cs ad b S y2 z h) ⟨rfl, rfl⟩ ⟨by decide, by decide⟩ (b := (ad b)) 0 rfl rfl rfl hl.1 rfl rfl (Nat.le_of_ble_eq_true rfl) dX3_pleadedThatLose_28 ⟨Nat.zero_le _, Nat.zero_le _⟩ (fun r3 hm => ?_)
        refine x_if_eq (tgt := 40) hx hb dX3_pleadedThatLose_31 (by decide) hm (fun hm => ?_) (fun hm => ?_)
        · refine x_iinc (lv' := fun x4 => [(2, .int x4), (0, .ref (ad b)), (1, .int y1)]) hx hb dX3_pleadedThatLose_40 hl (k := 2) rfl (by decide) (v0 := (1 : Int32)) (by decide) (fun _ => rfl) hm (fun x4 ls hm hl => ?_)
          refine lv_goto (tgt := 4) hx hb dX3_pleadedThatLose_43 (by decide) ?_
          exact ih y1 x4 hm ls (lv_sub hl [1, 2, 0] rfl)
        · refine lv_iload_n hx hb dX3_pleadedThatLose_34 rfl (lv_at hl 1 rfl) ?_
          refine lv_iconst (v := (1 : Int32)) hx hb dX3_pleadedThatLose_35 (by decide) ?_
          refine lv_iload_n hx hb dX3_pleadedThatLose_36 rfl (lv_at hl 2 rfl) ?_
          refine lv_ishl hx hb dX3_pleadedThatLose_37 ?_
          refine lv_ior hx hb dX3_pleadedThatLose_38 ?_
          refine xi_nm hm (fun x5 hm => ?_)
          refine lv_istore_n (lv' := [(1, .int x5), (0, .ref (ad b)), (2, .int y2)]) hx hb dX3_pleadedThatLose_39 rfl hl (by decide) rfl (fun ls hl => ?_)
          refine x_iinc (lv' := fun x6 => [(2, .int x6), (1, .int x5), (0, .ref (ad b))]) hx hb dX3_pleadedThatLose_40 hl (k := 2) rfl (by decide) (v0 := (1 : Int32)) (by decide) (fun _ => rfl) hm (fun x6 ls hm hl => ?_)
          refine lv_goto (tgt := 4) hx hb dX3_pleadedThatLose_43 (by decide) ?_
          exact ih x5 x6 hm ls (lv_sub hl [2, 1, 0] rfl)
set_option maxHeartbeats 4000000 in
set_option maxRecDepth 100000 in
theorem tcX3_pleadedThatLose (l : Launch) (D : va_G) (cs : CS) (ad : Nat → Nat) (b : Nat) (S : MT) (z : Int32) (hm : mX3_pleadedThatLose S = some z) : Met l yX3_pleadedThatLose (Cond.code yX3_pleadedThatLose cX3_pleadedThatLose 3 (some .int) :: gw_tbl) ({ frames := 2, cells := 0, slots := 0, locals := 45 }) (PcR D cs (WT cs ad b S) [.ref (ad b)]) (QRi z) 0 0 NoF := by
  refine met_R rfl (Nat.le_of_ble_eq_true rfl) (fun p e s m below meth c E hP ls hl => ?_)
  obtain ⟨hx, hb, hr, hml, hown, hlk, hT, hN, hK⟩ := id E
  have hl : lv_has ls 3 [(0, .ref (ad b))] := hl
  unfold mX3_pleadedThatLose at hm
  refine lv_iconst (v := (0 : Int32)) hx hb dX3_pleadedThatLose_0 (by decide) ?_
  refine lv_istore_n (lv' := [(1, .int (0 : Int32)), (0, .ref (ad b))]) hx hb dX3_pleadedThatLose_1 rfl hl (by decide) rfl (fun ls hl => ?_)
  refine lv_iconst (v := (0 : Int32)) hx hb dX3_pleadedThatLose_2 (by decide) ?_
  refine lv_istore_n (lv' := [(2, .int (0 : Int32)), (1, .int (0 : Int32)), (0, .ref (ad b))]) hx hb dX3_pleadedThatLose_3 rfl hl (by decide) rfl (fun ls hl => ?_)
  exact kX3_pleadedThatLose_L4 E hP _ FU (0 : Int32) (0 : Int32) hm ls (lv_sub hl [2, 1, 0] rfl)
noncomputable def mX3_factsWith_L7 (S : MT) : Nat → Int32 → Int32 → Int32 → Option Int32 := fun n => Nat.rec (motive := fun _ => Int32 → Int32 → Int32 → Option Int32) (fun _ _ _ => none) (fun _ rc => fun y1 y2 y3 => (if ((S.1 0).1) ≤ y3 then some y2 else (mX10_holds y1 y3).bind fun r1 => (if r1 = 0 then nm (y3 + (1 : Int32)) fun x2 => rc y1 y2 x2 else (mX7_cell (6 : Int32) (4 : Int32) 24 (S.1 0) y3 (2 : Int32)).bind fun r3 => nm (y2 ||| ((1 : Int32) <<< (r3 &&& 31))) fun x4 => nm (y3 + (1 : Int32)) fun x5 => rc y1 x4 x5))) n
theorem mX3_factsWith_L7_s (S : MT) (n : Nat) (y1 : Int32) (y2 : Int32) (y3 : Int32) : mX3_factsWith_L7 S (n + 1) y1 y2 y3 = (if ((S.1 0).1) ≤ y3 then some y2 else (mX10_holds y1 y3).bind fun r1 => (if r1 = 0 then nm (y3 + (1 : Int32)) fun x2 => (mX3_factsWith_L7 S n) y1 y2 x2 else (mX7_cell (6 : Int32) (4 : Int32) 24 (S.1 0) y3 (2 : Int32)).bind fun r3 => nm (y2 ||| ((1 : Int32) <<< (r3 &&& 31))) fun x4 => nm (y3 + (1 : Int32)) fun x5 => (mX3_factsWith_L7 S n) y1 x4 x5)) := rfl
noncomputable def mX3_factsWith (S : MT) (a1 : Int32) : Option Int32 := mX3_factsWith_L7 S FU a1 (S.2 7) (0 : Int32)
set_option maxHeartbeats 4000000 in
set_option maxRecDepth 100000 in
theorem kX3_factsWith_L7 {p : Program} {l : Launch} {e : Env} {s : State} {m : MethodId} {below : List Frame} {meth : Method} {c : Code} {D : va_G} {cs : CS}  {ad : Nat → Nat} {b : Nat} {S : MT} {a1 : Int32} (E : EV p s m [.ref (ad b), .int a1].toArray meth c cX3_factsWith 4 RX3 (some .int) D cs) (hP : va_P D classes (WT cs ad b S) s.heap) (z : Int32) : ∀ (n : Nat) (y1 : Int32) (y2 : Int32) (y3 : Int32), mX3_factsWith_L7 S n y1 y2 y3 = some z → ∀ ls : Array Slot, lv_has ls 4 [(0, .ref (ad b)), (1, .int y1), (2, .int y2), (3, .int y3)] → W p l e ({ frames := 1, cells := 0, slots := 0, locals := 23 }) s m [.ref (ad b), .int a1].toArray below meth c s.heap [] 0 0 (MQ below (QRi z) [.ref (ad b), .int a1].toArray s 0 0 NoF) (F0 m 7 ls []) := by
  obtain ⟨hx, hb, hr, hml, hown, hlk, hT, hN, hK⟩ := id E
  intro n
  induction n with
  | zero =>
    intro y1 y2 y3 hm
    exact nomatch (show (none : Option Int32) = some z from hm)
  | succ n ih =>
    intro y1 y2 y3 hm ls hl
    rw [mX3_factsWith_L7_s] at hm
    refine lv_iload_n hx hb dX3_factsWith_7 rfl (lv_at hl 3 rfl) ?_
    refine lv_aload_n hx hb dX3_factsWith_8 rfl (lv_at hl 0 rfl) ?_
    refine gf_X3_27 (v := .ref (ad (b + 2))) hx hb hT hown hK hP 0 rfl rfl dX3_factsWith_9 ?_
    refine gf_X3_77 (v := .int ((S.1 0).1)) hx hb hT hown hK hP 2 rfl rfl dX3_factsWith_12 ?_
    refine x_icmp_ge (tgt := 46) hx hb dX3_factsWith_15 (by decide) hm (fun hm => ?_) (fun hm => ?_)
    · refine lv_iload_n hx hb dX3_factsWith_46 rfl (lv_at hl 2 rfl) ?_
      exact x_iretR hx hb hr hlk hm dX3_factsWith_47
    · refine lv_iload_n hx hb dX3_factsWith_18 rfl (lv_at hl 1 rfl) ?_
      refine lv_iload_n hx hb dX3_factsWith_19 rfl (lv_at hl 3 rfl) ?_
      refine xN_i (As := [.int y1, .int y3]) (rest := []) hx hb hml hown hT hN hK (hP.sub (ws' := []) [] rfl) cw_X3_108 hm (fun z h => tcX10_holds l D cs y1 y3 z h) ⟨rfl, rfl⟩ ⟨by decide, by decide⟩ hl.1 rfl rfl (Nat.le_of_ble_eq_true rfl) dX3_factsWith_20 ⟨Nat.zero_le _, Nat.zero_le _⟩ (fun r1 hm => ?_)
      refine x_if_eq (tgt := 40) hx hb dX3_factsWith_23 (by decide) hm (fun hm => ?_) (fun hm => ?_)
      · refine x_iinc (lv' := fun x2 => [(3, .int x2), (0, .ref (ad b)), (1, .int y1), (2, .int y2)]) hx hb dX3_factsWith_40 hl (k := 3) rfl (by decide) (v0 := (1 : Int32)) (by decide) (fun _ => rfl) hm (fun x2 ls hm hl => ?_)
        refine lv_goto (tgt := 7) hx hb dX3_factsWith_43 (by decide) ?_
        exact ih y1 y2 x2 hm ls (lv_sub hl [1, 2, 3, 0] rfl)
      · refine lv_iload_n hx hb dX3_factsWith_26 rfl (lv_at hl 2 rfl) ?_
        refine lv_iconst (v := (1 : Int32)) hx hb dX3_factsWith_27 (by decide) ?_
        refine lv_aload_n hx hb dX3_factsWith_28 rfl (lv_at hl 0 rfl) ?_
        refine gf_X3_27 (v := .ref (ad (b + 2))) hx hb hT hown hK hP 0 rfl rfl dX3_factsWith_29 ?_
        refine lv_iload_n hx hb dX3_factsWith_32 rfl (lv_at hl 3 rfl) ?_
        refine lv_iconst (v := (2 : Int32)) hx hb dX3_factsWith_33 (by decide) ?_
        refine xV_i (As := [.int y3, .int (2 : Int32)]) (rest := [.int (1 : Int32), .int y2]) hx hb hml hown hT hN hK (hP.sub (ws' := WR cs ad (b + 2) (6 : Int32) (4 : Int32) 24 (S.1 0)) [2, 3] rfl) cw_X3_80 hm (fun z h => tcX7_cell l D cs ad (b + 2) (6 : Int32) (4 : Int32) 24 (S.1 0) y3 (2 : Int32) z h) ⟨rfl, rfl⟩ ⟨by decide, by decide⟩ (b := (ad (b + 2))) 0 rfl rfl rfl hl.1 rfl rfl (Nat.le_of_ble_eq_true rfl) dX3_factsWith_34 ⟨Nat.zero_le _, Nat.zero_le _⟩ (fun r3 hm => ?_)
        refine lv_ishl hx hb dX3_factsWith_37 ?_
        refine lv_ior hx hb dX3_factsWith_38 ?_
        refine xi_nm hm (fun x4 hm => ?_)
        refine lv_istore_n (lv' := [(2, .int x4), (0, .ref (ad b)), (1, .int y1), (3, .int y3)]) hx hb dX3_factsWith_39 rfl hl (by decide) rfl (fun ls hl => ?_)
        refine x_iinc (lv' := fun x5 => [(3, .int x5), (2, .int x4), (0, .ref (ad b)), (1, .int y1)]) hx hb dX3_factsWith_40 hl (k := 3) rfl (by decide) (v0 := (1 : Int32)) (by decide) (fun _ => rfl) hm (fun x5 ls hm hl => ?_)
        refine lv_goto (tgt := 7) hx hb dX3_factsWith_43 (by decide) ?_
        exact ih y1 x4 x5 hm ls (lv_sub hl [2, 3, 1, 0] rfl)
set_option maxHeartbeats 4000000 in
set_option maxRecDepth 100000 in
theorem tcX3_factsWith (l : Launch) (D : va_G) (cs : CS) (ad : Nat → Nat) (b : Nat) (S : MT) (a1 : Int32) (z : Int32) (hm : mX3_factsWith S a1 = some z) : Met l yX3_factsWith (Cond.code yX3_factsWith cX3_factsWith 4 (some .int) :: gw_tbl) ({ frames := 1, cells := 0, slots := 0, locals := 23 }) (PcR D cs (WT cs ad b S) [.ref (ad b), .int a1]) (QRi z) 0 0 NoF := by
  refine met_R rfl (Nat.le_of_ble_eq_true rfl) (fun p e s m below meth c E hP ls hl => ?_)
  obtain ⟨hx, hb, hr, hml, hown, hlk, hT, hN, hK⟩ := id E
  have hl : lv_has ls 4 [(0, .ref (ad b)), (1, .int a1)] := hl
  unfold mX3_factsWith at hm
  refine lv_aload_n hx hb dX3_factsWith_0 rfl (lv_at hl 0 rfl) ?_
  refine gf_X3_43 (v := .int (S.2 7)) hx hb hT hown hK hP 0 rfl rfl dX3_factsWith_1 ?_
  refine lv_istore_n (lv' := [(2, .int (S.2 7)), (0, .ref (ad b)), (1, .int a1)]) hx hb dX3_factsWith_4 rfl hl (by decide) rfl (fun ls hl => ?_)
  refine lv_iconst (v := (0 : Int32)) hx hb dX3_factsWith_5 (by decide) ?_
  refine lv_istore_n (lv' := [(3, .int (0 : Int32)), (2, .int (S.2 7)), (0, .ref (ad b)), (1, .int a1)]) hx hb dX3_factsWith_6 rfl hl (by decide) rfl (fun ls hl => ?_)
  exact kX3_factsWith_L7 E hP _ FU a1 (S.2 7) (0 : Int32) hm ls (lv_sub hl [2, 3, 1, 0] rfl)
noncomputable def mX3_courtHears (S : MT) (a1 : Int32) (a2 : Int32) : Option Int32 := (mX7_cell (4 : Int32) (2 : Int32) 8 (S.1 1) a1 (0 : Int32)).bind fun r1 => (if (r1 &&& (a2 ^^^ (-1 : Int32))) = 0 then zo (1 : Int32) (some (1 : Int32)) else zo (0 : Int32) (some (0 : Int32)))
set_option maxHeartbeats 4000000 in
set_option maxRecDepth 100000 in
theorem tcX3_courtHears (l : Launch) (D : va_G) (cs : CS) (ad : Nat → Nat) (b : Nat) (S : MT) (a1 : Int32) (a2 : Int32) (z : Int32) (hm : mX3_courtHears S a1 a2 = some z) : Met l yX3_courtHears (Cond.code yX3_courtHears cX3_courtHears 3 (some .boolean) :: gw_tbl) ({ frames := 1, cells := 0, slots := 0, locals := 23 }) (PcR D cs (WT cs ad b S) [.ref (ad b), .int a1, .int a2]) (QRi z) 0 0 NoF := by
  refine met_R rfl (Nat.le_of_ble_eq_true rfl) (fun p e s m below meth c E hP ls hl => ?_)
  obtain ⟨hx, hb, hr, hml, hown, hlk, hT, hN, hK⟩ := id E
  have hl : lv_has ls 3 [(0, .ref (ad b)), (1, .int a1), (2, .int a2)] := hl
  unfold mX3_courtHears at hm
  refine lv_aload_n hx hb dX3_courtHears_0 rfl (lv_at hl 0 rfl) ?_
  refine gf_X3_31 (v := .ref (ad (b + 4))) hx hb hT hown hK hP 0 rfl rfl dX3_courtHears_1 ?_
  refine lv_iload_n hx hb dX3_courtHears_4 rfl (lv_at hl 1 rfl) ?_
  refine lv_iconst (v := (0 : Int32)) hx hb dX3_courtHears_5 (by decide) ?_
  refine xV_i (As := [.int a1, .int (0 : Int32)]) (rest := []) hx hb hml hown hT hN hK (hP.sub (ws' := WR cs ad (b + 4) (4 : Int32) (2 : Int32) 8 (S.1 1)) [4, 5] rfl) cw_X3_80 hm (fun z h => tcX7_cell l D cs ad (b + 4) (4 : Int32) (2 : Int32) 8 (S.1 1) a1 (0 : Int32) z h) ⟨rfl, rfl⟩ ⟨by decide, by decide⟩ (b := (ad (b + 4))) 0 rfl rfl rfl hl.1 rfl rfl (Nat.le_of_ble_eq_true rfl) dX3_courtHears_6 ⟨Nat.zero_le _, Nat.zero_le _⟩ (fun r1 hm => ?_)
  refine lv_iload_n hx hb dX3_courtHears_9 rfl (lv_at hl 2 rfl) ?_
  refine lv_iconst (v := (-1 : Int32)) hx hb dX3_courtHears_10 (by decide) ?_
  refine lv_ixor hx hb dX3_courtHears_11 ?_
  refine lv_iand hx hb dX3_courtHears_12 ?_
  refine x_if_ne (tgt := 20) hx hb dX3_courtHears_13 (by decide) hm (fun hm => ?_) (fun hm => ?_)
  · refine lv_iconst (v := (0 : Int32)) hx hb dX3_courtHears_20 (by decide) ?_
    exact x_zretR hx hb hr hlk hm dX3_courtHears_21
  · refine lv_iconst (v := (1 : Int32)) hx hb dX3_courtHears_16 (by decide) ?_
    refine lv_goto (tgt := 21) hx hb dX3_courtHears_17 (by decide) ?_
    exact x_zretR hx hb hr hlk hm dX3_courtHears_21
noncomputable def mX3_hearing_L4 (S : MT) : Nat → Int32 → Int32 → Int32 → Option Int32 := fun n => Nat.rec (motive := fun _ => Int32 → Int32 → Int32 → Option Int32) (fun _ _ _ => none) (fun _ rc => fun y1 y2 y3 => (if ((S.1 1).1) ≤ y3 then some y2 else (mX3_courtHears S y3 y1).bind fun r1 => (if r1 = 0 then nm (y3 + (1 : Int32)) fun x2 => rc y1 y2 x2 else nm (y2 ||| ((1 : Int32) <<< (y3 &&& 31))) fun x3 => nm (y3 + (1 : Int32)) fun x4 => rc y1 x3 x4))) n
theorem mX3_hearing_L4_s (S : MT) (n : Nat) (y1 : Int32) (y2 : Int32) (y3 : Int32) : mX3_hearing_L4 S (n + 1) y1 y2 y3 = (if ((S.1 1).1) ≤ y3 then some y2 else (mX3_courtHears S y3 y1).bind fun r1 => (if r1 = 0 then nm (y3 + (1 : Int32)) fun x2 => (mX3_hearing_L4 S n) y1 y2 x2 else nm (y2 ||| ((1 : Int32) <<< (y3 &&& 31))) fun x3 => nm (y3 + (1 : Int32)) fun x4 => (mX3_hearing_L4 S n) y1 x3 x4)) := rfl
noncomputable def mX3_hearing (S : MT) (a1 : Int32) : Option Int32 := mX3_hearing_L4 S FU a1 (0 : Int32) (0 : Int32)
set_option maxHeartbeats 4000000 in
set_option maxRecDepth 100000 in
theorem kX3_hearing_L4 {p : Program} {l : Launch} {e : Env} {s : State} {m : MethodId} {below : List Frame} {meth : Method} {c : Code} {D : va_G} {cs : CS}  {ad : Nat → Nat} {b : Nat} {S : MT} {a1 : Int32} (E : EV p s m [.ref (ad b), .int a1].toArray meth c cX3_hearing 4 RX3 (some .int) D cs) (hP : va_P D classes (WT cs ad b S) s.heap) (z : Int32) : ∀ (n : Nat) (y1 : Int32) (y2 : Int32) (y3 : Int32), mX3_hearing_L4 S n y1 y2 y3 = some z → ∀ ls : Array Slot, lv_has ls 4 [(0, .ref (ad b)), (1, .int y1), (2, .int y2), (3, .int y3)] → W p l e ({ frames := 2, cells := 0, slots := 0, locals := 45 }) s m [.ref (ad b), .int a1].toArray below meth c s.heap [] 0 0 (MQ below (QRi z) [.ref (ad b), .int a1].toArray s 0 0 NoF) (F0 m 4 ls []) := by
  obtain ⟨hx, hb, hr, hml, hown, hlk, hT, hN, hK⟩ := id E
  intro n
  induction n with
  | zero =>
    intro y1 y2 y3 hm
    exact nomatch (show (none : Option Int32) = some z from hm)
  | succ n ih =>
    intro y1 y2 y3 hm ls hl
    rw [mX3_hearing_L4_s] at hm
    refine lv_iload_n hx hb dX3_hearing_4 rfl (lv_at hl 3 rfl) ?_
    refine lv_aload_n hx hb dX3_hearing_5 rfl (lv_at hl 0 rfl) ?_
    refine gf_X3_31 (v := .ref (ad (b + 4))) hx hb hT hown hK hP 0 rfl rfl dX3_hearing_6 ?_
    refine gf_X3_77 (v := .int ((S.1 1).1)) hx hb hT hown hK hP 4 rfl rfl dX3_hearing_9 ?_
    refine x_icmp_ge (tgt := 36) hx hb dX3_hearing_12 (by decide) hm (fun hm => ?_) (fun hm => ?_)
    · refine lv_iload_n hx hb dX3_hearing_36 rfl (lv_at hl 2 rfl) ?_
      exact x_iretR hx hb hr hlk hm dX3_hearing_37
    · refine lv_aload_n hx hb dX3_hearing_15 rfl (lv_at hl 0 rfl) ?_
      refine lv_iload_n hx hb dX3_hearing_16 rfl (lv_at hl 3 rfl) ?_
      refine lv_iload_n hx hb dX3_hearing_17 rfl (lv_at hl 1 rfl) ?_
      refine xV_i (As := [.int y3, .int y1]) (rest := []) hx hb hml hown hT hN hK hP cw_X3_115 hm (fun z h => tcX3_courtHears l D cs ad b S y3 y1 z h) ⟨rfl, rfl⟩ ⟨by decide, by decide⟩ (b := (ad b)) 0 rfl rfl rfl hl.1 rfl rfl (Nat.le_of_ble_eq_true rfl) dX3_hearing_18 ⟨Nat.zero_le _, Nat.zero_le _⟩ (fun r1 hm => ?_)
      refine x_if_eq (tgt := 30) hx hb dX3_hearing_21 (by decide) hm (fun hm => ?_) (fun hm => ?_)
      · refine x_iinc (lv' := fun x2 => [(3, .int x2), (0, .ref (ad b)), (1, .int y1), (2, .int y2)]) hx hb dX3_hearing_30 hl (k := 3) rfl (by decide) (v0 := (1 : Int32)) (by decide) (fun _ => rfl) hm (fun x2 ls hm hl => ?_)
        refine lv_goto (tgt := 4) hx hb dX3_hearing_33 (by decide) ?_
        exact ih y1 y2 x2 hm ls (lv_sub hl [1, 2, 3, 0] rfl)
      · refine lv_iload_n hx hb dX3_hearing_24 rfl (lv_at hl 2 rfl) ?_
        refine lv_iconst (v := (1 : Int32)) hx hb dX3_hearing_25 (by decide) ?_
        refine lv_iload_n hx hb dX3_hearing_26 rfl (lv_at hl 3 rfl) ?_
        refine lv_ishl hx hb dX3_hearing_27 ?_
        refine lv_ior hx hb dX3_hearing_28 ?_
        refine xi_nm hm (fun x3 hm => ?_)
        refine lv_istore_n (lv' := [(2, .int x3), (0, .ref (ad b)), (1, .int y1), (3, .int y3)]) hx hb dX3_hearing_29 rfl hl (by decide) rfl (fun ls hl => ?_)
        refine x_iinc (lv' := fun x4 => [(3, .int x4), (2, .int x3), (0, .ref (ad b)), (1, .int y1)]) hx hb dX3_hearing_30 hl (k := 3) rfl (by decide) (v0 := (1 : Int32)) (by decide) (fun _ => rfl) hm (fun x4 ls hm hl => ?_)
        refine lv_goto (tgt := 4) hx hb dX3_hearing_33 (by decide) ?_
        exact ih y1 x3 x4 hm ls (lv_sub hl [2, 3, 1, 0] rfl)
set_option maxHeartbeats 4000000 in
set_option maxRecDepth 100000 in
theorem tcX3_hearing (l : Launch) (D : va_G) (cs : CS) (ad : Nat → Nat) (b : Nat) (S : MT) (a1 : Int32) (z : Int32) (hm : mX3_hearing S a1 = some z) : Met l yX3_hearing (Cond.code yX3_hearing cX3_hearing 4 (some .int) :: gw_tbl) ({ frames := 2, cells := 0, slots := 0, locals := 45 }) (PcR D cs (WT cs ad b S) [.ref (ad b), .int a1]) (QRi z) 0 0 NoF := by
  refine met_R rfl (Nat.le_of_ble_eq_true rfl) (fun p e s m below meth c E hP ls hl => ?_)
  obtain ⟨hx, hb, hr, hml, hown, hlk, hT, hN, hK⟩ := id E
  have hl : lv_has ls 4 [(0, .ref (ad b)), (1, .int a1)] := hl
  unfold mX3_hearing at hm
  refine lv_iconst (v := (0 : Int32)) hx hb dX3_hearing_0 (by decide) ?_
  refine lv_istore_n (lv' := [(2, .int (0 : Int32)), (0, .ref (ad b)), (1, .int a1)]) hx hb dX3_hearing_1 rfl hl (by decide) rfl (fun ls hl => ?_)
  refine lv_iconst (v := (0 : Int32)) hx hb dX3_hearing_2 (by decide) ?_
  refine lv_istore_n (lv' := [(3, .int (0 : Int32)), (2, .int (0 : Int32)), (0, .ref (ad b)), (1, .int a1)]) hx hb dX3_hearing_3 rfl hl (by decide) rfl (fun ls hl => ?_)
  exact kX3_hearing_L4 E hP _ FU a1 (0 : Int32) (0 : Int32) hm ls (lv_sub hl [2, 3, 1, 0] rfl)
noncomputable def mX3_afterTerm (S : MT) (a1 : Int32) (a2 : Int32) (a3 : Int32) : Option Int32 := (if a1 < 0 then some a2 else (if a1 < ((S.1 0).1) then (mX10_holds a2 a1).bind fun r1 => (if r1 = 0 then (mX3_factsWith S a2).bind fun r2 => (mX3_allowed S a1 r2 a3).bind fun r3 => (if r3 = 0 then some a2 else some (a2 ||| ((1 : Int32) <<< (a1 &&& 31)))) else (mX3_denialWins S a1).bind fun r4 => (if r4 = 0 then some a2 else some (a2 &&& (((1 : Int32) <<< (a1 &&& 31)) ^^^ (-1 : Int32))))) else some a2))
set_option maxHeartbeats 4000000 in
set_option maxRecDepth 100000 in
theorem tcX3_afterTerm (l : Launch) (D : va_G) (cs : CS) (ad : Nat → Nat) (b : Nat) (S : MT) (a1 : Int32) (a2 : Int32) (a3 : Int32) (z : Int32) (hm : mX3_afterTerm S a1 a2 a3 = some z) : Met l yX3_afterTerm (Cond.code yX3_afterTerm cX3_afterTerm 4 (some .int) :: gw_tbl) ({ frames := 3, cells := 0, slots := 0, locals := 72 }) (PcR D cs (WT cs ad b S) [.ref (ad b), .int a1, .int a2, .int a3]) (QRi z) 0 0 NoF := by
  refine met_R rfl (Nat.le_of_ble_eq_true rfl) (fun p e s m below meth c E hP ls hl => ?_)
  obtain ⟨hx, hb, hr, hml, hown, hlk, hT, hN, hK⟩ := id E
  have hl : lv_has ls 4 [(0, .ref (ad b)), (1, .int a1), (2, .int a2), (3, .int a3)] := hl
  unfold mX3_afterTerm at hm
  refine lv_iload_n hx hb dX3_afterTerm_0 rfl (lv_at hl 1 rfl) ?_
  refine x_if_lt (tgt := 15) hx hb dX3_afterTerm_1 (by decide) hm (fun hm => ?_) (fun hm => ?_)
  · refine lv_iload_n hx hb dX3_afterTerm_15 rfl (lv_at hl 2 rfl) ?_
    exact x_iretR hx hb hr hlk hm dX3_afterTerm_16
  · refine lv_iload_n hx hb dX3_afterTerm_4 rfl (lv_at hl 1 rfl) ?_
    refine lv_aload_n hx hb dX3_afterTerm_5 rfl (lv_at hl 0 rfl) ?_
    refine gf_X3_27 (v := .ref (ad (b + 2))) hx hb hT hown hK hP 0 rfl rfl dX3_afterTerm_6 ?_
    refine gf_X3_77 (v := .int ((S.1 0).1)) hx hb hT hown hK hP 2 rfl rfl dX3_afterTerm_9 ?_
    refine x_icmp_lt (tgt := 17) hx hb dX3_afterTerm_12 (by decide) hm (fun hm => ?_) (fun hm => ?_)
    · refine lv_iload_n hx hb dX3_afterTerm_17 rfl (lv_at hl 2 rfl) ?_
      refine lv_iload_n hx hb dX3_afterTerm_18 rfl (lv_at hl 1 rfl) ?_
      refine xN_i (As := [.int a2, .int a1]) (rest := []) hx hb hml hown hT hN hK (hP.sub (ws' := []) [] rfl) cw_X3_108 hm (fun z h => tcX10_holds l D cs a2 a1 z h) ⟨rfl, rfl⟩ ⟨by decide, by decide⟩ hl.1 rfl rfl (Nat.le_of_ble_eq_true rfl) dX3_afterTerm_19 ⟨Nat.zero_le _, Nat.zero_le _⟩ (fun r1 hm => ?_)
      refine x_if_eq (tgt := 45) hx hb dX3_afterTerm_22 (by decide) hm (fun hm => ?_) (fun hm => ?_)
      · refine lv_aload_n hx hb dX3_afterTerm_45 rfl (lv_at hl 0 rfl) ?_
        refine lv_iload_n hx hb dX3_afterTerm_46 rfl (lv_at hl 1 rfl) ?_
        refine lv_aload_n hx hb dX3_afterTerm_47 rfl (lv_at hl 0 rfl) ?_
        refine lv_iload_n hx hb dX3_afterTerm_48 rfl (lv_at hl 2 rfl) ?_
        refine xV_i (As := [.int a2]) (rest := [.int a1, .ref (ad b)]) hx hb hml hown hT hN hK hP cw_X3_118 hm (fun z h => tcX3_factsWith l D cs ad b S a2 z h) ⟨rfl, rfl⟩ ⟨by decide, by decide⟩ (b := (ad b)) 0 rfl rfl rfl hl.1 rfl rfl (Nat.le_of_ble_eq_true rfl) dX3_afterTerm_49 ⟨Nat.zero_le _, Nat.zero_le _⟩ (fun r2 hm => ?_)
        refine lv_iload_n hx hb dX3_afterTerm_52 rfl (lv_at hl 3 rfl) ?_
        refine xV_i (As := [.int a1, .int r2, .int a3]) (rest := []) hx hb hml hown hT hN hK hP cw_X3_121 hm (fun z h => tcX3_allowed l D cs ad b S a1 r2 a3 z h) ⟨rfl, rfl⟩ ⟨by decide, by decide⟩ (b := (ad b)) 0 rfl rfl rfl hl.1 rfl rfl (Nat.le_of_ble_eq_true rfl) dX3_afterTerm_53 ⟨Nat.zero_le _, Nat.zero_le _⟩ (fun r3 hm => ?_)
        refine x_if_eq (tgt := 67) hx hb dX3_afterTerm_56 (by decide) hm (fun hm => ?_) (fun hm => ?_)
        · refine lv_iload_n hx hb dX3_afterTerm_67 rfl (lv_at hl 2 rfl) ?_
          exact x_iretR hx hb hr hlk hm dX3_afterTerm_68
        · refine lv_iload_n hx hb dX3_afterTerm_59 rfl (lv_at hl 2 rfl) ?_
          refine lv_iconst (v := (1 : Int32)) hx hb dX3_afterTerm_60 (by decide) ?_
          refine lv_iload_n hx hb dX3_afterTerm_61 rfl (lv_at hl 1 rfl) ?_
          refine lv_ishl hx hb dX3_afterTerm_62 ?_
          refine lv_ior hx hb dX3_afterTerm_63 ?_
          refine lv_goto (tgt := 68) hx hb dX3_afterTerm_64 (by decide) ?_
          exact x_iretR hx hb hr hlk hm dX3_afterTerm_68
      · refine lv_aload_n hx hb dX3_afterTerm_25 rfl (lv_at hl 0 rfl) ?_
        refine lv_iload_n hx hb dX3_afterTerm_26 rfl (lv_at hl 1 rfl) ?_
        refine xV_i (As := [.int a1]) (rest := []) hx hb hml hown hT hN hK hP cw_X3_112 hm (fun z h => tcX3_denialWins l D cs ad b S a1 z h) ⟨rfl, rfl⟩ ⟨by decide, by decide⟩ (b := (ad b)) 0 rfl rfl rfl hl.1 rfl rfl (Nat.le_of_ble_eq_true rfl) dX3_afterTerm_27 ⟨Nat.zero_le _, Nat.zero_le _⟩ (fun r4 hm => ?_)
        refine x_if_eq (tgt := 43) hx hb dX3_afterTerm_30 (by decide) hm (fun hm => ?_) (fun hm => ?_)
        · refine lv_iload_n hx hb dX3_afterTerm_43 rfl (lv_at hl 2 rfl) ?_
          exact x_iretR hx hb hr hlk hm dX3_afterTerm_44
        · refine lv_iload_n hx hb dX3_afterTerm_33 rfl (lv_at hl 2 rfl) ?_
          refine lv_iconst (v := (1 : Int32)) hx hb dX3_afterTerm_34 (by decide) ?_
          refine lv_iload_n hx hb dX3_afterTerm_35 rfl (lv_at hl 1 rfl) ?_
          refine lv_ishl hx hb dX3_afterTerm_36 ?_
          refine lv_iconst (v := (-1 : Int32)) hx hb dX3_afterTerm_37 (by decide) ?_
          refine lv_ixor hx hb dX3_afterTerm_38 ?_
          refine lv_iand hx hb dX3_afterTerm_39 ?_
          refine lv_goto (tgt := 44) hx hb dX3_afterTerm_40 (by decide) ?_
          exact x_iretR hx hb hr hlk hm dX3_afterTerm_44
    · refine lv_iload_n hx hb dX3_afterTerm_15 rfl (lv_at hl 2 rfl) ?_
      exact x_iretR hx hb hr hlk hm dX3_afterTerm_16
noncomputable def mX3_costAs (S : MT) (a1 : Int32) (a2 : Int32) (a3 : Int32) : Option Int32 := (mX3_kindNumbered S a2).bind fun r1 => (mX7_cell (6 : Int32) (4 : Int32) 24 (S.1 0) a1 (3 : Int32)).bind fun r2 => (v_cost r1 r2 a3).bind fun r3 => some r3
set_option maxHeartbeats 4000000 in
set_option maxRecDepth 100000 in
theorem tcX3_costAs (l : Launch) (D : va_G) (cs : CS) (ad : Nat → Nat) (b : Nat) (S : MT) (a1 : Int32) (a2 : Int32) (a3 : Int32) (z : Int32) (hm : mX3_costAs S a1 a2 a3 = some z) : Met l yX3_costAs (Cond.code yX3_costAs cX3_costAs 4 (some .int) :: gw_tbl) ({ frames := 3, cells := 0, slots := 0, locals := 66 }) (PcR D cs (WT cs ad b S) [.ref (ad b), .int a1, .int a2, .int a3]) (QRi z) 0 0 NoF := by
  refine met_R rfl (Nat.le_of_ble_eq_true rfl) (fun p e s m below meth c E hP ls hl => ?_)
  obtain ⟨hx, hb, hr, hml, hown, hlk, hT, hN, hK⟩ := id E
  have hl : lv_has ls 4 [(0, .ref (ad b)), (1, .int a1), (2, .int a2), (3, .int a3)] := hl
  unfold mX3_costAs at hm
  refine lv_aload_n hx hb dX3_costAs_0 rfl (lv_at hl 0 rfl) ?_
  refine lv_iload_n hx hb dX3_costAs_1 rfl (lv_at hl 2 rfl) ?_
  refine xV_a (As := [.int a2]) (rest := []) hx hb hml hown hT hN hK hP cw_X3_93 hm (fun z h => tcX3_kindNumbered l D cs ad b S a2 z h) ⟨rfl, rfl⟩ ⟨by decide, by decide⟩ (b := (ad b)) 0 rfl rfl rfl hl.1 rfl rfl (Nat.le_of_ble_eq_true rfl) dX3_costAs_2 ⟨Nat.zero_le _, Nat.zero_le _⟩ (fun r1 hr1 hm => ?_)
  refine lv_aload_n hx hb dX3_costAs_5 rfl (lv_at hl 0 rfl) ?_
  refine gf_X3_27 (v := .ref (ad (b + 2))) hx hb hT hown hK hP 0 rfl rfl dX3_costAs_6 ?_
  refine lv_iload_n hx hb dX3_costAs_9 rfl (lv_at hl 1 rfl) ?_
  refine lv_iconst (v := (3 : Int32)) hx hb dX3_costAs_10 (by decide) ?_
  refine xV_i (As := [.int a1, .int (3 : Int32)]) (rest := [.ref (ad (2 + r1))]) hx hb hml hown hT hN hK (hP.sub (ws' := WR cs ad (b + 2) (6 : Int32) (4 : Int32) 24 (S.1 0)) [2, 3] rfl) cw_X3_80 hm (fun z h => tcX7_cell l D cs ad (b + 2) (6 : Int32) (4 : Int32) 24 (S.1 0) a1 (3 : Int32) z h) ⟨rfl, rfl⟩ ⟨by decide, by decide⟩ (b := (ad (b + 2))) 0 rfl rfl rfl hl.1 rfl rfl (Nat.le_of_ble_eq_true rfl) dX3_costAs_11 ⟨Nat.zero_le _, Nat.zero_le _⟩ (fun r2 hm => ?_)
  refine lv_iload_n hx hb dX3_costAs_14 rfl (lv_at hl 3 rfl) ?_
  refine xK_101 (rest := []) hx hb hml hown hT hN hK hP hr1 hm ⟨by decide, by decide⟩ hl.1 (Nat.le_of_ble_eq_true rfl) dX3_costAs_15 ⟨Nat.zero_le _, Nat.zero_le _⟩ (fun r3 hm => ?_)
  exact x_iretR hx hb hr hlk hm dX3_costAs_18
noncomputable def mX3_fitsNotes_L2 (S : MT) : Nat → Int32 → Int32 → Int32 → Option Int32 := fun n => Nat.rec (motive := fun _ => Int32 → Int32 → Int32 → Option Int32) (fun _ _ _ => none) (fun _ rc => fun y1 y2 y3 => (if ((S.1 2).1) ≤ y3 then zo (1 : Int32) (some (1 : Int32)) else (mX7_cell (6 : Int32) (3 : Int32) 18 (S.1 2) y3 (0 : Int32)).bind fun r1 => (if r1 = y1 then (mX7_cell (6 : Int32) (3 : Int32) 18 (S.1 2) y3 (1 : Int32)).bind fun r3 => (mX3_costAs S y1 y2 r3).bind fun r4 => (mX7_cell (6 : Int32) (3 : Int32) 18 (S.1 2) y3 (2 : Int32)).bind fun r5 => (if r4 = r5 then nm (y3 + (1 : Int32)) fun x6 => rc y1 y2 x6 else zo (0 : Int32) (some (0 : Int32))) else nm (y3 + (1 : Int32)) fun x2 => rc y1 y2 x2))) n
theorem mX3_fitsNotes_L2_s (S : MT) (n : Nat) (y1 : Int32) (y2 : Int32) (y3 : Int32) : mX3_fitsNotes_L2 S (n + 1) y1 y2 y3 = (if ((S.1 2).1) ≤ y3 then zo (1 : Int32) (some (1 : Int32)) else (mX7_cell (6 : Int32) (3 : Int32) 18 (S.1 2) y3 (0 : Int32)).bind fun r1 => (if r1 = y1 then (mX7_cell (6 : Int32) (3 : Int32) 18 (S.1 2) y3 (1 : Int32)).bind fun r3 => (mX3_costAs S y1 y2 r3).bind fun r4 => (mX7_cell (6 : Int32) (3 : Int32) 18 (S.1 2) y3 (2 : Int32)).bind fun r5 => (if r4 = r5 then nm (y3 + (1 : Int32)) fun x6 => (mX3_fitsNotes_L2 S n) y1 y2 x6 else zo (0 : Int32) (some (0 : Int32))) else nm (y3 + (1 : Int32)) fun x2 => (mX3_fitsNotes_L2 S n) y1 y2 x2)) := rfl
noncomputable def mX3_fitsNotes (S : MT) (a1 : Int32) (a2 : Int32) : Option Int32 := mX3_fitsNotes_L2 S FU a1 a2 (0 : Int32)
set_option maxHeartbeats 4000000 in
set_option maxRecDepth 100000 in
theorem kX3_fitsNotes_L2 {p : Program} {l : Launch} {e : Env} {s : State} {m : MethodId} {below : List Frame} {meth : Method} {c : Code} {D : va_G} {cs : CS}  {ad : Nat → Nat} {b : Nat} {S : MT} {a1 : Int32} {a2 : Int32} (E : EV p s m [.ref (ad b), .int a1, .int a2].toArray meth c cX3_fitsNotes 4 RX3 (some .boolean) D cs) (hP : va_P D classes (WT cs ad b S) s.heap) (z : Int32) : ∀ (n : Nat) (y1 : Int32) (y2 : Int32) (y3 : Int32), mX3_fitsNotes_L2 S n y1 y2 y3 = some z → ∀ ls : Array Slot, lv_has ls 4 [(0, .ref (ad b)), (1, .int y1), (2, .int y2), (3, .int y3)] → W p l e ({ frames := 4, cells := 0, slots := 0, locals := 89 }) s m [.ref (ad b), .int a1, .int a2].toArray below meth c s.heap [] 0 0 (MQ below (QRi z) [.ref (ad b), .int a1, .int a2].toArray s 0 0 NoF) (F0 m 2 ls []) := by
  obtain ⟨hx, hb, hr, hml, hown, hlk, hT, hN, hK⟩ := id E
  intro n
  induction n with
  | zero =>
    intro y1 y2 y3 hm
    exact nomatch (show (none : Option Int32) = some z from hm)
  | succ n ih =>
    intro y1 y2 y3 hm ls hl
    rw [mX3_fitsNotes_L2_s] at hm
    refine lv_iload_n hx hb dX3_fitsNotes_2 rfl (lv_at hl 3 rfl) ?_
    refine lv_aload_n hx hb dX3_fitsNotes_3 rfl (lv_at hl 0 rfl) ?_
    refine gf_X3_34 (v := .ref (ad (b + 6))) hx hb hT hown hK hP 0 rfl rfl dX3_fitsNotes_4 ?_
    refine gf_X3_77 (v := .int ((S.1 2).1)) hx hb hT hown hK hP 6 rfl rfl dX3_fitsNotes_7 ?_
    refine x_icmp_ge (tgt := 61) hx hb dX3_fitsNotes_10 (by decide) hm (fun hm => ?_) (fun hm => ?_)
    · refine lv_iconst (v := (1 : Int32)) hx hb dX3_fitsNotes_61 (by decide) ?_
      exact x_zretR hx hb hr hlk hm dX3_fitsNotes_62
    · refine lv_aload_n hx hb dX3_fitsNotes_13 rfl (lv_at hl 0 rfl) ?_
      refine gf_X3_34 (v := .ref (ad (b + 6))) hx hb hT hown hK hP 0 rfl rfl dX3_fitsNotes_14 ?_
      refine lv_iload_n hx hb dX3_fitsNotes_17 rfl (lv_at hl 3 rfl) ?_
      refine lv_iconst (v := (0 : Int32)) hx hb dX3_fitsNotes_18 (by decide) ?_
      refine xV_i (As := [.int y3, .int (0 : Int32)]) (rest := []) hx hb hml hown hT hN hK (hP.sub (ws' := WR cs ad (b + 6) (6 : Int32) (3 : Int32) 18 (S.1 2)) [6, 7] rfl) cw_X3_80 hm (fun z h => tcX7_cell l D cs ad (b + 6) (6 : Int32) (3 : Int32) 18 (S.1 2) y3 (0 : Int32) z h) ⟨rfl, rfl⟩ ⟨by decide, by decide⟩ (b := (ad (b + 6))) 0 rfl rfl rfl hl.1 rfl rfl (Nat.le_of_ble_eq_true rfl) dX3_fitsNotes_19 ⟨Nat.zero_le _, Nat.zero_le _⟩ (fun r1 hm => ?_)
      refine lv_iload_n hx hb dX3_fitsNotes_22 rfl (lv_at hl 1 rfl) ?_
      refine x_icmp_ne (tgt := 55) hx hb dX3_fitsNotes_23 (by decide) hm (fun hm => ?_) (fun hm => ?_)
      · refine x_iinc (lv' := fun x2 => [(3, .int x2), (0, .ref (ad b)), (1, .int y1), (2, .int y2)]) hx hb dX3_fitsNotes_55 hl (k := 3) rfl (by decide) (v0 := (1 : Int32)) (by decide) (fun _ => rfl) hm (fun x2 ls hm hl => ?_)
        refine lv_goto (tgt := 2) hx hb dX3_fitsNotes_58 (by decide) ?_
        exact ih y1 y2 x2 hm ls (lv_sub hl [1, 2, 3, 0] rfl)
      · refine lv_aload_n hx hb dX3_fitsNotes_26 rfl (lv_at hl 0 rfl) ?_
        refine lv_iload_n hx hb dX3_fitsNotes_27 rfl (lv_at hl 1 rfl) ?_
        refine lv_iload_n hx hb dX3_fitsNotes_28 rfl (lv_at hl 2 rfl) ?_
        refine lv_aload_n hx hb dX3_fitsNotes_29 rfl (lv_at hl 0 rfl) ?_
        refine gf_X3_34 (v := .ref (ad (b + 6))) hx hb hT hown hK hP 0 rfl rfl dX3_fitsNotes_30 ?_
        refine lv_iload_n hx hb dX3_fitsNotes_33 rfl (lv_at hl 3 rfl) ?_
        refine lv_iconst (v := (1 : Int32)) hx hb dX3_fitsNotes_34 (by decide) ?_
        refine xV_i (As := [.int y3, .int (1 : Int32)]) (rest := [.int y2, .int y1, .ref (ad b)]) hx hb hml hown hT hN hK (hP.sub (ws' := WR cs ad (b + 6) (6 : Int32) (3 : Int32) 18 (S.1 2)) [6, 7] rfl) cw_X3_80 hm (fun z h => tcX7_cell l D cs ad (b + 6) (6 : Int32) (3 : Int32) 18 (S.1 2) y3 (1 : Int32) z h) ⟨rfl, rfl⟩ ⟨by decide, by decide⟩ (b := (ad (b + 6))) 0 rfl rfl rfl hl.1 rfl rfl (Nat.le_of_ble_eq_true rfl) dX3_fitsNotes_35 ⟨Nat.zero_le _, Nat.zero_le _⟩ (fun r3 hm => ?_)
        refine xV_i (As := [.int y1, .int y2, .int r3]) (rest := []) hx hb hml hown hT hN hK hP cw_X3_136 hm (fun z h => tcX3_costAs l D cs ad b S y1 y2 r3 z h) ⟨rfl, rfl⟩ ⟨by decide, by decide⟩ (b := (ad b)) 0 rfl rfl rfl hl.1 rfl rfl (Nat.le_of_ble_eq_true rfl) dX3_fitsNotes_38 ⟨Nat.zero_le _, Nat.zero_le _⟩ (fun r4 hm => ?_)
        refine lv_aload_n hx hb dX3_fitsNotes_41 rfl (lv_at hl 0 rfl) ?_
        refine gf_X3_34 (v := .ref (ad (b + 6))) hx hb hT hown hK hP 0 rfl rfl dX3_fitsNotes_42 ?_
        refine lv_iload_n hx hb dX3_fitsNotes_45 rfl (lv_at hl 3 rfl) ?_
        refine lv_iconst (v := (2 : Int32)) hx hb dX3_fitsNotes_46 (by decide) ?_
        refine xV_i (As := [.int y3, .int (2 : Int32)]) (rest := [.int r4]) hx hb hml hown hT hN hK (hP.sub (ws' := WR cs ad (b + 6) (6 : Int32) (3 : Int32) 18 (S.1 2)) [6, 7] rfl) cw_X3_80 hm (fun z h => tcX7_cell l D cs ad (b + 6) (6 : Int32) (3 : Int32) 18 (S.1 2) y3 (2 : Int32) z h) ⟨rfl, rfl⟩ ⟨by decide, by decide⟩ (b := (ad (b + 6))) 0 rfl rfl rfl hl.1 rfl rfl (Nat.le_of_ble_eq_true rfl) dX3_fitsNotes_47 ⟨Nat.zero_le _, Nat.zero_le _⟩ (fun r5 hm => ?_)
        refine x_icmp_eq (tgt := 55) hx hb dX3_fitsNotes_50 (by decide) hm (fun hm => ?_) (fun hm => ?_)
        · refine x_iinc (lv' := fun x6 => [(3, .int x6), (0, .ref (ad b)), (1, .int y1), (2, .int y2)]) hx hb dX3_fitsNotes_55 hl (k := 3) rfl (by decide) (v0 := (1 : Int32)) (by decide) (fun _ => rfl) hm (fun x6 ls hm hl => ?_)
          refine lv_goto (tgt := 2) hx hb dX3_fitsNotes_58 (by decide) ?_
          exact ih y1 y2 x6 hm ls (lv_sub hl [1, 2, 3, 0] rfl)
        · refine lv_iconst (v := (0 : Int32)) hx hb dX3_fitsNotes_53 (by decide) ?_
          exact x_zretR hx hb hr hlk hm dX3_fitsNotes_54
set_option maxHeartbeats 4000000 in
set_option maxRecDepth 100000 in
theorem tcX3_fitsNotes (l : Launch) (D : va_G) (cs : CS) (ad : Nat → Nat) (b : Nat) (S : MT) (a1 : Int32) (a2 : Int32) (z : Int32) (hm : mX3_fitsNotes S a1 a2 = some z) : Met l yX3_fitsNotes (Cond.code yX3_fitsNotes cX3_fitsNotes 4 (some .boolean) :: gw_tbl) ({ frames := 4, cells := 0, slots := 0, locals := 89 }) (PcR D cs (WT cs ad b S) [.ref (ad b), .int a1, .int a2]) (QRi z) 0 0 NoF := by
  refine met_R rfl (Nat.le_of_ble_eq_true rfl) (fun p e s m below meth c E hP ls hl => ?_)
  obtain ⟨hx, hb, hr, hml, hown, hlk, hT, hN, hK⟩ := id E
  have hl : lv_has ls 4 [(0, .ref (ad b)), (1, .int a1), (2, .int a2)] := hl
  unfold mX3_fitsNotes at hm
  refine lv_iconst (v := (0 : Int32)) hx hb dX3_fitsNotes_0 (by decide) ?_
  refine lv_istore_n (lv' := [(3, .int (0 : Int32)), (0, .ref (ad b)), (1, .int a1), (2, .int a2)]) hx hb dX3_fitsNotes_1 rfl hl (by decide) rfl (fun ls hl => ?_)
  exact kX3_fitsNotes_L2 E hP _ FU a1 a2 (0 : Int32) hm ls (lv_sub hl [1, 2, 3, 0] rfl)
noncomputable def mX3_kindsByNotes_L4 (S : MT) : Nat → Int32 → Int32 → Int32 → Option Int32 := fun n => Nat.rec (motive := fun _ => Int32 → Int32 → Int32 → Option Int32) (fun _ _ _ => none) (fun _ rc => fun y1 y2 y3 => (if (6 : Int32) ≤ y3 then some y2 else (mX3_fitsNotes S y1 y3).bind fun r1 => (if r1 = 0 then nm (y3 + (1 : Int32)) fun x2 => rc y1 y2 x2 else nm (y2 ||| ((1 : Int32) <<< (y3 &&& 31))) fun x3 => nm (y3 + (1 : Int32)) fun x4 => rc y1 x3 x4))) n
theorem mX3_kindsByNotes_L4_s (S : MT) (n : Nat) (y1 : Int32) (y2 : Int32) (y3 : Int32) : mX3_kindsByNotes_L4 S (n + 1) y1 y2 y3 = (if (6 : Int32) ≤ y3 then some y2 else (mX3_fitsNotes S y1 y3).bind fun r1 => (if r1 = 0 then nm (y3 + (1 : Int32)) fun x2 => (mX3_kindsByNotes_L4 S n) y1 y2 x2 else nm (y2 ||| ((1 : Int32) <<< (y3 &&& 31))) fun x3 => nm (y3 + (1 : Int32)) fun x4 => (mX3_kindsByNotes_L4 S n) y1 x3 x4)) := rfl
noncomputable def mX3_kindsByNotes (S : MT) (a1 : Int32) : Option Int32 := mX3_kindsByNotes_L4 S FU a1 (0 : Int32) (0 : Int32)
set_option maxHeartbeats 4000000 in
set_option maxRecDepth 100000 in
theorem kX3_kindsByNotes_L4 {p : Program} {l : Launch} {e : Env} {s : State} {m : MethodId} {below : List Frame} {meth : Method} {c : Code} {D : va_G} {cs : CS}  {ad : Nat → Nat} {b : Nat} {S : MT} {a1 : Int32} (E : EV p s m [.ref (ad b), .int a1].toArray meth c cX3_kindsByNotes 4 RX3 (some .int) D cs) (hP : va_P D classes (WT cs ad b S) s.heap) (z : Int32) : ∀ (n : Nat) (y1 : Int32) (y2 : Int32) (y3 : Int32), mX3_kindsByNotes_L4 S n y1 y2 y3 = some z → ∀ ls : Array Slot, lv_has ls 4 [(0, .ref (ad b)), (1, .int y1), (2, .int y2), (3, .int y3)] → W p l e ({ frames := 5, cells := 0, slots := 0, locals := 112 }) s m [.ref (ad b), .int a1].toArray below meth c s.heap [] 0 0 (MQ below (QRi z) [.ref (ad b), .int a1].toArray s 0 0 NoF) (F0 m 4 ls []) := by
  obtain ⟨hx, hb, hr, hml, hown, hlk, hT, hN, hK⟩ := id E
  intro n
  induction n with
  | zero =>
    intro y1 y2 y3 hm
    exact nomatch (show (none : Option Int32) = some z from hm)
  | succ n ih =>
    intro y1 y2 y3 hm ls hl
    rw [mX3_kindsByNotes_L4_s] at hm
    refine lv_iload_n hx hb dX3_kindsByNotes_4 rfl (lv_at hl 3 rfl) ?_
    refine lv_bipush (v := (6 : Int32)) hx hb dX3_kindsByNotes_5 (by decide) ?_
    refine x_icmp_ge (tgt := 31) hx hb dX3_kindsByNotes_7 (by decide) hm (fun hm => ?_) (fun hm => ?_)
    · refine lv_iload_n hx hb dX3_kindsByNotes_31 rfl (lv_at hl 2 rfl) ?_
      exact x_iretR hx hb hr hlk hm dX3_kindsByNotes_32
    · refine lv_aload_n hx hb dX3_kindsByNotes_10 rfl (lv_at hl 0 rfl) ?_
      refine lv_iload_n hx hb dX3_kindsByNotes_11 rfl (lv_at hl 1 rfl) ?_
      refine lv_iload_n hx hb dX3_kindsByNotes_12 rfl (lv_at hl 3 rfl) ?_
      refine xV_i (As := [.int y1, .int y3]) (rest := []) hx hb hml hown hT hN hK hP cw_X3_124 hm (fun z h => tcX3_fitsNotes l D cs ad b S y1 y3 z h) ⟨rfl, rfl⟩ ⟨by decide, by decide⟩ (b := (ad b)) 0 rfl rfl rfl hl.1 rfl rfl (Nat.le_of_ble_eq_true rfl) dX3_kindsByNotes_13 ⟨Nat.zero_le _, Nat.zero_le _⟩ (fun r1 hm => ?_)
      refine x_if_eq (tgt := 25) hx hb dX3_kindsByNotes_16 (by decide) hm (fun hm => ?_) (fun hm => ?_)
      · refine x_iinc (lv' := fun x2 => [(3, .int x2), (0, .ref (ad b)), (1, .int y1), (2, .int y2)]) hx hb dX3_kindsByNotes_25 hl (k := 3) rfl (by decide) (v0 := (1 : Int32)) (by decide) (fun _ => rfl) hm (fun x2 ls hm hl => ?_)
        refine lv_goto (tgt := 4) hx hb dX3_kindsByNotes_28 (by decide) ?_
        exact ih y1 y2 x2 hm ls (lv_sub hl [1, 2, 3, 0] rfl)
      · refine lv_iload_n hx hb dX3_kindsByNotes_19 rfl (lv_at hl 2 rfl) ?_
        refine lv_iconst (v := (1 : Int32)) hx hb dX3_kindsByNotes_20 (by decide) ?_
        refine lv_iload_n hx hb dX3_kindsByNotes_21 rfl (lv_at hl 3 rfl) ?_
        refine lv_ishl hx hb dX3_kindsByNotes_22 ?_
        refine lv_ior hx hb dX3_kindsByNotes_23 ?_
        refine xi_nm hm (fun x3 hm => ?_)
        refine lv_istore_n (lv' := [(2, .int x3), (0, .ref (ad b)), (1, .int y1), (3, .int y3)]) hx hb dX3_kindsByNotes_24 rfl hl (by decide) rfl (fun ls hl => ?_)
        refine x_iinc (lv' := fun x4 => [(3, .int x4), (2, .int x3), (0, .ref (ad b)), (1, .int y1)]) hx hb dX3_kindsByNotes_25 hl (k := 3) rfl (by decide) (v0 := (1 : Int32)) (by decide) (fun _ => rfl) hm (fun x4 ls hm hl => ?_)
        refine lv_goto (tgt := 4) hx hb dX3_kindsByNotes_28 (by decide) ?_
        exact ih y1 x3 x4 hm ls (lv_sub hl [2, 3, 1, 0] rfl)
set_option maxHeartbeats 4000000 in
set_option maxRecDepth 100000 in
theorem tcX3_kindsByNotes (l : Launch) (D : va_G) (cs : CS) (ad : Nat → Nat) (b : Nat) (S : MT) (a1 : Int32) (z : Int32) (hm : mX3_kindsByNotes S a1 = some z) : Met l yX3_kindsByNotes (Cond.code yX3_kindsByNotes cX3_kindsByNotes 4 (some .int) :: gw_tbl) ({ frames := 5, cells := 0, slots := 0, locals := 112 }) (PcR D cs (WT cs ad b S) [.ref (ad b), .int a1]) (QRi z) 0 0 NoF := by
  refine met_R rfl (Nat.le_of_ble_eq_true rfl) (fun p e s m below meth c E hP ls hl => ?_)
  obtain ⟨hx, hb, hr, hml, hown, hlk, hT, hN, hK⟩ := id E
  have hl : lv_has ls 4 [(0, .ref (ad b)), (1, .int a1)] := hl
  unfold mX3_kindsByNotes at hm
  refine lv_iconst (v := (0 : Int32)) hx hb dX3_kindsByNotes_0 (by decide) ?_
  refine lv_istore_n (lv' := [(2, .int (0 : Int32)), (0, .ref (ad b)), (1, .int a1)]) hx hb dX3_kindsByNotes_1 rfl hl (by decide) rfl (fun ls hl => ?_)
  refine lv_iconst (v := (0 : Int32)) hx hb dX3_kindsByNotes_2 (by decide) ?_
  refine lv_istore_n (lv' := [(3, .int (0 : Int32)), (2, .int (0 : Int32)), (0, .ref (ad b)), (1, .int a1)]) hx hb dX3_kindsByNotes_3 rfl hl (by decide) rfl (fun ls hl => ?_)
  exact kX3_kindsByNotes_L4 E hP _ FU a1 (0 : Int32) (0 : Int32) hm ls (lv_sub hl [2, 3, 1, 0] rfl)
noncomputable def mX3_alikeWith_L16 (S : MT) : Nat → Int32 → Int32 → Int32 → Int32 → Int32 → Int32 → Option Int32 := fun n => Nat.rec (motive := fun _ => Int32 → Int32 → Int32 → Int32 → Int32 → Int32 → Option Int32) (fun _ _ _ _ _ _ => none) (fun _ rc => fun y1 y3 y4 y5 y6 y7 => (if (6 : Int32) ≤ y7 then some y6 else (mX10_holds y3 y7).bind fun r2 => (if r2 = 0 then nm (y7 + (1 : Int32)) fun x3 => rc y1 y3 y4 y5 y6 x3 else (mX3_costAs S y1 y7 y4).bind fun r4 => (if r4 = y5 then nm (y6 + (1 : Int32)) fun x6 => nm (y7 + (1 : Int32)) fun x7 => rc y1 y3 y4 y5 x6 x7 else nm (y7 + (1 : Int32)) fun x5 => rc y1 y3 y4 y5 y6 x5)))) n
theorem mX3_alikeWith_L16_s (S : MT) (n : Nat) (y1 : Int32) (y3 : Int32) (y4 : Int32) (y5 : Int32) (y6 : Int32) (y7 : Int32) : mX3_alikeWith_L16 S (n + 1) y1 y3 y4 y5 y6 y7 = (if (6 : Int32) ≤ y7 then some y6 else (mX10_holds y3 y7).bind fun r2 => (if r2 = 0 then nm (y7 + (1 : Int32)) fun x3 => (mX3_alikeWith_L16 S n) y1 y3 y4 y5 y6 x3 else (mX3_costAs S y1 y7 y4).bind fun r4 => (if r4 = y5 then nm (y6 + (1 : Int32)) fun x6 => nm (y7 + (1 : Int32)) fun x7 => (mX3_alikeWith_L16 S n) y1 y3 y4 y5 x6 x7 else nm (y7 + (1 : Int32)) fun x5 => (mX3_alikeWith_L16 S n) y1 y3 y4 y5 y6 x5))) := rfl
noncomputable def mX3_alikeWith (S : MT) (a1 : Int32) (a2 : Int32) (a3 : Int32) (a4 : Int32) : Option Int32 := (mX3_costAs S a1 a2 a4).bind fun r1 => mX3_alikeWith_L16 S FU a1 a3 a4 r1 (0 : Int32) (0 : Int32)
set_option maxHeartbeats 4000000 in
set_option maxRecDepth 100000 in
theorem kX3_alikeWith_L16 {p : Program} {l : Launch} {e : Env} {s : State} {m : MethodId} {below : List Frame} {meth : Method} {c : Code} {D : va_G} {cs : CS}  {ad : Nat → Nat} {b : Nat} {S : MT} {a1 : Int32} {a2 : Int32} {a3 : Int32} {a4 : Int32} (E : EV p s m [.ref (ad b), .int a1, .int a2, .int a3, .int a4].toArray meth c cX3_alikeWith 8 RX3 (some .int) D cs) (hP : va_P D classes (WT cs ad b S) s.heap) (z : Int32) : ∀ (n : Nat) (y1 : Int32) (y3 : Int32) (y4 : Int32) (y5 : Int32) (y6 : Int32) (y7 : Int32), mX3_alikeWith_L16 S n y1 y3 y4 y5 y6 y7 = some z → ∀ ls : Array Slot, lv_has ls 8 [(0, .ref (ad b)), (1, .int y1), (3, .int y3), (4, .int y4), (5, .int y5), (6, .int y6), (7, .int y7)] → W p l e ({ frames := 4, cells := 0, slots := 0, locals := 89 }) s m [.ref (ad b), .int a1, .int a2, .int a3, .int a4].toArray below meth c s.heap [] 0 0 (MQ below (QRi z) [.ref (ad b), .int a1, .int a2, .int a3, .int a4].toArray s 0 0 NoF) (F0 m 16 ls []) := by
  obtain ⟨hx, hb, hr, hml, hown, hlk, hT, hN, hK⟩ := id E
  intro n
  induction n with
  | zero =>
    intro y1 y3 y4 y5 y6 y7 hm
    exact nomatch (show (none : Option Int32) = some z from hm)
  | succ n ih =>
    intro y1 y3 y4 y5 y6 y7 hm ls hl
    rw [mX3_alikeWith_L16_s] at hm
    refine lv_iload hx hb dX3_alikeWith_16 (lv_at hl 6 rfl) ?_
    refine lv_bipush (v := (6 : Int32)) hx hb dX3_alikeWith_18 (by decide) ?_
    refine x_icmp_ge (tgt := 55) hx hb dX3_alikeWith_20 (by decide) hm (fun hm => ?_) (fun hm => ?_)
    · refine lv_iload hx hb dX3_alikeWith_55 (lv_at hl 5 rfl) ?_
      exact x_iretR hx hb hr hlk hm dX3_alikeWith_57
    · refine lv_iload_n hx hb dX3_alikeWith_23 rfl (lv_at hl 2 rfl) ?_
      refine lv_iload hx hb dX3_alikeWith_24 (lv_at hl 6 rfl) ?_
      refine xN_i (As := [.int y3, .int y7]) (rest := []) hx hb hml hown hT hN hK (hP.sub (ws' := []) [] rfl) cw_X3_108 hm (fun z h => tcX10_holds l D cs y3 y7 z h) ⟨rfl, rfl⟩ ⟨by decide, by decide⟩ hl.1 rfl rfl (Nat.le_of_ble_eq_true rfl) dX3_alikeWith_26 ⟨Nat.zero_le _, Nat.zero_le _⟩ (fun r2 hm => ?_)
      refine x_if_eq (tgt := 49) hx hb dX3_alikeWith_29 (by decide) hm (fun hm => ?_) (fun hm => ?_)
      · refine x_iinc (lv' := fun x3 => [(7, .int x3), (0, .ref (ad b)), (1, .int y1), (3, .int y3), (4, .int y4), (5, .int y5), (6, .int y6)]) hx hb dX3_alikeWith_49 hl (k := 6) rfl (by decide) (v0 := (1 : Int32)) (by decide) (fun _ => rfl) hm (fun x3 ls hm hl => ?_)
        refine lv_goto (tgt := 16) hx hb dX3_alikeWith_52 (by decide) ?_
        exact ih y1 y3 y4 y5 y6 x3 hm ls (lv_sub hl [1, 2, 3, 4, 5, 6, 0] rfl)
      · refine lv_aload_n hx hb dX3_alikeWith_32 rfl (lv_at hl 0 rfl) ?_
        refine lv_iload_n hx hb dX3_alikeWith_33 rfl (lv_at hl 1 rfl) ?_
        refine lv_iload hx hb dX3_alikeWith_34 (lv_at hl 6 rfl) ?_
        refine lv_iload hx hb dX3_alikeWith_36 (lv_at hl 3 rfl) ?_
        refine xV_i (As := [.int y1, .int y7, .int y4]) (rest := []) hx hb hml hown hT hN hK hP cw_X3_136 hm (fun z h => tcX3_costAs l D cs ad b S y1 y7 y4 z h) ⟨rfl, rfl⟩ ⟨by decide, by decide⟩ (b := (ad b)) 0 rfl rfl rfl hl.1 rfl rfl (Nat.le_of_ble_eq_true rfl) dX3_alikeWith_38 ⟨Nat.zero_le _, Nat.zero_le _⟩ (fun r4 hm => ?_)
        refine lv_iload hx hb dX3_alikeWith_41 (lv_at hl 4 rfl) ?_
        refine x_icmp_ne (tgt := 49) hx hb dX3_alikeWith_43 (by decide) hm (fun hm => ?_) (fun hm => ?_)
        · refine x_iinc (lv' := fun x5 => [(7, .int x5), (0, .ref (ad b)), (1, .int y1), (3, .int y3), (4, .int y4), (5, .int y5), (6, .int y6)]) hx hb dX3_alikeWith_49 hl (k := 6) rfl (by decide) (v0 := (1 : Int32)) (by decide) (fun _ => rfl) hm (fun x5 ls hm hl => ?_)
          refine lv_goto (tgt := 16) hx hb dX3_alikeWith_52 (by decide) ?_
          exact ih y1 y3 y4 y5 y6 x5 hm ls (lv_sub hl [1, 2, 3, 4, 5, 6, 0] rfl)
        · refine x_iinc (lv' := fun x6 => [(6, .int x6), (0, .ref (ad b)), (1, .int y1), (3, .int y3), (4, .int y4), (5, .int y5), (7, .int y7)]) hx hb dX3_alikeWith_46 hl (k := 5) rfl (by decide) (v0 := (1 : Int32)) (by decide) (fun _ => rfl) hm (fun x6 ls hm hl => ?_)
          refine x_iinc (lv' := fun x7 => [(7, .int x7), (6, .int x6), (0, .ref (ad b)), (1, .int y1), (3, .int y3), (4, .int y4), (5, .int y5)]) hx hb dX3_alikeWith_49 hl (k := 6) rfl (by decide) (v0 := (1 : Int32)) (by decide) (fun _ => rfl) hm (fun x7 ls hm hl => ?_)
          refine lv_goto (tgt := 16) hx hb dX3_alikeWith_52 (by decide) ?_
          exact ih y1 y3 y4 y5 x6 x7 hm ls (lv_sub hl [2, 3, 4, 5, 6, 1, 0] rfl)
set_option maxHeartbeats 4000000 in
set_option maxRecDepth 100000 in
theorem tcX3_alikeWith (l : Launch) (D : va_G) (cs : CS) (ad : Nat → Nat) (b : Nat) (S : MT) (a1 : Int32) (a2 : Int32) (a3 : Int32) (a4 : Int32) (z : Int32) (hm : mX3_alikeWith S a1 a2 a3 a4 = some z) : Met l yX3_alikeWith (Cond.code yX3_alikeWith cX3_alikeWith 8 (some .int) :: gw_tbl) ({ frames := 4, cells := 0, slots := 0, locals := 89 }) (PcR D cs (WT cs ad b S) [.ref (ad b), .int a1, .int a2, .int a3, .int a4]) (QRi z) 0 0 NoF := by
  refine met_R rfl (Nat.le_of_ble_eq_true rfl) (fun p e s m below meth c E hP ls hl => ?_)
  obtain ⟨hx, hb, hr, hml, hown, hlk, hT, hN, hK⟩ := id E
  have hl : lv_has ls 8 [(0, .ref (ad b)), (1, .int a1), (2, .int a2), (3, .int a3), (4, .int a4)] := hl
  unfold mX3_alikeWith at hm
  refine lv_aload_n hx hb dX3_alikeWith_0 rfl (lv_at hl 0 rfl) ?_
  refine lv_iload_n hx hb dX3_alikeWith_1 rfl (lv_at hl 1 rfl) ?_
  refine lv_iload_n hx hb dX3_alikeWith_2 rfl (lv_at hl 2 rfl) ?_
  refine lv_iload hx hb dX3_alikeWith_3 (lv_at hl 4 rfl) ?_
  refine xV_i (As := [.int a1, .int a2, .int a4]) (rest := []) hx hb hml hown hT hN hK hP cw_X3_136 hm (fun z h => tcX3_costAs l D cs ad b S a1 a2 a4 z h) ⟨rfl, rfl⟩ ⟨by decide, by decide⟩ (b := (ad b)) 0 rfl rfl rfl hl.1 rfl rfl (Nat.le_of_ble_eq_true rfl) dX3_alikeWith_5 ⟨Nat.zero_le _, Nat.zero_le _⟩ (fun r1 hm => ?_)
  refine lv_istore (lv' := [(5, .int r1), (0, .ref (ad b)), (1, .int a1), (2, .int a2), (3, .int a3), (4, .int a4)]) hx hb dX3_alikeWith_8 hl (by decide) rfl (fun ls hl => ?_)
  refine lv_iconst (v := (0 : Int32)) hx hb dX3_alikeWith_10 (by decide) ?_
  refine lv_istore (lv' := [(6, .int (0 : Int32)), (5, .int r1), (0, .ref (ad b)), (1, .int a1), (2, .int a2), (3, .int a3), (4, .int a4)]) hx hb dX3_alikeWith_11 hl (by decide) rfl (fun ls hl => ?_)
  refine lv_iconst (v := (0 : Int32)) hx hb dX3_alikeWith_13 (by decide) ?_
  refine lv_istore (lv' := [(7, .int (0 : Int32)), (6, .int (0 : Int32)), (5, .int r1), (0, .ref (ad b)), (1, .int a1), (2, .int a2), (3, .int a3), (4, .int a4)]) hx hb dX3_alikeWith_14 hl (by decide) rfl (fun ls hl => ?_)
  exact kX3_alikeWith_L16 E hP _ FU a1 a3 a4 r1 (0 : Int32) (0 : Int32) hm ls (lv_sub hl [3, 4, 6, 7, 2, 1, 0] rfl)
noncomputable def mX3_mostAlike_L6 (S : MT) : Nat → Int32 → Int32 → Int32 → Int32 → Int32 → Option Int32 := fun n => Nat.rec (motive := fun _ => Int32 → Int32 → Int32 → Int32 → Int32 → Option Int32) (fun _ _ _ _ _ => none) (fun _ rc => fun y1 y2 y3 y4 y5 => (if (6 : Int32) ≤ y5 then some y4 else (mX10_holds y2 y5).bind fun r1 => (if r1 = 0 then nm (y5 + (1 : Int32)) fun x2 => rc y1 y2 y3 y4 x2 else (mX3_alikeWith S y1 y5 y2 y3).bind fun r3 => nm (if y4 < r3 then r3 else y4) fun x4 => nm (y5 + (1 : Int32)) fun x5 => rc y1 y2 y3 x4 x5))) n
theorem mX3_mostAlike_L6_s (S : MT) (n : Nat) (y1 : Int32) (y2 : Int32) (y3 : Int32) (y4 : Int32) (y5 : Int32) : mX3_mostAlike_L6 S (n + 1) y1 y2 y3 y4 y5 = (if (6 : Int32) ≤ y5 then some y4 else (mX10_holds y2 y5).bind fun r1 => (if r1 = 0 then nm (y5 + (1 : Int32)) fun x2 => (mX3_mostAlike_L6 S n) y1 y2 y3 y4 x2 else (mX3_alikeWith S y1 y5 y2 y3).bind fun r3 => nm (if y4 < r3 then r3 else y4) fun x4 => nm (y5 + (1 : Int32)) fun x5 => (mX3_mostAlike_L6 S n) y1 y2 y3 x4 x5)) := rfl
noncomputable def mX3_mostAlike (S : MT) (a1 : Int32) (a2 : Int32) (a3 : Int32) : Option Int32 := mX3_mostAlike_L6 S FU a1 a2 a3 (0 : Int32) (0 : Int32)
set_option maxHeartbeats 4000000 in
set_option maxRecDepth 100000 in
theorem kX3_mostAlike_L6 {p : Program} {l : Launch} {e : Env} {s : State} {m : MethodId} {below : List Frame} {meth : Method} {c : Code} {D : va_G} {cs : CS}  {ad : Nat → Nat} {b : Nat} {S : MT} {a1 : Int32} {a2 : Int32} {a3 : Int32} (E : EV p s m [.ref (ad b), .int a1, .int a2, .int a3].toArray meth c cX3_mostAlike 6 RX3 (some .int) D cs) (hP : va_P D classes (WT cs ad b S) s.heap) (z : Int32) : ∀ (n : Nat) (y1 : Int32) (y2 : Int32) (y3 : Int32) (y4 : Int32) (y5 : Int32), mX3_mostAlike_L6 S n y1 y2 y3 y4 y5 = some z → ∀ ls : Array Slot, lv_has ls 6 [(0, .ref (ad b)), (1, .int y1), (2, .int y2), (3, .int y3), (4, .int y4), (5, .int y5)] → W p l e ({ frames := 5, cells := 0, slots := 0, locals := 116 }) s m [.ref (ad b), .int a1, .int a2, .int a3].toArray below meth c s.heap [] 0 0 (MQ below (QRi z) [.ref (ad b), .int a1, .int a2, .int a3].toArray s 0 0 NoF) (F0 m 6 ls []) := by
  obtain ⟨hx, hb, hr, hml, hown, hlk, hT, hN, hK⟩ := id E
  intro n
  induction n with
  | zero =>
    intro y1 y2 y3 y4 y5 hm
    exact nomatch (show (none : Option Int32) = some z from hm)
  | succ n ih =>
    intro y1 y2 y3 y4 y5 hm ls hl
    rw [mX3_mostAlike_L6_s] at hm
    refine lv_iload hx hb dX3_mostAlike_6 (lv_at hl 5 rfl) ?_
    refine lv_bipush (v := (6 : Int32)) hx hb dX3_mostAlike_8 (by decide) ?_
    refine x_icmp_ge (tgt := 44) hx hb dX3_mostAlike_10 (by decide) hm (fun hm => ?_) (fun hm => ?_)
    · refine lv_iload hx hb dX3_mostAlike_44 (lv_at hl 4 rfl) ?_
      exact x_iretR hx hb hr hlk hm dX3_mostAlike_46
    · refine lv_iload_n hx hb dX3_mostAlike_13 rfl (lv_at hl 2 rfl) ?_
      refine lv_iload hx hb dX3_mostAlike_14 (lv_at hl 5 rfl) ?_
      refine xN_i (As := [.int y2, .int y5]) (rest := []) hx hb hml hown hT hN hK (hP.sub (ws' := []) [] rfl) cw_X3_108 hm (fun z h => tcX10_holds l D cs y2 y5 z h) ⟨rfl, rfl⟩ ⟨by decide, by decide⟩ hl.1 rfl rfl (Nat.le_of_ble_eq_true rfl) dX3_mostAlike_16 ⟨Nat.zero_le _, Nat.zero_le _⟩ (fun r1 hm => ?_)
      refine x_if_eq (tgt := 38) hx hb dX3_mostAlike_19 (by decide) hm (fun hm => ?_) (fun hm => ?_)
      · refine x_iinc (lv' := fun x2 => [(5, .int x2), (0, .ref (ad b)), (1, .int y1), (2, .int y2), (3, .int y3), (4, .int y4)]) hx hb dX3_mostAlike_38 hl (k := 5) rfl (by decide) (v0 := (1 : Int32)) (by decide) (fun _ => rfl) hm (fun x2 ls hm hl => ?_)
        refine lv_goto (tgt := 6) hx hb dX3_mostAlike_41 (by decide) ?_
        exact ih y1 y2 y3 y4 x2 hm ls (lv_sub hl [1, 2, 3, 4, 5, 0] rfl)
      · refine lv_iload hx hb dX3_mostAlike_22 (lv_at hl 4 rfl) ?_
        refine lv_aload_n hx hb dX3_mostAlike_24 rfl (lv_at hl 0 rfl) ?_
        refine lv_iload_n hx hb dX3_mostAlike_25 rfl (lv_at hl 1 rfl) ?_
        refine lv_iload hx hb dX3_mostAlike_26 (lv_at hl 5 rfl) ?_
        refine lv_iload_n hx hb dX3_mostAlike_28 rfl (lv_at hl 2 rfl) ?_
        refine lv_iload_n hx hb dX3_mostAlike_29 rfl (lv_at hl 3 rfl) ?_
        refine xV_i (As := [.int y1, .int y5, .int y2, .int y3]) (rest := [.int y4]) hx hb hml hown hT hN hK hP cw_X3_127 hm (fun z h => tcX3_alikeWith l D cs ad b S y1 y5 y2 y3 z h) ⟨rfl, rfl⟩ ⟨by decide, by decide⟩ (b := (ad b)) 0 rfl rfl rfl hl.1 rfl rfl (Nat.le_of_ble_eq_true rfl) dX3_mostAlike_30 ⟨Nat.zero_le _, Nat.zero_le _⟩ (fun r3 hm => ?_)
        refine va_mmax hx hb (by rw [hml]; exact hl.1.symm) hown (hT _ tw_719) (hT _ tw_85) (hT _ tw_10) (hT _ tw_86) (by decide) (by decide) (Nat.zero_le _) (Nat.zero_le _) dX3_mostAlike_33 ?_
        refine xi_nm hm (fun x4 hm => ?_)
        refine lv_istore (lv' := [(4, .int x4), (0, .ref (ad b)), (1, .int y1), (2, .int y2), (3, .int y3), (5, .int y5)]) hx hb dX3_mostAlike_36 hl (by decide) rfl (fun ls hl => ?_)
        refine x_iinc (lv' := fun x5 => [(5, .int x5), (4, .int x4), (0, .ref (ad b)), (1, .int y1), (2, .int y2), (3, .int y3)]) hx hb dX3_mostAlike_38 hl (k := 5) rfl (by decide) (v0 := (1 : Int32)) (by decide) (fun _ => rfl) hm (fun x5 ls hm hl => ?_)
        refine lv_goto (tgt := 6) hx hb dX3_mostAlike_41 (by decide) ?_
        exact ih y1 y2 y3 x4 x5 hm ls (lv_sub hl [2, 3, 4, 5, 1, 0] rfl)
set_option maxHeartbeats 4000000 in
set_option maxRecDepth 100000 in
theorem tcX3_mostAlike (l : Launch) (D : va_G) (cs : CS) (ad : Nat → Nat) (b : Nat) (S : MT) (a1 : Int32) (a2 : Int32) (a3 : Int32) (z : Int32) (hm : mX3_mostAlike S a1 a2 a3 = some z) : Met l yX3_mostAlike (Cond.code yX3_mostAlike cX3_mostAlike 6 (some .int) :: gw_tbl) ({ frames := 5, cells := 0, slots := 0, locals := 116 }) (PcR D cs (WT cs ad b S) [.ref (ad b), .int a1, .int a2, .int a3]) (QRi z) 0 0 NoF := by
  refine met_R rfl (Nat.le_of_ble_eq_true rfl) (fun p e s m below meth c E hP ls hl => ?_)
  obtain ⟨hx, hb, hr, hml, hown, hlk, hT, hN, hK⟩ := id E
  have hl : lv_has ls 6 [(0, .ref (ad b)), (1, .int a1), (2, .int a2), (3, .int a3)] := hl
  unfold mX3_mostAlike at hm
  refine lv_iconst (v := (0 : Int32)) hx hb dX3_mostAlike_0 (by decide) ?_
  refine lv_istore (lv' := [(4, .int (0 : Int32)), (0, .ref (ad b)), (1, .int a1), (2, .int a2), (3, .int a3)]) hx hb dX3_mostAlike_1 hl (by decide) rfl (fun ls hl => ?_)
  refine lv_iconst (v := (0 : Int32)) hx hb dX3_mostAlike_3 (by decide) ?_
  refine lv_istore (lv' := [(5, .int (0 : Int32)), (4, .int (0 : Int32)), (0, .ref (ad b)), (1, .int a1), (2, .int a2), (3, .int a3)]) hx hb dX3_mostAlike_4 hl (by decide) rfl (fun ls hl => ?_)
  exact kX3_mostAlike_L6 E hP _ FU a1 a2 a3 (0 : Int32) (0 : Int32) hm ls (lv_sub hl [2, 3, 4, 5, 1, 0] rfl)
noncomputable def mX3_fitsHearings_L2 (S : MT) : Nat → Int32 → Int32 → Option Int32 := fun n => Nat.rec (motive := fun _ => Int32 → Int32 → Option Int32) (fun _ _ => none) (fun _ rc => fun y1 y2 => (if ((S.1 3).1) ≤ y2 then zo (1 : Int32) (some (1 : Int32)) else (mX7_cell (6 : Int32) (2 : Int32) 12 (S.1 3) y2 (0 : Int32)).bind fun r1 => (mX3_courtHears S r1 y1).bind fun r2 => (mX7_cell (6 : Int32) (2 : Int32) 12 (S.1 3) y2 (1 : Int32)).bind fun r3 => (if r3 = (1 : Int32) then (if r2 = (1 : Int32) then nm (y2 + (1 : Int32)) fun x5 => rc y1 x5 else zo (0 : Int32) (some (0 : Int32))) else (if r2 = (0 : Int32) then nm (y2 + (1 : Int32)) fun x4 => rc y1 x4 else zo (0 : Int32) (some (0 : Int32)))))) n
theorem mX3_fitsHearings_L2_s (S : MT) (n : Nat) (y1 : Int32) (y2 : Int32) : mX3_fitsHearings_L2 S (n + 1) y1 y2 = (if ((S.1 3).1) ≤ y2 then zo (1 : Int32) (some (1 : Int32)) else (mX7_cell (6 : Int32) (2 : Int32) 12 (S.1 3) y2 (0 : Int32)).bind fun r1 => (mX3_courtHears S r1 y1).bind fun r2 => (mX7_cell (6 : Int32) (2 : Int32) 12 (S.1 3) y2 (1 : Int32)).bind fun r3 => (if r3 = (1 : Int32) then (if r2 = (1 : Int32) then nm (y2 + (1 : Int32)) fun x5 => (mX3_fitsHearings_L2 S n) y1 x5 else zo (0 : Int32) (some (0 : Int32))) else (if r2 = (0 : Int32) then nm (y2 + (1 : Int32)) fun x4 => (mX3_fitsHearings_L2 S n) y1 x4 else zo (0 : Int32) (some (0 : Int32))))) := rfl
noncomputable def mX3_fitsHearings (S : MT) (a1 : Int32) : Option Int32 := mX3_fitsHearings_L2 S FU a1 (0 : Int32)
set_option maxHeartbeats 4000000 in
set_option maxRecDepth 100000 in
theorem kX3_fitsHearings_L2 {p : Program} {l : Launch} {e : Env} {s : State} {m : MethodId} {below : List Frame} {meth : Method} {c : Code} {D : va_G} {cs : CS}  {ad : Nat → Nat} {b : Nat} {S : MT} {a1 : Int32} (E : EV p s m [.ref (ad b), .int a1].toArray meth c cX3_fitsHearings 4 RX3 (some .boolean) D cs) (hP : va_P D classes (WT cs ad b S) s.heap) (z : Int32) : ∀ (n : Nat) (y1 : Int32) (y2 : Int32), mX3_fitsHearings_L2 S n y1 y2 = some z → ∀ ls : Array Slot, lv_has ls 4 [(0, .ref (ad b)), (1, .int y1), (2, .int y2)] → W p l e ({ frames := 2, cells := 0, slots := 0, locals := 45 }) s m [.ref (ad b), .int a1].toArray below meth c s.heap [] 0 0 (MQ below (QRi z) [.ref (ad b), .int a1].toArray s 0 0 NoF) (F0 m 2 ls []) := by
  obtain ⟨hx, hb, hr, hml, hown, hlk, hT, hN, hK⟩ := id E
  intro n
  induction n with
  | zero =>
    intro y1 y2 hm
    exact nomatch (show (none : Option Int32) = some z from hm)
  | succ n ih =>
    intro y1 y2 hm ls hl
    rw [mX3_fitsHearings_L2_s] at hm
    refine lv_iload_n hx hb dX3_fitsHearings_2 rfl (lv_at hl 2 rfl) ?_
    refine lv_aload_n hx hb dX3_fitsHearings_3 rfl (lv_at hl 0 rfl) ?_
    refine gf_X3_37 (v := .ref (ad (b + 8))) hx hb hT hown hK hP 0 rfl rfl dX3_fitsHearings_4 ?_
    refine gf_X3_77 (v := .int ((S.1 3).1)) hx hb hT hown hK hP 8 rfl rfl dX3_fitsHearings_7 ?_
    refine x_icmp_ge (tgt := 58) hx hb dX3_fitsHearings_10 (by decide) hm (fun hm => ?_) (fun hm => ?_)
    · refine lv_iconst (v := (1 : Int32)) hx hb dX3_fitsHearings_58 (by decide) ?_
      exact x_zretR hx hb hr hlk hm dX3_fitsHearings_59
    · refine lv_aload_n hx hb dX3_fitsHearings_13 rfl (lv_at hl 0 rfl) ?_
      refine lv_aload_n hx hb dX3_fitsHearings_14 rfl (lv_at hl 0 rfl) ?_
      refine gf_X3_37 (v := .ref (ad (b + 8))) hx hb hT hown hK hP 0 rfl rfl dX3_fitsHearings_15 ?_
      refine lv_iload_n hx hb dX3_fitsHearings_18 rfl (lv_at hl 2 rfl) ?_
      refine lv_iconst (v := (0 : Int32)) hx hb dX3_fitsHearings_19 (by decide) ?_
      refine xV_i (As := [.int y2, .int (0 : Int32)]) (rest := [.ref (ad b)]) hx hb hml hown hT hN hK (hP.sub (ws' := WR cs ad (b + 8) (6 : Int32) (2 : Int32) 12 (S.1 3)) [8, 9] rfl) cw_X3_80 hm (fun z h => tcX7_cell l D cs ad (b + 8) (6 : Int32) (2 : Int32) 12 (S.1 3) y2 (0 : Int32) z h) ⟨rfl, rfl⟩ ⟨by decide, by decide⟩ (b := (ad (b + 8))) 0 rfl rfl rfl hl.1 rfl rfl (Nat.le_of_ble_eq_true rfl) dX3_fitsHearings_20 ⟨Nat.zero_le _, Nat.zero_le _⟩ (fun r1 hm => ?_)
      refine lv_iload_n hx hb dX3_fitsHearings_23 rfl (lv_at hl 1 rfl) ?_
      refine xV_i (As := [.int r1, .int y1]) (rest := []) hx hb hml hown hT hN hK hP cw_X3_115 hm (fun z h => tcX3_courtHears l D cs ad b S r1 y1 z h) ⟨rfl, rfl⟩ ⟨by decide, by decide⟩ (b := (ad b)) 0 rfl rfl rfl hl.1 rfl rfl (Nat.le_of_ble_eq_true rfl) dX3_fitsHearings_24 ⟨Nat.zero_le _, Nat.zero_le _⟩ (fun r2 hm => ?_)
      refine lv_istore_n (lv' := [(3, .int r2), (0, .ref (ad b)), (1, .int y1), (2, .int y2)]) hx hb dX3_fitsHearings_27 rfl hl (by decide) rfl (fun ls hl => ?_)
      refine lv_iload_n hx hb dX3_fitsHearings_28 rfl (lv_at hl 0 rfl) ?_
      refine lv_aload_n hx hb dX3_fitsHearings_29 rfl (lv_at hl 1 rfl) ?_
      refine gf_X3_37 (v := .ref (ad (b + 8))) hx hb hT hown hK hP 0 rfl rfl dX3_fitsHearings_30 ?_
      refine lv_iload_n hx hb dX3_fitsHearings_33 rfl (lv_at hl 3 rfl) ?_
      refine lv_iconst (v := (1 : Int32)) hx hb dX3_fitsHearings_34 (by decide) ?_
      refine xV_i (As := [.int y2, .int (1 : Int32)]) (rest := [.int r2]) hx hb hml hown hT hN hK (hP.sub (ws' := WR cs ad (b + 8) (6 : Int32) (2 : Int32) 12 (S.1 3)) [8, 9] rfl) cw_X3_80 hm (fun z h => tcX7_cell l D cs ad (b + 8) (6 : Int32) (2 : Int32) 12 (S.1 3) y2 (1 : Int32) z h) ⟨rfl, rfl⟩ ⟨by decide, by decide⟩ (b := (ad (b + 8))) 0 rfl rfl rfl hl.1 rfl rfl (Nat.le_of_ble_eq_true rfl) dX3_fitsHearings_35 ⟨Nat.zero_le _, Nat.zero_le _⟩ (fun r3 hm => ?_)
      refine lv_iconst (v := (1 : Int32)) hx hb dX3_fitsHearings_38 (by decide) ?_
      refine x_icmp_ne (tgt := 46) hx hb dX3_fitsHearings_39 (by decide) hm (fun hm => ?_) (fun hm => ?_)
      · refine lv_iconst (v := (0 : Int32)) hx hb dX3_fitsHearings_46 (by decide) ?_
        refine x_icmp_eq (tgt := 52) hx hb dX3_fitsHearings_47 (by decide) hm (fun hm => ?_) (fun hm => ?_)
        · refine x_iinc (lv' := fun x4 => [(2, .int x4), (3, .int r2), (0, .ref (ad b)), (1, .int y1)]) hx hb dX3_fitsHearings_52 hl (k := 3) rfl (by decide) (v0 := (1 : Int32)) (by decide) (fun _ => rfl) hm (fun x4 ls hm hl => ?_)
          refine lv_goto (tgt := 2) hx hb dX3_fitsHearings_55 (by decide) ?_
          exact ih y1 x4 hm ls (lv_sub hl [2, 3, 0] rfl)
        · refine lv_iconst (v := (0 : Int32)) hx hb dX3_fitsHearings_50 (by decide) ?_
          exact x_zretR hx hb hr hlk hm dX3_fitsHearings_51
      · refine lv_iconst (v := (1 : Int32)) hx hb dX3_fitsHearings_42 (by decide) ?_
        refine lv_goto (tgt := 47) hx hb dX3_fitsHearings_43 (by decide) ?_
        refine x_icmp_eq (tgt := 52) hx hb dX3_fitsHearings_47 (by decide) hm (fun hm => ?_) (fun hm => ?_)
        · refine x_iinc (lv' := fun x5 => [(2, .int x5), (3, .int r2), (0, .ref (ad b)), (1, .int y1)]) hx hb dX3_fitsHearings_52 hl (k := 3) rfl (by decide) (v0 := (1 : Int32)) (by decide) (fun _ => rfl) hm (fun x5 ls hm hl => ?_)
          refine lv_goto (tgt := 2) hx hb dX3_fitsHearings_55 (by decide) ?_
          exact ih y1 x5 hm ls (lv_sub hl [2, 3, 0] rfl)
        · refine lv_iconst (v := (0 : Int32)) hx hb dX3_fitsHearings_50 (by decide) ?_
          exact x_zretR hx hb hr hlk hm dX3_fitsHearings_51
set_option maxHeartbeats 4000000 in
set_option maxRecDepth 100000 in
theorem tcX3_fitsHearings (l : Launch) (D : va_G) (cs : CS) (ad : Nat → Nat) (b : Nat) (S : MT) (a1 : Int32) (z : Int32) (hm : mX3_fitsHearings S a1 = some z) : Met l yX3_fitsHearings (Cond.code yX3_fitsHearings cX3_fitsHearings 4 (some .boolean) :: gw_tbl) ({ frames := 2, cells := 0, slots := 0, locals := 45 }) (PcR D cs (WT cs ad b S) [.ref (ad b), .int a1]) (QRi z) 0 0 NoF := by
  refine met_R rfl (Nat.le_of_ble_eq_true rfl) (fun p e s m below meth c E hP ls hl => ?_)
  obtain ⟨hx, hb, hr, hml, hown, hlk, hT, hN, hK⟩ := id E
  have hl : lv_has ls 4 [(0, .ref (ad b)), (1, .int a1)] := hl
  unfold mX3_fitsHearings at hm
  refine lv_iconst (v := (0 : Int32)) hx hb dX3_fitsHearings_0 (by decide) ?_
  refine lv_istore_n (lv' := [(2, .int (0 : Int32)), (0, .ref (ad b)), (1, .int a1)]) hx hb dX3_fitsHearings_1 rfl hl (by decide) rfl (fun ls hl => ?_)
  exact kX3_fitsHearings_L2 E hP _ FU a1 (0 : Int32) hm ls (lv_sub hl [1, 2, 0] rfl)
noncomputable def mX3_beginSuit (S : MT) : Option MT := nm (tI S 8 (0 : Int32)) fun S1 => nm (tI S1 9 (0 : Int32)) fun S2 => nm (tI S2 10 (0 : Int32)) fun S3 => (mX7_empty (8 : Int32) (3 : Int32) 24 (S3.1 4)).bind fun u5 => nm (tR S3 4 u5) fun S4 => some S4
set_option maxHeartbeats 4000000 in
set_option maxRecDepth 100000 in
theorem tcX3_beginSuit (l : Launch) (D : va_G) (cs : CS) (ad : Nat → Nat) (b : Nat) (sz : Nat) (S : MT) (z : MT) (hm : mX3_beginSuit S = some z) : Met l yX3_beginSuit (Cond.code yX3_beginSuit cX3_beginSuit 1 none :: gw_tbl) ({ frames := 1, cells := 0, slots := 0, locals := 20 }) (PcW D cs sz (WT cs ad b S) [.ref (ad b)]) (QWv D cs (va_A (WT cs ad b S) sz) (fun u => WT cs ad b u) z) 0 0 (va_A (WT cs ad b S) sz) := by
  refine met_W rfl (Nat.le_of_ble_eq_true rfl) (fun p e s m below meth c E hP hD hS hA ls hl => ?_)
  generalize va_A (WT cs ad b S) sz = A at hD hS hA ⊢
  obtain ⟨hx, hb, hr, hml, hown, hlk, hT, hN, hK⟩ := id E
  obtain ⟨H, hH⟩ : ∃ H, H = s.heap := ⟨_, rfl⟩
  obtain ⟨locs, hlo⟩ : ∃ L : List Loc, L = [] := ⟨_, rfl⟩
  have hP : va_P D classes (WT cs ad b S) H := by rw [hH]; exact hP
  have hS : va_S A s.heap H locs := by rw [hH, hlo]; exact hS
  rw [show W p l e _ s m _ below meth c s.heap [] 0 0 = W p l e _ s m _ below meth c H locs 0 0 by rw [hH, hlo]]
  have hl : lv_has ls 1 [(0, .ref (ad b))] := hl
  unfold mX3_beginSuit at hm
  refine lv_aload_n hx hb dX3_beginSuit_0 rfl (lv_at hl 0 rfl) ?_
  refine lv_iconst (v := (0 : Int32)) hx hb dX3_beginSuit_1 (by decide) ?_
  refine pf_X3_53 (wf := (fun u => WT cs ad b u)) (u0 := tI S 8 (0 : Int32)) hx hb hT hown hK hP hD hS 0 rfl (Nat.le_of_ble_eq_true rfl) rfl rfl rfl hm dX3_beginSuit_2 (fun S1 H locs hm hP hD hS => ?_)
  refine lv_aload_n hx hb dX3_beginSuit_5 rfl (lv_at hl 0 rfl) ?_
  refine lv_iconst (v := (0 : Int32)) hx hb dX3_beginSuit_6 (by decide) ?_
  refine pf_X3_56 (wf := (fun u => WT cs ad b u)) (u0 := tI S1 9 (0 : Int32)) hx hb hT hown hK hP hD hS 0 rfl (Nat.le_of_ble_eq_true rfl) rfl rfl rfl hm dX3_beginSuit_7 (fun S2 H locs hm hP hD hS => ?_)
  refine lv_aload_n hx hb dX3_beginSuit_10 rfl (lv_at hl 0 rfl) ?_
  refine lv_iconst (v := (0 : Int32)) hx hb dX3_beginSuit_11 (by decide) ?_
  refine pf_X3_59 (wf := (fun u => WT cs ad b u)) (u0 := tI S2 10 (0 : Int32)) hx hb hT hown hK hP hD hS 0 rfl (Nat.le_of_ble_eq_true rfl) rfl rfl rfl hm dX3_beginSuit_12 (fun S3 H locs hm hP hD hS => ?_)
  refine lv_aload_n hx hb dX3_beginSuit_15 rfl (lv_at hl 0 rfl) ?_
  refine gf_X3_40 (v := .ref (ad (b + 10))) hx hb hT hown hK hP 0 rfl rfl dX3_beginSuit_16 ?_
  refine xVW_v (As := []) (rest := []) (wr := [((ad b), .inr (3, [.ref (ad 1), .ref (ad (b + 1)), .ref (ad (b + 2)), .ref (ad (b + 4)), .ref (ad (b + 6)), .ref (ad (b + 8)), .ref (ad (b + 10)), .int (S3.2 7), .int (S3.2 8), .int (S3.2 9), .int (S3.2 10)])), ((ad (b + 1)), .inr (6, [])), ((ad (b + 2)), .inr (7, [.int (6 : Int32), .int (4 : Int32), .ref (ad (b + 3)), .int ((S3.1 0).1)])), ((ad (b + 3)), .inl (cs 0, 24, .inl ((S3.1 0).2))), ((ad (b + 4)), .inr (7, [.int (4 : Int32), .int (2 : Int32), .ref (ad (b + 5)), .int ((S3.1 1).1)])), ((ad (b + 5)), .inl (cs 0, 8, .inl ((S3.1 1).2))), ((ad (b + 6)), .inr (7, [.int (6 : Int32), .int (3 : Int32), .ref (ad (b + 7)), .int ((S3.1 2).1)])), ((ad (b + 7)), .inl (cs 0, 18, .inl ((S3.1 2).2))), ((ad (b + 8)), .inr (7, [.int (6 : Int32), .int (2 : Int32), .ref (ad (b + 9)), .int ((S3.1 3).1)])), ((ad (b + 9)), .inl (cs 0, 12, .inl ((S3.1 3).2))), ((ad 1), .inl (cs 2, 6, .inr (.inr (.inr (.inr (fun k => some (ad (2 + k)))))))), ((ad 2), .inr (6, [])), ((ad 3), .inr (5, [])), ((ad 4), .inr (1, [])), ((ad 5), .inr (9, [])), ((ad 6), .inr (2, [])), ((ad 7), .inr (8, []))]) (wg := fun u5 => WT cs ad b (tR S3 4 u5)) hx hb hml hown hT hN hK hP hD hS hA cw_X3_47 hm (fun z h => tcX7_empty l D cs ad (b + 10) (8 : Int32) (3 : Int32) 24 H.size (S3.1 4) z h) ⟨rfl, rfl⟩ ⟨by decide, by decide⟩ [10, 11] [0, 1, 2, 3, 4, 5, 6, 7, 8, 9, 12, 13, 14, 15, 16, 17, 18] [0, 1, 2, 3, 4, 5, 6, 7, 8, 9, 17, 18, 10, 11, 12, 13, 14, 15, 16] rfl (by decide) rfl (by decide) (by decide) (fun _ => rfl) (by decide) (b := (ad (b + 10))) 0 rfl rfl rfl hl.1 rfl rfl (Nat.le_of_ble_eq_true rfl) dX3_beginSuit_19 ⟨Nat.zero_le _, Nat.zero_le _⟩ (fun u5 H locs hm hP hD hS => ?_)
  obtain ⟨S4, hm, eS4⟩ := nm_ex hm
  rw [← eS4] at hP hD
  exact x_vretW (wf := (fun u => WT cs ad b u)) hx hb hr hlk hK hP hD hS hm dX3_beginSuit_22
noncomputable def mX3_begin (S : MT) (a1 : Int32) : Option MT := nm (tI S 7 a1) fun S1 => (mX7_empty (6 : Int32) (4 : Int32) 24 (S1.1 0)).bind fun u3 => nm (tR S1 0 u3) fun S2 => (mX7_empty (4 : Int32) (2 : Int32) 8 (S2.1 1)).bind fun u5 => nm (tR S2 1 u5) fun S4 => (mX7_empty (6 : Int32) (3 : Int32) 18 (S4.1 2)).bind fun u7 => nm (tR S4 2 u7) fun S6 => (mX7_empty (6 : Int32) (2 : Int32) 12 (S6.1 3)).bind fun u9 => nm (tR S6 3 u9) fun S8 => (mX3_beginSuit S8).bind fun S10 => some S10
set_option maxHeartbeats 4000000 in
set_option maxRecDepth 100000 in
theorem tcX3_begin (l : Launch) (D : va_G) (cs : CS) (ad : Nat → Nat) (b : Nat) (sz : Nat) (S : MT) (a1 : Int32) (z : MT) (hm : mX3_begin S a1 = some z) : Met l yX3_begin (Cond.code yX3_begin cX3_begin 2 none :: gw_tbl) ({ frames := 2, cells := 0, slots := 0, locals := 40 }) (PcW D cs sz (WT cs ad b S) [.ref (ad b), .int a1]) (QWv D cs (va_A (WT cs ad b S) sz) (fun u => WT cs ad b u) z) 0 0 (va_A (WT cs ad b S) sz) := by
  refine met_W rfl (Nat.le_of_ble_eq_true rfl) (fun p e s m below meth c E hP hD hS hA ls hl => ?_)
  generalize va_A (WT cs ad b S) sz = A at hD hS hA ⊢
  obtain ⟨hx, hb, hr, hml, hown, hlk, hT, hN, hK⟩ := id E
  obtain ⟨H, hH⟩ : ∃ H, H = s.heap := ⟨_, rfl⟩
  obtain ⟨locs, hlo⟩ : ∃ L : List Loc, L = [] := ⟨_, rfl⟩
  have hP : va_P D classes (WT cs ad b S) H := by rw [hH]; exact hP
  have hS : va_S A s.heap H locs := by rw [hH, hlo]; exact hS
  rw [show W p l e _ s m _ below meth c s.heap [] 0 0 = W p l e _ s m _ below meth c H locs 0 0 by rw [hH, hlo]]
  have hl : lv_has ls 2 [(0, .ref (ad b)), (1, .int a1)] := hl
  unfold mX3_begin at hm
  refine lv_aload_n hx hb dX3_begin_0 rfl (lv_at hl 0 rfl) ?_
  refine lv_iload_n hx hb dX3_begin_1 rfl (lv_at hl 1 rfl) ?_
  refine pf_X3_43 (wf := (fun u => WT cs ad b u)) (u0 := tI S 7 a1) hx hb hT hown hK hP hD hS 0 rfl (Nat.le_of_ble_eq_true rfl) rfl rfl rfl hm dX3_begin_2 (fun S1 H locs hm hP hD hS => ?_)
  refine lv_aload_n hx hb dX3_begin_5 rfl (lv_at hl 0 rfl) ?_
  refine gf_X3_27 (v := .ref (ad (b + 2))) hx hb hT hown hK hP 0 rfl rfl dX3_begin_6 ?_
  refine xVW_v (As := []) (rest := []) (wr := [((ad b), .inr (3, [.ref (ad 1), .ref (ad (b + 1)), .ref (ad (b + 2)), .ref (ad (b + 4)), .ref (ad (b + 6)), .ref (ad (b + 8)), .ref (ad (b + 10)), .int (S1.2 7), .int (S1.2 8), .int (S1.2 9), .int (S1.2 10)])), ((ad (b + 1)), .inr (6, [])), ((ad (b + 4)), .inr (7, [.int (4 : Int32), .int (2 : Int32), .ref (ad (b + 5)), .int ((S1.1 1).1)])), ((ad (b + 5)), .inl (cs 0, 8, .inl ((S1.1 1).2))), ((ad (b + 6)), .inr (7, [.int (6 : Int32), .int (3 : Int32), .ref (ad (b + 7)), .int ((S1.1 2).1)])), ((ad (b + 7)), .inl (cs 0, 18, .inl ((S1.1 2).2))), ((ad (b + 8)), .inr (7, [.int (6 : Int32), .int (2 : Int32), .ref (ad (b + 9)), .int ((S1.1 3).1)])), ((ad (b + 9)), .inl (cs 0, 12, .inl ((S1.1 3).2))), ((ad (b + 10)), .inr (7, [.int (8 : Int32), .int (3 : Int32), .ref (ad (b + 11)), .int ((S1.1 4).1)])), ((ad (b + 11)), .inl (cs 0, 24, .inl ((S1.1 4).2))), ((ad 1), .inl (cs 2, 6, .inr (.inr (.inr (.inr (fun k => some (ad (2 + k)))))))), ((ad 2), .inr (6, [])), ((ad 3), .inr (5, [])), ((ad 4), .inr (1, [])), ((ad 5), .inr (9, [])), ((ad 6), .inr (2, [])), ((ad 7), .inr (8, []))]) (wg := fun u3 => WT cs ad b (tR S1 0 u3)) hx hb hml hown hT hN hK hP hD hS hA cw_X3_47 hm (fun z h => tcX7_empty l D cs ad (b + 2) (6 : Int32) (4 : Int32) 24 H.size (S1.1 0) z h) ⟨rfl, rfl⟩ ⟨by decide, by decide⟩ [2, 3] [0, 1, 4, 5, 6, 7, 8, 9, 10, 11, 12, 13, 14, 15, 16, 17, 18] [0, 1, 17, 18, 2, 3, 4, 5, 6, 7, 8, 9, 10, 11, 12, 13, 14, 15, 16] rfl (by decide) rfl (by decide) (by decide) (fun _ => rfl) (by decide) (b := (ad (b + 2))) 0 rfl rfl rfl hl.1 rfl rfl (Nat.le_of_ble_eq_true rfl) dX3_begin_9 ⟨Nat.zero_le _, Nat.zero_le _⟩ (fun u3 H locs hm hP hD hS => ?_)
  obtain ⟨S2, hm, eS2⟩ := nm_ex hm
  rw [← eS2] at hP hD
  refine lv_aload_n hx hb dX3_begin_12 rfl (lv_at hl 0 rfl) ?_
  refine gf_X3_31 (v := .ref (ad (b + 4))) hx hb hT hown hK hP 0 rfl rfl dX3_begin_13 ?_
  refine xVW_v (As := []) (rest := []) (wr := [((ad b), .inr (3, [.ref (ad 1), .ref (ad (b + 1)), .ref (ad (b + 2)), .ref (ad (b + 4)), .ref (ad (b + 6)), .ref (ad (b + 8)), .ref (ad (b + 10)), .int (S2.2 7), .int (S2.2 8), .int (S2.2 9), .int (S2.2 10)])), ((ad (b + 1)), .inr (6, [])), ((ad (b + 2)), .inr (7, [.int (6 : Int32), .int (4 : Int32), .ref (ad (b + 3)), .int ((S2.1 0).1)])), ((ad (b + 3)), .inl (cs 0, 24, .inl ((S2.1 0).2))), ((ad (b + 6)), .inr (7, [.int (6 : Int32), .int (3 : Int32), .ref (ad (b + 7)), .int ((S2.1 2).1)])), ((ad (b + 7)), .inl (cs 0, 18, .inl ((S2.1 2).2))), ((ad (b + 8)), .inr (7, [.int (6 : Int32), .int (2 : Int32), .ref (ad (b + 9)), .int ((S2.1 3).1)])), ((ad (b + 9)), .inl (cs 0, 12, .inl ((S2.1 3).2))), ((ad (b + 10)), .inr (7, [.int (8 : Int32), .int (3 : Int32), .ref (ad (b + 11)), .int ((S2.1 4).1)])), ((ad (b + 11)), .inl (cs 0, 24, .inl ((S2.1 4).2))), ((ad 1), .inl (cs 2, 6, .inr (.inr (.inr (.inr (fun k => some (ad (2 + k)))))))), ((ad 2), .inr (6, [])), ((ad 3), .inr (5, [])), ((ad 4), .inr (1, [])), ((ad 5), .inr (9, [])), ((ad 6), .inr (2, [])), ((ad 7), .inr (8, []))]) (wg := fun u5 => WT cs ad b (tR S2 1 u5)) hx hb hml hown hT hN hK hP hD hS hA cw_X3_47 hm (fun z h => tcX7_empty l D cs ad (b + 4) (4 : Int32) (2 : Int32) 8 H.size (S2.1 1) z h) ⟨rfl, rfl⟩ ⟨by decide, by decide⟩ [4, 5] [0, 1, 2, 3, 6, 7, 8, 9, 10, 11, 12, 13, 14, 15, 16, 17, 18] [0, 1, 2, 3, 17, 18, 4, 5, 6, 7, 8, 9, 10, 11, 12, 13, 14, 15, 16] rfl (by decide) rfl (by decide) (by decide) (fun _ => rfl) (by decide) (b := (ad (b + 4))) 0 rfl rfl rfl hl.1 rfl rfl (Nat.le_of_ble_eq_true rfl) dX3_begin_16 ⟨Nat.zero_le _, Nat.zero_le _⟩ (fun u5 H locs hm hP hD hS => ?_)
  obtain ⟨S4, hm, eS4⟩ := nm_ex hm
  rw [← eS4] at hP hD
  refine lv_aload_n hx hb dX3_begin_19 rfl (lv_at hl 0 rfl) ?_
  refine gf_X3_34 (v := .ref (ad (b + 6))) hx hb hT hown hK hP 0 rfl rfl dX3_begin_20 ?_
  refine xVW_v (As := []) (rest := []) (wr := [((ad b), .inr (3, [.ref (ad 1), .ref (ad (b + 1)), .ref (ad (b + 2)), .ref (ad (b + 4)), .ref (ad (b + 6)), .ref (ad (b + 8)), .ref (ad (b + 10)), .int (S4.2 7), .int (S4.2 8), .int (S4.2 9), .int (S4.2 10)])), ((ad (b + 1)), .inr (6, [])), ((ad (b + 2)), .inr (7, [.int (6 : Int32), .int (4 : Int32), .ref (ad (b + 3)), .int ((S4.1 0).1)])), ((ad (b + 3)), .inl (cs 0, 24, .inl ((S4.1 0).2))), ((ad (b + 4)), .inr (7, [.int (4 : Int32), .int (2 : Int32), .ref (ad (b + 5)), .int ((S4.1 1).1)])), ((ad (b + 5)), .inl (cs 0, 8, .inl ((S4.1 1).2))), ((ad (b + 8)), .inr (7, [.int (6 : Int32), .int (2 : Int32), .ref (ad (b + 9)), .int ((S4.1 3).1)])), ((ad (b + 9)), .inl (cs 0, 12, .inl ((S4.1 3).2))), ((ad (b + 10)), .inr (7, [.int (8 : Int32), .int (3 : Int32), .ref (ad (b + 11)), .int ((S4.1 4).1)])), ((ad (b + 11)), .inl (cs 0, 24, .inl ((S4.1 4).2))), ((ad 1), .inl (cs 2, 6, .inr (.inr (.inr (.inr (fun k => some (ad (2 + k)))))))), ((ad 2), .inr (6, [])), ((ad 3), .inr (5, [])), ((ad 4), .inr (1, [])), ((ad 5), .inr (9, [])), ((ad 6), .inr (2, [])), ((ad 7), .inr (8, []))]) (wg := fun u7 => WT cs ad b (tR S4 2 u7)) hx hb hml hown hT hN hK hP hD hS hA cw_X3_47 hm (fun z h => tcX7_empty l D cs ad (b + 6) (6 : Int32) (3 : Int32) 18 H.size (S4.1 2) z h) ⟨rfl, rfl⟩ ⟨by decide, by decide⟩ [6, 7] [0, 1, 2, 3, 4, 5, 8, 9, 10, 11, 12, 13, 14, 15, 16, 17, 18] [0, 1, 2, 3, 4, 5, 17, 18, 6, 7, 8, 9, 10, 11, 12, 13, 14, 15, 16] rfl (by decide) rfl (by decide) (by decide) (fun _ => rfl) (by decide) (b := (ad (b + 6))) 0 rfl rfl rfl hl.1 rfl rfl (Nat.le_of_ble_eq_true rfl) dX3_begin_23 ⟨Nat.zero_le _, Nat.zero_le _⟩ (fun u7 H locs hm hP hD hS => ?_)
  obtain ⟨S6, hm, eS6⟩ := nm_ex hm
  rw [← eS6] at hP hD
  refine lv_aload_n hx hb dX3_begin_26 rfl (lv_at hl 0 rfl) ?_
  refine gf_X3_37 (v := .ref (ad (b + 8))) hx hb hT hown hK hP 0 rfl rfl dX3_begin_27 ?_
  refine xVW_v (As := []) (rest := []) (wr := [((ad b), .inr (3, [.ref (ad 1), .ref (ad (b + 1)), .ref (ad (b + 2)), .ref (ad (b + 4)), .ref (ad (b + 6)), .ref (ad (b + 8)), .ref (ad (b + 10)), .int (S6.2 7), .int (S6.2 8), .int (S6.2 9), .int (S6.2 10)])), ((ad (b + 1)), .inr (6, [])), ((ad (b + 2)), .inr (7, [.int (6 : Int32), .int (4 : Int32), .ref (ad (b + 3)), .int ((S6.1 0).1)])), ((ad (b + 3)), .inl (cs 0, 24, .inl ((S6.1 0).2))), ((ad (b + 4)), .inr (7, [.int (4 : Int32), .int (2 : Int32), .ref (ad (b + 5)), .int ((S6.1 1).1)])), ((ad (b + 5)), .inl (cs 0, 8, .inl ((S6.1 1).2))), ((ad (b + 6)), .inr (7, [.int (6 : Int32), .int (3 : Int32), .ref (ad (b + 7)), .int ((S6.1 2).1)])), ((ad (b + 7)), .inl (cs 0, 18, .inl ((S6.1 2).2))), ((ad (b + 10)), .inr (7, [.int (8 : Int32), .int (3 : Int32), .ref (ad (b + 11)), .int ((S6.1 4).1)])), ((ad (b + 11)), .inl (cs 0, 24, .inl ((S6.1 4).2))), ((ad 1), .inl (cs 2, 6, .inr (.inr (.inr (.inr (fun k => some (ad (2 + k)))))))), ((ad 2), .inr (6, [])), ((ad 3), .inr (5, [])), ((ad 4), .inr (1, [])), ((ad 5), .inr (9, [])), ((ad 6), .inr (2, [])), ((ad 7), .inr (8, []))]) (wg := fun u9 => WT cs ad b (tR S6 3 u9)) hx hb hml hown hT hN hK hP hD hS hA cw_X3_47 hm (fun z h => tcX7_empty l D cs ad (b + 8) (6 : Int32) (2 : Int32) 12 H.size (S6.1 3) z h) ⟨rfl, rfl⟩ ⟨by decide, by decide⟩ [8, 9] [0, 1, 2, 3, 4, 5, 6, 7, 10, 11, 12, 13, 14, 15, 16, 17, 18] [0, 1, 2, 3, 4, 5, 6, 7, 17, 18, 8, 9, 10, 11, 12, 13, 14, 15, 16] rfl (by decide) rfl (by decide) (by decide) (fun _ => rfl) (by decide) (b := (ad (b + 8))) 0 rfl rfl rfl hl.1 rfl rfl (Nat.le_of_ble_eq_true rfl) dX3_begin_30 ⟨Nat.zero_le _, Nat.zero_le _⟩ (fun u9 H locs hm hP hD hS => ?_)
  obtain ⟨S8, hm, eS8⟩ := nm_ex hm
  rw [← eS8] at hP hD
  refine lv_aload_n hx hb dX3_begin_33 rfl (lv_at hl 0 rfl) ?_
  refine xVW_v (As := []) (rest := []) (wr := []) (wg := (fun u => WT cs ad b u)) hx hb hml hown hT hN hK hP hD hS hA cw_X3_50 hm (fun z h => tcX3_beginSuit l D cs ad b H.size S8 z h) ⟨rfl, rfl⟩ ⟨by decide, by decide⟩ [0, 1, 2, 3, 4, 5, 6, 7, 8, 9, 10, 11, 12, 13, 14, 15, 16, 17, 18] [] [0, 1, 2, 3, 4, 5, 6, 7, 8, 9, 10, 11, 12, 13, 14, 15, 16, 17, 18] rfl (by decide) rfl (by decide) (by decide) (fun _ => rfl) (by decide) (b := (ad b)) 0 rfl rfl rfl hl.1 rfl rfl (Nat.le_of_ble_eq_true rfl) dX3_begin_34 ⟨Nat.zero_le _, Nat.zero_le _⟩ (fun S10 H locs hm hP hD hS => ?_)
  exact x_vretW (wf := (fun u => WT cs ad b u)) hx hb hr hlk hK hP hD hS hm dX3_begin_37
noncomputable def mX3_keepForUndo (S : MT) : Option MT := (mX7_isFull (8 : Int32) (3 : Int32) 24 (S.1 4)).bind fun r1 => (if r1 = 0 then (mX7_add (8 : Int32) (3 : Int32) 24 (S.1 4) (S.2 8) (S.2 9) (S.2 10) (0 : Int32)).bind fun u3 => nm (tR S 4 u3) fun S2 => some S2 else (mX7_dropFirst (8 : Int32) (3 : Int32) 24 (S.1 4)).bind fun u5 => nm (tR S 4 u5) fun S4 => (mX7_add (8 : Int32) (3 : Int32) 24 (S4.1 4) (S4.2 8) (S4.2 9) (S4.2 10) (0 : Int32)).bind fun u7 => nm (tR S4 4 u7) fun S6 => some S6)
set_option maxHeartbeats 4000000 in
set_option maxRecDepth 100000 in
theorem tcX3_keepForUndo (l : Launch) (D : va_G) (cs : CS) (ad : Nat → Nat) (b : Nat) (sz : Nat) (S : MT) (z : MT) (hm : mX3_keepForUndo S = some z) : Met l yX3_keepForUndo (Cond.code yX3_keepForUndo cX3_keepForUndo 1 none :: gw_tbl) ({ frames := 2, cells := 0, slots := 0, locals := 48 }) (PcW D cs sz (WT cs ad b S) [.ref (ad b)]) (QWv D cs (va_A (WT cs ad b S) sz) (fun u => WT cs ad b u) z) 0 0 (va_A (WT cs ad b S) sz) := by
  refine met_W rfl (Nat.le_of_ble_eq_true rfl) (fun p e s m below meth c E hP hD hS hA ls hl => ?_)
  generalize va_A (WT cs ad b S) sz = A at hD hS hA ⊢
  obtain ⟨hx, hb, hr, hml, hown, hlk, hT, hN, hK⟩ := id E
  obtain ⟨H, hH⟩ : ∃ H, H = s.heap := ⟨_, rfl⟩
  obtain ⟨locs, hlo⟩ : ∃ L : List Loc, L = [] := ⟨_, rfl⟩
  have hP : va_P D classes (WT cs ad b S) H := by rw [hH]; exact hP
  have hS : va_S A s.heap H locs := by rw [hH, hlo]; exact hS
  rw [show W p l e _ s m _ below meth c s.heap [] 0 0 = W p l e _ s m _ below meth c H locs 0 0 by rw [hH, hlo]]
  have hl : lv_has ls 1 [(0, .ref (ad b))] := hl
  unfold mX3_keepForUndo at hm
  refine lv_aload_n hx hb dX3_keepForUndo_0 rfl (lv_at hl 0 rfl) ?_
  refine gf_X3_40 (v := .ref (ad (b + 10))) hx hb hT hown hK hP 0 rfl rfl dX3_keepForUndo_1 ?_
  refine xV_i (As := []) (rest := []) hx hb hml hown hT hN hK (hP.sub (ws' := WR cs ad (b + 10) (8 : Int32) (3 : Int32) 24 (S.1 4)) [10, 11] rfl) cw_X3_66 hm (fun z h => tcX7_isFull l D cs ad (b + 10) (8 : Int32) (3 : Int32) 24 (S.1 4) z h) ⟨rfl, rfl⟩ ⟨by decide, by decide⟩ (b := (ad (b + 10))) 0 rfl rfl rfl hl.1 rfl rfl (Nat.le_of_ble_eq_true rfl) dX3_keepForUndo_4 ⟨Nat.zero_le _, Nat.zero_le _⟩ (fun r1 hm => ?_)
  refine x_if_eq (tgt := 17) hx hb dX3_keepForUndo_7 (by decide) hm (fun hm => ?_) (fun hm => ?_)
  · refine lv_aload_n hx hb dX3_keepForUndo_17 rfl (lv_at hl 0 rfl) ?_
    refine gf_X3_40 (v := .ref (ad (b + 10))) hx hb hT hown hK hP 0 rfl rfl dX3_keepForUndo_18 ?_
    refine lv_aload_n hx hb dX3_keepForUndo_21 rfl (lv_at hl 0 rfl) ?_
    refine gf_X3_53 (v := .int (S.2 8)) hx hb hT hown hK hP 0 rfl rfl dX3_keepForUndo_22 ?_
    refine lv_aload_n hx hb dX3_keepForUndo_25 rfl (lv_at hl 0 rfl) ?_
    refine gf_X3_56 (v := .int (S.2 9)) hx hb hT hown hK hP 0 rfl rfl dX3_keepForUndo_26 ?_
    refine lv_aload_n hx hb dX3_keepForUndo_29 rfl (lv_at hl 0 rfl) ?_
    refine gf_X3_59 (v := .int (S.2 10)) hx hb hT hown hK hP 0 rfl rfl dX3_keepForUndo_30 ?_
    refine lv_iconst (v := (0 : Int32)) hx hb dX3_keepForUndo_33 (by decide) ?_
    refine xVW_v (As := [.int (S.2 8), .int (S.2 9), .int (S.2 10), .int (0 : Int32)]) (rest := []) (wr := [((ad b), .inr (3, [.ref (ad 1), .ref (ad (b + 1)), .ref (ad (b + 2)), .ref (ad (b + 4)), .ref (ad (b + 6)), .ref (ad (b + 8)), .ref (ad (b + 10)), .int (S.2 7), .int (S.2 8), .int (S.2 9), .int (S.2 10)])), ((ad (b + 1)), .inr (6, [])), ((ad (b + 2)), .inr (7, [.int (6 : Int32), .int (4 : Int32), .ref (ad (b + 3)), .int ((S.1 0).1)])), ((ad (b + 3)), .inl (cs 0, 24, .inl ((S.1 0).2))), ((ad (b + 4)), .inr (7, [.int (4 : Int32), .int (2 : Int32), .ref (ad (b + 5)), .int ((S.1 1).1)])), ((ad (b + 5)), .inl (cs 0, 8, .inl ((S.1 1).2))), ((ad (b + 6)), .inr (7, [.int (6 : Int32), .int (3 : Int32), .ref (ad (b + 7)), .int ((S.1 2).1)])), ((ad (b + 7)), .inl (cs 0, 18, .inl ((S.1 2).2))), ((ad (b + 8)), .inr (7, [.int (6 : Int32), .int (2 : Int32), .ref (ad (b + 9)), .int ((S.1 3).1)])), ((ad (b + 9)), .inl (cs 0, 12, .inl ((S.1 3).2))), ((ad 1), .inl (cs 2, 6, .inr (.inr (.inr (.inr (fun k => some (ad (2 + k)))))))), ((ad 2), .inr (6, [])), ((ad 3), .inr (5, [])), ((ad 4), .inr (1, [])), ((ad 5), .inr (9, [])), ((ad 6), .inr (2, [])), ((ad 7), .inr (8, []))]) (wg := fun u3 => WT cs ad b (tR S 4 u3)) hx hb hml hown hT hN hK hP hD hS hA cw_X3_73 hm (fun z h => tcX7_add l D cs ad (b + 10) (8 : Int32) (3 : Int32) 24 H.size (S.1 4) (S.2 8) (S.2 9) (S.2 10) (0 : Int32) z h) ⟨rfl, rfl⟩ ⟨by decide, by decide⟩ [10, 11] [0, 1, 2, 3, 4, 5, 6, 7, 8, 9, 12, 13, 14, 15, 16, 17, 18] [0, 1, 2, 3, 4, 5, 6, 7, 8, 9, 17, 18, 10, 11, 12, 13, 14, 15, 16] rfl (by decide) rfl (by decide) (by decide) (fun _ => rfl) (by decide) (b := (ad (b + 10))) 0 rfl rfl rfl hl.1 rfl rfl (Nat.le_of_ble_eq_true rfl) dX3_keepForUndo_34 ⟨Nat.zero_le _, Nat.zero_le _⟩ (fun u3 H locs hm hP hD hS => ?_)
    obtain ⟨S2, hm, eS2⟩ := nm_ex hm
    rw [← eS2] at hP hD
    exact x_vretW (wf := (fun u => WT cs ad b u)) hx hb hr hlk hK hP hD hS hm dX3_keepForUndo_37
  · refine lv_aload_n hx hb dX3_keepForUndo_10 rfl (lv_at hl 0 rfl) ?_
    refine gf_X3_40 (v := .ref (ad (b + 10))) hx hb hT hown hK hP 0 rfl rfl dX3_keepForUndo_11 ?_
    refine xVW_v (As := []) (rest := []) (wr := [((ad b), .inr (3, [.ref (ad 1), .ref (ad (b + 1)), .ref (ad (b + 2)), .ref (ad (b + 4)), .ref (ad (b + 6)), .ref (ad (b + 8)), .ref (ad (b + 10)), .int (S.2 7), .int (S.2 8), .int (S.2 9), .int (S.2 10)])), ((ad (b + 1)), .inr (6, [])), ((ad (b + 2)), .inr (7, [.int (6 : Int32), .int (4 : Int32), .ref (ad (b + 3)), .int ((S.1 0).1)])), ((ad (b + 3)), .inl (cs 0, 24, .inl ((S.1 0).2))), ((ad (b + 4)), .inr (7, [.int (4 : Int32), .int (2 : Int32), .ref (ad (b + 5)), .int ((S.1 1).1)])), ((ad (b + 5)), .inl (cs 0, 8, .inl ((S.1 1).2))), ((ad (b + 6)), .inr (7, [.int (6 : Int32), .int (3 : Int32), .ref (ad (b + 7)), .int ((S.1 2).1)])), ((ad (b + 7)), .inl (cs 0, 18, .inl ((S.1 2).2))), ((ad (b + 8)), .inr (7, [.int (6 : Int32), .int (2 : Int32), .ref (ad (b + 9)), .int ((S.1 3).1)])), ((ad (b + 9)), .inl (cs 0, 12, .inl ((S.1 3).2))), ((ad 1), .inl (cs 2, 6, .inr (.inr (.inr (.inr (fun k => some (ad (2 + k)))))))), ((ad 2), .inr (6, [])), ((ad 3), .inr (5, [])), ((ad 4), .inr (1, [])), ((ad 5), .inr (9, [])), ((ad 6), .inr (2, [])), ((ad 7), .inr (8, []))]) (wg := fun u5 => WT cs ad b (tR S 4 u5)) hx hb hml hown hT hN hK hP hD hS hA cw_X3_70 hm (fun z h => tcX7_dropFirst l D cs ad (b + 10) (8 : Int32) (3 : Int32) 24 H.size (S.1 4) z h) ⟨rfl, rfl⟩ ⟨by decide, by decide⟩ [10, 11] [0, 1, 2, 3, 4, 5, 6, 7, 8, 9, 12, 13, 14, 15, 16, 17, 18] [0, 1, 2, 3, 4, 5, 6, 7, 8, 9, 17, 18, 10, 11, 12, 13, 14, 15, 16] rfl (by decide) rfl (by decide) (by decide) (fun _ => rfl) (by decide) (b := (ad (b + 10))) 0 rfl rfl rfl hl.1 rfl rfl (Nat.le_of_ble_eq_true rfl) dX3_keepForUndo_14 ⟨Nat.zero_le _, Nat.zero_le _⟩ (fun u5 H locs hm hP hD hS => ?_)
    obtain ⟨S4, hm, eS4⟩ := nm_ex hm
    rw [← eS4] at hP hD
    refine lv_aload_n hx hb dX3_keepForUndo_17 rfl (lv_at hl 0 rfl) ?_
    refine gf_X3_40 (v := .ref (ad (b + 10))) hx hb hT hown hK hP 0 rfl rfl dX3_keepForUndo_18 ?_
    refine lv_aload_n hx hb dX3_keepForUndo_21 rfl (lv_at hl 0 rfl) ?_
    refine gf_X3_53 (v := .int (S4.2 8)) hx hb hT hown hK hP 0 rfl rfl dX3_keepForUndo_22 ?_
    refine lv_aload_n hx hb dX3_keepForUndo_25 rfl (lv_at hl 0 rfl) ?_
    refine gf_X3_56 (v := .int (S4.2 9)) hx hb hT hown hK hP 0 rfl rfl dX3_keepForUndo_26 ?_
    refine lv_aload_n hx hb dX3_keepForUndo_29 rfl (lv_at hl 0 rfl) ?_
    refine gf_X3_59 (v := .int (S4.2 10)) hx hb hT hown hK hP 0 rfl rfl dX3_keepForUndo_30 ?_
    refine lv_iconst (v := (0 : Int32)) hx hb dX3_keepForUndo_33 (by decide) ?_
    refine xVW_v (As := [.int (S4.2 8), .int (S4.2 9), .int (S4.2 10), .int (0 : Int32)]) (rest := []) (wr := [((ad b), .inr (3, [.ref (ad 1), .ref (ad (b + 1)), .ref (ad (b + 2)), .ref (ad (b + 4)), .ref (ad (b + 6)), .ref (ad (b + 8)), .ref (ad (b + 10)), .int (S4.2 7), .int (S4.2 8), .int (S4.2 9), .int (S4.2 10)])), ((ad (b + 1)), .inr (6, [])), ((ad (b + 2)), .inr (7, [.int (6 : Int32), .int (4 : Int32), .ref (ad (b + 3)), .int ((S4.1 0).1)])), ((ad (b + 3)), .inl (cs 0, 24, .inl ((S4.1 0).2))), ((ad (b + 4)), .inr (7, [.int (4 : Int32), .int (2 : Int32), .ref (ad (b + 5)), .int ((S4.1 1).1)])), ((ad (b + 5)), .inl (cs 0, 8, .inl ((S4.1 1).2))), ((ad (b + 6)), .inr (7, [.int (6 : Int32), .int (3 : Int32), .ref (ad (b + 7)), .int ((S4.1 2).1)])), ((ad (b + 7)), .inl (cs 0, 18, .inl ((S4.1 2).2))), ((ad (b + 8)), .inr (7, [.int (6 : Int32), .int (2 : Int32), .ref (ad (b + 9)), .int ((S4.1 3).1)])), ((ad (b + 9)), .inl (cs 0, 12, .inl ((S4.1 3).2))), ((ad 1), .inl (cs 2, 6, .inr (.inr (.inr (.inr (fun k => some (ad (2 + k)))))))), ((ad 2), .inr (6, [])), ((ad 3), .inr (5, [])), ((ad 4), .inr (1, [])), ((ad 5), .inr (9, [])), ((ad 6), .inr (2, [])), ((ad 7), .inr (8, []))]) (wg := fun u7 => WT cs ad b (tR S4 4 u7)) hx hb hml hown hT hN hK hP hD hS hA cw_X3_73 hm (fun z h => tcX7_add l D cs ad (b + 10) (8 : Int32) (3 : Int32) 24 H.size (S4.1 4) (S4.2 8) (S4.2 9) (S4.2 10) (0 : Int32) z h) ⟨rfl, rfl⟩ ⟨by decide, by decide⟩ [10, 11] [0, 1, 2, 3, 4, 5, 6, 7, 8, 9, 12, 13, 14, 15, 16, 17, 18] [0, 1, 2, 3, 4, 5, 6, 7, 8, 9, 17, 18, 10, 11, 12, 13, 14, 15, 16] rfl (by decide) rfl (by decide) (by decide) (fun _ => rfl) (by decide) (b := (ad (b + 10))) 0 rfl rfl rfl hl.1 rfl rfl (Nat.le_of_ble_eq_true rfl) dX3_keepForUndo_34 ⟨Nat.zero_le _, Nat.zero_le _⟩ (fun u7 H locs hm hP hD hS => ?_)
    obtain ⟨S6, hm, eS6⟩ := nm_ex hm
    rw [← eS6] at hP hD
    exact x_vretW (wf := (fun u => WT cs ad b u)) hx hb hr hlk hK hP hD hS hm dX3_keepForUndo_37
noncomputable def mX3_takeBack (S : MT) : Option MT := nm (((S.1 4).1) - (1 : Int32)) fun x1 => (mX7_cell (8 : Int32) (3 : Int32) 24 (S.1 4) x1 (0 : Int32)).bind fun r2 => nm (tI S 8 r2) fun S3 => (mX7_cell (8 : Int32) (3 : Int32) 24 (S3.1 4) x1 (1 : Int32)).bind fun r4 => nm (tI S3 9 r4) fun S5 => (mX7_cell (8 : Int32) (3 : Int32) 24 (S5.1 4) x1 (2 : Int32)).bind fun r6 => nm (tI S5 10 r6) fun S7 => (mX7_dropLast (8 : Int32) (3 : Int32) 24 (S7.1 4)).bind fun u9 => nm (tR S7 4 u9) fun S8 => some S8
set_option maxHeartbeats 4000000 in
set_option maxRecDepth 100000 in
theorem tcX3_takeBack (l : Launch) (D : va_G) (cs : CS) (ad : Nat → Nat) (b : Nat) (sz : Nat) (S : MT) (z : MT) (hm : mX3_takeBack S = some z) : Met l yX3_takeBack (Cond.code yX3_takeBack cX3_takeBack 2 none :: gw_tbl) ({ frames := 1, cells := 0, slots := 0, locals := 23 }) (PcW D cs sz (WT cs ad b S) [.ref (ad b)]) (QWv D cs (va_A (WT cs ad b S) sz) (fun u => WT cs ad b u) z) 0 0 (va_A (WT cs ad b S) sz) := by
  refine met_W rfl (Nat.le_of_ble_eq_true rfl) (fun p e s m below meth c E hP hD hS hA ls hl => ?_)
  generalize va_A (WT cs ad b S) sz = A at hD hS hA ⊢
  obtain ⟨hx, hb, hr, hml, hown, hlk, hT, hN, hK⟩ := id E
  obtain ⟨H, hH⟩ : ∃ H, H = s.heap := ⟨_, rfl⟩
  obtain ⟨locs, hlo⟩ : ∃ L : List Loc, L = [] := ⟨_, rfl⟩
  have hP : va_P D classes (WT cs ad b S) H := by rw [hH]; exact hP
  have hS : va_S A s.heap H locs := by rw [hH, hlo]; exact hS
  rw [show W p l e _ s m _ below meth c s.heap [] 0 0 = W p l e _ s m _ below meth c H locs 0 0 by rw [hH, hlo]]
  have hl : lv_has ls 2 [(0, .ref (ad b))] := hl
  unfold mX3_takeBack at hm
  refine lv_aload_n hx hb dX3_takeBack_0 rfl (lv_at hl 0 rfl) ?_
  refine gf_X3_40 (v := .ref (ad (b + 10))) hx hb hT hown hK hP 0 rfl rfl dX3_takeBack_1 ?_
  refine gf_X3_77 (v := .int ((S.1 4).1)) hx hb hT hown hK hP 10 rfl rfl dX3_takeBack_4 ?_
  refine lv_iconst (v := (1 : Int32)) hx hb dX3_takeBack_7 (by decide) ?_
  refine lv_isub hx hb dX3_takeBack_8 ?_
  refine xi_nm hm (fun x1 hm => ?_)
  refine lv_istore_n (lv' := [(1, .int x1), (0, .ref (ad b))]) hx hb dX3_takeBack_9 rfl hl (by decide) rfl (fun ls hl => ?_)
  refine lv_aload_n hx hb dX3_takeBack_10 rfl (lv_at hl 1 rfl) ?_
  refine lv_aload_n hx hb dX3_takeBack_11 rfl (lv_at hl 1 rfl) ?_
  refine gf_X3_40 (v := .ref (ad (b + 10))) hx hb hT hown hK hP 0 rfl rfl dX3_takeBack_12 ?_
  refine lv_iload_n hx hb dX3_takeBack_15 rfl (lv_at hl 0 rfl) ?_
  refine lv_iconst (v := (0 : Int32)) hx hb dX3_takeBack_16 (by decide) ?_
  refine xV_i (As := [.int x1, .int (0 : Int32)]) (rest := [.ref (ad b)]) hx hb hml hown hT hN hK (hP.sub (ws' := WR cs ad (b + 10) (8 : Int32) (3 : Int32) 24 (S.1 4)) [10, 11] rfl) cw_X3_80 hm (fun z h => tcX7_cell l D cs ad (b + 10) (8 : Int32) (3 : Int32) 24 (S.1 4) x1 (0 : Int32) z h) ⟨rfl, rfl⟩ ⟨by decide, by decide⟩ (b := (ad (b + 10))) 0 rfl rfl rfl hl.1 rfl rfl (Nat.le_of_ble_eq_true rfl) dX3_takeBack_17 ⟨Nat.zero_le _, Nat.zero_le _⟩ (fun r2 hm => ?_)
  refine pf_X3_53 (wf := (fun u => WT cs ad b u)) (u0 := tI S 8 r2) hx hb hT hown hK hP hD hS 0 rfl (Nat.le_of_ble_eq_true rfl) rfl rfl rfl hm dX3_takeBack_20 (fun S3 H locs hm hP hD hS => ?_)
  refine lv_aload_n hx hb dX3_takeBack_23 rfl (lv_at hl 1 rfl) ?_
  refine lv_aload_n hx hb dX3_takeBack_24 rfl (lv_at hl 1 rfl) ?_
  refine gf_X3_40 (v := .ref (ad (b + 10))) hx hb hT hown hK hP 0 rfl rfl dX3_takeBack_25 ?_
  refine lv_iload_n hx hb dX3_takeBack_28 rfl (lv_at hl 0 rfl) ?_
  refine lv_iconst (v := (1 : Int32)) hx hb dX3_takeBack_29 (by decide) ?_
  refine xV_i (As := [.int x1, .int (1 : Int32)]) (rest := [.ref (ad b)]) hx hb hml hown hT hN hK (hP.sub (ws' := WR cs ad (b + 10) (8 : Int32) (3 : Int32) 24 (S3.1 4)) [10, 11] rfl) cw_X3_80 hm (fun z h => tcX7_cell l D cs ad (b + 10) (8 : Int32) (3 : Int32) 24 (S3.1 4) x1 (1 : Int32) z h) ⟨rfl, rfl⟩ ⟨by decide, by decide⟩ (b := (ad (b + 10))) 0 rfl rfl rfl hl.1 rfl rfl (Nat.le_of_ble_eq_true rfl) dX3_takeBack_30 ⟨Nat.zero_le _, Nat.zero_le _⟩ (fun r4 hm => ?_)
  refine pf_X3_56 (wf := (fun u => WT cs ad b u)) (u0 := tI S3 9 r4) hx hb hT hown hK hP hD hS 0 rfl (Nat.le_of_ble_eq_true rfl) rfl rfl rfl hm dX3_takeBack_33 (fun S5 H locs hm hP hD hS => ?_)
  refine lv_aload_n hx hb dX3_takeBack_36 rfl (lv_at hl 1 rfl) ?_
  refine lv_aload_n hx hb dX3_takeBack_37 rfl (lv_at hl 1 rfl) ?_
  refine gf_X3_40 (v := .ref (ad (b + 10))) hx hb hT hown hK hP 0 rfl rfl dX3_takeBack_38 ?_
  refine lv_iload_n hx hb dX3_takeBack_41 rfl (lv_at hl 0 rfl) ?_
  refine lv_iconst (v := (2 : Int32)) hx hb dX3_takeBack_42 (by decide) ?_
  refine xV_i (As := [.int x1, .int (2 : Int32)]) (rest := [.ref (ad b)]) hx hb hml hown hT hN hK (hP.sub (ws' := WR cs ad (b + 10) (8 : Int32) (3 : Int32) 24 (S5.1 4)) [10, 11] rfl) cw_X3_80 hm (fun z h => tcX7_cell l D cs ad (b + 10) (8 : Int32) (3 : Int32) 24 (S5.1 4) x1 (2 : Int32) z h) ⟨rfl, rfl⟩ ⟨by decide, by decide⟩ (b := (ad (b + 10))) 0 rfl rfl rfl hl.1 rfl rfl (Nat.le_of_ble_eq_true rfl) dX3_takeBack_43 ⟨Nat.zero_le _, Nat.zero_le _⟩ (fun r6 hm => ?_)
  refine pf_X3_59 (wf := (fun u => WT cs ad b u)) (u0 := tI S5 10 r6) hx hb hT hown hK hP hD hS 0 rfl (Nat.le_of_ble_eq_true rfl) rfl rfl rfl hm dX3_takeBack_46 (fun S7 H locs hm hP hD hS => ?_)
  refine lv_aload_n hx hb dX3_takeBack_49 rfl (lv_at hl 1 rfl) ?_
  refine gf_X3_40 (v := .ref (ad (b + 10))) hx hb hT hown hK hP 0 rfl rfl dX3_takeBack_50 ?_
  refine xVW_v (As := []) (rest := []) (wr := [((ad b), .inr (3, [.ref (ad 1), .ref (ad (b + 1)), .ref (ad (b + 2)), .ref (ad (b + 4)), .ref (ad (b + 6)), .ref (ad (b + 8)), .ref (ad (b + 10)), .int (S7.2 7), .int (S7.2 8), .int (S7.2 9), .int (S7.2 10)])), ((ad (b + 1)), .inr (6, [])), ((ad (b + 2)), .inr (7, [.int (6 : Int32), .int (4 : Int32), .ref (ad (b + 3)), .int ((S7.1 0).1)])), ((ad (b + 3)), .inl (cs 0, 24, .inl ((S7.1 0).2))), ((ad (b + 4)), .inr (7, [.int (4 : Int32), .int (2 : Int32), .ref (ad (b + 5)), .int ((S7.1 1).1)])), ((ad (b + 5)), .inl (cs 0, 8, .inl ((S7.1 1).2))), ((ad (b + 6)), .inr (7, [.int (6 : Int32), .int (3 : Int32), .ref (ad (b + 7)), .int ((S7.1 2).1)])), ((ad (b + 7)), .inl (cs 0, 18, .inl ((S7.1 2).2))), ((ad (b + 8)), .inr (7, [.int (6 : Int32), .int (2 : Int32), .ref (ad (b + 9)), .int ((S7.1 3).1)])), ((ad (b + 9)), .inl (cs 0, 12, .inl ((S7.1 3).2))), ((ad 1), .inl (cs 2, 6, .inr (.inr (.inr (.inr (fun k => some (ad (2 + k)))))))), ((ad 2), .inr (6, [])), ((ad 3), .inr (5, [])), ((ad 4), .inr (1, [])), ((ad 5), .inr (9, [])), ((ad 6), .inr (2, [])), ((ad 7), .inr (8, []))]) (wg := fun u9 => WT cs ad b (tR S7 4 u9)) hx hb hml hown hT hN hK hP hD hS hA cw_X3_84 hm (fun z h => tcX7_dropLast l D cs ad (b + 10) (8 : Int32) (3 : Int32) 24 H.size (S7.1 4) z h) ⟨rfl, rfl⟩ ⟨by decide, by decide⟩ [10, 11] [0, 1, 2, 3, 4, 5, 6, 7, 8, 9, 12, 13, 14, 15, 16, 17, 18] [0, 1, 2, 3, 4, 5, 6, 7, 8, 9, 17, 18, 10, 11, 12, 13, 14, 15, 16] rfl (by decide) rfl (by decide) (by decide) (fun _ => rfl) (by decide) (b := (ad (b + 10))) 0 rfl rfl rfl hl.1 rfl rfl (Nat.le_of_ble_eq_true rfl) dX3_takeBack_53 ⟨Nat.zero_le _, Nat.zero_le _⟩ (fun u9 H locs hm hP hD hS => ?_)
  obtain ⟨S8, hm, eS8⟩ := nm_ex hm
  rw [← eS8] at hP hD
  exact x_vretW (wf := (fun u => WT cs ad b u)) hx hb hr hlk hK hP hD hS hm dX3_takeBack_56
noncomputable def mX3_become (O : MT) (S : MT) : Option MT := nm (tI S 7 (O.2 7)) fun S1 => nm (tI S1 8 (O.2 8)) fun S2 => nm (tI S2 9 (O.2 9)) fun S3 => nm (tI S3 10 (O.2 10)) fun S4 => (mX7_become 24 (O.1 0) (S4.1 0)).bind fun u6 => nm (tR S4 0 u6) fun S5 => (mX7_become 8 (O.1 1) (S5.1 1)).bind fun u8 => nm (tR S5 1 u8) fun S7 => (mX7_become 18 (O.1 2) (S7.1 2)).bind fun u10 => nm (tR S7 2 u10) fun S9 => (mX7_become 12 (O.1 3) (S9.1 3)).bind fun u12 => nm (tR S9 3 u12) fun S11 => (mX7_become 24 (O.1 4) (S11.1 4)).bind fun u14 => nm (tR S11 4 u14) fun S13 => some S13
set_option maxHeartbeats 4000000 in
set_option maxRecDepth 100000 in
theorem tcX3_become (l : Launch) (D : va_G) (cs : CS) (ad : Nat → Nat) (b b2 : Nat) (O : MT) (sz : Nat) (S : MT) (z : MT) (hm : mX3_become O S = some z) : Met l yX3_become (Cond.code yX3_become cX3_become 2 none :: gw_tbl) ({ frames := 1, cells := 0, slots := 0, locals := 22 }) (PcW D cs sz (WT2 cs ad b b2 O S) [.ref (ad b), .ref (ad b2)]) (QWv D cs (va_A (WT2 cs ad b b2 O S) sz) (fun u => WT2 cs ad b b2 O u) z) 0 0 (va_A (WT2 cs ad b b2 O S) sz) := by
  refine met_W rfl (Nat.le_of_ble_eq_true rfl) (fun p e s m below meth c E hP hD hS hA ls hl => ?_)
  generalize va_A (WT2 cs ad b b2 O S) sz = A at hD hS hA ⊢
  obtain ⟨hx, hb, hr, hml, hown, hlk, hT, hN, hK⟩ := id E
  obtain ⟨H, hH⟩ : ∃ H, H = s.heap := ⟨_, rfl⟩
  obtain ⟨locs, hlo⟩ : ∃ L : List Loc, L = [] := ⟨_, rfl⟩
  have hP : va_P D classes (WT2 cs ad b b2 O S) H := by rw [hH]; exact hP
  have hS : va_S A s.heap H locs := by rw [hH, hlo]; exact hS
  rw [show W p l e _ s m _ below meth c s.heap [] 0 0 = W p l e _ s m _ below meth c H locs 0 0 by rw [hH, hlo]]
  have hl : lv_has ls 2 [(0, .ref (ad b)), (1, .ref (ad b2))] := hl
  unfold mX3_become at hm
  refine lv_aload_n hx hb dX3_become_0 rfl (lv_at hl 0 rfl) ?_
  refine lv_aload_n hx hb dX3_become_1 rfl (lv_at hl 1 rfl) ?_
  refine gf_X3_43 (v := .int (O.2 7)) hx hb hT hown hK hP 12 rfl rfl dX3_become_2 ?_
  refine pf_X3_43 (wf := (fun u => WT2 cs ad b b2 O u)) (u0 := tI S 7 (O.2 7)) hx hb hT hown hK hP hD hS 0 rfl (Nat.le_of_ble_eq_true rfl) rfl rfl rfl hm dX3_become_5 (fun S1 H locs hm hP hD hS => ?_)
  refine lv_aload_n hx hb dX3_become_8 rfl (lv_at hl 0 rfl) ?_
  refine lv_aload_n hx hb dX3_become_9 rfl (lv_at hl 1 rfl) ?_
  refine gf_X3_53 (v := .int (O.2 8)) hx hb hT hown hK hP 12 rfl rfl dX3_become_10 ?_
  refine pf_X3_53 (wf := (fun u => WT2 cs ad b b2 O u)) (u0 := tI S1 8 (O.2 8)) hx hb hT hown hK hP hD hS 0 rfl (Nat.le_of_ble_eq_true rfl) rfl rfl rfl hm dX3_become_13 (fun S2 H locs hm hP hD hS => ?_)
  refine lv_aload_n hx hb dX3_become_16 rfl (lv_at hl 0 rfl) ?_
  refine lv_aload_n hx hb dX3_become_17 rfl (lv_at hl 1 rfl) ?_
  refine gf_X3_56 (v := .int (O.2 9)) hx hb hT hown hK hP 12 rfl rfl dX3_become_18 ?_
  refine pf_X3_56 (wf := (fun u => WT2 cs ad b b2 O u)) (u0 := tI S2 9 (O.2 9)) hx hb hT hown hK hP hD hS 0 rfl (Nat.le_of_ble_eq_true rfl) rfl rfl rfl hm dX3_become_21 (fun S3 H locs hm hP hD hS => ?_)
  refine lv_aload_n hx hb dX3_become_24 rfl (lv_at hl 0 rfl) ?_
  refine lv_aload_n hx hb dX3_become_25 rfl (lv_at hl 1 rfl) ?_
  refine gf_X3_59 (v := .int (O.2 10)) hx hb hT hown hK hP 12 rfl rfl dX3_become_26 ?_
  refine pf_X3_59 (wf := (fun u => WT2 cs ad b b2 O u)) (u0 := tI S3 10 (O.2 10)) hx hb hT hown hK hP hD hS 0 rfl (Nat.le_of_ble_eq_true rfl) rfl rfl rfl hm dX3_become_29 (fun S4 H locs hm hP hD hS => ?_)
  refine lv_aload_n hx hb dX3_become_32 rfl (lv_at hl 0 rfl) ?_
  refine gf_X3_27 (v := .ref (ad (b + 2))) hx hb hT hown hK hP 0 rfl rfl dX3_become_33 ?_
  refine lv_aload_n hx hb dX3_become_36 rfl (lv_at hl 1 rfl) ?_
  refine gf_X3_27 (v := .ref (ad (b2 + 2))) hx hb hT hown hK hP 12 rfl rfl dX3_become_37 ?_
  refine xVW_v (As := [.ref (ad (b2 + 2))]) (rest := []) (wr := [((ad b), .inr (3, [.ref (ad 1), .ref (ad (b + 1)), .ref (ad (b + 2)), .ref (ad (b + 4)), .ref (ad (b + 6)), .ref (ad (b + 8)), .ref (ad (b + 10)), .int (S4.2 7), .int (S4.2 8), .int (S4.2 9), .int (S4.2 10)])), ((ad (b + 1)), .inr (6, [])), ((ad (b + 4)), .inr (7, [.int (4 : Int32), .int (2 : Int32), .ref (ad (b + 5)), .int ((S4.1 1).1)])), ((ad (b + 5)), .inl (cs 0, 8, .inl ((S4.1 1).2))), ((ad (b + 6)), .inr (7, [.int (6 : Int32), .int (3 : Int32), .ref (ad (b + 7)), .int ((S4.1 2).1)])), ((ad (b + 7)), .inl (cs 0, 18, .inl ((S4.1 2).2))), ((ad (b + 8)), .inr (7, [.int (6 : Int32), .int (2 : Int32), .ref (ad (b + 9)), .int ((S4.1 3).1)])), ((ad (b + 9)), .inl (cs 0, 12, .inl ((S4.1 3).2))), ((ad (b + 10)), .inr (7, [.int (8 : Int32), .int (3 : Int32), .ref (ad (b + 11)), .int ((S4.1 4).1)])), ((ad (b + 11)), .inl (cs 0, 24, .inl ((S4.1 4).2))), ((ad b2), .inr (3, [.ref (ad 1), .ref (ad (b2 + 1)), .ref (ad (b2 + 2)), .ref (ad (b2 + 4)), .ref (ad (b2 + 6)), .ref (ad (b2 + 8)), .ref (ad (b2 + 10)), .int (O.2 7), .int (O.2 8), .int (O.2 9), .int (O.2 10)])), ((ad (b2 + 1)), .inr (6, [])), ((ad (b2 + 4)), .inr (7, [.int (4 : Int32), .int (2 : Int32), .ref (ad (b2 + 5)), .int ((O.1 1).1)])), ((ad (b2 + 5)), .inl (cs 0, 8, .inl ((O.1 1).2))), ((ad (b2 + 6)), .inr (7, [.int (6 : Int32), .int (3 : Int32), .ref (ad (b2 + 7)), .int ((O.1 2).1)])), ((ad (b2 + 7)), .inl (cs 0, 18, .inl ((O.1 2).2))), ((ad (b2 + 8)), .inr (7, [.int (6 : Int32), .int (2 : Int32), .ref (ad (b2 + 9)), .int ((O.1 3).1)])), ((ad (b2 + 9)), .inl (cs 0, 12, .inl ((O.1 3).2))), ((ad (b2 + 10)), .inr (7, [.int (8 : Int32), .int (3 : Int32), .ref (ad (b2 + 11)), .int ((O.1 4).1)])), ((ad (b2 + 11)), .inl (cs 0, 24, .inl ((O.1 4).2)))]) (wg := fun u6 => WT2 cs ad b b2 O (tR S4 0 u6)) hx hb hml hown hT hN hK hP hD hS hA cw_X3_62 hm (fun z h => tcX7_become l D cs ad (b + 2) (b2 + 2) (6 : Int32) (4 : Int32) 24 (O.1 0) H.size (S4.1 0) z h) ⟨rfl, rfl⟩ ⟨by decide, by decide⟩ [2, 3, 14, 15] [0, 1, 4, 5, 6, 7, 8, 9, 10, 11, 12, 13, 16, 17, 18, 19, 20, 21, 22, 23] [0, 1, 20, 21, 2, 3, 4, 5, 6, 7, 8, 9, 10, 11, 22, 23, 12, 13, 14, 15, 16, 17, 18, 19] rfl (by decide) rfl (by decide) (by decide) (fun _ => rfl) (by decide) (b := (ad (b + 2))) 0 rfl rfl rfl hl.1 rfl rfl (Nat.le_of_ble_eq_true rfl) dX3_become_40 ⟨Nat.zero_le _, Nat.zero_le _⟩ (fun u6 H locs hm hP hD hS => ?_)
  obtain ⟨S5, hm, eS5⟩ := nm_ex hm
  rw [← eS5] at hP hD
  refine lv_aload_n hx hb dX3_become_43 rfl (lv_at hl 0 rfl) ?_
  refine gf_X3_31 (v := .ref (ad (b + 4))) hx hb hT hown hK hP 0 rfl rfl dX3_become_44 ?_
  refine lv_aload_n hx hb dX3_become_47 rfl (lv_at hl 1 rfl) ?_
  refine gf_X3_31 (v := .ref (ad (b2 + 4))) hx hb hT hown hK hP 12 rfl rfl dX3_become_48 ?_
  refine xVW_v (As := [.ref (ad (b2 + 4))]) (rest := []) (wr := [((ad b), .inr (3, [.ref (ad 1), .ref (ad (b + 1)), .ref (ad (b + 2)), .ref (ad (b + 4)), .ref (ad (b + 6)), .ref (ad (b + 8)), .ref (ad (b + 10)), .int (S5.2 7), .int (S5.2 8), .int (S5.2 9), .int (S5.2 10)])), ((ad (b + 1)), .inr (6, [])), ((ad (b + 2)), .inr (7, [.int (6 : Int32), .int (4 : Int32), .ref (ad (b + 3)), .int ((S5.1 0).1)])), ((ad (b + 3)), .inl (cs 0, 24, .inl ((S5.1 0).2))), ((ad (b + 6)), .inr (7, [.int (6 : Int32), .int (3 : Int32), .ref (ad (b + 7)), .int ((S5.1 2).1)])), ((ad (b + 7)), .inl (cs 0, 18, .inl ((S5.1 2).2))), ((ad (b + 8)), .inr (7, [.int (6 : Int32), .int (2 : Int32), .ref (ad (b + 9)), .int ((S5.1 3).1)])), ((ad (b + 9)), .inl (cs 0, 12, .inl ((S5.1 3).2))), ((ad (b + 10)), .inr (7, [.int (8 : Int32), .int (3 : Int32), .ref (ad (b + 11)), .int ((S5.1 4).1)])), ((ad (b + 11)), .inl (cs 0, 24, .inl ((S5.1 4).2))), ((ad b2), .inr (3, [.ref (ad 1), .ref (ad (b2 + 1)), .ref (ad (b2 + 2)), .ref (ad (b2 + 4)), .ref (ad (b2 + 6)), .ref (ad (b2 + 8)), .ref (ad (b2 + 10)), .int (O.2 7), .int (O.2 8), .int (O.2 9), .int (O.2 10)])), ((ad (b2 + 1)), .inr (6, [])), ((ad (b2 + 2)), .inr (7, [.int (6 : Int32), .int (4 : Int32), .ref (ad (b2 + 3)), .int ((O.1 0).1)])), ((ad (b2 + 3)), .inl (cs 0, 24, .inl ((O.1 0).2))), ((ad (b2 + 6)), .inr (7, [.int (6 : Int32), .int (3 : Int32), .ref (ad (b2 + 7)), .int ((O.1 2).1)])), ((ad (b2 + 7)), .inl (cs 0, 18, .inl ((O.1 2).2))), ((ad (b2 + 8)), .inr (7, [.int (6 : Int32), .int (2 : Int32), .ref (ad (b2 + 9)), .int ((O.1 3).1)])), ((ad (b2 + 9)), .inl (cs 0, 12, .inl ((O.1 3).2))), ((ad (b2 + 10)), .inr (7, [.int (8 : Int32), .int (3 : Int32), .ref (ad (b2 + 11)), .int ((O.1 4).1)])), ((ad (b2 + 11)), .inl (cs 0, 24, .inl ((O.1 4).2)))]) (wg := fun u8 => WT2 cs ad b b2 O (tR S5 1 u8)) hx hb hml hown hT hN hK hP hD hS hA cw_X3_62 hm (fun z h => tcX7_become l D cs ad (b + 4) (b2 + 4) (4 : Int32) (2 : Int32) 8 (O.1 1) H.size (S5.1 1) z h) ⟨rfl, rfl⟩ ⟨by decide, by decide⟩ [4, 5, 16, 17] [0, 1, 2, 3, 6, 7, 8, 9, 10, 11, 12, 13, 14, 15, 18, 19, 20, 21, 22, 23] [0, 1, 2, 3, 20, 21, 4, 5, 6, 7, 8, 9, 10, 11, 12, 13, 22, 23, 14, 15, 16, 17, 18, 19] rfl (by decide) rfl (by decide) (by decide) (fun _ => rfl) (by decide) (b := (ad (b + 4))) 0 rfl rfl rfl hl.1 rfl rfl (Nat.le_of_ble_eq_true rfl) dX3_become_51 ⟨Nat.zero_le _, Nat.zero_le _⟩ (fun u8 H locs hm hP hD hS => ?_)
  obtain ⟨S7, hm, eS7⟩ := nm_ex hm
  rw [← eS7] at hP hD
  refine lv_aload_n hx hb dX3_become_54 rfl (lv_at hl 0 rfl) ?_
  refine gf_X3_34 (v := .ref (ad (b + 6))) hx hb hT hown hK hP 0 rfl rfl dX3_become_55 ?_
  refine lv_aload_n hx hb dX3_become_58 rfl (lv_at hl 1 rfl) ?_
  refine gf_X3_34 (v := .ref (ad (b2 + 6))) hx hb hT hown hK hP 12 rfl rfl dX3_become_59 ?_
  refine xVW_v (As := [.ref (ad (b2 + 6))]) (rest := []) (wr := [((ad b), .inr (3, [.ref (ad 1), .ref (ad (b + 1)), .ref (ad (b + 2)), .ref (ad (b + 4)), .ref (ad (b + 6)), .ref (ad (b + 8)), .ref (ad (b + 10)), .int (S7.2 7), .int (S7.2 8), .int (S7.2 9), .int (S7.2 10)])), ((ad (b + 1)), .inr (6, [])), ((ad (b + 2)), .inr (7, [.int (6 : Int32), .int (4 : Int32), .ref (ad (b + 3)), .int ((S7.1 0).1)])), ((ad (b + 3)), .inl (cs 0, 24, .inl ((S7.1 0).2))), ((ad (b + 4)), .inr (7, [.int (4 : Int32), .int (2 : Int32), .ref (ad (b + 5)), .int ((S7.1 1).1)])), ((ad (b + 5)), .inl (cs 0, 8, .inl ((S7.1 1).2))), ((ad (b + 8)), .inr (7, [.int (6 : Int32), .int (2 : Int32), .ref (ad (b + 9)), .int ((S7.1 3).1)])), ((ad (b + 9)), .inl (cs 0, 12, .inl ((S7.1 3).2))), ((ad (b + 10)), .inr (7, [.int (8 : Int32), .int (3 : Int32), .ref (ad (b + 11)), .int ((S7.1 4).1)])), ((ad (b + 11)), .inl (cs 0, 24, .inl ((S7.1 4).2))), ((ad b2), .inr (3, [.ref (ad 1), .ref (ad (b2 + 1)), .ref (ad (b2 + 2)), .ref (ad (b2 + 4)), .ref (ad (b2 + 6)), .ref (ad (b2 + 8)), .ref (ad (b2 + 10)), .int (O.2 7), .int (O.2 8), .int (O.2 9), .int (O.2 10)])), ((ad (b2 + 1)), .inr (6, [])), ((ad (b2 + 2)), .inr (7, [.int (6 : Int32), .int (4 : Int32), .ref (ad (b2 + 3)), .int ((O.1 0).1)])), ((ad (b2 + 3)), .inl (cs 0, 24, .inl ((O.1 0).2))), ((ad (b2 + 4)), .inr (7, [.int (4 : Int32), .int (2 : Int32), .ref (ad (b2 + 5)), .int ((O.1 1).1)])), ((ad (b2 + 5)), .inl (cs 0, 8, .inl ((O.1 1).2))), ((ad (b2 + 8)), .inr (7, [.int (6 : Int32), .int (2 : Int32), .ref (ad (b2 + 9)), .int ((O.1 3).1)])), ((ad (b2 + 9)), .inl (cs 0, 12, .inl ((O.1 3).2))), ((ad (b2 + 10)), .inr (7, [.int (8 : Int32), .int (3 : Int32), .ref (ad (b2 + 11)), .int ((O.1 4).1)])), ((ad (b2 + 11)), .inl (cs 0, 24, .inl ((O.1 4).2)))]) (wg := fun u10 => WT2 cs ad b b2 O (tR S7 2 u10)) hx hb hml hown hT hN hK hP hD hS hA cw_X3_62 hm (fun z h => tcX7_become l D cs ad (b + 6) (b2 + 6) (6 : Int32) (3 : Int32) 18 (O.1 2) H.size (S7.1 2) z h) ⟨rfl, rfl⟩ ⟨by decide, by decide⟩ [6, 7, 18, 19] [0, 1, 2, 3, 4, 5, 8, 9, 10, 11, 12, 13, 14, 15, 16, 17, 20, 21, 22, 23] [0, 1, 2, 3, 4, 5, 20, 21, 6, 7, 8, 9, 10, 11, 12, 13, 14, 15, 22, 23, 16, 17, 18, 19] rfl (by decide) rfl (by decide) (by decide) (fun _ => rfl) (by decide) (b := (ad (b + 6))) 0 rfl rfl rfl hl.1 rfl rfl (Nat.le_of_ble_eq_true rfl) dX3_become_62 ⟨Nat.zero_le _, Nat.zero_le _⟩ (fun u10 H locs hm hP hD hS => ?_)
  obtain ⟨S9, hm, eS9⟩ := nm_ex hm
  rw [← eS9] at hP hD
  refine lv_aload_n hx hb dX3_become_65 rfl (lv_at hl 0 rfl) ?_
  refine gf_X3_37 (v := .ref (ad (b + 8))) hx hb hT hown hK hP 0 rfl rfl dX3_become_66 ?_
  refine lv_aload_n hx hb dX3_become_69 rfl (lv_at hl 1 rfl) ?_
  refine gf_X3_37 (v := .ref (ad (b2 + 8))) hx hb hT hown hK hP 12 rfl rfl dX3_become_70 ?_
  refine xVW_v (As := [.ref (ad (b2 + 8))]) (rest := []) (wr := [((ad b), .inr (3, [.ref (ad 1), .ref (ad (b + 1)), .ref (ad (b + 2)), .ref (ad (b + 4)), .ref (ad (b + 6)), .ref (ad (b + 8)), .ref (ad (b + 10)), .int (S9.2 7), .int (S9.2 8), .int (S9.2 9), .int (S9.2 10)])), ((ad (b + 1)), .inr (6, [])), ((ad (b + 2)), .inr (7, [.int (6 : Int32), .int (4 : Int32), .ref (ad (b + 3)), .int ((S9.1 0).1)])), ((ad (b + 3)), .inl (cs 0, 24, .inl ((S9.1 0).2))), ((ad (b + 4)), .inr (7, [.int (4 : Int32), .int (2 : Int32), .ref (ad (b + 5)), .int ((S9.1 1).1)])), ((ad (b + 5)), .inl (cs 0, 8, .inl ((S9.1 1).2))), ((ad (b + 6)), .inr (7, [.int (6 : Int32), .int (3 : Int32), .ref (ad (b + 7)), .int ((S9.1 2).1)])), ((ad (b + 7)), .inl (cs 0, 18, .inl ((S9.1 2).2))), ((ad (b + 10)), .inr (7, [.int (8 : Int32), .int (3 : Int32), .ref (ad (b + 11)), .int ((S9.1 4).1)])), ((ad (b + 11)), .inl (cs 0, 24, .inl ((S9.1 4).2))), ((ad b2), .inr (3, [.ref (ad 1), .ref (ad (b2 + 1)), .ref (ad (b2 + 2)), .ref (ad (b2 + 4)), .ref (ad (b2 + 6)), .ref (ad (b2 + 8)), .ref (ad (b2 + 10)), .int (O.2 7), .int (O.2 8), .int (O.2 9), .int (O.2 10)])), ((ad (b2 + 1)), .inr (6, [])), ((ad (b2 + 2)), .inr (7, [.int (6 : Int32), .int (4 : Int32), .ref (ad (b2 + 3)), .int ((O.1 0).1)])), ((ad (b2 + 3)), .inl (cs 0, 24, .inl ((O.1 0).2))), ((ad (b2 + 4)), .inr (7, [.int (4 : Int32), .int (2 : Int32), .ref (ad (b2 + 5)), .int ((O.1 1).1)])), ((ad (b2 + 5)), .inl (cs 0, 8, .inl ((O.1 1).2))), ((ad (b2 + 6)), .inr (7, [.int (6 : Int32), .int (3 : Int32), .ref (ad (b2 + 7)), .int ((O.1 2).1)])), ((ad (b2 + 7)), .inl (cs 0, 18, .inl ((O.1 2).2))), ((ad (b2 + 10)), .inr (7, [.int (8 : Int32), .int (3 : Int32), .ref (ad (b2 + 11)), .int ((O.1 4).1)])), ((ad (b2 + 11)), .inl (cs 0, 24, .inl ((O.1 4).2)))]) (wg := fun u12 => WT2 cs ad b b2 O (tR S9 3 u12)) hx hb hml hown hT hN hK hP hD hS hA cw_X3_62 hm (fun z h => tcX7_become l D cs ad (b + 8) (b2 + 8) (6 : Int32) (2 : Int32) 12 (O.1 3) H.size (S9.1 3) z h) ⟨rfl, rfl⟩ ⟨by decide, by decide⟩ [8, 9, 20, 21] [0, 1, 2, 3, 4, 5, 6, 7, 10, 11, 12, 13, 14, 15, 16, 17, 18, 19, 22, 23] [0, 1, 2, 3, 4, 5, 6, 7, 20, 21, 8, 9, 10, 11, 12, 13, 14, 15, 16, 17, 22, 23, 18, 19] rfl (by decide) rfl (by decide) (by decide) (fun _ => rfl) (by decide) (b := (ad (b + 8))) 0 rfl rfl rfl hl.1 rfl rfl (Nat.le_of_ble_eq_true rfl) dX3_become_73 ⟨Nat.zero_le _, Nat.zero_le _⟩ (fun u12 H locs hm hP hD hS => ?_)
  obtain ⟨S11, hm, eS11⟩ := nm_ex hm
  rw [← eS11] at hP hD
  refine lv_aload_n hx hb dX3_become_76 rfl (lv_at hl 0 rfl) ?_
  refine gf_X3_40 (v := .ref (ad (b + 10))) hx hb hT hown hK hP 0 rfl rfl dX3_become_77 ?_
  refine lv_aload_n hx hb dX3_become_80 rfl (lv_at hl 1 rfl) ?_
  refine gf_X3_40 (v := .ref (ad (b2 + 10))) hx hb hT hown hK hP 12 rfl rfl dX3_become_81 ?_
  refine xVW_v (As := [.ref (ad (b2 + 10))]) (rest := []) (wr := [((ad b), .inr (3, [.ref (ad 1), .ref (ad (b + 1)), .ref (ad (b + 2)), .ref (ad (b + 4)), .ref (ad (b + 6)), .ref (ad (b + 8)), .ref (ad (b + 10)), .int (S11.2 7), .int (S11.2 8), .int (S11.2 9), .int (S11.2 10)])), ((ad (b + 1)), .inr (6, [])), ((ad (b + 2)), .inr (7, [.int (6 : Int32), .int (4 : Int32), .ref (ad (b + 3)), .int ((S11.1 0).1)])), ((ad (b + 3)), .inl (cs 0, 24, .inl ((S11.1 0).2))), ((ad (b + 4)), .inr (7, [.int (4 : Int32), .int (2 : Int32), .ref (ad (b + 5)), .int ((S11.1 1).1)])), ((ad (b + 5)), .inl (cs 0, 8, .inl ((S11.1 1).2))), ((ad (b + 6)), .inr (7, [.int (6 : Int32), .int (3 : Int32), .ref (ad (b + 7)), .int ((S11.1 2).1)])), ((ad (b + 7)), .inl (cs 0, 18, .inl ((S11.1 2).2))), ((ad (b + 8)), .inr (7, [.int (6 : Int32), .int (2 : Int32), .ref (ad (b + 9)), .int ((S11.1 3).1)])), ((ad (b + 9)), .inl (cs 0, 12, .inl ((S11.1 3).2))), ((ad b2), .inr (3, [.ref (ad 1), .ref (ad (b2 + 1)), .ref (ad (b2 + 2)), .ref (ad (b2 + 4)), .ref (ad (b2 + 6)), .ref (ad (b2 + 8)), .ref (ad (b2 + 10)), .int (O.2 7), .int (O.2 8), .int (O.2 9), .int (O.2 10)])), ((ad (b2 + 1)), .inr (6, [])), ((ad (b2 + 2)), .inr (7, [.int (6 : Int32), .int (4 : Int32), .ref (ad (b2 + 3)), .int ((O.1 0).1)])), ((ad (b2 + 3)), .inl (cs 0, 24, .inl ((O.1 0).2))), ((ad (b2 + 4)), .inr (7, [.int (4 : Int32), .int (2 : Int32), .ref (ad (b2 + 5)), .int ((O.1 1).1)])), ((ad (b2 + 5)), .inl (cs 0, 8, .inl ((O.1 1).2))), ((ad (b2 + 6)), .inr (7, [.int (6 : Int32), .int (3 : Int32), .ref (ad (b2 + 7)), .int ((O.1 2).1)])), ((ad (b2 + 7)), .inl (cs 0, 18, .inl ((O.1 2).2))), ((ad (b2 + 8)), .inr (7, [.int (6 : Int32), .int (2 : Int32), .ref (ad (b2 + 9)), .int ((O.1 3).1)])), ((ad (b2 + 9)), .inl (cs 0, 12, .inl ((O.1 3).2)))]) (wg := fun u14 => WT2 cs ad b b2 O (tR S11 4 u14)) hx hb hml hown hT hN hK hP hD hS hA cw_X3_62 hm (fun z h => tcX7_become l D cs ad (b + 10) (b2 + 10) (8 : Int32) (3 : Int32) 24 (O.1 4) H.size (S11.1 4) z h) ⟨rfl, rfl⟩ ⟨by decide, by decide⟩ [10, 11, 22, 23] [0, 1, 2, 3, 4, 5, 6, 7, 8, 9, 12, 13, 14, 15, 16, 17, 18, 19, 20, 21] [0, 1, 2, 3, 4, 5, 6, 7, 8, 9, 20, 21, 10, 11, 12, 13, 14, 15, 16, 17, 18, 19, 22, 23] rfl (by decide) rfl (by decide) (by decide) (fun _ => rfl) (by decide) (b := (ad (b + 10))) 0 rfl rfl rfl hl.1 rfl rfl (Nat.le_of_ble_eq_true rfl) dX3_become_84 ⟨Nat.zero_le _, Nat.zero_le _⟩ (fun u14 H locs hm hP hD hS => ?_)
  obtain ⟨S13, hm, eS13⟩ := nm_ex hm
  rw [← eS13] at hP hD
  exact x_vretW (wf := (fun u => WT2 cs ad b b2 O u)) hx hb hr hlk hK hP hD hS hm dX3_become_87
end
