section
-- ===== PART A: goes FIRST, ahead of the names: the tables' words, and 'selects' of the private methods out of them =====
/-- a private method of a class that the tables say can be made, by its rows of tables_1 -/
def lw_okq (q : MethodName × Nat) : Prop := (q.1.cls ≠ "java/lang/invoke/MethodHandle" ∧ q.1.cls ≠ "java/lang/invoke/VarHandle") ∧ Cond.instantiable q.1.cls q.2 ∈ tables_1 ∧ Cond.privateMethod q.1 ∈ tables_1 ∧ Cond.instanceMethod q.1 ∈ tables_1
theorem lw_p0 : lw_okq (⟨"MagpieAccounts$Tape", "scanToken", "(I)I"⟩, 6) := ⟨⟨by decide +kernel, by decide +kernel⟩, List.mem_of_getElem? (i := 260) (by decide +kernel), List.mem_of_getElem? (i := 447) (by decide +kernel), List.mem_of_getElem? (i := 448) (by decide +kernel)⟩
theorem lw_p1 : lw_okq (⟨"MagpieAccounts$Tape", "scanWord", "(I)I"⟩, 6) := ⟨⟨by decide +kernel, by decide +kernel⟩, List.mem_of_getElem? (i := 260) (by decide +kernel), List.mem_of_getElem? (i := 455) (by decide +kernel), List.mem_of_getElem? (i := 456) (by decide +kernel)⟩
theorem lw_p2 : lw_okq (⟨"MagpieAccounts$Tape", "kindOfWord", "(II)I"⟩, 6) := ⟨⟨by decide +kernel, by decide +kernel⟩, List.mem_of_getElem? (i := 260) (by decide +kernel), List.mem_of_getElem? (i := 459) (by decide +kernel), List.mem_of_getElem? (i := 460) (by decide +kernel)⟩
theorem lw_p3 : lw_okq (⟨"MagpieAccounts$Tape", "put", "(III)V"⟩, 6) := ⟨⟨by decide +kernel, by decide +kernel⟩, List.mem_of_getElem? (i := 260) (by decide +kernel), List.mem_of_getElem? (i := 504) (by decide +kernel), List.mem_of_getElem? (i := 505) (by decide +kernel)⟩
theorem lw_p4 : lw_okq (⟨"MagpieAccounts$Tape", "scanNumber", "(I)I"⟩, 6) := ⟨⟨by decide +kernel, by decide +kernel⟩, List.mem_of_getElem? (i := 260) (by decide +kernel), List.mem_of_getElem? (i := 511) (by decide +kernel), List.mem_of_getElem? (i := 512) (by decide +kernel)⟩
theorem lw_p5 : lw_okq (⟨"MagpieAccounts$Tape", "scanSign", "(I)I"⟩, 6) := ⟨⟨by decide +kernel, by decide +kernel⟩, List.mem_of_getElem? (i := 260) (by decide +kernel), List.mem_of_getElem? (i := 518) (by decide +kernel), List.mem_of_getElem? (i := 519) (by decide +kernel)⟩
theorem lw_p6 : lw_okq (⟨"MagpieAccounts$Reader", "kind", "()I"⟩, 16) := ⟨⟨by decide +kernel, by decide +kernel⟩, List.mem_of_getElem? (i := 254) (by decide +kernel), List.mem_of_getElem? (i := 587) (by decide +kernel), List.mem_of_getElem? (i := 588) (by decide +kernel)⟩
theorem lw_p7 : lw_okq (⟨"MagpieAccounts$Reader", "readClause", "()V"⟩, 16) := ⟨⟨by decide +kernel, by decide +kernel⟩, List.mem_of_getElem? (i := 254) (by decide +kernel), List.mem_of_getElem? (i := 591) (by decide +kernel), List.mem_of_getElem? (i := 592) (by decide +kernel)⟩
theorem lw_p8 : lw_okq (⟨"MagpieAccounts$Reader", "fail", "(I)V"⟩, 16) := ⟨⟨by decide +kernel, by decide +kernel⟩, List.mem_of_getElem? (i := 254) (by decide +kernel), List.mem_of_getElem? (i := 599) (by decide +kernel), List.mem_of_getElem? (i := 600) (by decide +kernel)⟩
theorem lw_p9 : lw_okq (⟨"MagpieAccounts$Reader", "readLaw", "(I)V"⟩, 16) := ⟨⟨by decide +kernel, by decide +kernel⟩, List.mem_of_getElem? (i := 254) (by decide +kernel), List.mem_of_getElem? (i := 603) (by decide +kernel), List.mem_of_getElem? (i := 604) (by decide +kernel)⟩
theorem lw_p10 : lw_okq (⟨"MagpieAccounts$Reader", "readSum", "(I)V"⟩, 16) := ⟨⟨by decide +kernel, by decide +kernel⟩, List.mem_of_getElem? (i := 254) (by decide +kernel), List.mem_of_getElem? (i := 607) (by decide +kernel), List.mem_of_getElem? (i := 608) (by decide +kernel)⟩
theorem lw_p11 : lw_okq (⟨"MagpieAccounts$Reader", "readProduct", "(I)V"⟩, 16) := ⟨⟨by decide +kernel, by decide +kernel⟩, List.mem_of_getElem? (i := 254) (by decide +kernel), List.mem_of_getElem? (i := 611) (by decide +kernel), List.mem_of_getElem? (i := 612) (by decide +kernel)⟩
theorem lw_p12 : lw_okq (⟨"MagpieAccounts$Reader", "readOne", "(I)V"⟩, 16) := ⟨⟨by decide +kernel, by decide +kernel⟩, List.mem_of_getElem? (i := 254) (by decide +kernel), List.mem_of_getElem? (i := 615) (by decide +kernel), List.mem_of_getElem? (i := 616) (by decide +kernel)⟩
theorem lw_p13 : lw_okq (⟨"MagpieAccounts$Reader", "readNumber", "(II)I"⟩, 16) := ⟨⟨by decide +kernel, by decide +kernel⟩, List.mem_of_getElem? (i := 254) (by decide +kernel), List.mem_of_getElem? (i := 619) (by decide +kernel), List.mem_of_getElem? (i := 620) (by decide +kernel)⟩
theorem lw_p14 : lw_okq (⟨"MagpieAccounts$Reader", "emit", "(II)V"⟩, 16) := ⟨⟨by decide +kernel, by decide +kernel⟩, List.mem_of_getElem? (i := 254) (by decide +kernel), List.mem_of_getElem? (i := 623) (by decide +kernel), List.mem_of_getElem? (i := 624) (by decide +kernel)⟩
theorem lw_p15 : lw_okq (⟨"MagpieAccounts$Reader", "readName", "(I)V"⟩, 16) := ⟨⟨by decide +kernel, by decide +kernel⟩, List.mem_of_getElem? (i := 254) (by decide +kernel), List.mem_of_getElem? (i := 627) (by decide +kernel), List.mem_of_getElem? (i := 628) (by decide +kernel)⟩
def lw_privs_1 : List (MethodName × Nat) := [(⟨"MagpieAccounts$Tape", "scanToken", "(I)I"⟩, 6), (⟨"MagpieAccounts$Tape", "scanWord", "(I)I"⟩, 6), (⟨"MagpieAccounts$Tape", "kindOfWord", "(II)I"⟩, 6), (⟨"MagpieAccounts$Tape", "put", "(III)V"⟩, 6), (⟨"MagpieAccounts$Tape", "scanNumber", "(I)I"⟩, 6), (⟨"MagpieAccounts$Tape", "scanSign", "(I)I"⟩, 6), (⟨"MagpieAccounts$Reader", "kind", "()I"⟩, 16), (⟨"MagpieAccounts$Reader", "readClause", "()V"⟩, 16), (⟨"MagpieAccounts$Reader", "fail", "(I)V"⟩, 16), (⟨"MagpieAccounts$Reader", "readLaw", "(I)V"⟩, 16), (⟨"MagpieAccounts$Reader", "readSum", "(I)V"⟩, 16), (⟨"MagpieAccounts$Reader", "readProduct", "(I)V"⟩, 16), (⟨"MagpieAccounts$Reader", "readOne", "(I)V"⟩, 16), (⟨"MagpieAccounts$Reader", "readNumber", "(II)I"⟩, 16), (⟨"MagpieAccounts$Reader", "emit", "(II)V"⟩, 16), (⟨"MagpieAccounts$Reader", "readName", "(I)V"⟩, 16)]
theorem lw_r1 : ∀ q ∈ lw_privs_1, lw_okq q := List.forall_mem_cons.mpr ⟨lw_p0, List.forall_mem_cons.mpr ⟨lw_p1, List.forall_mem_cons.mpr ⟨lw_p2, List.forall_mem_cons.mpr ⟨lw_p3, List.forall_mem_cons.mpr ⟨lw_p4, List.forall_mem_cons.mpr ⟨lw_p5, List.forall_mem_cons.mpr ⟨lw_p6, List.forall_mem_cons.mpr ⟨lw_p7, List.forall_mem_cons.mpr ⟨lw_p8, List.forall_mem_cons.mpr ⟨lw_p9, List.forall_mem_cons.mpr ⟨lw_p10, List.forall_mem_cons.mpr ⟨lw_p11, List.forall_mem_cons.mpr ⟨lw_p12, List.forall_mem_cons.mpr ⟨lw_p13, List.forall_mem_cons.mpr ⟨lw_p14, List.forall_mem_cons.mpr ⟨lw_p15, fun _ h => absurd h List.not_mem_nil⟩⟩⟩⟩⟩⟩⟩⟩⟩⟩⟩⟩⟩⟩⟩⟩
theorem lw_p16 : lw_okq (⟨"MagpieAccounts$Reader", "readOpened", "(II)V"⟩, 16) := ⟨⟨by decide +kernel, by decide +kernel⟩, List.mem_of_getElem? (i := 254) (by decide +kernel), List.mem_of_getElem? (i := 634) (by decide +kernel), List.mem_of_getElem? (i := 635) (by decide +kernel)⟩
theorem lw_p17 : lw_okq (⟨"MagpieAccounts$Reader", "expect", "(I)V"⟩, 16) := ⟨⟨by decide +kernel, by decide +kernel⟩, List.mem_of_getElem? (i := 254) (by decide +kernel), List.mem_of_getElem? (i := 638) (by decide +kernel), List.mem_of_getElem? (i := 639) (by decide +kernel)⟩
theorem lw_p18 : lw_okq (⟨"MagpieAccounts$Reader", "readChoice", "(I)V"⟩, 16) := ⟨⟨by decide +kernel, by decide +kernel⟩, List.mem_of_getElem? (i := 254) (by decide +kernel), List.mem_of_getElem? (i := 642) (by decide +kernel), List.mem_of_getElem? (i := 643) (by decide +kernel)⟩
theorem lw_p19 : lw_okq (⟨"MagpieAccounts$Reader", "readEither", "(I)V"⟩, 16) := ⟨⟨by decide +kernel, by decide +kernel⟩, List.mem_of_getElem? (i := 254) (by decide +kernel), List.mem_of_getElem? (i := 646) (by decide +kernel), List.mem_of_getElem? (i := 647) (by decide +kernel)⟩
theorem lw_p20 : lw_okq (⟨"MagpieAccounts$Reader", "readBoth", "(I)V"⟩, 16) := ⟨⟨by decide +kernel, by decide +kernel⟩, List.mem_of_getElem? (i := 254) (by decide +kernel), List.mem_of_getElem? (i := 650) (by decide +kernel), List.mem_of_getElem? (i := 651) (by decide +kernel)⟩
theorem lw_p21 : lw_okq (⟨"MagpieAccounts$Reader", "readAsk", "(I)V"⟩, 16) := ⟨⟨by decide +kernel, by decide +kernel⟩, List.mem_of_getElem? (i := 254) (by decide +kernel), List.mem_of_getElem? (i := 654) (by decide +kernel), List.mem_of_getElem? (i := 655) (by decide +kernel)⟩
theorem lw_p22 : lw_okq (⟨"MagpieAccounts$Reader", "readCompared", "(I)V"⟩, 16) := ⟨⟨by decide +kernel, by decide +kernel⟩, List.mem_of_getElem? (i := 254) (by decide +kernel), List.mem_of_getElem? (i := 658) (by decide +kernel), List.mem_of_getElem? (i := 659) (by decide +kernel)⟩
theorem lw_p23 : lw_okq (⟨"MagpieAccounts$Reader", "aim", "(I)V"⟩, 16) := ⟨⟨by decide +kernel, by decide +kernel⟩, List.mem_of_getElem? (i := 254) (by decide +kernel), List.mem_of_getElem? (i := 662) (by decide +kernel), List.mem_of_getElem? (i := 663) (by decide +kernel)⟩
theorem lw_p24 : lw_okq (⟨"MagpieAccounts$Reader", "readNumbers", "(I)V"⟩, 16) := ⟨⟨by decide +kernel, by decide +kernel⟩, List.mem_of_getElem? (i := 254) (by decide +kernel), List.mem_of_getElem? (i := 666) (by decide +kernel), List.mem_of_getElem? (i := 667) (by decide +kernel)⟩
theorem lw_p25 : lw_okq (⟨"MagpieAccounts", "passSteps", "(I)I"⟩, 11) := ⟨⟨by decide +kernel, by decide +kernel⟩, List.mem_of_getElem? (i := 24) (by decide +kernel), List.mem_of_getElem? (i := 801) (by decide +kernel), List.mem_of_getElem? (i := 802) (by decide +kernel)⟩
theorem lw_p26 : lw_okq (⟨"MagpieAccounts", "passDay", "()I"⟩, 11) := ⟨⟨by decide +kernel, by decide +kernel⟩, List.mem_of_getElem? (i := 24) (by decide +kernel), List.mem_of_getElem? (i := 805) (by decide +kernel), List.mem_of_getElem? (i := 806) (by decide +kernel)⟩
theorem lw_p27 : lw_okq (⟨"MagpieAccounts$Laws", "run", "(LMagpieAccounts$Text;II)I"⟩, 4) := ⟨⟨by decide +kernel, by decide +kernel⟩, List.mem_of_getElem? (i := 32) (by decide +kernel), List.mem_of_getElem? (i := 831) (by decide +kernel), List.mem_of_getElem? (i := 832) (by decide +kernel)⟩
theorem lw_p28 : lw_okq (⟨"MagpieAccounts$Laws", "ofOne", "(II)I"⟩, 4) := ⟨⟨by decide +kernel, by decide +kernel⟩, List.mem_of_getElem? (i := 32) (by decide +kernel), List.mem_of_getElem? (i := 841) (by decide +kernel), List.mem_of_getElem? (i := 842) (by decide +kernel)⟩
theorem lw_p29 : lw_okq (⟨"MagpieAccounts$Laws", "named", "(I)I"⟩, 4) := ⟨⟨by decide +kernel, by decide +kernel⟩, List.mem_of_getElem? (i := 32) (by decide +kernel), List.mem_of_getElem? (i := 868) (by decide +kernel), List.mem_of_getElem? (i := 869) (by decide +kernel)⟩
theorem lw_p30 : lw_okq (⟨"MagpieAccounts", "playClause", "(III)Z"⟩, 11) := ⟨⟨by decide +kernel, by decide +kernel⟩, List.mem_of_getElem? (i := 24) (by decide +kernel), List.mem_of_getElem? (i := 897) (by decide +kernel), List.mem_of_getElem? (i := 898) (by decide +kernel)⟩
theorem lw_p31 : lw_okq (⟨"MagpieAccounts", "drawYear", "()V"⟩, 11) := ⟨⟨by decide +kernel, by decide +kernel⟩, List.mem_of_getElem? (i := 24) (by decide +kernel), List.mem_of_getElem? (i := 911) (by decide +kernel), List.mem_of_getElem? (i := 912) (by decide +kernel)⟩
def lw_privs_2 : List (MethodName × Nat) := [(⟨"MagpieAccounts$Reader", "readOpened", "(II)V"⟩, 16), (⟨"MagpieAccounts$Reader", "expect", "(I)V"⟩, 16), (⟨"MagpieAccounts$Reader", "readChoice", "(I)V"⟩, 16), (⟨"MagpieAccounts$Reader", "readEither", "(I)V"⟩, 16), (⟨"MagpieAccounts$Reader", "readBoth", "(I)V"⟩, 16), (⟨"MagpieAccounts$Reader", "readAsk", "(I)V"⟩, 16), (⟨"MagpieAccounts$Reader", "readCompared", "(I)V"⟩, 16), (⟨"MagpieAccounts$Reader", "aim", "(I)V"⟩, 16), (⟨"MagpieAccounts$Reader", "readNumbers", "(I)V"⟩, 16), (⟨"MagpieAccounts", "passSteps", "(I)I"⟩, 11), (⟨"MagpieAccounts", "passDay", "()I"⟩, 11), (⟨"MagpieAccounts$Laws", "run", "(LMagpieAccounts$Text;II)I"⟩, 4), (⟨"MagpieAccounts$Laws", "ofOne", "(II)I"⟩, 4), (⟨"MagpieAccounts$Laws", "named", "(I)I"⟩, 4), (⟨"MagpieAccounts", "playClause", "(III)Z"⟩, 11), (⟨"MagpieAccounts", "drawYear", "()V"⟩, 11)]
theorem lw_r2 : ∀ q ∈ lw_privs_2, lw_okq q := List.forall_mem_cons.mpr ⟨lw_p16, List.forall_mem_cons.mpr ⟨lw_p17, List.forall_mem_cons.mpr ⟨lw_p18, List.forall_mem_cons.mpr ⟨lw_p19, List.forall_mem_cons.mpr ⟨lw_p20, List.forall_mem_cons.mpr ⟨lw_p21, List.forall_mem_cons.mpr ⟨lw_p22, List.forall_mem_cons.mpr ⟨lw_p23, List.forall_mem_cons.mpr ⟨lw_p24, List.forall_mem_cons.mpr ⟨lw_p25, List.forall_mem_cons.mpr ⟨lw_p26, List.forall_mem_cons.mpr ⟨lw_p27, List.forall_mem_cons.mpr ⟨lw_p28, List.forall_mem_cons.mpr ⟨lw_p29, List.forall_mem_cons.mpr ⟨lw_p30, List.forall_mem_cons.mpr ⟨lw_p31, fun _ h => absurd h List.not_mem_nil⟩⟩⟩⟩⟩⟩⟩⟩⟩⟩⟩⟩⟩⟩⟩⟩
theorem lw_p32 : lw_okq (⟨"MagpieAccounts", "noteChances", "()V"⟩, 11) := ⟨⟨by decide +kernel, by decide +kernel⟩, List.mem_of_getElem? (i := 24) (by decide +kernel), List.mem_of_getElem? (i := 969) (by decide +kernel), List.mem_of_getElem? (i := 970) (by decide +kernel)⟩
theorem lw_p33 : lw_okq (⟨"MagpieAccounts", "spreadOver", "(II)V"⟩, 11) := ⟨⟨by decide +kernel, by decide +kernel⟩, List.mem_of_getElem? (i := 24) (by decide +kernel), List.mem_of_getElem? (i := 973) (by decide +kernel), List.mem_of_getElem? (i := 974) (by decide +kernel)⟩
theorem lw_p34 : lw_okq (⟨"MagpieAccounts", "bestThinned", "(I)I"⟩, 11) := ⟨⟨by decide +kernel, by decide +kernel⟩, List.mem_of_getElem? (i := 24) (by decide +kernel), List.mem_of_getElem? (i := 1010) (by decide +kernel), List.mem_of_getElem? (i := 1011) (by decide +kernel)⟩
theorem lw_p35 : lw_okq (⟨"MagpieAccounts", "canCome", "(II)Z"⟩, 11) := ⟨⟨by decide +kernel, by decide +kernel⟩, List.mem_of_getElem? (i := 24) (by decide +kernel), List.mem_of_getElem? (i := 1077) (by decide +kernel), List.mem_of_getElem? (i := 1078) (by decide +kernel)⟩
theorem lw_p36 : lw_okq (⟨"MagpieAccounts$Rings", "walked", "(II)I"⟩, 1) := ⟨⟨by decide +kernel, by decide +kernel⟩, List.mem_of_getElem? (i := 133) (by decide +kernel), List.mem_of_getElem? (i := 1124) (by decide +kernel), List.mem_of_getElem? (i := 1125) (by decide +kernel)⟩
theorem lw_p37 : lw_okq (⟨"MagpieAccounts", "leastBound", "(II)I"⟩, 11) := ⟨⟨by decide +kernel, by decide +kernel⟩, List.mem_of_getElem? (i := 24) (by decide +kernel), List.mem_of_getElem? (i := 1147) (by decide +kernel), List.mem_of_getElem? (i := 1148) (by decide +kernel)⟩
theorem lw_p38 : lw_okq (⟨"MagpieAccounts$Parishes", "placeOf", "(II)I"⟩, 5) := ⟨⟨by decide +kernel, by decide +kernel⟩, List.mem_of_getElem? (i := 144) (by decide +kernel), List.mem_of_getElem? (i := 1208) (by decide +kernel), List.mem_of_getElem? (i := 1209) (by decide +kernel)⟩
theorem lw_p39 : lw_okq (⟨"MagpieAccounts$Parishes", "causeAt", "(II)I"⟩, 5) := ⟨⟨by decide +kernel, by decide +kernel⟩, List.mem_of_getElem? (i := 144) (by decide +kernel), List.mem_of_getElem? (i := 1212) (by decide +kernel), List.mem_of_getElem? (i := 1213) (by decide +kernel)⟩
theorem lw_p40 : lw_okq (⟨"MagpieAccounts$Parishes", "weakest", "(I)I"⟩, 5) := ⟨⟨by decide +kernel, by decide +kernel⟩, List.mem_of_getElem? (i := 144) (by decide +kernel), List.mem_of_getElem? (i := 1245) (by decide +kernel), List.mem_of_getElem? (i := 1246) (by decide +kernel)⟩
theorem lw_p41 : lw_okq (⟨"MagpieAccounts$Parishes", "firstVotes", "(II)I"⟩, 5) := ⟨⟨by decide +kernel, by decide +kernel⟩, List.mem_of_getElem? (i := 144) (by decide +kernel), List.mem_of_getElem? (i := 1251) (by decide +kernel), List.mem_of_getElem? (i := 1252) (by decide +kernel)⟩
theorem lw_p42 : lw_okq (⟨"MagpieAccounts", "raise", "(II)I"⟩, 11) := ⟨⟨by decide +kernel, by decide +kernel⟩, List.mem_of_getElem? (i := 24) (by decide +kernel), List.mem_of_getElem? (i := 1259) (by decide +kernel), List.mem_of_getElem? (i := 1260) (by decide +kernel)⟩
theorem lw_p43 : lw_okq (⟨"MagpieAccounts", "multiply", "(II)I"⟩, 11) := ⟨⟨by decide +kernel, by decide +kernel⟩, List.mem_of_getElem? (i := 24) (by decide +kernel), List.mem_of_getElem? (i := 1263) (by decide +kernel), List.mem_of_getElem? (i := 1264) (by decide +kernel)⟩
theorem lw_p44 : lw_okq (⟨"MagpieAccounts", "bringsAllTold", "(LMagpieAccounts$Text;)Z"⟩, 11) := ⟨⟨by decide +kernel, by decide +kernel⟩, List.mem_of_getElem? (i := 24) (by decide +kernel), List.mem_of_getElem? (i := 1307) (by decide +kernel), List.mem_of_getElem? (i := 1308) (by decide +kernel)⟩
theorem lw_p45 : lw_okq (⟨"MagpieAccountsModel", "four", "(I)V"⟩, 32) := ⟨⟨by decide +kernel, by decide +kernel⟩, List.mem_of_getElem? (i := 1364) (by decide +kernel), List.mem_of_getElem? (i := 1488) (by decide +kernel), List.mem_of_getElem? (i := 1489) (by decide +kernel)⟩
theorem lw_p46 : lw_okq (⟨"MagpieAccountsModel", "readText", "()I"⟩, 32) := ⟨⟨by decide +kernel, by decide +kernel⟩, List.mem_of_getElem? (i := 1364) (by decide +kernel), List.mem_of_getElem? (i := 1500) (by decide +kernel), List.mem_of_getElem? (i := 1501) (by decide +kernel)⟩
theorem lw_p47 : lw_okq (⟨"MagpieAccountsModel", "nextToken", "()V"⟩, 32) := ⟨⟨by decide +kernel, by decide +kernel⟩, List.mem_of_getElem? (i := 1364) (by decide +kernel), List.mem_of_getElem? (i := 1504) (by decide +kernel), List.mem_of_getElem? (i := 1505) (by decide +kernel)⟩
def lw_privs_3 : List (MethodName × Nat) := [(⟨"MagpieAccounts", "noteChances", "()V"⟩, 11), (⟨"MagpieAccounts", "spreadOver", "(II)V"⟩, 11), (⟨"MagpieAccounts", "bestThinned", "(I)I"⟩, 11), (⟨"MagpieAccounts", "canCome", "(II)Z"⟩, 11), (⟨"MagpieAccounts$Rings", "walked", "(II)I"⟩, 1), (⟨"MagpieAccounts", "leastBound", "(II)I"⟩, 11), (⟨"MagpieAccounts$Parishes", "placeOf", "(II)I"⟩, 5), (⟨"MagpieAccounts$Parishes", "causeAt", "(II)I"⟩, 5), (⟨"MagpieAccounts$Parishes", "weakest", "(I)I"⟩, 5), (⟨"MagpieAccounts$Parishes", "firstVotes", "(II)I"⟩, 5), (⟨"MagpieAccounts", "raise", "(II)I"⟩, 11), (⟨"MagpieAccounts", "multiply", "(II)I"⟩, 11), (⟨"MagpieAccounts", "bringsAllTold", "(LMagpieAccounts$Text;)Z"⟩, 11), (⟨"MagpieAccountsModel", "four", "(I)V"⟩, 32), (⟨"MagpieAccountsModel", "readText", "()I"⟩, 32), (⟨"MagpieAccountsModel", "nextToken", "()V"⟩, 32)]
theorem lw_r3 : ∀ q ∈ lw_privs_3, lw_okq q := List.forall_mem_cons.mpr ⟨lw_p32, List.forall_mem_cons.mpr ⟨lw_p33, List.forall_mem_cons.mpr ⟨lw_p34, List.forall_mem_cons.mpr ⟨lw_p35, List.forall_mem_cons.mpr ⟨lw_p36, List.forall_mem_cons.mpr ⟨lw_p37, List.forall_mem_cons.mpr ⟨lw_p38, List.forall_mem_cons.mpr ⟨lw_p39, List.forall_mem_cons.mpr ⟨lw_p40, List.forall_mem_cons.mpr ⟨lw_p41, List.forall_mem_cons.mpr ⟨lw_p42, List.forall_mem_cons.mpr ⟨lw_p43, List.forall_mem_cons.mpr ⟨lw_p44, List.forall_mem_cons.mpr ⟨lw_p45, List.forall_mem_cons.mpr ⟨lw_p46, List.forall_mem_cons.mpr ⟨lw_p47, fun _ h => absurd h List.not_mem_nil⟩⟩⟩⟩⟩⟩⟩⟩⟩⟩⟩⟩⟩⟩⟩⟩
theorem lw_p48 : lw_okq (⟨"MagpieAccountsModel", "byteAt", "(I)I"⟩, 32) := ⟨⟨by decide +kernel, by decide +kernel⟩, List.mem_of_getElem? (i := 1364) (by decide +kernel), List.mem_of_getElem? (i := 1508) (by decide +kernel), List.mem_of_getElem? (i := 1509) (by decide +kernel)⟩
theorem lw_p49 : lw_okq (⟨"MagpieAccountsModel", "clause", "()I"⟩, 32) := ⟨⟨by decide +kernel, by decide +kernel⟩, List.mem_of_getElem? (i := 1364) (by decide +kernel), List.mem_of_getElem? (i := 1523) (by decide +kernel), List.mem_of_getElem? (i := 1524) (by decide +kernel)⟩
theorem lw_p50 : lw_okq (⟨"MagpieAccountsModel", "sortOf", "()I"⟩, 32) := ⟨⟨by decide +kernel, by decide +kernel⟩, List.mem_of_getElem? (i := 1364) (by decide +kernel), List.mem_of_getElem? (i := 1527) (by decide +kernel), List.mem_of_getElem? (i := 1528) (by decide +kernel)⟩
theorem lw_p51 : lw_okq (⟨"MagpieAccountsModel", "isWord", "(J)Z"⟩, 32) := ⟨⟨by decide +kernel, by decide +kernel⟩, List.mem_of_getElem? (i := 1364) (by decide +kernel), List.mem_of_getElem? (i := 1546) (by decide +kernel), List.mem_of_getElem? (i := 1547) (by decide +kernel)⟩
theorem lw_p52 : lw_okq (⟨"MagpieAccountsModel", "body", "(II)I"⟩, 32) := ⟨⟨by decide +kernel, by decide +kernel⟩, List.mem_of_getElem? (i := 1364) (by decide +kernel), List.mem_of_getElem? (i := 1553) (by decide +kernel), List.mem_of_getElem? (i := 1554) (by decide +kernel)⟩
theorem lw_p53 : lw_okq (⟨"MagpieAccountsModel", "pair", "(IIIJI)I"⟩, 32) := ⟨⟨by decide +kernel, by decide +kernel⟩, List.mem_of_getElem? (i := 1364) (by decide +kernel), List.mem_of_getElem? (i := 1557) (by decide +kernel), List.mem_of_getElem? (i := 1558) (by decide +kernel)⟩
theorem lw_p54 : lw_okq (⟨"MagpieAccountsModel", "figure", "(III)I"⟩, 32) := ⟨⟨by decide +kernel, by decide +kernel⟩, List.mem_of_getElem? (i := 1364) (by decide +kernel), List.mem_of_getElem? (i := 1561) (by decide +kernel), List.mem_of_getElem? (i := 1562) (by decide +kernel)⟩
theorem lw_p55 : lw_okq (⟨"MagpieAccountsModel", "lawClause", "(I)I"⟩, 32) := ⟨⟨by decide +kernel, by decide +kernel⟩, List.mem_of_getElem? (i := 1364) (by decide +kernel), List.mem_of_getElem? (i := 1565) (by decide +kernel), List.mem_of_getElem? (i := 1566) (by decide +kernel)⟩
theorem lw_p56 : lw_okq (⟨"MagpieAccountsModel", "summed", "()I"⟩, 32) := ⟨⟨by decide +kernel, by decide +kernel⟩, List.mem_of_getElem? (i := 1364) (by decide +kernel), List.mem_of_getElem? (i := 1569) (by decide +kernel), List.mem_of_getElem? (i := 1570) (by decide +kernel)⟩
theorem lw_p57 : lw_okq (⟨"MagpieAccountsModel", "behindOne", "()Z"⟩, 32) := ⟨⟨by decide +kernel, by decide +kernel⟩, List.mem_of_getElem? (i := 1364) (by decide +kernel), List.mem_of_getElem? (i := 1573) (by decide +kernel), List.mem_of_getElem? (i := 1574) (by decide +kernel)⟩
theorem lw_p58 : lw_okq (⟨"MagpieAccountsModel", "betweenOf", "()I"⟩, 32) := ⟨⟨by decide +kernel, by decide +kernel⟩, List.mem_of_getElem? (i := 1364) (by decide +kernel), List.mem_of_getElem? (i := 1577) (by decide +kernel), List.mem_of_getElem? (i := 1578) (by decide +kernel)⟩
theorem lw_p59 : lw_okq (⟨"MagpieAccountsModel", "openNow", "()I"⟩, 32) := ⟨⟨by decide +kernel, by decide +kernel⟩, List.mem_of_getElem? (i := 1364) (by decide +kernel), List.mem_of_getElem? (i := 1581) (by decide +kernel), List.mem_of_getElem? (i := 1582) (by decide +kernel)⟩
theorem lw_p60 : lw_okq (⟨"MagpieAccountsModel", "openAt", "()I"⟩, 32) := ⟨⟨by decide +kernel, by decide +kernel⟩, List.mem_of_getElem? (i := 1364) (by decide +kernel), List.mem_of_getElem? (i := 1585) (by decide +kernel), List.mem_of_getElem? (i := 1586) (by decide +kernel)⟩
theorem lw_p61 : lw_okq (⟨"MagpieAccountsModel", "isCompared", "()Z"⟩, 32) := ⟨⟨by decide +kernel, by decide +kernel⟩, List.mem_of_getElem? (i := 1364) (by decide +kernel), List.mem_of_getElem? (i := 1589) (by decide +kernel), List.mem_of_getElem? (i := 1590) (by decide +kernel)⟩
theorem lw_p62 : lw_okq (⟨"MagpieAccountsModel", "compareOf", "()I"⟩, 32) := ⟨⟨by decide +kernel, by decide +kernel⟩, List.mem_of_getElem? (i := 1364) (by decide +kernel), List.mem_of_getElem? (i := 1596) (by decide +kernel), List.mem_of_getElem? (i := 1597) (by decide +kernel)⟩
theorem lw_p63 : lw_okq (⟨"MagpieAccountsModel", "settle", "(I)V"⟩, 32) := ⟨⟨by decide +kernel, by decide +kernel⟩, List.mem_of_getElem? (i := 1364) (by decide +kernel), List.mem_of_getElem? (i := 1600) (by decide +kernel), List.mem_of_getElem? (i := 1601) (by decide +kernel)⟩
def lw_privs_4 : List (MethodName × Nat) := [(⟨"MagpieAccountsModel", "byteAt", "(I)I"⟩, 32), (⟨"MagpieAccountsModel", "clause", "()I"⟩, 32), (⟨"MagpieAccountsModel", "sortOf", "()I"⟩, 32), (⟨"MagpieAccountsModel", "isWord", "(J)Z"⟩, 32), (⟨"MagpieAccountsModel", "body", "(II)I"⟩, 32), (⟨"MagpieAccountsModel", "pair", "(IIIJI)I"⟩, 32), (⟨"MagpieAccountsModel", "figure", "(III)I"⟩, 32), (⟨"MagpieAccountsModel", "lawClause", "(I)I"⟩, 32), (⟨"MagpieAccountsModel", "summed", "()I"⟩, 32), (⟨"MagpieAccountsModel", "behindOne", "()Z"⟩, 32), (⟨"MagpieAccountsModel", "betweenOf", "()I"⟩, 32), (⟨"MagpieAccountsModel", "openNow", "()I"⟩, 32), (⟨"MagpieAccountsModel", "openAt", "()I"⟩, 32), (⟨"MagpieAccountsModel", "isCompared", "()Z"⟩, 32), (⟨"MagpieAccountsModel", "compareOf", "()I"⟩, 32), (⟨"MagpieAccountsModel", "settle", "(I)V"⟩, 32)]
theorem lw_r4 : ∀ q ∈ lw_privs_4, lw_okq q := List.forall_mem_cons.mpr ⟨lw_p48, List.forall_mem_cons.mpr ⟨lw_p49, List.forall_mem_cons.mpr ⟨lw_p50, List.forall_mem_cons.mpr ⟨lw_p51, List.forall_mem_cons.mpr ⟨lw_p52, List.forall_mem_cons.mpr ⟨lw_p53, List.forall_mem_cons.mpr ⟨lw_p54, List.forall_mem_cons.mpr ⟨lw_p55, List.forall_mem_cons.mpr ⟨lw_p56, List.forall_mem_cons.mpr ⟨lw_p57, List.forall_mem_cons.mpr ⟨lw_p58, List.forall_mem_cons.mpr ⟨lw_p59, List.forall_mem_cons.mpr ⟨lw_p60, List.forall_mem_cons.mpr ⟨lw_p61, List.forall_mem_cons.mpr ⟨lw_p62, List.forall_mem_cons.mpr ⟨lw_p63, fun _ h => absurd h List.not_mem_nil⟩⟩⟩⟩⟩⟩⟩⟩⟩⟩⟩⟩⟩⟩⟩⟩
theorem lw_p64 : lw_okq (⟨"MagpieAccountsModel", "emit", "(II)V"⟩, 32) := ⟨⟨by decide +kernel, by decide +kernel⟩, List.mem_of_getElem? (i := 1364) (by decide +kernel), List.mem_of_getElem? (i := 1604) (by decide +kernel), List.mem_of_getElem? (i := 1605) (by decide +kernel)⟩
theorem lw_p65 : lw_okq (⟨"MagpieAccountsModel", "partOf", "(I)I"⟩, 32) := ⟨⟨by decide +kernel, by decide +kernel⟩, List.mem_of_getElem? (i := 1364) (by decide +kernel), List.mem_of_getElem? (i := 1608) (by decide +kernel), List.mem_of_getElem? (i := 1609) (by decide +kernel)⟩
theorem lw_p66 : lw_okq (⟨"MagpieAccountsModel", "beginOne", "()I"⟩, 32) := ⟨⟨by decide +kernel, by decide +kernel⟩, List.mem_of_getElem? (i := 1364) (by decide +kernel), List.mem_of_getElem? (i := 1612) (by decide +kernel), List.mem_of_getElem? (i := 1613) (by decide +kernel)⟩
theorem lw_p67 : lw_okq (⟨"MagpieAccountsModel", "nameOf", "()I"⟩, 32) := ⟨⟨by decide +kernel, by decide +kernel⟩, List.mem_of_getElem? (i := 1364) (by decide +kernel), List.mem_of_getElem? (i := 1616) (by decide +kernel), List.mem_of_getElem? (i := 1617) (by decide +kernel)⟩
theorem lw_p68 : lw_okq (⟨"MagpieAccountsModel", "isOf", "(I)Z"⟩, 32) := ⟨⟨by decide +kernel, by decide +kernel⟩, List.mem_of_getElem? (i := 1364) (by decide +kernel), List.mem_of_getElem? (i := 1620) (by decide +kernel), List.mem_of_getElem? (i := 1621) (by decide +kernel)⟩
theorem lw_p69 : lw_okq (⟨"MagpieAccountsModel", "opened", "(I)I"⟩, 32) := ⟨⟨by decide +kernel, by decide +kernel⟩, List.mem_of_getElem? (i := 1364) (by decide +kernel), List.mem_of_getElem? (i := 1624) (by decide +kernel), List.mem_of_getElem? (i := 1625) (by decide +kernel)⟩
theorem lw_p70 : lw_okq (⟨"MagpieAccountsModel", "isAskAhead", "()Z"⟩, 32) := ⟨⟨by decide +kernel, by decide +kernel⟩, List.mem_of_getElem? (i := 1364) (by decide +kernel), List.mem_of_getElem? (i := 1628) (by decide +kernel), List.mem_of_getElem? (i := 1629) (by decide +kernel)⟩
theorem lw_p71 : lw_okq (⟨"MagpieAccountsModel", "isBird", "(I)Z"⟩, 32) := ⟨⟨by decide +kernel, by decide +kernel⟩, List.mem_of_getElem? (i := 1364) (by decide +kernel), List.mem_of_getElem? (i := 1648) (by decide +kernel), List.mem_of_getElem? (i := 1649) (by decide +kernel)⟩
theorem lw_p72 : lw_okq (⟨"MagpieAccountsModel", "isGone", "(I)Z"⟩, 32) := ⟨⟨by decide +kernel, by decide +kernel⟩, List.mem_of_getElem? (i := 1364) (by decide +kernel), List.mem_of_getElem? (i := 1652) (by decide +kernel), List.mem_of_getElem? (i := 1653) (by decide +kernel)⟩
theorem lw_p73 : lw_okq (⟨"MagpieAccountsModel", "keep", "()V"⟩, 32) := ⟨⟨by decide +kernel, by decide +kernel⟩, List.mem_of_getElem? (i := 1364) (by decide +kernel), List.mem_of_getElem? (i := 1656) (by decide +kernel), List.mem_of_getElem? (i := 1657) (by decide +kernel)⟩
theorem lw_p74 : lw_okq (⟨"MagpieAccountsModel", "canGrant", "(I)Z"⟩, 32) := ⟨⟨by decide +kernel, by decide +kernel⟩, List.mem_of_getElem? (i := 1364) (by decide +kernel), List.mem_of_getElem? (i := 1668) (by decide +kernel), List.mem_of_getElem? (i := 1669) (by decide +kernel)⟩
theorem lw_p75 : lw_okq (⟨"MagpieAccountsModel", "arePassed", "(I)Z"⟩, 32) := ⟨⟨by decide +kernel, by decide +kernel⟩, List.mem_of_getElem? (i := 1364) (by decide +kernel), List.mem_of_getElem? (i := 1676) (by decide +kernel), List.mem_of_getElem? (i := 1677) (by decide +kernel)⟩
theorem lw_p76 : lw_okq (⟨"MagpieAccountsModel", "pass", "()V"⟩, 32) := ⟨⟨by decide +kernel, by decide +kernel⟩, List.mem_of_getElem? (i := 1364) (by decide +kernel), List.mem_of_getElem? (i := 1680) (by decide +kernel), List.mem_of_getElem? (i := 1681) (by decide +kernel)⟩
theorem lw_p77 : lw_okq (⟨"MagpieAccountsModel", "dueNow", "()I"⟩, 32) := ⟨⟨by decide +kernel, by decide +kernel⟩, List.mem_of_getElem? (i := 1364) (by decide +kernel), List.mem_of_getElem? (i := 1684) (by decide +kernel), List.mem_of_getElem? (i := 1685) (by decide +kernel)⟩
theorem lw_p78 : lw_okq (⟨"MagpieAccountsModel", "dueBy", "(I)I"⟩, 32) := ⟨⟨by decide +kernel, by decide +kernel⟩, List.mem_of_getElem? (i := 1364) (by decide +kernel), List.mem_of_getElem? (i := 1688) (by decide +kernel), List.mem_of_getElem? (i := 1689) (by decide +kernel)⟩
theorem lw_p79 : lw_okq (⟨"MagpieAccountsModel", "isDue", "(II)Z"⟩, 32) := ⟨⟨by decide +kernel, by decide +kernel⟩, List.mem_of_getElem? (i := 1364) (by decide +kernel), List.mem_of_getElem? (i := 1692) (by decide +kernel), List.mem_of_getElem? (i := 1693) (by decide +kernel)⟩
def lw_privs_5 : List (MethodName × Nat) := [(⟨"MagpieAccountsModel", "emit", "(II)V"⟩, 32), (⟨"MagpieAccountsModel", "partOf", "(I)I"⟩, 32), (⟨"MagpieAccountsModel", "beginOne", "()I"⟩, 32), (⟨"MagpieAccountsModel", "nameOf", "()I"⟩, 32), (⟨"MagpieAccountsModel", "isOf", "(I)Z"⟩, 32), (⟨"MagpieAccountsModel", "opened", "(I)I"⟩, 32), (⟨"MagpieAccountsModel", "isAskAhead", "()Z"⟩, 32), (⟨"MagpieAccountsModel", "isBird", "(I)Z"⟩, 32), (⟨"MagpieAccountsModel", "isGone", "(I)Z"⟩, 32), (⟨"MagpieAccountsModel", "keep", "()V"⟩, 32), (⟨"MagpieAccountsModel", "canGrant", "(I)Z"⟩, 32), (⟨"MagpieAccountsModel", "arePassed", "(I)Z"⟩, 32), (⟨"MagpieAccountsModel", "pass", "()V"⟩, 32), (⟨"MagpieAccountsModel", "dueNow", "()I"⟩, 32), (⟨"MagpieAccountsModel", "dueBy", "(I)I"⟩, 32), (⟨"MagpieAccountsModel", "isDue", "(II)Z"⟩, 32)]
theorem lw_r5 : ∀ q ∈ lw_privs_5, lw_okq q := List.forall_mem_cons.mpr ⟨lw_p64, List.forall_mem_cons.mpr ⟨lw_p65, List.forall_mem_cons.mpr ⟨lw_p66, List.forall_mem_cons.mpr ⟨lw_p67, List.forall_mem_cons.mpr ⟨lw_p68, List.forall_mem_cons.mpr ⟨lw_p69, List.forall_mem_cons.mpr ⟨lw_p70, List.forall_mem_cons.mpr ⟨lw_p71, List.forall_mem_cons.mpr ⟨lw_p72, List.forall_mem_cons.mpr ⟨lw_p73, List.forall_mem_cons.mpr ⟨lw_p74, List.forall_mem_cons.mpr ⟨lw_p75, List.forall_mem_cons.mpr ⟨lw_p76, List.forall_mem_cons.mpr ⟨lw_p77, List.forall_mem_cons.mpr ⟨lw_p78, List.forall_mem_cons.mpr ⟨lw_p79, fun _ h => absurd h List.not_mem_nil⟩⟩⟩⟩⟩⟩⟩⟩⟩⟩⟩⟩⟩⟩⟩⟩
theorem lw_p80 : lw_okq (⟨"MagpieAccountsModel", "drawnBy", "(I)I"⟩, 32) := ⟨⟨by decide +kernel, by decide +kernel⟩, List.mem_of_getElem? (i := 1364) (by decide +kernel), List.mem_of_getElem? (i := 1696) (by decide +kernel), List.mem_of_getElem? (i := 1697) (by decide +kernel)⟩
theorem lw_p81 : lw_okq (⟨"MagpieAccountsModel", "anew", "()V"⟩, 32) := ⟨⟨by decide +kernel, by decide +kernel⟩, List.mem_of_getElem? (i := 1364) (by decide +kernel), List.mem_of_getElem? (i := 1700) (by decide +kernel), List.mem_of_getElem? (i := 1701) (by decide +kernel)⟩
theorem lw_p82 : lw_okq (⟨"MagpieAccountsModel", "chanceOf", "(I)I"⟩, 32) := ⟨⟨by decide +kernel, by decide +kernel⟩, List.mem_of_getElem? (i := 1364) (by decide +kernel), List.mem_of_getElem? (i := 1707) (by decide +kernel), List.mem_of_getElem? (i := 1708) (by decide +kernel)⟩
theorem lw_p83 : lw_okq (⟨"MagpieAccountsModel", "name", "()V"⟩, 32) := ⟨⟨by decide +kernel, by decide +kernel⟩, List.mem_of_getElem? (i := 1364) (by decide +kernel), List.mem_of_getElem? (i := 1711) (by decide +kernel), List.mem_of_getElem? (i := 1712) (by decide +kernel)⟩
theorem lw_p84 : lw_okq (⟨"MagpieAccountsModel", "says", "(IIIII)I"⟩, 32) := ⟨⟨by decide +kernel, by decide +kernel⟩, List.mem_of_getElem? (i := 1364) (by decide +kernel), List.mem_of_getElem? (i := 1718) (by decide +kernel), List.mem_of_getElem? (i := 1719) (by decide +kernel)⟩
theorem lw_p85 : lw_okq (⟨"MagpieAccountsModel", "summedUp", "(II)J"⟩, 32) := ⟨⟨by decide +kernel, by decide +kernel⟩, List.mem_of_getElem? (i := 1364) (by decide +kernel), List.mem_of_getElem? (i := 1722) (by decide +kernel), List.mem_of_getElem? (i := 1723) (by decide +kernel)⟩
theorem lw_p86 : lw_okq (⟨"MagpieAccountsModel", "ofOne", "(IJ)J"⟩, 32) := ⟨⟨by decide +kernel, by decide +kernel⟩, List.mem_of_getElem? (i := 1364) (by decide +kernel), List.mem_of_getElem? (i := 1726) (by decide +kernel), List.mem_of_getElem? (i := 1727) (by decide +kernel)⟩
theorem lw_p87 : lw_okq (⟨"MagpieAccountsModel", "bringsOf", "(II)I"⟩, 32) := ⟨⟨by decide +kernel, by decide +kernel⟩, List.mem_of_getElem? (i := 1364) (by decide +kernel), List.mem_of_getElem? (i := 1748) (by decide +kernel), List.mem_of_getElem? (i := 1749) (by decide +kernel)⟩
theorem lw_p88 : lw_okq (⟨"MagpieAccountsModel", "write", "(II)V"⟩, 32) := ⟨⟨by decide +kernel, by decide +kernel⟩, List.mem_of_getElem? (i := 1364) (by decide +kernel), List.mem_of_getElem? (i := 1752) (by decide +kernel), List.mem_of_getElem? (i := 1753) (by decide +kernel)⟩
theorem lw_p89 : lw_okq (⟨"MagpieAccountsModel", "isPlayed", "(I)Z"⟩, 32) := ⟨⟨by decide +kernel, by decide +kernel⟩, List.mem_of_getElem? (i := 1364) (by decide +kernel), List.mem_of_getElem? (i := 1760) (by decide +kernel), List.mem_of_getElem? (i := 1761) (by decide +kernel)⟩
theorem lw_p90 : lw_okq (⟨"MagpieAccountsModel", "happens", "(I)V"⟩, 32) := ⟨⟨by decide +kernel, by decide +kernel⟩, List.mem_of_getElem? (i := 1364) (by decide +kernel), List.mem_of_getElem? (i := 1773) (by decide +kernel), List.mem_of_getElem? (i := 1774) (by decide +kernel)⟩
theorem lw_p91 : lw_okq (⟨"MagpieAccountsModel", "lineOf", "(II)I"⟩, 32) := ⟨⟨by decide +kernel, by decide +kernel⟩, List.mem_of_getElem? (i := 1364) (by decide +kernel), List.mem_of_getElem? (i := 1798) (by decide +kernel), List.mem_of_getElem? (i := 1799) (by decide +kernel)⟩
theorem lw_p92 : lw_okq (⟨"MagpieAccountsModel", "layRows", "(I)J"⟩, 32) := ⟨⟨by decide +kernel, by decide +kernel⟩, List.mem_of_getElem? (i := 1364) (by decide +kernel), List.mem_of_getElem? (i := 1823) (by decide +kernel), List.mem_of_getElem? (i := 1824) (by decide +kernel)⟩
theorem lw_p93 : lw_okq (⟨"MagpieAccountsModel", "noRows", "()V"⟩, 32) := ⟨⟨by decide +kernel, by decide +kernel⟩, List.mem_of_getElem? (i := 1364) (by decide +kernel), List.mem_of_getElem? (i := 1827) (by decide +kernel), List.mem_of_getElem? (i := 1828) (by decide +kernel)⟩
theorem lw_p94 : lw_okq (⟨"MagpieAccountsModel", "oneMore", "(I)V"⟩, 32) := ⟨⟨by decide +kernel, by decide +kernel⟩, List.mem_of_getElem? (i := 1364) (by decide +kernel), List.mem_of_getElem? (i := 1831) (by decide +kernel), List.mem_of_getElem? (i := 1832) (by decide +kernel)⟩
theorem lw_p95 : lw_okq (⟨"MagpieAccountsModel", "isHabit", "(II)Z"⟩, 32) := ⟨⟨by decide +kernel, by decide +kernel⟩, List.mem_of_getElem? (i := 1364) (by decide +kernel), List.mem_of_getElem? (i := 1859) (by decide +kernel), List.mem_of_getElem? (i := 1860) (by decide +kernel)⟩
def lw_privs_6 : List (MethodName × Nat) := [(⟨"MagpieAccountsModel", "drawnBy", "(I)I"⟩, 32), (⟨"MagpieAccountsModel", "anew", "()V"⟩, 32), (⟨"MagpieAccountsModel", "chanceOf", "(I)I"⟩, 32), (⟨"MagpieAccountsModel", "name", "()V"⟩, 32), (⟨"MagpieAccountsModel", "says", "(IIIII)I"⟩, 32), (⟨"MagpieAccountsModel", "summedUp", "(II)J"⟩, 32), (⟨"MagpieAccountsModel", "ofOne", "(IJ)J"⟩, 32), (⟨"MagpieAccountsModel", "bringsOf", "(II)I"⟩, 32), (⟨"MagpieAccountsModel", "write", "(II)V"⟩, 32), (⟨"MagpieAccountsModel", "isPlayed", "(I)Z"⟩, 32), (⟨"MagpieAccountsModel", "happens", "(I)V"⟩, 32), (⟨"MagpieAccountsModel", "lineOf", "(II)I"⟩, 32), (⟨"MagpieAccountsModel", "layRows", "(I)J"⟩, 32), (⟨"MagpieAccountsModel", "noRows", "()V"⟩, 32), (⟨"MagpieAccountsModel", "oneMore", "(I)V"⟩, 32), (⟨"MagpieAccountsModel", "isHabit", "(II)Z"⟩, 32)]
theorem lw_r6 : ∀ q ∈ lw_privs_6, lw_okq q := List.forall_mem_cons.mpr ⟨lw_p80, List.forall_mem_cons.mpr ⟨lw_p81, List.forall_mem_cons.mpr ⟨lw_p82, List.forall_mem_cons.mpr ⟨lw_p83, List.forall_mem_cons.mpr ⟨lw_p84, List.forall_mem_cons.mpr ⟨lw_p85, List.forall_mem_cons.mpr ⟨lw_p86, List.forall_mem_cons.mpr ⟨lw_p87, List.forall_mem_cons.mpr ⟨lw_p88, List.forall_mem_cons.mpr ⟨lw_p89, List.forall_mem_cons.mpr ⟨lw_p90, List.forall_mem_cons.mpr ⟨lw_p91, List.forall_mem_cons.mpr ⟨lw_p92, List.forall_mem_cons.mpr ⟨lw_p93, List.forall_mem_cons.mpr ⟨lw_p94, List.forall_mem_cons.mpr ⟨lw_p95, fun _ h => absurd h List.not_mem_nil⟩⟩⟩⟩⟩⟩⟩⟩⟩⟩⟩⟩⟩⟩⟩⟩
theorem lw_p96 : lw_okq (⟨"MagpieAccountsModel", "firstHabit", "()I"⟩, 32) := ⟨⟨by decide +kernel, by decide +kernel⟩, List.mem_of_getElem? (i := 1364) (by decide +kernel), List.mem_of_getElem? (i := 1867) (by decide +kernel), List.mem_of_getElem? (i := 1868) (by decide +kernel)⟩
theorem lw_p97 : lw_okq (⟨"MagpieAccountsModel", "ringOf", "(I)I"⟩, 32) := ⟨⟨by decide +kernel, by decide +kernel⟩, List.mem_of_getElem? (i := 1364) (by decide +kernel), List.mem_of_getElem? (i := 1899) (by decide +kernel), List.mem_of_getElem? (i := 1900) (by decide +kernel)⟩
theorem lw_p98 : lw_okq (⟨"MagpieAccountsModel", "afterOf", "(II)I"⟩, 32) := ⟨⟨by decide +kernel, by decide +kernel⟩, List.mem_of_getElem? (i := 1364) (by decide +kernel), List.mem_of_getElem? (i := 1903) (by decide +kernel), List.mem_of_getElem? (i := 1904) (by decide +kernel)⟩
theorem lw_p99 : lw_okq (⟨"MagpieAccountsModel", "layTest", "(II)J"⟩, 32) := ⟨⟨by decide +kernel, by decide +kernel⟩, List.mem_of_getElem? (i := 1364) (by decide +kernel), List.mem_of_getElem? (i := 1923) (by decide +kernel), List.mem_of_getElem? (i := 1924) (by decide +kernel)⟩
theorem lw_p100 : lw_okq (⟨"MagpieAccountsModel", "rowsFrom", "(I)J"⟩, 32) := ⟨⟨by decide +kernel, by decide +kernel⟩, List.mem_of_getElem? (i := 1364) (by decide +kernel), List.mem_of_getElem? (i := 1927) (by decide +kernel), List.mem_of_getElem? (i := 1928) (by decide +kernel)⟩
theorem lw_p101 : lw_okq (⟨"MagpieAccountsModel", "areSeats", "(I)Z"⟩, 32) := ⟨⟨by decide +kernel, by decide +kernel⟩, List.mem_of_getElem? (i := 1364) (by decide +kernel), List.mem_of_getElem? (i := 1950) (by decide +kernel), List.mem_of_getElem? (i := 1951) (by decide +kernel)⟩
theorem lw_p102 : lw_okq (⟨"MagpieAccountsModel", "allVotes", "()I"⟩, 32) := ⟨⟨by decide +kernel, by decide +kernel⟩, List.mem_of_getElem? (i := 1364) (by decide +kernel), List.mem_of_getElem? (i := 1954) (by decide +kernel), List.mem_of_getElem? (i := 1955) (by decide +kernel)⟩
theorem lw_p103 : lw_okq (⟨"MagpieAccountsModel", "laySeats", "(I)V"⟩, 32) := ⟨⟨by decide +kernel, by decide +kernel⟩, List.mem_of_getElem? (i := 1364) (by decide +kernel), List.mem_of_getElem? (i := 1958) (by decide +kernel), List.mem_of_getElem? (i := 1959) (by decide +kernel)⟩
theorem lw_p104 : lw_okq (⟨"MagpieAccountsModel", "isAhead", "(II)Z"⟩, 32) := ⟨⟨by decide +kernel, by decide +kernel⟩, List.mem_of_getElem? (i := 1364) (by decide +kernel), List.mem_of_getElem? (i := 1962) (by decide +kernel), List.mem_of_getElem? (i := 1963) (by decide +kernel)⟩
theorem lw_p105 : lw_okq (⟨"MagpieAccountsModel", "doesBeat", "(II)Z"⟩, 32) := ⟨⟨by decide +kernel, by decide +kernel⟩, List.mem_of_getElem? (i := 1364) (by decide +kernel), List.mem_of_getElem? (i := 1981) (by decide +kernel), List.mem_of_getElem? (i := 1982) (by decide +kernel)⟩
theorem lw_p106 : lw_okq (⟨"MagpieAccountsModel", "placeBy", "(II)I"⟩, 32) := ⟨⟨by decide +kernel, by decide +kernel⟩, List.mem_of_getElem? (i := 1364) (by decide +kernel), List.mem_of_getElem? (i := 1985) (by decide +kernel), List.mem_of_getElem? (i := 1986) (by decide +kernel)⟩
theorem lw_p107 : lw_okq (⟨"MagpieAccountsModel", "firstVotes", "(II)I"⟩, 32) := ⟨⟨by decide +kernel, by decide +kernel⟩, List.mem_of_getElem? (i := 1364) (by decide +kernel), List.mem_of_getElem? (i := 2007) (by decide +kernel), List.mem_of_getElem? (i := 2008) (by decide +kernel)⟩
theorem lw_p108 : lw_okq (⟨"MagpieAccountsModel", "layFigures", "(II)I"⟩, 32) := ⟨⟨by decide +kernel, by decide +kernel⟩, List.mem_of_getElem? (i := 1364) (by decide +kernel), List.mem_of_getElem? (i := 2018) (by decide +kernel), List.mem_of_getElem? (i := 2019) (by decide +kernel)⟩
theorem lw_p109 : lw_okq (⟨"MagpieAccountsModel", "layWins", "(I)V"⟩, 32) := ⟨⟨by decide +kernel, by decide +kernel⟩, List.mem_of_getElem? (i := 1364) (by decide +kernel), List.mem_of_getElem? (i := 2042) (by decide +kernel), List.mem_of_getElem? (i := 2043) (by decide +kernel)⟩
theorem lw_p110 : lw_okq (⟨"MagpieAccountsModel", "takeOf", "(II)I"⟩, 32) := ⟨⟨by decide +kernel, by decide +kernel⟩, List.mem_of_getElem? (i := 1364) (by decide +kernel), List.mem_of_getElem? (i := 2049) (by decide +kernel), List.mem_of_getElem? (i := 2050) (by decide +kernel)⟩
def lw_privs_7 : List (MethodName × Nat) := [(⟨"MagpieAccountsModel", "firstHabit", "()I"⟩, 32), (⟨"MagpieAccountsModel", "ringOf", "(I)I"⟩, 32), (⟨"MagpieAccountsModel", "afterOf", "(II)I"⟩, 32), (⟨"MagpieAccountsModel", "layTest", "(II)J"⟩, 32), (⟨"MagpieAccountsModel", "rowsFrom", "(I)J"⟩, 32), (⟨"MagpieAccountsModel", "areSeats", "(I)Z"⟩, 32), (⟨"MagpieAccountsModel", "allVotes", "()I"⟩, 32), (⟨"MagpieAccountsModel", "laySeats", "(I)V"⟩, 32), (⟨"MagpieAccountsModel", "isAhead", "(II)Z"⟩, 32), (⟨"MagpieAccountsModel", "doesBeat", "(II)Z"⟩, 32), (⟨"MagpieAccountsModel", "placeBy", "(II)I"⟩, 32), (⟨"MagpieAccountsModel", "firstVotes", "(II)I"⟩, 32), (⟨"MagpieAccountsModel", "layFigures", "(II)I"⟩, 32), (⟨"MagpieAccountsModel", "layWins", "(I)V"⟩, 32), (⟨"MagpieAccountsModel", "takeOf", "(II)I"⟩, 32)]
theorem lw_r7 : ∀ q ∈ lw_privs_7, lw_okq q := List.forall_mem_cons.mpr ⟨lw_p96, List.forall_mem_cons.mpr ⟨lw_p97, List.forall_mem_cons.mpr ⟨lw_p98, List.forall_mem_cons.mpr ⟨lw_p99, List.forall_mem_cons.mpr ⟨lw_p100, List.forall_mem_cons.mpr ⟨lw_p101, List.forall_mem_cons.mpr ⟨lw_p102, List.forall_mem_cons.mpr ⟨lw_p103, List.forall_mem_cons.mpr ⟨lw_p104, List.forall_mem_cons.mpr ⟨lw_p105, List.forall_mem_cons.mpr ⟨lw_p106, List.forall_mem_cons.mpr ⟨lw_p107, List.forall_mem_cons.mpr ⟨lw_p108, List.forall_mem_cons.mpr ⟨lw_p109, List.forall_mem_cons.mpr ⟨lw_p110, fun _ h => absurd h List.not_mem_nil⟩⟩⟩⟩⟩⟩⟩⟩⟩⟩⟩⟩⟩⟩⟩
def lw_privs : List (MethodName × Nat) := lw_privs_1 ++ (lw_privs_2 ++ (lw_privs_3 ++ (lw_privs_4 ++ (lw_privs_5 ++ (lw_privs_6 ++ (lw_privs_7))))))
def lw_tbl : List Cond := k2_sels lw_privs ++ tables_1
theorem lw_privs_ok : ∀ q ∈ lw_privs, lw_okq q := by
  show ∀ q ∈ lw_privs_1 ++ (lw_privs_2 ++ (lw_privs_3 ++ (lw_privs_4 ++ (lw_privs_5 ++ (lw_privs_6 ++ (lw_privs_7)))))), lw_okq q
  exact List.forall_mem_append.mpr ⟨lw_r1, List.forall_mem_append.mpr ⟨lw_r2, List.forall_mem_append.mpr ⟨lw_r3, List.forall_mem_append.mpr ⟨lw_r4, List.forall_mem_append.mpr ⟨lw_r5, List.forall_mem_append.mpr ⟨lw_r6, lw_r7⟩⟩⟩⟩⟩⟩
-- ===== end of PART A; then your names; then what follows =====
end
section
/-! ===== BEGIN words of one list among another's, by their places ===== -/
theorem goodIn_r {big : List Cond} (ws : List Cond) (ps : List Nat) (hp : ws = ps.filterMap (fun i => big[i]?)) (h : ws.all goodWord = true) : GoodIn big ws := by
  intro w hw
  have h1 := List.all_eq_true.mp h w hw
  rw [hp] at hw
  obtain ⟨i, -, hi⟩ := List.mem_filterMap.mp hw
  have hm : w ∈ big := by first | exact List.mem_of_getElem? hi | exact List.getElem?_mem hi
  exact ⟨hm, good_of_word h1⟩
theorem goodIn_app {big a b : List Cond} (ha : GoodIn big a) (hb : GoodIn big b) : GoodIn big (a ++ b) := fun w h => (List.mem_append.mp h).elim (ha w) (hb w)

/-! ===== BEGIN printed: names, fields, word lists, decode rows ===== -/
def RX0 : String := "MagpieAccounts$County"
def TX0 : u_T := fun k => match k with
  | 0 => ("MagpieAccounts$County", "now", "LMagpieAccounts$Moment;", true)
  | 1 => ("MagpieAccounts$County", "steps", "LMagpieAccounts$Steps;", true)
  | 2 => ("MagpieAccounts$County", "periods", "[I", true)
  | 3 => ("MagpieAccounts$County", "phases", "[I", true)
  | 4 => ("MagpieAccounts$County", "odds", "[I", true)
  | 5 => ("MagpieAccounts$County", "birds", "I", false)
  | 6 => ("MagpieAccounts$County", "rhymes", "[I", true)
  | 7 => ("MagpieAccounts$County", "texts", "[LMagpieAccounts$Text;", true)
  | 8 => ("MagpieAccounts$County", "textsRead", "I", false)
  | 9 => ("MagpieAccounts$County", "ruling", "I", false)
  | 10 => ("MagpieAccounts$County", "mornings", "LMagpieAccounts$Mornings;", true)
  | 11 => ("MagpieAccounts$County", "rings", "LMagpieAccounts$Rings;", true)
  | 12 => ("MagpieAccounts$County", "parishes", "LMagpieAccounts$Parishes;", true)
  | 13 => ("MagpieAccounts$County", "toldCounts", "[I", true)
  | 14 => ("MagpieAccounts$County", "toldBrings", "[I", true)
  | _ => ("MagpieAccounts$County", "tolds", "I", false)
def tyX0 : Nat → FieldType := fun k => match k with
  | 0 => .object "MagpieAccounts$Moment"
  | 1 => .object "MagpieAccounts$Steps"
  | 2 => .array .int
  | 3 => .array .int
  | 4 => .array .int
  | 5 => .int
  | 6 => .array .int
  | 7 => .array (.object "MagpieAccounts$Text")
  | 8 => .int
  | 9 => .int
  | 10 => .object "MagpieAccounts$Mornings"
  | 11 => .object "MagpieAccounts$Rings"
  | 12 => .object "MagpieAccounts$Parishes"
  | 13 => .array .int
  | 14 => .array .int
  | _ => .int
abbrev wsX00 : List Cond := u_ws RX0 TX0 16
theorem nmX0 : ∀ a, a < 16 → ∀ b, b < 16 → a ≠ b → (TX0 a).2.1 ≠ (TX0 b).2.1 := by decide +kernel
theorem tyX0_ok : ∀ k, k < 16 → parseFieldDescriptor (TX0 k).2.2.1 = some (tyX0 k) := by decide +kernel
abbrev cX0_init : ByteArray := prog_2_method_1_code
def yX0_init : MethodName := ⟨RX0, "<init>", "()V"⟩
abbrev cX0_copy : ByteArray := prog_2_method_2_code
def yX0_copy : MethodName := ⟨RX0, "copy", "(LMagpieAccounts$County;)V"⟩
abbrev cX0_addBird : ByteArray := prog_2_method_3_code
def yX0_addBird : MethodName := ⟨RX0, "addBird", "(III)I"⟩
abbrev cX0_addText : ByteArray := prog_2_method_4_code
def yX0_addText : MethodName := ⟨RX0, "addText", "(LMagpieAccounts$Text;)I"⟩
abbrev cX0_addTold : ByteArray := prog_2_method_5_code
def yX0_addTold : MethodName := ⟨RX0, "addTold", "(II)I"⟩
abbrev cX0_hasBird : ByteArray := prog_2_method_6_code
def yX0_hasBird : MethodName := ⟨RX0, "hasBird", "(I)Z"⟩
abbrev cX0_hasText : ByteArray := prog_2_method_7_code
def yX0_hasText : MethodName := ⟨RX0, "hasText", "(I)Z"⟩
abbrev cX0_textAt : ByteArray := prog_2_method_8_code
def yX0_textAt : MethodName := ⟨RX0, "textAt", "(I)LMagpieAccounts$Text;"⟩
abbrev cX0_rulingText : ByteArray := prog_2_method_9_code
def yX0_rulingText : MethodName := ⟨RX0, "rulingText", "()LMagpieAccounts$Text;"⟩
abbrev cX0_isDue : ByteArray := prog_2_method_10_code
def yX0_isDue : MethodName := ⟨RX0, "isDue", "(II)Z"⟩
abbrev cX0_dueOn : ByteArray := prog_2_method_11_code
def yX0_dueOn : MethodName := ⟨RX0, "dueOn", "(I)I"⟩
abbrev cX0_canThin : ByteArray := prog_2_method_12_code
def yX0_canThin : MethodName := ⟨RX0, "canThin", "(I)Z"⟩
abbrev cX0_canCall : ByteArray := prog_2_method_13_code
def yX0_canCall : MethodName := ⟨RX0, "canCall", "(I)Z"⟩
abbrev cX0_canGrant : ByteArray := prog_2_method_14_code
def yX0_canGrant : MethodName := ⟨RX0, "canGrant", "(I)Z"⟩
abbrev cX0_canPass : ByteArray := prog_2_method_15_code
def yX0_canPass : MethodName := ⟨RX0, "canPass", "()Z"⟩
def RX1 : String := "MagpieAccounts$Laws"
def TX1 : u_T := fun k => match k with
  | 0 => ("MagpieAccounts$Laws", "county", "LMagpieAccounts$County;", true)
  | 1 => ("MagpieAccounts$Laws", "pile", "[I", true)
  | 2 => ("MagpieAccounts$Laws", "bird", "I", false)
  | _ => ("MagpieAccounts$Laws", "count", "I", false)
def tyX1 : Nat → FieldType := fun k => match k with
  | 0 => .object "MagpieAccounts$County"
  | 1 => .array .int
  | 2 => .int
  | _ => .int
abbrev wsX10 : List Cond := u_ws RX1 TX1 4
theorem nmX1 : ∀ a, a < 4 → ∀ b, b < 4 → a ≠ b → (TX1 a).2.1 ≠ (TX1 b).2.1 := by decide +kernel
theorem tyX1_ok : ∀ k, k < 4 → parseFieldDescriptor (TX1 k).2.2.1 = some (tyX1 k) := by decide +kernel
abbrev cX1_init : ByteArray := prog_3_method_1_code
def yX1_init : MethodName := ⟨RX1, "<init>", "()V"⟩
abbrev cX1_chanceOf : ByteArray := prog_3_method_2_code
def yX1_chanceOf : MethodName := ⟨RX1, "chanceOf", "(I)I"⟩
abbrev cX1_broughtBy : ByteArray := prog_3_method_3_code
def yX1_broughtBy : MethodName := ⟨RX1, "broughtBy", "(LMagpieAccounts$Text;I)I"⟩
abbrev cX1_run : ByteArray := prog_3_method_4_code
def yX1_run : MethodName := ⟨RX1, "run", "(LMagpieAccounts$Text;II)I"⟩
abbrev cX1_isOfOne : ByteArray := prog_3_method_5_code
def yX1_isOfOne : MethodName := ⟨RX1, "isOfOne", "(I)Z"⟩
abbrev cX1_isOfTwo : ByteArray := prog_3_method_6_code
def yX1_isOfTwo : MethodName := ⟨RX1, "isOfTwo", "(I)Z"⟩
abbrev cX1_named : ByteArray := prog_3_method_7_code
def yX1_named : MethodName := ⟨RX1, "named", "(I)I"⟩
abbrev cX1_ofOne : ByteArray := prog_3_method_8_code
def yX1_ofOne : MethodName := ⟨RX1, "ofOne", "(II)I"⟩
abbrev cX1_ofTwo : ByteArray := prog_3_method_9_code
def yX1_ofTwo : MethodName := ⟨RX1, "ofTwo", "(III)I"⟩
abbrev cX1_isSo : ByteArray := prog_3_method_10_code
def yX1_isSo : MethodName := ⟨RX1, "isSo", "(III)Z"⟩
def RX2 : String := "MagpieAccounts$Moment"
def TX2 : u_T := fun k => match k with
  | 0 => ("MagpieAccounts$Moment", "gone", "I", false)
  | 1 => ("MagpieAccounts$Moment", "fund", "I", false)
  | 2 => ("MagpieAccounts$Moment", "count", "I", false)
  | 3 => ("MagpieAccounts$Moment", "thing", "I", false)
  | 4 => ("MagpieAccounts$Moment", "day", "I", false)
  | 5 => ("MagpieAccounts$Moment", "x", "I", false)
  | 6 => ("MagpieAccounts$Moment", "came", "[I", true)
  | 7 => ("MagpieAccounts$Moment", "book", "[I", true)
  | _ => ("MagpieAccounts$Moment", "pages", "I", false)
def tyX2 : Nat → FieldType := fun k => match k with
  | 0 => .int
  | 1 => .int
  | 2 => .int
  | 3 => .int
  | 4 => .int
  | 5 => .int
  | 6 => .array .int
  | 7 => .array .int
  | _ => .int
abbrev wsX20 : List Cond := u_ws RX2 TX2 9
theorem nmX2 : ∀ a, a < 9 → ∀ b, b < 9 → a ≠ b → (TX2 a).2.1 ≠ (TX2 b).2.1 := by decide +kernel
theorem tyX2_ok : ∀ k, k < 9 → parseFieldDescriptor (TX2 k).2.2.1 = some (tyX2 k) := by decide +kernel
abbrev cX2_init : ByteArray := prog_4_method_1_code
def yX2_init : MethodName := ⟨RX2, "<init>", "()V"⟩
abbrev cX2_copy : ByteArray := prog_4_method_2_code
def yX2_copy : MethodName := ⟨RX2, "copy", "(LMagpieAccounts$Moment;)V"⟩
abbrev cX2_isGone : ByteArray := prog_4_method_3_code
def yX2_isGone : MethodName := ⟨RX2, "isGone", "(I)Z"⟩
abbrev cX2_markGone : ByteArray := prog_4_method_4_code
def yX2_markGone : MethodName := ⟨RX2, "markGone", "(I)V"⟩
abbrev cX2_markBack : ByteArray := prog_4_method_5_code
def yX2_markBack : MethodName := ⟨RX2, "markBack", "(I)V"⟩
abbrev cX2_noteCame : ByteArray := prog_4_method_6_code
def yX2_noteCame : MethodName := ⟨RX2, "noteCame", "(I)V"⟩
abbrev cX2_draw : ByteArray := prog_4_method_7_code
def yX2_draw : MethodName := ⟨RX2, "draw", "()I"⟩
abbrev cX2_write : ByteArray := prog_4_method_8_code
def yX2_write : MethodName := ⟨RX2, "write", "(I)V"⟩
abbrev cX2_onPage : ByteArray := prog_4_method_9_code
def yX2_onPage : MethodName := ⟨RX2, "onPage", "(II)I"⟩
abbrev cX2_countWritten : ByteArray := prog_4_method_10_code
def yX2_countWritten : MethodName := ⟨RX2, "countWritten", "(I)I"⟩
def RX3 : String := "MagpieAccounts$Mornings"
def TX3 : u_T := fun k => match k with
  | 0 => ("MagpieAccounts$Mornings", "days", "[I", true)
  | 1 => ("MagpieAccounts$Mornings", "came", "[Z", true)
  | _ => ("MagpieAccounts$Mornings", "many", "I", false)
def tyX3 : Nat → FieldType := fun k => match k with
  | 0 => .array .int
  | 1 => .array .boolean
  | _ => .int
abbrev wsX30 : List Cond := u_ws RX3 TX3 3
theorem nmX3 : ∀ a, a < 3 → ∀ b, b < 3 → a ≠ b → (TX3 a).2.1 ≠ (TX3 b).2.1 := by decide +kernel
theorem tyX3_ok : ∀ k, k < 3 → parseFieldDescriptor (TX3 k).2.2.1 = some (tyX3 k) := by decide +kernel
abbrev cX3_init : ByteArray := prog_5_method_1_code
def yX3_init : MethodName := ⟨RX3, "<init>", "()V"⟩
abbrev cX3_copy : ByteArray := prog_5_method_2_code
def yX3_copy : MethodName := ⟨RX3, "copy", "(LMagpieAccounts$Mornings;)V"⟩
abbrev cX3_add : ByteArray := prog_5_method_3_code
def yX3_add : MethodName := ⟨RX3, "add", "(IZ)I"⟩
abbrev cX3_fits : ByteArray := prog_5_method_4_code
def yX3_fits : MethodName := ⟨RX3, "fits", "(II)Z"⟩
abbrev cX3_countFitting : ByteArray := prog_5_method_5_code
def yX3_countFitting : MethodName := ⟨RX3, "countFitting", "()I"⟩
abbrev cX3_leastPeriod : ByteArray := prog_5_method_6_code
def yX3_leastPeriod : MethodName := ⟨RX3, "leastPeriod", "()I"⟩
abbrev cX3_leastPhase : ByteArray := prog_5_method_7_code
def yX3_leastPhase : MethodName := ⟨RX3, "leastPhase", "(I)I"⟩
abbrev cX3_nextDay : ByteArray := prog_5_method_8_code
def yX3_nextDay : MethodName := ⟨RX3, "nextDay", "(II)I"⟩
def RX4 : String := "MagpieAccounts$Parishes"
def TX4 : u_T := fun k => match k with
  | 0 => ("MagpieAccounts$Parishes", "votes", "[I", true)
  | 1 => ("MagpieAccounts$Parishes", "orders", "[I", true)
  | 2 => ("MagpieAccounts$Parishes", "shared", "[I", true)
  | 3 => ("MagpieAccounts$Parishes", "rested", "[I", true)
  | _ => ("MagpieAccounts$Parishes", "left", "[I", true)
def tyX4 : Nat → FieldType := fun k => match k with
  | 0 => .array .int
  | 1 => .array .int
  | 2 => .array .int
  | 3 => .array .int
  | _ => .array .int
abbrev wsX40 : List Cond := u_ws RX4 TX4 5
theorem nmX4 : ∀ a, a < 5 → ∀ b, b < 5 → a ≠ b → (TX4 a).2.1 ≠ (TX4 b).2.1 := by decide +kernel
theorem tyX4_ok : ∀ k, k < 5 → parseFieldDescriptor (TX4 k).2.2.1 = some (tyX4 k) := by decide +kernel
abbrev cX4_init : ByteArray := prog_6_method_1_code
def yX4_init : MethodName := ⟨RX4, "<init>", "()V"⟩
abbrev cX4_copy : ByteArray := prog_6_method_2_code
def yX4_copy : MethodName := ⟨RX4, "copy", "(LMagpieAccounts$Parishes;)V"⟩
abbrev cX4_allVotes : ByteArray := prog_6_method_3_code
def yX4_allVotes : MethodName := ⟨RX4, "allVotes", "()I"⟩
abbrev cX4_seatsByShares : ByteArray := prog_6_method_4_code
def yX4_seatsByShares : MethodName := ⟨RX4, "seatsByShares", "(I)[I"⟩
abbrev cX4_seatsByRests : ByteArray := prog_6_method_5_code
def yX4_seatsByRests : MethodName := ⟨RX4, "seatsByRests", "(I)[I"⟩
abbrev cX4_differing : ByteArray := prog_6_method_6_code
def yX4_differing : MethodName := ⟨RX4, "differing", "(I)I"⟩
abbrev cX4_causeAt : ByteArray := prog_6_method_7_code
def yX4_causeAt : MethodName := ⟨RX4, "causeAt", "(II)I"⟩
abbrev cX4_placeOf : ByteArray := prog_6_method_8_code
def yX4_placeOf : MethodName := ⟨RX4, "placeOf", "(II)I"⟩
abbrev cX4_isAhead : ByteArray := prog_6_method_9_code
def yX4_isAhead : MethodName := ⟨RX4, "isAhead", "(II)Z"⟩
abbrev cX4_aheadOfAll : ByteArray := prog_6_method_10_code
def yX4_aheadOfAll : MethodName := ⟨RX4, "aheadOfAll", "()I"⟩
abbrev cX4_pointsFor : ByteArray := prog_6_method_11_code
def yX4_pointsFor : MethodName := ⟨RX4, "pointsFor", "(I)I"⟩
abbrev cX4_lastLeft : ByteArray := prog_6_method_12_code
def yX4_lastLeft : MethodName := ⟨RX4, "lastLeft", "()I"⟩
abbrev cX4_weakest : ByteArray := prog_6_method_13_code
def yX4_weakest : MethodName := ⟨RX4, "weakest", "(I)I"⟩
abbrev cX4_firstVotes : ByteArray := prog_6_method_14_code
def yX4_firstVotes : MethodName := ⟨RX4, "firstVotes", "(II)I"⟩
def RX5 : String := "MagpieAccounts$Reader"
def TX5 : u_T := fun k => match k with
  | 0 => ("MagpieAccounts$Reader", "tape", "LMagpieAccounts$Tape;", true)
  | 1 => ("MagpieAccounts$Reader", "at", "I", false)
  | 2 => ("MagpieAccounts$Reader", "inChance", "Z", false)
  | 3 => ("MagpieAccounts$Reader", "fault", "I", false)
  | 4 => ("MagpieAccounts$Reader", "place", "I", false)
  | 5 => ("MagpieAccounts$Reader", "ops", "[I", true)
  | 6 => ("MagpieAccounts$Reader", "args", "[I", true)
  | 7 => ("MagpieAccounts$Reader", "size", "I", false)
  | 8 => ("MagpieAccounts$Reader", "chanceFrom", "I", false)
  | 9 => ("MagpieAccounts$Reader", "chanceTo", "I", false)
  | 10 => ("MagpieAccounts$Reader", "bringsFrom", "I", false)
  | 11 => ("MagpieAccounts$Reader", "bringsTo", "I", false)
  | 12 => ("MagpieAccounts$Reader", "verbs", "[I", true)
  | 13 => ("MagpieAccounts$Reader", "firsts", "[I", true)
  | 14 => ("MagpieAccounts$Reader", "seconds", "[I", true)
  | _ => ("MagpieAccounts$Reader", "clauses", "I", false)
def tyX5 : Nat → FieldType := fun k => match k with
  | 0 => .object "MagpieAccounts$Tape"
  | 1 => .int
  | 2 => .boolean
  | 3 => .int
  | 4 => .int
  | 5 => .array .int
  | 6 => .array .int
  | 7 => .int
  | 8 => .int
  | 9 => .int
  | 10 => .int
  | 11 => .int
  | 12 => .array .int
  | 13 => .array .int
  | 14 => .array .int
  | _ => .int
abbrev wsX50 : List Cond := u_ws RX5 TX5 16
theorem nmX5 : ∀ a, a < 16 → ∀ b, b < 16 → a ≠ b → (TX5 a).2.1 ≠ (TX5 b).2.1 := by decide +kernel
theorem tyX5_ok : ∀ k, k < 16 → parseFieldDescriptor (TX5 k).2.2.1 = some (tyX5 k) := by decide +kernel
abbrev cX5_init : ByteArray := prog_7_method_1_code
def yX5_init : MethodName := ⟨RX5, "<init>", "()V"⟩
abbrev cX5_readTape : ByteArray := prog_7_method_2_code
def yX5_readTape : MethodName := ⟨RX5, "readTape", "()LMagpieAccounts$Text;"⟩
abbrev cX5_kind : ByteArray := prog_7_method_3_code
def yX5_kind : MethodName := ⟨RX5, "kind", "()I"⟩
abbrev cX5_fail : ByteArray := prog_7_method_4_code
def yX5_fail : MethodName := ⟨RX5, "fail", "(I)V"⟩
abbrev cX5_expect : ByteArray := prog_7_method_5_code
def yX5_expect : MethodName := ⟨RX5, "expect", "(I)V"⟩
abbrev cX5_readNumber : ByteArray := prog_7_method_6_code
def yX5_readNumber : MethodName := ⟨RX5, "readNumber", "(II)I"⟩
abbrev cX5_readClause : ByteArray := prog_7_method_7_code
def yX5_readClause : MethodName := ⟨RX5, "readClause", "()V"⟩
abbrev cX5_isVerb : ByteArray := prog_7_method_8_code
def yX5_isVerb : MethodName := ⟨RX5, "isVerb", "(I)Z"⟩
abbrev cX5_readNumbers : ByteArray := prog_7_method_9_code
def yX5_readNumbers : MethodName := ⟨RX5, "readNumbers", "(I)V"⟩
abbrev cX5_readLaw : ByteArray := prog_7_method_10_code
def yX5_readLaw : MethodName := ⟨RX5, "readLaw", "(I)V"⟩
abbrev cX5_emit : ByteArray := prog_7_method_11_code
def yX5_emit : MethodName := ⟨RX5, "emit", "(II)V"⟩
abbrev cX5_readSum : ByteArray := prog_7_method_12_code
def yX5_readSum : MethodName := ⟨RX5, "readSum", "(I)V"⟩
abbrev cX5_readProduct : ByteArray := prog_7_method_13_code
def yX5_readProduct : MethodName := ⟨RX5, "readProduct", "(I)V"⟩
abbrev cX5_readOne : ByteArray := prog_7_method_14_code
def yX5_readOne : MethodName := ⟨RX5, "readOne", "(I)V"⟩
abbrev cX5_opensOne : ByteArray := prog_7_method_15_code
def yX5_opensOne : MethodName := ⟨RX5, "opensOne", "(I)Z"⟩
abbrev cX5_readName : ByteArray := prog_7_method_16_code
def yX5_readName : MethodName := ⟨RX5, "readName", "(I)V"⟩
abbrev cX5_readOpened : ByteArray := prog_7_method_17_code
def yX5_readOpened : MethodName := ⟨RX5, "readOpened", "(II)V"⟩
abbrev cX5_readChoice : ByteArray := prog_7_method_18_code
def yX5_readChoice : MethodName := ⟨RX5, "readChoice", "(I)V"⟩
abbrev cX5_aim : ByteArray := prog_7_method_19_code
def yX5_aim : MethodName := ⟨RX5, "aim", "(I)V"⟩
abbrev cX5_readEither : ByteArray := prog_7_method_20_code
def yX5_readEither : MethodName := ⟨RX5, "readEither", "(I)V"⟩
abbrev cX5_readBoth : ByteArray := prog_7_method_21_code
def yX5_readBoth : MethodName := ⟨RX5, "readBoth", "(I)V"⟩
abbrev cX5_readAsk : ByteArray := prog_7_method_22_code
def yX5_readAsk : MethodName := ⟨RX5, "readAsk", "(I)V"⟩
abbrev cX5_readCompared : ByteArray := prog_7_method_23_code
def yX5_readCompared : MethodName := ⟨RX5, "readCompared", "(I)V"⟩
def RX6 : String := "MagpieAccounts$Rings"
def TX6 : u_T := fun k => match k with
  | _ => ("MagpieAccounts$Rings", "next", "[I", true)
def tyX6 : Nat → FieldType := fun k => match k with
  | _ => .array .int
abbrev wsX60 : List Cond := u_ws RX6 TX6 1
theorem nmX6 : ∀ a, a < 1 → ∀ b, b < 1 → a ≠ b → (TX6 a).2.1 ≠ (TX6 b).2.1 := by decide +kernel
theorem tyX6_ok : ∀ k, k < 1 → parseFieldDescriptor (TX6 k).2.2.1 = some (tyX6 k) := by decide +kernel
abbrev cX6_init : ByteArray := prog_8_method_1_code
def yX6_init : MethodName := ⟨RX6, "<init>", "()V"⟩
abbrev cX6_copy : ByteArray := prog_8_method_2_code
def yX6_copy : MethodName := ⟨RX6, "copy", "(LMagpieAccounts$Rings;)V"⟩
abbrev cX6_selfFollowing : ByteArray := prog_8_method_3_code
def yX6_selfFollowing : MethodName := ⟨RX6, "selfFollowing", "()I"⟩
abbrev cX6_sizeAt : ByteArray := prog_8_method_4_code
def yX6_sizeAt : MethodName := ⟨RX6, "sizeAt", "(I)I"⟩
abbrev cX6_smallest : ByteArray := prog_8_method_5_code
def yX6_smallest : MethodName := ⟨RX6, "smallest", "()I"⟩
abbrev cX6_stepsToRing : ByteArray := prog_8_method_6_code
def yX6_stepsToRing : MethodName := ⟨RX6, "stepsToRing", "(I)I"⟩
abbrev cX6_behind : ByteArray := prog_8_method_7_code
def yX6_behind : MethodName := ⟨RX6, "behind", "(II)I"⟩
abbrev cX6_walked : ByteArray := prog_8_method_8_code
def yX6_walked : MethodName := ⟨RX6, "walked", "(II)I"⟩
def RX7 : String := "MagpieAccounts$Spread"
def TX7 : u_T := fun k => match k with
  | 0 => ("MagpieAccounts$Spread", "ways", "[J", true)
  | 1 => ("MagpieAccounts$Spread", "added", "I", false)
  | _ => ("MagpieAccounts$Spread", "whole", "J", false)
def tyX7 : Nat → FieldType := fun k => match k with
  | 0 => .array .long
  | 1 => .int
  | _ => .long
abbrev wsX70 : List Cond := u_ws RX7 TX7 3
theorem nmX7 : ∀ a, a < 3 → ∀ b, b < 3 → a ≠ b → (TX7 a).2.1 ≠ (TX7 b).2.1 := by decide +kernel
theorem tyX7_ok : ∀ k, k < 3 → parseFieldDescriptor (TX7 k).2.2.1 = some (tyX7 k) := by decide +kernel
abbrev cX7_init : ByteArray := prog_9_method_1_code
def yX7_init : MethodName := ⟨RX7, "<init>", "()V"⟩
abbrev cX7_begin : ByteArray := prog_9_method_2_code
def yX7_begin : MethodName := ⟨RX7, "begin", "()V"⟩
abbrev cX7_addOne : ByteArray := prog_9_method_3_code
def yX7_addOne : MethodName := ⟨RX7, "addOne", "(I)V"⟩
abbrev cX7_ofTrials : ByteArray := prog_9_method_4_code
def yX7_ofTrials : MethodName := ⟨RX7, "ofTrials", "(II)V"⟩
abbrev cX7_just : ByteArray := prog_9_method_5_code
def yX7_just : MethodName := ⟨RX7, "just", "(I)J"⟩
abbrev cX7_orMore : ByteArray := prog_9_method_6_code
def yX7_orMore : MethodName := ⟨RX7, "orMore", "(I)J"⟩
def RX8 : String := "MagpieAccounts$Steps"
def TX8 : u_T := fun k => match k with
  | 0 => ("MagpieAccounts$Steps", "ahead", "[LMagpieAccounts$Moment;", true)
  | 1 => ("MagpieAccounts$Steps", "first", "I", false)
  | _ => ("MagpieAccounts$Steps", "many", "I", false)
def tyX8 : Nat → FieldType := fun k => match k with
  | 0 => .array (.object "MagpieAccounts$Moment")
  | 1 => .int
  | _ => .int
abbrev wsX80 : List Cond := u_ws RX8 TX8 3
theorem nmX8 : ∀ a, a < 3 → ∀ b, b < 3 → a ≠ b → (TX8 a).2.1 ≠ (TX8 b).2.1 := by decide +kernel
theorem tyX8_ok : ∀ k, k < 3 → parseFieldDescriptor (TX8 k).2.2.1 = some (tyX8 k) := by decide +kernel
abbrev cX8_init : ByteArray := prog_10_method_1_code
def yX8_init : MethodName := ⟨RX8, "<init>", "()V"⟩
abbrev cX8_copy : ByteArray := prog_10_method_2_code
def yX8_copy : MethodName := ⟨RX8, "copy", "(LMagpieAccounts$Steps;)V"⟩
abbrev cX8_keep : ByteArray := prog_10_method_3_code
def yX8_keep : MethodName := ⟨RX8, "keep", "(LMagpieAccounts$Moment;)V"⟩
abbrev cX8_takeBack : ByteArray := prog_10_method_4_code
def yX8_takeBack : MethodName := ⟨RX8, "takeBack", "(LMagpieAccounts$Moment;)V"⟩
def RX9 : String := "MagpieAccounts$Tape"
def TX9 : u_T := fun k => match k with
  | 0 => ("MagpieAccounts$Tape", "bytes", "[I", true)
  | 1 => ("MagpieAccounts$Tape", "length", "I", false)
  | 2 => ("MagpieAccounts$Tape", "kinds", "[I", true)
  | 3 => ("MagpieAccounts$Tape", "places", "[I", true)
  | 4 => ("MagpieAccounts$Tape", "values", "[I", true)
  | _ => ("MagpieAccounts$Tape", "tokens", "I", false)
def tyX9 : Nat → FieldType := fun k => match k with
  | 0 => .array .int
  | 1 => .int
  | 2 => .array .int
  | 3 => .array .int
  | 4 => .array .int
  | _ => .int
abbrev wsX90 : List Cond := u_ws RX9 TX9 6
theorem nmX9 : ∀ a, a < 6 → ∀ b, b < 6 → a ≠ b → (TX9 a).2.1 ≠ (TX9 b).2.1 := by decide +kernel
theorem tyX9_ok : ∀ k, k < 6 → parseFieldDescriptor (TX9 k).2.2.1 = some (tyX9 k) := by decide +kernel
abbrev cX9_init : ByteArray := prog_11_method_1_code
def yX9_init : MethodName := ⟨RX9, "<init>", "()V"⟩
abbrev cX9_add : ByteArray := prog_11_method_2_code
def yX9_add : MethodName := ⟨RX9, "add", "(I)V"⟩
abbrev cX9_scan : ByteArray := prog_11_method_3_code
def yX9_scan : MethodName := ⟨RX9, "scan", "()V"⟩
abbrev cX9_put : ByteArray := prog_11_method_4_code
def yX9_put : MethodName := ⟨RX9, "put", "(III)V"⟩
abbrev cX9_scanToken : ByteArray := prog_11_method_5_code
def yX9_scanToken : MethodName := ⟨RX9, "scanToken", "(I)I"⟩
abbrev cX9_scanWord : ByteArray := prog_11_method_6_code
def yX9_scanWord : MethodName := ⟨RX9, "scanWord", "(I)I"⟩
abbrev cX9_scanNumber : ByteArray := prog_11_method_7_code
def yX9_scanNumber : MethodName := ⟨RX9, "scanNumber", "(I)I"⟩
abbrev cX9_scanSign : ByteArray := prog_11_method_8_code
def yX9_scanSign : MethodName := ⟨RX9, "scanSign", "(I)I"⟩
abbrev cX9_kindOfWord : ByteArray := prog_11_method_9_code
def yX9_kindOfWord : MethodName := ⟨RX9, "kindOfWord", "(II)I"⟩
abbrev cX9_isLetter : ByteArray := prog_11_method_10_code
def yX9_isLetter : MethodName := ⟨RX9, "isLetter", "(I)Z"⟩
abbrev cX9_isDigit : ByteArray := prog_11_method_11_code
def yX9_isDigit : MethodName := ⟨RX9, "isDigit", "(I)Z"⟩
def RX10 : String := "MagpieAccounts$Text"
def TX10 : u_T := fun k => match k with
  | 0 => ("MagpieAccounts$Text", "ops", "[I", true)
  | 1 => ("MagpieAccounts$Text", "args", "[I", true)
  | 2 => ("MagpieAccounts$Text", "chanceFrom", "I", true)
  | 3 => ("MagpieAccounts$Text", "chanceTo", "I", true)
  | 4 => ("MagpieAccounts$Text", "bringsFrom", "I", true)
  | 5 => ("MagpieAccounts$Text", "bringsTo", "I", true)
  | 6 => ("MagpieAccounts$Text", "verbs", "[I", true)
  | 7 => ("MagpieAccounts$Text", "firsts", "[I", true)
  | _ => ("MagpieAccounts$Text", "seconds", "[I", true)
def tyX10 : Nat → FieldType := fun k => match k with
  | 0 => .array .int
  | 1 => .array .int
  | 2 => .int
  | 3 => .int
  | 4 => .int
  | 5 => .int
  | 6 => .array .int
  | 7 => .array .int
  | _ => .array .int
abbrev wsX100 : List Cond := u_ws RX10 TX10 9
theorem nmX10 : ∀ a, a < 9 → ∀ b, b < 9 → a ≠ b → (TX10 a).2.1 ≠ (TX10 b).2.1 := by decide +kernel
theorem tyX10_ok : ∀ k, k < 9 → parseFieldDescriptor (TX10 k).2.2.1 = some (tyX10 k) := by decide +kernel
abbrev cX10_init : ByteArray := prog_12_method_1_code
def yX10_init : MethodName := ⟨RX10, "<init>", "(LMagpieAccounts$Reader;)V"⟩
def RX11 : String := "MagpieAccounts"
def TX11 : u_T := fun k => match k with
  | 0 => ("MagpieAccounts", "laws", "LMagpieAccounts$Laws;", true)
  | 1 => ("MagpieAccounts", "county", "LMagpieAccounts$County;", true)
  | 2 => ("MagpieAccounts", "kept", "LMagpieAccounts$County;", true)
  | 3 => ("MagpieAccounts", "spare", "LMagpieAccounts$Moment;", true)
  | 4 => ("MagpieAccounts", "reader", "LMagpieAccounts$Reader;", true)
  | 5 => ("MagpieAccounts", "tape", "LMagpieAccounts$Tape;", true)
  | 6 => ("MagpieAccounts", "spread", "LMagpieAccounts$Spread;", true)
  | 7 => ("MagpieAccounts", "chances", "[I", true)
  | 8 => ("MagpieAccounts", "numeral", "[I", true)
  | 9 => ("MagpieAccounts", "latestFault", "I", false)
  | _ => ("MagpieAccounts", "latestPlace", "I", false)
def tyX11 : Nat → FieldType := fun k => match k with
  | 0 => .object "MagpieAccounts$Laws"
  | 1 => .object "MagpieAccounts$County"
  | 2 => .object "MagpieAccounts$County"
  | 3 => .object "MagpieAccounts$Moment"
  | 4 => .object "MagpieAccounts$Reader"
  | 5 => .object "MagpieAccounts$Tape"
  | 6 => .object "MagpieAccounts$Spread"
  | 7 => .array .int
  | 8 => .array .int
  | 9 => .int
  | _ => .int
abbrev wsX110 : List Cond := u_ws RX11 TX11 11
theorem nmX11 : ∀ a, a < 11 → ∀ b, b < 11 → a ≠ b → (TX11 a).2.1 ≠ (TX11 b).2.1 := by decide +kernel
theorem tyX11_ok : ∀ k, k < 11 → parseFieldDescriptor (TX11 k).2.2.1 = some (tyX11 k) := by decide +kernel
abbrev cX11_init : ByteArray := prog_1_method_1_code
def yX11_init : MethodName := ⟨RX11, "<init>", "()V"⟩
abbrev cX11_bird : ByteArray := prog_1_method_2_code
def yX11_bird : MethodName := ⟨RX11, "bird", "(III)I"⟩
abbrev cX11_rhyme : ByteArray := prog_1_method_3_code
def yX11_rhyme : MethodName := ⟨RX11, "rhyme", "(II)Z"⟩
abbrev cX11_feed : ByteArray := prog_1_method_4_code
def yX11_feed : MethodName := ⟨RX11, "feed", "(IIIII)I"⟩
abbrev cX11_end : ByteArray := prog_1_method_5_code
def yX11_end : MethodName := ⟨RX11, "end", "(I)I"⟩
abbrev cX11_text : ByteArray := prog_1_method_6_code
def yX11_text : MethodName := ⟨RX11, "text", "()I"⟩
abbrev cX11_fault : ByteArray := prog_1_method_7_code
def yX11_fault : MethodName := ⟨RX11, "fault", "(I)I"⟩
abbrev cX11_by : ByteArray := prog_1_method_8_code
def yX11_by : MethodName := ⟨RX11, "by", "(I)Z"⟩
abbrev cX11_thin : ByteArray := prog_1_method_9_code
def yX11_thin : MethodName := ⟨RX11, "thin", "(I)Z"⟩
abbrev cX11_call : ByteArray := prog_1_method_10_code
def yX11_call : MethodName := ⟨RX11, "call", "(I)Z"⟩
abbrev cX11_grant : ByteArray := prog_1_method_11_code
def yX11_grant : MethodName := ⟨RX11, "grant", "(I)Z"⟩
abbrev cX11_day : ByteArray := prog_1_method_12_code
def yX11_day : MethodName := ⟨RX11, "day", "(I)I"⟩
abbrev cX11_played : ByteArray := prog_1_method_13_code
def yX11_played : MethodName := ⟨RX11, "played", "(I)I"⟩
abbrev cX11_years : ByteArray := prog_1_method_14_code
def yX11_years : MethodName := ⟨RX11, "years", "(II)I"⟩
abbrev cX11_undo : ByteArray := prog_1_method_15_code
def yX11_undo : MethodName := ⟨RX11, "undo", "()I"⟩
abbrev cX11_of : ByteArray := prog_1_method_16_code
def yX11_of : MethodName := ⟨RX11, "of", "(II)I"⟩
abbrev cX11_is : ByteArray := prog_1_method_17_code
def yX11_is : MethodName := ⟨RX11, "is", "(I)I"⟩
abbrev cX11_things : ByteArray := prog_1_method_18_code
def yX11_things : MethodName := ⟨RX11, "things", "(I)I"⟩
abbrev cX11_brings : ByteArray := prog_1_method_19_code
def yX11_brings : MethodName := ⟨RX11, "brings", "(I)I"⟩
abbrev cX11_book : ByteArray := prog_1_method_20_code
def yX11_book : MethodName := ⟨RX11, "book", "(II)I"⟩
abbrev cX11_foretold : ByteArray := prog_1_method_21_code
def yX11_foretold : MethodName := ⟨RX11, "foretold", "(II)I"⟩
abbrev cX11_likely : ByteArray := prog_1_method_22_code
def yX11_likely : MethodName := ⟨RX11, "likely", "(IZ)J"⟩
abbrev cX11_mean : ByteArray := prog_1_method_23_code
def yX11_mean : MethodName := ⟨RX11, "mean", "(Z)J"⟩
abbrev cX11_best : ByteArray := prog_1_method_24_code
def yX11_best : MethodName := ⟨RX11, "best", "(IZ)I"⟩
abbrev cX11_morning : ByteArray := prog_1_method_25_code
def yX11_morning : MethodName := ⟨RX11, "morning", "(IZ)I"⟩
abbrev cX11_habits : ByteArray := prog_1_method_26_code
def yX11_habits : MethodName := ⟨RX11, "habits", "()I"⟩
abbrev cX11_habit : ByteArray := prog_1_method_27_code
def yX11_habit : MethodName := ⟨RX11, "habit", "(I)I"⟩
abbrev cX11_whom : ByteArray := prog_1_method_28_code
def yX11_whom : MethodName := ⟨RX11, "whom", "()I"⟩
abbrev cX11_rota : ByteArray := prog_1_method_29_code
def yX11_rota : MethodName := ⟨RX11, "rota", "(I)I"⟩
abbrev cX11_gather : ByteArray := prog_1_method_30_code
def yX11_gather : MethodName := ⟨RX11, "gather", "()I"⟩
abbrev cX11_comes : ByteArray := prog_1_method_31_code
def yX11_comes : MethodName := ⟨RX11, "comes", "(I)I"⟩
abbrev cX11_follows : ByteArray := prog_1_method_32_code
def yX11_follows : MethodName := ⟨RX11, "follows", "(II)Z"⟩
abbrev cX11_agree : ByteArray := prog_1_method_33_code
def yX11_agree : MethodName := ⟨RX11, "agree", "()I"⟩
abbrev cX11_ring : ByteArray := prog_1_method_34_code
def yX11_ring : MethodName := ⟨RX11, "ring", "(Z)I"⟩
abbrev cX11_till : ByteArray := prog_1_method_35_code
def yX11_till : MethodName := ⟨RX11, "till", "(I)I"⟩
abbrev cX11_after : ByteArray := prog_1_method_36_code
def yX11_after : MethodName := ⟨RX11, "after", "(II)I"⟩
abbrev cX11_test : ByteArray := prog_1_method_37_code
def yX11_test : MethodName := ⟨RX11, "test", "(IIIZ)J"⟩
abbrev cX11_bound : ByteArray := prog_1_method_38_code
def yX11_bound : MethodName := ⟨RX11, "bound", "(II)I"⟩
abbrev cX11_sure : ByteArray := prog_1_method_39_code
def yX11_sure : MethodName := ⟨RX11, "sure", "(IIIZ)J"⟩
abbrev cX11_votes : ByteArray := prog_1_method_40_code
def yX11_votes : MethodName := ⟨RX11, "votes", "(II)Z"⟩
abbrev cX11_seats : ByteArray := prog_1_method_41_code
def yX11_seats : MethodName := ⟨RX11, "seats", "(IIZ)I"⟩
abbrev cX11_unlike : ByteArray := prog_1_method_42_code
def yX11_unlike : MethodName := ⟨RX11, "unlike", "(I)I"⟩
abbrev cX11_ranks : ByteArray := prog_1_method_43_code
def yX11_ranks : MethodName := ⟨RX11, "ranks", "(II)Z"⟩
abbrev cX11_beats : ByteArray := prog_1_method_44_code
def yX11_beats : MethodName := ⟨RX11, "beats", "(II)Z"⟩
abbrev cX11_winner : ByteArray := prog_1_method_45_code
def yX11_winner : MethodName := ⟨RX11, "winner", "()I"⟩
abbrev cX11_points : ByteArray := prog_1_method_46_code
def yX11_points : MethodName := ⟨RX11, "points", "(I)I"⟩
abbrev cX11_runoff : ByteArray := prog_1_method_47_code
def yX11_runoff : MethodName := ⟨RX11, "runoff", "()I"⟩
abbrev cX11_digits : ByteArray := prog_1_method_48_code
def yX11_digits : MethodName := ⟨RX11, "digits", "(II)I"⟩
abbrev cX11_digit : ByteArray := prog_1_method_49_code
def yX11_digit : MethodName := ⟨RX11, "digit", "(III)I"⟩
abbrev cX11_depth : ByteArray := prog_1_method_50_code
def yX11_depth : MethodName := ⟨RX11, "depth", "(II)I"⟩
abbrev cX11_rests : ByteArray := prog_1_method_51_code
def yX11_rests : MethodName := ⟨RX11, "rests", "(I)I"⟩
abbrev cX11_game : ByteArray := prog_1_method_52_code
def yX11_game : MethodName := ⟨RX11, "game", "(I)I"⟩
abbrev cX11_take : ByteArray := prog_1_method_53_code
def yX11_take : MethodName := ⟨RX11, "take", "(II)I"⟩
abbrev cX11_told : ByteArray := prog_1_method_54_code
def yX11_told : MethodName := ⟨RX11, "told", "(II)I"⟩
abbrev cX11_whose : ByteArray := prog_1_method_55_code
def yX11_whose : MethodName := ⟨RX11, "whose", "()I"⟩
abbrev cX11_eldest : ByteArray := prog_1_method_56_code
def yX11_eldest : MethodName := ⟨RX11, "eldest", "()I"⟩
abbrev cX11_due : ByteArray := prog_1_method_57_code
def yX11_due : MethodName := ⟨RX11, "due", "()I"⟩
abbrev cX11_ledger : ByteArray := prog_1_method_58_code
def yX11_ledger : MethodName := ⟨RX11, "ledger", "(I)I"⟩
abbrev cX11_image : ByteArray := prog_1_method_59_code
def yX11_image : MethodName := ⟨RX11, "image", "()I"⟩
abbrev cX11_back : ByteArray := prog_1_method_60_code
def yX11_back : MethodName := ⟨RX11, "back", "()I"⟩
abbrev cX11_about : ByteArray := prog_1_method_61_code
def yX11_about : MethodName := ⟨RX11, "about", "(I)I"⟩
abbrev cX11_passSteps : ByteArray := prog_1_method_62_code
def yX11_passSteps : MethodName := ⟨RX11, "passSteps", "(I)I"⟩
abbrev cX11_passDay : ByteArray := prog_1_method_63_code
def yX11_passDay : MethodName := ⟨RX11, "passDay", "()I"⟩
abbrev cX11_playClause : ByteArray := prog_1_method_64_code
def yX11_playClause : MethodName := ⟨RX11, "playClause", "(III)Z"⟩
abbrev cX11_drawYear : ByteArray := prog_1_method_65_code
def yX11_drawYear : MethodName := ⟨RX11, "drawYear", "()V"⟩
abbrev cX11_noteChances : ByteArray := prog_1_method_66_code
def yX11_noteChances : MethodName := ⟨RX11, "noteChances", "()V"⟩
abbrev cX11_spreadOver : ByteArray := prog_1_method_67_code
def yX11_spreadOver : MethodName := ⟨RX11, "spreadOver", "(II)V"⟩
abbrev cX11_bestThinned : ByteArray := prog_1_method_68_code
def yX11_bestThinned : MethodName := ⟨RX11, "bestThinned", "(I)I"⟩
abbrev cX11_canCome : ByteArray := prog_1_method_69_code
def yX11_canCome : MethodName := ⟨RX11, "canCome", "(II)Z"⟩
abbrev cX11_leastBound : ByteArray := prog_1_method_70_code
def yX11_leastBound : MethodName := ⟨RX11, "leastBound", "(II)I"⟩
abbrev cX11_bringsAllTold : ByteArray := prog_1_method_71_code
def yX11_bringsAllTold : MethodName := ⟨RX11, "bringsAllTold", "(LMagpieAccounts$Text;)Z"⟩
abbrev cX11_raise : ByteArray := prog_1_method_72_code
def yX11_raise : MethodName := ⟨RX11, "raise", "(II)I"⟩
abbrev cX11_multiply : ByteArray := prog_1_method_73_code
def yX11_multiply : MethodName := ⟨RX11, "multiply", "(II)I"⟩
abbrev cX11_deeper : ByteArray := prog_1_method_74_code
def yX11_deeper : MethodName := ⟨RX11, "deeper", "(I)I"⟩
abbrev cX11_leastPart : ByteArray := prog_1_method_75_code
def yX11_leastPart : MethodName := ⟨RX11, "leastPart", "(I)I"⟩
abbrev cX11_firstOfHabit : ByteArray := prog_1_method_76_code
def yX11_firstOfHabit : MethodName := ⟨RX11, "firstOfHabit", "(IIII)I"⟩
abbrev cX11_leastCommon : ByteArray := prog_1_method_77_code
def yX11_leastCommon : MethodName := ⟨RX11, "leastCommon", "(II)I"⟩
abbrev cX11_greatestCommon : ByteArray := prog_1_method_78_code
def yX11_greatestCommon : MethodName := ⟨RX11, "greatestCommon", "(JJ)J"⟩
abbrev cX11_lowest : ByteArray := prog_1_method_79_code
def yX11_lowest : MethodName := ⟨RX11, "lowest", "(JJZ)J"⟩
abbrev cX11_within : ByteArray := prog_1_method_80_code
def yX11_within : MethodName := ⟨RX11, "within", "(III)Z"⟩
abbrev cX11_held : ByteArray := prog_1_method_81_code
def yX11_held : MethodName := ⟨RX11, "held", "(III)I"⟩
abbrev cX11_isCount : ByteArray := prog_1_method_82_code
def yX11_isCount : MethodName := ⟨RX11, "isCount", "(I)Z"⟩
abbrev cX11_isParish : ByteArray := prog_1_method_83_code
def yX11_isParish : MethodName := ⟨RX11, "isParish", "(I)Z"⟩
abbrev cX11_isCause : ByteArray := prog_1_method_84_code
def yX11_isCause : MethodName := ⟨RX11, "isCause", "(I)Z"⟩
abbrev cX11_isIn : ByteArray := prog_1_method_85_code
def yX11_isIn : MethodName := ⟨RX11, "isIn", "(II)Z"⟩
def RX12 : String := "MagpieAccountsModel"
def TX12 : u_T := fun k => match k with
  | 0 => ("MagpieAccountsModel", "a", "[I", true)
  | 1 => ("MagpieAccountsModel", "image", "[I", true)
  | 2 => ("MagpieAccountsModel", "texts", "[I", true)
  | 3 => ("MagpieAccountsModel", "tape", "[I", true)
  | 4 => ("MagpieAccountsModel", "taped", "I", false)
  | 5 => ("MagpieAccountsModel", "fault", "I", false)
  | 6 => ("MagpieAccountsModel", "faultPlace", "I", false)
  | 7 => ("MagpieAccountsModel", "at", "I", false)
  | 8 => ("MagpieAccountsModel", "place", "I", false)
  | 9 => ("MagpieAccountsModel", "token", "I", false)
  | 10 => ("MagpieAccountsModel", "number", "I", false)
  | 11 => ("MagpieAccountsModel", "word", "J", false)
  | 12 => ("MagpieAccountsModel", "text0", "I", false)
  | 13 => ("MagpieAccountsModel", "written", "I", false)
  | 14 => ("MagpieAccountsModel", "sort0", "I", false)
  | 15 => ("MagpieAccountsModel", "pile", "[I", true)
  | 16 => ("MagpieAccountsModel", "piled", "I", false)
  | 17 => ("MagpieAccountsModel", "opens", "I", false)
  | 18 => ("MagpieAccountsModel", "isWhole", "Z", false)
  | 19 => ("MagpieAccountsModel", "once", "I", false)
  | 20 => ("MagpieAccountsModel", "named", "[I", true)
  | 21 => ("MagpieAccountsModel", "values", "[J", true)
  | 22 => ("MagpieAccountsModel", "truth", "[Z", true)
  | 23 => ("MagpieAccountsModel", "isWritten", "Z", false)
  | 24 => ("MagpieAccountsModel", "cameAll", "I", false)
  | 25 => ("MagpieAccountsModel", "aside", "[I", true)
  | 26 => ("MagpieAccountsModel", "rows", "[J", true)
  | 27 => ("MagpieAccountsModel", "byDivisors", "[I", true)
  | 28 => ("MagpieAccountsModel", "byRests", "[I", true)
  | 29 => ("MagpieAccountsModel", "left", "[I", true)
  | 30 => ("MagpieAccountsModel", "figures", "[I", true)
  | _ => ("MagpieAccountsModel", "wins", "[Z", true)
def tyX12 : Nat → FieldType := fun k => match k with
  | 0 => .array .int
  | 1 => .array .int
  | 2 => .array .int
  | 3 => .array .int
  | 4 => .int
  | 5 => .int
  | 6 => .int
  | 7 => .int
  | 8 => .int
  | 9 => .int
  | 10 => .int
  | 11 => .long
  | 12 => .int
  | 13 => .int
  | 14 => .int
  | 15 => .array .int
  | 16 => .int
  | 17 => .int
  | 18 => .boolean
  | 19 => .int
  | 20 => .array .int
  | 21 => .array .long
  | 22 => .array .boolean
  | 23 => .boolean
  | 24 => .int
  | 25 => .array .int
  | 26 => .array .long
  | 27 => .array .int
  | 28 => .array .int
  | 29 => .array .int
  | 30 => .array .int
  | _ => .array .boolean
abbrev wsX120 : List Cond := u_ws RX12 TX12 32
theorem nmX12 : ∀ a, a < 32 → ∀ b, b < 32 → a ≠ b → (TX12 a).2.1 ≠ (TX12 b).2.1 := by decide +kernel
theorem tyX12_ok : ∀ k, k < 32 → parseFieldDescriptor (TX12 k).2.2.1 = some (tyX12 k) := by decide +kernel
abbrev cX12_init : ByteArray := prog_14_method_1_code
def yX12_init : MethodName := ⟨RX12, "<init>", "()V"⟩
abbrev cX12_copy : ByteArray := prog_14_method_2_code
def yX12_copy : MethodName := ⟨RX12, "copy", "([I[I)V"⟩
abbrev cX12_isIn : ByteArray := prog_14_method_3_code
def yX12_isIn : MethodName := ⟨RX12, "isIn", "(III)Z"⟩
abbrev cX12_held : ByteArray := prog_14_method_4_code
def yX12_held : MethodName := ⟨RX12, "held", "(JII)I"⟩
abbrev cX12_has : ByteArray := prog_14_method_5_code
def yX12_has : MethodName := ⟨RX12, "has", "(II)Z"⟩
abbrev cX12_bits : ByteArray := prog_14_method_6_code
def yX12_bits : MethodName := ⟨RX12, "bits", "(I)I"⟩
abbrev cX12_isBird : ByteArray := prog_14_method_7_code
def yX12_isBird : MethodName := ⟨RX12, "isBird", "(I)Z"⟩
abbrev cX12_isCount : ByteArray := prog_14_method_8_code
def yX12_isCount : MethodName := ⟨RX12, "isCount", "(I)Z"⟩
abbrev cX12_isGone : ByteArray := prog_14_method_9_code
def yX12_isGone : MethodName := ⟨RX12, "isGone", "(I)Z"⟩
abbrev cX12_isDue : ByteArray := prog_14_method_10_code
def yX12_isDue : MethodName := ⟨RX12, "isDue", "(II)Z"⟩
abbrev cX12_dueBy : ByteArray := prog_14_method_11_code
def yX12_dueBy : MethodName := ⟨RX12, "dueBy", "(I)I"⟩
abbrev cX12_dueNow : ByteArray := prog_14_method_12_code
def yX12_dueNow : MethodName := ⟨RX12, "dueNow", "()I"⟩
abbrev cX12_bird : ByteArray := prog_14_method_13_code
def yX12_bird : MethodName := ⟨RX12, "bird", "(III)I"⟩
abbrev cX12_rhyme : ByteArray := prog_14_method_14_code
def yX12_rhyme : MethodName := ⟨RX12, "rhyme", "(II)Z"⟩
abbrev cX12_four : ByteArray := prog_14_method_15_code
def yX12_four : MethodName := ⟨RX12, "four", "(I)V"⟩
abbrev cX12_feed : ByteArray := prog_14_method_16_code
def yX12_feed : MethodName := ⟨RX12, "feed", "(IIIII)I"⟩
abbrev cX12_end : ByteArray := prog_14_method_17_code
def yX12_end : MethodName := ⟨RX12, "end", "(I)I"⟩
abbrev cX12_byteAt : ByteArray := prog_14_method_18_code
def yX12_byteAt : MethodName := ⟨RX12, "byteAt", "(I)I"⟩
abbrev cX12_isLetterByte : ByteArray := prog_14_method_19_code
def yX12_isLetterByte : MethodName := ⟨RX12, "isLetterByte", "(I)Z"⟩
abbrev cX12_isFigure : ByteArray := prog_14_method_20_code
def yX12_isFigure : MethodName := ⟨RX12, "isFigure", "(I)Z"⟩
abbrev cX12_isSign : ByteArray := prog_14_method_21_code
def yX12_isSign : MethodName := ⟨RX12, "isSign", "(I)Z"⟩
abbrev cX12_nextToken : ByteArray := prog_14_method_22_code
def yX12_nextToken : MethodName := ⟨RX12, "nextToken", "()V"⟩
abbrev cX12_w2 : ByteArray := prog_14_method_23_code
def yX12_w2 : MethodName := ⟨RX12, "w2", "(II)J"⟩
abbrev cX12_w3 : ByteArray := prog_14_method_24_code
def yX12_w3 : MethodName := ⟨RX12, "w3", "(III)J"⟩
abbrev cX12_w4 : ByteArray := prog_14_method_25_code
def yX12_w4 : MethodName := ⟨RX12, "w4", "(IIII)J"⟩
abbrev cX12_w5 : ByteArray := prog_14_method_26_code
def yX12_w5 : MethodName := ⟨RX12, "w5", "(IIIII)J"⟩
abbrev cX12_w6 : ByteArray := prog_14_method_27_code
def yX12_w6 : MethodName := ⟨RX12, "w6", "(IIIIII)J"⟩
abbrev cX12_isWord : ByteArray := prog_14_method_28_code
def yX12_isWord : MethodName := ⟨RX12, "isWord", "(J)Z"⟩
abbrev cX12_emit : ByteArray := prog_14_method_29_code
def yX12_emit : MethodName := ⟨RX12, "emit", "(II)V"⟩
abbrev cX12_nameOf : ByteArray := prog_14_method_30_code
def yX12_nameOf : MethodName := ⟨RX12, "nameOf", "()I"⟩
abbrev cX12_isOf : ByteArray := prog_14_method_31_code
def yX12_isOf : MethodName := ⟨RX12, "isOf", "(I)Z"⟩
abbrev cX12_rank : ByteArray := prog_14_method_32_code
def yX12_rank : MethodName := ⟨RX12, "rank", "(I)I"⟩
abbrev cX12_settle : ByteArray := prog_14_method_33_code
def yX12_settle : MethodName := ⟨RX12, "settle", "(I)V"⟩
abbrev cX12_openAt : ByteArray := prog_14_method_34_code
def yX12_openAt : MethodName := ⟨RX12, "openAt", "()I"⟩
abbrev cX12_openNow : ByteArray := prog_14_method_35_code
def yX12_openNow : MethodName := ⟨RX12, "openNow", "()I"⟩
abbrev cX12_isCompared : ByteArray := prog_14_method_36_code
def yX12_isCompared : MethodName := ⟨RX12, "isCompared", "()Z"⟩
abbrev cX12_isAskAhead : ByteArray := prog_14_method_37_code
def yX12_isAskAhead : MethodName := ⟨RX12, "isAskAhead", "()Z"⟩
abbrev cX12_opened : ByteArray := prog_14_method_38_code
def yX12_opened : MethodName := ⟨RX12, "opened", "(I)I"⟩
abbrev cX12_beginOne : ByteArray := prog_14_method_39_code
def yX12_beginOne : MethodName := ⟨RX12, "beginOne", "()I"⟩
abbrev cX12_compareOf : ByteArray := prog_14_method_40_code
def yX12_compareOf : MethodName := ⟨RX12, "compareOf", "()I"⟩
abbrev cX12_betweenOf : ByteArray := prog_14_method_41_code
def yX12_betweenOf : MethodName := ⟨RX12, "betweenOf", "()I"⟩
abbrev cX12_partOf : ByteArray := prog_14_method_42_code
def yX12_partOf : MethodName := ⟨RX12, "partOf", "(I)I"⟩
abbrev cX12_behindOne : ByteArray := prog_14_method_43_code
def yX12_behindOne : MethodName := ⟨RX12, "behindOne", "()Z"⟩
abbrev cX12_summed : ByteArray := prog_14_method_44_code
def yX12_summed : MethodName := ⟨RX12, "summed", "()I"⟩
abbrev cX12_figure : ByteArray := prog_14_method_45_code
def yX12_figure : MethodName := ⟨RX12, "figure", "(III)I"⟩
abbrev cX12_lawClause : ByteArray := prog_14_method_46_code
def yX12_lawClause : MethodName := ⟨RX12, "lawClause", "(I)I"⟩
abbrev cX12_pair : ByteArray := prog_14_method_47_code
def yX12_pair : MethodName := ⟨RX12, "pair", "(IIIJI)I"⟩
abbrev cX12_body : ByteArray := prog_14_method_48_code
def yX12_body : MethodName := ⟨RX12, "body", "(II)I"⟩
abbrev cX12_sortOf : ByteArray := prog_14_method_49_code
def yX12_sortOf : MethodName := ⟨RX12, "sortOf", "()I"⟩
abbrev cX12_clause : ByteArray := prog_14_method_50_code
def yX12_clause : MethodName := ⟨RX12, "clause", "()I"⟩
abbrev cX12_readText : ByteArray := prog_14_method_51_code
def yX12_readText : MethodName := ⟨RX12, "readText", "()I"⟩
abbrev cX12_text : ByteArray := prog_14_method_52_code
def yX12_text : MethodName := ⟨RX12, "text", "()I"⟩
abbrev cX12_fault : ByteArray := prog_14_method_53_code
def yX12_fault : MethodName := ⟨RX12, "fault", "(I)I"⟩
abbrev cX12_by : ByteArray := prog_14_method_54_code
def yX12_by : MethodName := ⟨RX12, "by", "(I)Z"⟩
abbrev cX12_clip : ByteArray := prog_14_method_55_code
def yX12_clip : MethodName := ⟨RX12, "clip", "(J)J"⟩
abbrev cX12_two : ByteArray := prog_14_method_56_code
def yX12_two : MethodName := ⟨RX12, "two", "(IJJ)J"⟩
abbrev cX12_isAsked : ByteArray := prog_14_method_57_code
def yX12_isAsked : MethodName := ⟨RX12, "isAsked", "(IJJ)Z"⟩
abbrev cX12_ofOne : ByteArray := prog_14_method_58_code
def yX12_ofOne : MethodName := ⟨RX12, "ofOne", "(IJ)J"⟩
abbrev cX12_joined : ByteArray := prog_14_method_59_code
def yX12_joined : MethodName := ⟨RX12, "joined", "(IZZ)Z"⟩
abbrev cX12_summedUp : ByteArray := prog_14_method_60_code
def yX12_summedUp : MethodName := ⟨RX12, "summedUp", "(II)J"⟩
abbrev cX12_says : ByteArray := prog_14_method_61_code
def yX12_says : MethodName := ⟨RX12, "says", "(IIIII)I"⟩
abbrev cX12_name : ByteArray := prog_14_method_62_code
def yX12_name : MethodName := ⟨RX12, "name", "()V"⟩
abbrev cX12_chanceOf : ByteArray := prog_14_method_63_code
def yX12_chanceOf : MethodName := ⟨RX12, "chanceOf", "(I)I"⟩
abbrev cX12_bringsOf : ByteArray := prog_14_method_64_code
def yX12_bringsOf : MethodName := ⟨RX12, "bringsOf", "(II)I"⟩
abbrev cX12_write : ByteArray := prog_14_method_65_code
def yX12_write : MethodName := ⟨RX12, "write", "(II)V"⟩
abbrev cX12_drawnBy : ByteArray := prog_14_method_66_code
def yX12_drawnBy : MethodName := ⟨RX12, "drawnBy", "(I)I"⟩
abbrev cX12_anew : ByteArray := prog_14_method_67_code
def yX12_anew : MethodName := ⟨RX12, "anew", "()V"⟩
abbrev cX12_canGrant : ByteArray := prog_14_method_68_code
def yX12_canGrant : MethodName := ⟨RX12, "canGrant", "(I)Z"⟩
abbrev cX12_pass : ByteArray := prog_14_method_69_code
def yX12_pass : MethodName := ⟨RX12, "pass", "()V"⟩
abbrev cX12_keep : ByteArray := prog_14_method_70_code
def yX12_keep : MethodName := ⟨RX12, "keep", "()V"⟩
abbrev cX12_undo : ByteArray := prog_14_method_71_code
def yX12_undo : MethodName := ⟨RX12, "undo", "()I"⟩
abbrev cX12_thin : ByteArray := prog_14_method_72_code
def yX12_thin : MethodName := ⟨RX12, "thin", "(I)Z"⟩
abbrev cX12_call : ByteArray := prog_14_method_73_code
def yX12_call : MethodName := ⟨RX12, "call", "(I)Z"⟩
abbrev cX12_grant : ByteArray := prog_14_method_74_code
def yX12_grant : MethodName := ⟨RX12, "grant", "(I)Z"⟩
abbrev cX12_arePassed : ByteArray := prog_14_method_75_code
def yX12_arePassed : MethodName := ⟨RX12, "arePassed", "(I)Z"⟩
abbrev cX12_day : ByteArray := prog_14_method_76_code
def yX12_day : MethodName := ⟨RX12, "day", "(I)I"⟩
abbrev cX12_isPlayed : ByteArray := prog_14_method_77_code
def yX12_isPlayed : MethodName := ⟨RX12, "isPlayed", "(I)Z"⟩
abbrev cX12_played : ByteArray := prog_14_method_78_code
def yX12_played : MethodName := ⟨RX12, "played", "(I)I"⟩
abbrev cX12_happens : ByteArray := prog_14_method_79_code
def yX12_happens : MethodName := ⟨RX12, "happens", "(I)V"⟩
abbrev cX12_years : ByteArray := prog_14_method_80_code
def yX12_years : MethodName := ⟨RX12, "years", "(II)I"⟩
abbrev cX12_of : ByteArray := prog_14_method_81_code
def yX12_of : MethodName := ⟨RX12, "of", "(II)I"⟩
abbrev cX12_is : ByteArray := prog_14_method_82_code
def yX12_is : MethodName := ⟨RX12, "is", "(I)I"⟩
abbrev cX12_things : ByteArray := prog_14_method_83_code
def yX12_things : MethodName := ⟨RX12, "things", "(I)I"⟩
abbrev cX12_brings : ByteArray := prog_14_method_84_code
def yX12_brings : MethodName := ⟨RX12, "brings", "(I)I"⟩
abbrev cX12_lineOf : ByteArray := prog_14_method_85_code
def yX12_lineOf : MethodName := ⟨RX12, "lineOf", "(II)I"⟩
abbrev cX12_book : ByteArray := prog_14_method_86_code
def yX12_book : MethodName := ⟨RX12, "book", "(II)I"⟩
abbrev cX12_ledger : ByteArray := prog_14_method_87_code
def yX12_ledger : MethodName := ⟨RX12, "ledger", "(I)I"⟩
abbrev cX12_eldest : ByteArray := prog_14_method_88_code
def yX12_eldest : MethodName := ⟨RX12, "eldest", "()I"⟩
abbrev cX12_due : ByteArray := prog_14_method_89_code
def yX12_due : MethodName := ⟨RX12, "due", "()I"⟩
abbrev cX12_foretold : ByteArray := prog_14_method_90_code
def yX12_foretold : MethodName := ⟨RX12, "foretold", "(II)I"⟩
abbrev cX12_divisor : ByteArray := prog_14_method_91_code
def yX12_divisor : MethodName := ⟨RX12, "divisor", "(JJ)J"⟩
abbrev cX12_part : ByteArray := prog_14_method_92_code
def yX12_part : MethodName := ⟨RX12, "part", "(JJZ)J"⟩
abbrev cX12_noRows : ByteArray := prog_14_method_93_code
def yX12_noRows : MethodName := ⟨RX12, "noRows", "()V"⟩
abbrev cX12_oneMore : ByteArray := prog_14_method_94_code
def yX12_oneMore : MethodName := ⟨RX12, "oneMore", "(I)V"⟩
abbrev cX12_layRows : ByteArray := prog_14_method_95_code
def yX12_layRows : MethodName := ⟨RX12, "layRows", "(I)J"⟩
abbrev cX12_likely : ByteArray := prog_14_method_96_code
def yX12_likely : MethodName := ⟨RX12, "likely", "(IZ)J"⟩
abbrev cX12_mean : ByteArray := prog_14_method_97_code
def yX12_mean : MethodName := ⟨RX12, "mean", "(Z)J"⟩
abbrev cX12_best : ByteArray := prog_14_method_98_code
def yX12_best : MethodName := ⟨RX12, "best", "(IZ)I"⟩
abbrev cX12_morning : ByteArray := prog_14_method_99_code
def yX12_morning : MethodName := ⟨RX12, "morning", "(IZ)I"⟩
abbrev cX12_isHabit : ByteArray := prog_14_method_100_code
def yX12_isHabit : MethodName := ⟨RX12, "isHabit", "(II)Z"⟩
abbrev cX12_habits : ByteArray := prog_14_method_101_code
def yX12_habits : MethodName := ⟨RX12, "habits", "()I"⟩
abbrev cX12_firstHabit : ByteArray := prog_14_method_102_code
def yX12_firstHabit : MethodName := ⟨RX12, "firstHabit", "()I"⟩
abbrev cX12_habit : ByteArray := prog_14_method_103_code
def yX12_habit : MethodName := ⟨RX12, "habit", "(I)I"⟩
abbrev cX12_whom : ByteArray := prog_14_method_104_code
def yX12_whom : MethodName := ⟨RX12, "whom", "()I"⟩
abbrev cX12_rota : ByteArray := prog_14_method_105_code
def yX12_rota : MethodName := ⟨RX12, "rota", "(I)I"⟩
abbrev cX12_gather : ByteArray := prog_14_method_106_code
def yX12_gather : MethodName := ⟨RX12, "gather", "()I"⟩
abbrev cX12_comes : ByteArray := prog_14_method_107_code
def yX12_comes : MethodName := ⟨RX12, "comes", "(I)I"⟩
abbrev cX12_follows : ByteArray := prog_14_method_108_code
def yX12_follows : MethodName := ⟨RX12, "follows", "(II)Z"⟩
abbrev cX12_afterOf : ByteArray := prog_14_method_109_code
def yX12_afterOf : MethodName := ⟨RX12, "afterOf", "(II)I"⟩
abbrev cX12_agree : ByteArray := prog_14_method_110_code
def yX12_agree : MethodName := ⟨RX12, "agree", "()I"⟩
abbrev cX12_ringOf : ByteArray := prog_14_method_111_code
def yX12_ringOf : MethodName := ⟨RX12, "ringOf", "(I)I"⟩
abbrev cX12_ring : ByteArray := prog_14_method_112_code
def yX12_ring : MethodName := ⟨RX12, "ring", "(Z)I"⟩
abbrev cX12_till : ByteArray := prog_14_method_113_code
def yX12_till : MethodName := ⟨RX12, "till", "(I)I"⟩
abbrev cX12_after : ByteArray := prog_14_method_114_code
def yX12_after : MethodName := ⟨RX12, "after", "(II)I"⟩
abbrev cX12_areOdds : ByteArray := prog_14_method_115_code
def yX12_areOdds : MethodName := ⟨RX12, "areOdds", "(I)Z"⟩
abbrev cX12_layTest : ByteArray := prog_14_method_116_code
def yX12_layTest : MethodName := ⟨RX12, "layTest", "(II)J"⟩
abbrev cX12_rowsFrom : ByteArray := prog_14_method_117_code
def yX12_rowsFrom : MethodName := ⟨RX12, "rowsFrom", "(I)J"⟩
abbrev cX12_test : ByteArray := prog_14_method_118_code
def yX12_test : MethodName := ⟨RX12, "test", "(IIIZ)J"⟩
abbrev cX12_bound : ByteArray := prog_14_method_119_code
def yX12_bound : MethodName := ⟨RX12, "bound", "(II)I"⟩
abbrev cX12_sure : ByteArray := prog_14_method_120_code
def yX12_sure : MethodName := ⟨RX12, "sure", "(IIIZ)J"⟩
abbrev cX12_votes : ByteArray := prog_14_method_121_code
def yX12_votes : MethodName := ⟨RX12, "votes", "(II)Z"⟩
abbrev cX12_allVotes : ByteArray := prog_14_method_122_code
def yX12_allVotes : MethodName := ⟨RX12, "allVotes", "()I"⟩
abbrev cX12_isAhead : ByteArray := prog_14_method_123_code
def yX12_isAhead : MethodName := ⟨RX12, "isAhead", "(II)Z"⟩
abbrev cX12_laySeats : ByteArray := prog_14_method_124_code
def yX12_laySeats : MethodName := ⟨RX12, "laySeats", "(I)V"⟩
abbrev cX12_areSeats : ByteArray := prog_14_method_125_code
def yX12_areSeats : MethodName := ⟨RX12, "areSeats", "(I)Z"⟩
abbrev cX12_seats : ByteArray := prog_14_method_126_code
def yX12_seats : MethodName := ⟨RX12, "seats", "(IIZ)I"⟩
abbrev cX12_unlike : ByteArray := prog_14_method_127_code
def yX12_unlike : MethodName := ⟨RX12, "unlike", "(I)I"⟩
abbrev cX12_ranks : ByteArray := prog_14_method_128_code
def yX12_ranks : MethodName := ⟨RX12, "ranks", "(II)Z"⟩
abbrev cX12_isCause : ByteArray := prog_14_method_129_code
def yX12_isCause : MethodName := ⟨RX12, "isCause", "(I)Z"⟩
abbrev cX12_factorial : ByteArray := prog_14_method_130_code
def yX12_factorial : MethodName := ⟨RX12, "factorial", "(I)I"⟩
abbrev cX12_causeAt : ByteArray := prog_14_method_131_code
def yX12_causeAt : MethodName := ⟨RX12, "causeAt", "(II)I"⟩
abbrev cX12_placeBy : ByteArray := prog_14_method_132_code
def yX12_placeBy : MethodName := ⟨RX12, "placeBy", "(II)I"⟩
abbrev cX12_doesBeat : ByteArray := prog_14_method_133_code
def yX12_doesBeat : MethodName := ⟨RX12, "doesBeat", "(II)Z"⟩
abbrev cX12_beats : ByteArray := prog_14_method_134_code
def yX12_beats : MethodName := ⟨RX12, "beats", "(II)Z"⟩
abbrev cX12_winner : ByteArray := prog_14_method_135_code
def yX12_winner : MethodName := ⟨RX12, "winner", "()I"⟩
abbrev cX12_points : ByteArray := prog_14_method_136_code
def yX12_points : MethodName := ⟨RX12, "points", "(I)I"⟩
abbrev cX12_firstVotes : ByteArray := prog_14_method_137_code
def yX12_firstVotes : MethodName := ⟨RX12, "firstVotes", "(II)I"⟩
abbrev cX12_runoff : ByteArray := prog_14_method_138_code
def yX12_runoff : MethodName := ⟨RX12, "runoff", "()I"⟩
abbrev cX12_layFigures : ByteArray := prog_14_method_139_code
def yX12_layFigures : MethodName := ⟨RX12, "layFigures", "(II)I"⟩
abbrev cX12_areTimes : ByteArray := prog_14_method_140_code
def yX12_areTimes : MethodName := ⟨RX12, "areTimes", "(II)Z"⟩
abbrev cX12_digits : ByteArray := prog_14_method_141_code
def yX12_digits : MethodName := ⟨RX12, "digits", "(II)I"⟩
abbrev cX12_digit : ByteArray := prog_14_method_142_code
def yX12_digit : MethodName := ⟨RX12, "digit", "(III)I"⟩
abbrev cX12_isGuess : ByteArray := prog_14_method_143_code
def yX12_isGuess : MethodName := ⟨RX12, "isGuess", "(I)Z"⟩
abbrev cX12_depth : ByteArray := prog_14_method_144_code
def yX12_depth : MethodName := ⟨RX12, "depth", "(II)I"⟩
abbrev cX12_rests : ByteArray := prog_14_method_145_code
def yX12_rests : MethodName := ⟨RX12, "rests", "(I)I"⟩
abbrev cX12_winAt : ByteArray := prog_14_method_146_code
def yX12_winAt : MethodName := ⟨RX12, "winAt", "(II)I"⟩
abbrev cX12_takeOf : ByteArray := prog_14_method_147_code
def yX12_takeOf : MethodName := ⟨RX12, "takeOf", "(II)I"⟩
abbrev cX12_layWins : ByteArray := prog_14_method_148_code
def yX12_layWins : MethodName := ⟨RX12, "layWins", "(I)V"⟩
abbrev cX12_game : ByteArray := prog_14_method_149_code
def yX12_game : MethodName := ⟨RX12, "game", "(I)I"⟩
abbrev cX12_take : ByteArray := prog_14_method_150_code
def yX12_take : MethodName := ⟨RX12, "take", "(II)I"⟩
abbrev cX12_told : ByteArray := prog_14_method_151_code
def yX12_told : MethodName := ⟨RX12, "told", "(II)I"⟩
abbrev cX12_whose : ByteArray := prog_14_method_152_code
def yX12_whose : MethodName := ⟨RX12, "whose", "()I"⟩
abbrev cX12_image : ByteArray := prog_14_method_153_code
def yX12_image : MethodName := ⟨RX12, "image", "()I"⟩
abbrev cX12_back : ByteArray := prog_14_method_154_code
def yX12_back : MethodName := ⟨RX12, "back", "()I"⟩
abbrev cX12_about : ByteArray := prog_14_method_155_code
def yX12_about : MethodName := ⟨RX12, "about", "(I)I"⟩
def RJx145de : String := "java/io/Serializable"
def TJx145de : u_T := fun k => match k with
  | _ => ("", "", "", false)
def tyJx145de : Nat → FieldType := fun k => match k with
  | _ => .int
abbrev wsJx145de0 : List Cond := u_ws RJx145de TJx145de 0
def RJx9f9b0 : String := "java/lang/CharSequence"
def TJx9f9b0 : u_T := fun k => match k with
  | _ => ("", "", "", false)
def tyJx9f9b0 : Nat → FieldType := fun k => match k with
  | _ => .int
abbrev wsJx9f9b00 : List Cond := u_ws RJx9f9b0 TJx9f9b0 0
def RJ11 : String := "java/lang/Character"
def TJ11 : u_T := fun k => match k with
  | _ => ("", "", "", false)
def tyJ11 : Nat → FieldType := fun k => match k with
  | _ => .int
abbrev wsJ110 : List Cond := u_ws RJ11 TJ11 0
abbrev cJ11_isValidCodePoint_9a6ad : ByteArray := prog_15_method_11_code
def yJ11_isValidCodePoint_9a6ad : MethodName := ⟨RJ11, "isValidCodePoint", "(I)Z"⟩
abbrev cJ11_highSurrogate_5068e : ByteArray := prog_15_method_28_code
def yJ11_highSurrogate_5068e : MethodName := ⟨RJ11, "highSurrogate", "(I)C"⟩
abbrev cJ11_lowSurrogate_5068e : ByteArray := prog_15_method_29_code
def yJ11_lowSurrogate_5068e : MethodName := ⟨RJ11, "lowSurrogate", "(I)C"⟩
def RJx8e188 : String := "java/lang/Cloneable"
def TJx8e188 : u_T := fun k => match k with
  | _ => ("", "", "", false)
def tyJx8e188 : Nat → FieldType := fun k => match k with
  | _ => .int
abbrev wsJx8e1880 : List Cond := u_ws RJx8e188 TJx8e188 0
def RJxb160c : String := "java/lang/Comparable"
def TJxb160c : u_T := fun k => match k with
  | _ => ("", "", "", false)
def tyJxb160c : Nat → FieldType := fun k => match k with
  | _ => .int
abbrev wsJxb160c0 : List Cond := u_ws RJxb160c TJxb160c 0
def RJ6 : String := "java/lang/Integer"
def TJ6 : u_T := fun k => match k with
  | _ => ("", "", "", false)
def tyJ6 : Nat → FieldType := fun k => match k with
  | _ => .int
abbrev wsJ60 : List Cond := u_ws RJ6 TJ6 0
abbrev cJ6_bitCount_0f7a4 : ByteArray := prog_17_method_49_code
def yJ6_bitCount_0f7a4 : MethodName := ⟨RJ6, "bitCount", "(I)I"⟩
def RJ9 : String := "java/lang/Math"
def TJ9 : u_T := fun k => match k with
  | _ => ("", "", "", false)
def tyJ9 : Nat → FieldType := fun k => match k with
  | _ => .int
abbrev wsJ90 : List Cond := u_ws RJ9 TJ9 0
abbrev cJ9_max_7cf53 : ByteArray := prog_18_method_65_code
def yJ9_max_7cf53 : MethodName := ⟨RJ9, "max", "(II)I"⟩
abbrev cJ9_max_f86c9 : ByteArray := prog_18_method_66_code
def yJ9_max_f86c9 : MethodName := ⟨RJ9, "max", "(JJ)J"⟩
abbrev cJ9_min_7cf53 : ByteArray := prog_18_method_69_code
def yJ9_min_7cf53 : MethodName := ⟨RJ9, "min", "(II)I"⟩
abbrev cJ9_min_f86c9 : ByteArray := prog_18_method_70_code
def yJ9_min_f86c9 : MethodName := ⟨RJ9, "min", "(JJ)J"⟩
def RJ0 : String := "java/lang/String"
def TJ0 : u_T := fun k => match k with
  | _ => ("", "", "", false)
def tyJ0 : Nat → FieldType := fun k => match k with
  | _ => .int
abbrev wsJ00 : List Cond := u_ws RJ0 TJ0 0
abbrev cJ0_length_8abf5 : ByteArray := prog_19_method_54_code
def yJ0_length_8abf5 : MethodName := ⟨RJ0, "length", "()I"⟩
abbrev cJ0_charAt_5068e : ByteArray := prog_19_method_56_code
def yJ0_charAt_5068e : MethodName := ⟨RJ0, "charAt", "(I)C"⟩
abbrev cJ0_indexOf_0f7a4 : ByteArray := prog_19_method_79_code
def yJ0_indexOf_0f7a4 : MethodName := ⟨RJ0, "indexOf", "(I)I"⟩
abbrev cJ0_indexOf_7cf53 : ByteArray := prog_19_method_80_code
def yJ0_indexOf_7cf53 : MethodName := ⟨RJ0, "indexOf", "(II)I"⟩
abbrev cJ0_coder_7d493 : ByteArray := prog_19_method_152_code
def yJ0_coder_7d493 : MethodName := ⟨RJ0, "coder", "()B"⟩
abbrev cJ0_isLatin1_aae02 : ByteArray := prog_19_method_154_code
def yJ0_isLatin1_aae02 : MethodName := ⟨RJ0, "isLatin1", "()Z"⟩
abbrev cJ0_checkIndex_df160 : ByteArray := prog_19_method_155_code
def yJ0_checkIndex_df160 : MethodName := ⟨RJ0, "checkIndex", "(II)V"⟩
abbrev cJ0_checkBoundsBeginEnd_23922 : ByteArray := prog_19_method_158_code
def yJ0_checkBoundsBeginEnd_23922 : MethodName := ⟨RJ0, "checkBoundsBeginEnd", "(III)V"⟩
def RJ1 : String := "java/lang/StringLatin1"
def TJ1 : u_T := fun k => match k with
  | _ => ("", "", "", false)
def tyJ1 : Nat → FieldType := fun k => match k with
  | _ => .int
abbrev wsJ10 : List Cond := u_ws RJ1 TJ1 0
abbrev cJ1_charAt_3b067 : ByteArray := prog_20_method_2_code
def yJ1_charAt_3b067 : MethodName := ⟨RJ1, "charAt", "([BI)C"⟩
abbrev cJ1_canEncode_9a6ad : ByteArray := prog_20_method_4_code
def yJ1_canEncode_9a6ad : MethodName := ⟨RJ1, "canEncode", "(I)Z"⟩
abbrev cJ1_indexOf_4cfef : ByteArray := prog_20_method_22_code
def yJ1_indexOf_4cfef : MethodName := ⟨RJ1, "indexOf", "([BIII)I"⟩
abbrev cJ1_indexOfChar_4cfef : ByteArray := prog_20_method_23_code
def yJ1_indexOfChar_4cfef : MethodName := ⟨RJ1, "indexOfChar", "([BIII)I"⟩
def RJ2 : String := "java/lang/StringUTF16"
def TJ2 : u_T := fun k => match k with
  | _ => ("", "", "", false)
def tyJ2 : Nat → FieldType := fun k => match k with
  | _ => .int
abbrev wsJ20 : List Cond := u_ws RJ2 TJ2 0
abbrev cJ2_getChar_3b067 : ByteArray := prog_21_method_5_code
def yJ2_getChar_3b067 : MethodName := ⟨RJ2, "getChar", "([BI)C"⟩
abbrev cJ2_length_9d52b : ByteArray := prog_21_method_6_code
def yJ2_length_9d52b : MethodName := ⟨RJ2, "length", "([B)I"⟩
abbrev cJ2_indexOf_4cfef : ByteArray := prog_21_method_40_code
def yJ2_indexOf_4cfef : MethodName := ⟨RJ2, "indexOf", "([BIII)I"⟩
abbrev cJ2_indexOfChar_4cfef : ByteArray := prog_21_method_47_code
def yJ2_indexOfChar_4cfef : MethodName := ⟨RJ2, "indexOfChar", "([BIII)I"⟩
abbrev cJ2_indexOfCharUnsafe_4cfef : ByteArray := prog_21_method_48_code
def yJ2_indexOfCharUnsafe_4cfef : MethodName := ⟨RJ2, "indexOfCharUnsafe", "([BIII)I"⟩
abbrev cJ2_indexOfSupplementary_4cfef : ByteArray := prog_21_method_49_code
def yJ2_indexOfSupplementary_4cfef : MethodName := ⟨RJ2, "indexOfSupplementary", "([BIII)I"⟩
abbrev cJ2_charAt_3b067 : ByteArray := prog_21_method_83_code
def yJ2_charAt_3b067 : MethodName := ⟨RJ2, "charAt", "([BI)C"⟩
abbrev cJ2_checkIndex_2214a : ByteArray := prog_21_method_91_code
def yJ2_checkIndex_2214a : MethodName := ⟨RJ2, "checkIndex", "(I[B)V"⟩
abbrev cJ2_checkBoundsBeginEnd_d044e : ByteArray := prog_21_method_93_code
def yJ2_checkBoundsBeginEnd_d044e : MethodName := ⟨RJ2, "checkBoundsBeginEnd", "(II[B)V"⟩
def RJ10 : String := "java/lang/System"
def TJ10 : u_T := fun k => match k with
  | _ => ("", "", "", false)
def tyJ10 : Nat → FieldType := fun k => match k with
  | _ => .int
abbrev wsJ100 : List Cond := u_ws RJ10 TJ10 0
def RJxfd54e : String := "java/lang/constant/Constable"
def TJxfd54e : u_T := fun k => match k with
  | _ => ("", "", "", false)
def tyJxfd54e : Nat → FieldType := fun k => match k with
  | _ => .int
abbrev wsJxfd54e0 : List Cond := u_ws RJxfd54e TJxfd54e 0
def RJx3cf43 : String := "java/lang/constant/ConstantDesc"
def TJx3cf43 : u_T := fun k => match k with
  | _ => ("", "", "", false)
def tyJx3cf43 : Nat → FieldType := fun k => match k with
  | _ => .int
abbrev wsJx3cf430 : List Cond := u_ws RJx3cf43 TJx3cf43 0
def RJ7 : String := "java/util/Arrays"
def TJ7 : u_T := fun k => match k with
  | _ => ("", "", "", false)
def tyJ7 : Nat → FieldType := fun k => match k with
  | _ => .int
abbrev wsJ70 : List Cond := u_ws RJ7 TJ7 0
abbrev cJ7_fill_d0a16 : ByteArray := prog_23_method_101_code
def yJ7_fill_d0a16 : MethodName := ⟨RJ7, "fill", "([JJ)V"⟩
abbrev cJ7_fill_53178 : ByteArray := prog_23_method_103_code
def yJ7_fill_53178 : MethodName := ⟨RJ7, "fill", "([II)V"⟩
abbrev cJ7_copyOf_59c91 : ByteArray := prog_23_method_123_code
def yJ7_copyOf_59c91 : MethodName := ⟨RJ7, "copyOf", "([II)[I"⟩
def RJ3 : String := "jdk/internal/util/Preconditions"
def TJ3 : u_T := fun k => match k with
  | _ => ("", "", "", false)
def tyJ3 : Nat → FieldType := fun k => match k with
  | _ => .int
abbrev wsJ30 : List Cond := u_ws RJ3 TJ3 0
abbrev cJ3_checkIndex_8e157 : ByteArray := prog_24_method_11_code
def yJ3_checkIndex_8e157 : MethodName := ⟨RJ3, "checkIndex", "(IILjava/util/function/BiFunction;)I"⟩
abbrev cJ3_checkFromToIndex_8c36e : ByteArray := prog_24_method_12_code
def yJ3_checkFromToIndex_8c36e : MethodName := ⟨RJ3, "checkFromToIndex", "(IIILjava/util/function/BiFunction;)I"⟩
def RL : String := "MagpieAccountsLaw"
abbrev cL_law : ByteArray := code
def yL_law : MethodName := ⟨RL, "law", "([I)Z"⟩
abbrev vwCl : List vw_C := [(RX0, TX0, 16), (RX1, TX1, 4), (RX2, TX2, 9), (RX3, TX3, 3), (RX4, TX4, 5), (RX5, TX5, 16), (RX6, TX6, 1), (RX7, TX7, 3), (RX8, TX8, 3), (RX9, TX9, 6), (RX10, TX10, 9), (RX11, TX11, 11), (RX12, TX12, 32)]
theorem xMem {ws : List Cond} (ps : List Nat) (h : ws = ps.filterMap (fun i => lw_tbl[i]?)) : ∀ w ∈ ws, w ∈ lw_tbl := by
  intro w hw
  rw [h] at hw
  obtain ⟨i, -, hi⟩ := List.mem_filterMap.mp hw
  exact List.mem_of_getElem? hi
theorem inX0 : ∀ w ∈ wsX00, w ∈ lw_tbl := xMem [313, 315, 317, 319, 321, 323, 325, 327, 329, 331, 333, 335, 337, 339, 341, 343] (by decide +kernel)
theorem inX1 : ∀ w ∈ wsX10, w ∈ lw_tbl := xMem [351, 353, 355, 357] (by decide +kernel)
theorem inX2 : ∀ w ∈ wsX20, w ∈ lw_tbl := xMem [183, 185, 187, 189, 191, 193, 195, 197, 199] (by decide +kernel)
theorem inX3 : ∀ w ∈ wsX30, w ∈ lw_tbl := xMem [235, 237, 239] (by decide +kernel)
theorem inX4 : ∀ w ∈ wsX40, w ∈ lw_tbl := xMem [267, 269, 271, 273, 275] (by decide +kernel)
theorem inX5 : ∀ w ∈ wsX50, w ∈ lw_tbl := xMem [430, 432, 434, 436, 438, 440, 442, 444, 446, 448, 450, 452, 454, 456, 458, 460] (by decide +kernel)
theorem inX6 : ∀ w ∈ wsX60, w ∈ lw_tbl := xMem [251] (by decide +kernel)
theorem inX7 : ∀ w ∈ wsX70, w ∈ lw_tbl := xMem [473, 475, 477] (by decide +kernel)
theorem inX8 : ∀ w ∈ wsX80, w ∈ lw_tbl := xMem [216, 218, 220] (by decide +kernel)
theorem inX9 : ∀ w ∈ wsX90, w ∈ lw_tbl := xMem [387, 389, 391, 393, 395, 397] (by decide +kernel)
theorem inX10 : ∀ w ∈ wsX100, w ∈ lw_tbl := xMem [818, 820, 822, 824, 826, 828, 830, 832, 834] (by decide +kernel)
theorem inX11 : ∀ w ∈ wsX110, w ∈ lw_tbl := xMem [492, 494, 496, 498, 500, 502, 504, 506, 508, 510, 512] (by decide +kernel)
theorem inX12 : ∀ w ∈ wsX120, w ∈ lw_tbl := xMem [1515, 1517, 1519, 1521, 1523, 1525, 1527, 1529, 1531, 1533, 1535, 1537, 1539, 1541, 1543, 1545, 1547, 1549, 1551, 1553, 1555, 1557, 1559, 1561, 1563, 1565, 1567, 1569, 1571, 1573, 1575, 1577] (by decide +kernel)
def xTb : List Cond := lw_tbl.filter goodWord
end
section
/-! ===== A small machine over an abstract heap: what a method's resolved instructions do. Later: it is what the JVM does. ===== -/
/-- the abstract heap: the next number, slots used, what each number holds. Numbers below 16 are cells that were there before. -/
abbrev xH : Type := Nat × Nat × (Nat → Option va_E)
abbrev xL : Type := List (Nat × Value)
/-- an instruction, its length, two numbers, a constant, places of its words in lw_tbl -/
abbrev xI : Type := Instr × Nat × Nat × Nat × Int × List Nat
abbrev xC : Type := List (List (Nat × xI))
abbrev xS : Type := Nat × xL × List Value × xH
abbrev xRo : Type := Nat → Option (Nat × (Nat → Int32))
def xFind {α : Type} : List (Nat × α) → Nat → Option α
  | [], _ => none
  | q :: l, k => bif Nat.beq q.1 k then some q.2 else xFind l k
def xAt (c : xC) (pc : Nat) : Option xI := match c[pc / 32]? with
  | none => none
  | some l => xFind l pc
def xP1 (ls : xL) (i : Nat) (v : Value) : xL := (i, v) :: ls.filter (fun q => !(q.1 == i) && !(q.1 + 1 == i && q.2.category == 2))
def xP2 (ls : xL) (i : Nat) (v : Value) : xL := (i, v) :: ls.filter (fun q => !(q.1 == i) && (!(q.1 == i + 1) && !(q.1 + 1 == i && q.2.category == 2)))
def xUp (h : xH) (i : Nat) (e : va_E) : xH := (h.1, h.2.1, fun j => if j = i then some e else h.2.2 j)
def xNw (h : xH) (n : Nat) (e : va_E) : xH := (h.1 + 1, h.2.1 + n, fun j => if j = h.1 then some e else h.2.2 j)
def xi {α : Type} (st : List Value) (k : Int32 → List Value → Option α) : Option α := match st with
  | .int x :: r => k x r
  | _ => none
def xii {α : Type} (st : List Value) (k : Int32 → Int32 → List Value → Option α) : Option α := match st with
  | .int y :: .int x :: r => k x y r
  | _ => none
def xl {α : Type} (st : List Value) (k : Int64 → List Value → Option α) : Option α := match st with
  | .long x :: r => k x r
  | _ => none
def xll {α : Type} (st : List Value) (k : Int64 → Int64 → List Value → Option α) : Option α := match st with
  | .long y :: .long x :: r => k x y r
  | _ => none
def xli {α : Type} (st : List Value) (k : Int64 → Int32 → List Value → Option α) : Option α := match st with
  | .int y :: .long x :: r => k x y r
  | _ => none
def xa {α : Type} (st : List Value) (k : Nat → List Value → Option α) : Option α := match st with
  | .ref a :: r => k a r
  | _ => none
def xai {α : Type} (st : List Value) (k : Nat → Int32 → List Value → Option α) : Option α := match st with
  | .int i :: .ref a :: r => k a i r
  | _ => none
/-- a reference or null on top -/
def xq {α : Type} (st : List Value) (k : Option Nat → List Value → Option α) : Option α := match st with
  | .ref a :: r => k (some a) r
  | .null :: r => k none r
  | _ => none
/-- the object at a number, of class ci -/
def xob {α : Type} (h : xH) (a ci : Nat) (k : List Value → Option α) : Option α := match h.2.2 a with
  | some (.inr (c, fs)) => bif Nat.beq c ci then k fs else none
  | _ => none
/-- an int (or boolean) array at a number, of kind t -/
def xar {α : Type} (h : xH) (a t : Nat) (k : Nat → (Nat → Int32) → Option α) : Option α := match h.2.2 a with
  | some (.inl (c, n, .inl f)) => bif Nat.beq c t then k n f else none
  | _ => none
def xarl {α : Type} (h : xH) (a : Nat) (k : Nat → (Nat → Int64) → Option α) : Option α := match h.2.2 a with
  | some (.inl (c, n, .inr (.inl f))) => bif Nat.beq c 1 then k n f else none
  | _ => none
def xarq {α : Type} (h : xH) (a : Nat) (k : Nat → Nat → (Nat → Option Nat) → Option α) : Option α := match h.2.2 a with
  | some (.inl (c, n, .inr (.inr (.inr (.inr f))))) => bif Nat.beq c 3 || Nat.beq c 4 then k c n f else none
  | _ => none
def xin {α : Type} (i : Int32) (n : Nat) (k : Nat → Option α) : Option α := if i < 0 ∨ n ≤ i.toNatClampNeg then none else k i.toNatClampNeg
def xgt (ls : xL) (k : Nat) : Option Value := xFind ls k
def xTgt (pc : Nat) (off : Int) : Nat := ((pc : Int) + off).toNat
/-- the value fits its field: kind 0 int, 1 long, 2 a reference, 3 boolean -/
def xfit (k : Int) (v : Value) : Bool := match v with
  | .int x => k == 0 || (k == 3 && (x == 0 || x == 1))
  | .long _ => k == 1
  | .ref _ => k == 2
  | .null => k == 2
  | _ => false
def xTy (ci : Nat) : Nat → FieldType := match ci with
  | 0 => tyX0
  | 1 => tyX1
  | 2 => tyX2
  | 3 => tyX3
  | 4 => tyX4
  | 5 => tyX5
  | 6 => tyX6
  | 7 => tyX7
  | 8 => tyX8
  | 9 => tyX9
  | 10 => tyX10
  | 11 => tyX11
  | _ => tyX12
/-- the fields of a new object, by its class -/
def xNew (ci N : Nat) : List Value := (List.range N).map (fun k => defaultValue (xTy ci k))
/-- the element class of an array kind -/
def xEl (t : Nat) : Nat := bif Nat.beq t 3 then 2 else 10
def xTag (a : ArrayType) : Option Nat := match a with
  | .int => some 0
  | .long => some 1
  | .boolean => some 2
  | _ => none
def xZero (t n : Nat) : vp_A := bif Nat.beq t 1 then (n, .inr (.inl (fun _ => 0))) else (n, .inl (fun _ => 0))
/-- the bytes of the three texts -/
def xBy0 : List Int32 := [100, 97, 121, 32, 32, 32, 102, 117, 110, 100, 32, 32, 108, 97, 115, 116, 32, 32, 103, 111, 110, 101, 32, 32, 110, 117, 109, 98, 101, 114, 111, 100, 100, 115, 32, 32, 112, 101, 114, 105, 111, 100, 99, 111, 117, 110, 116, 32, 116, 104, 105, 110, 103, 32, 114, 104, 121, 109, 101, 32, 99, 97, 109, 101, 32, 32, 110, 111, 116, 32, 32, 32, 97, 110, 100, 32, 32, 32, 111, 114, 32, 32, 32, 32, 105, 102, 32, 32, 32, 32, 116, 104, 101, 110, 32, 32, 101, 108, 115, 101, 32, 32, 101, 110, 100, 32, 32, 32, 99, 104, 97, 110, 99, 101, 98, 114, 105, 110, 103, 115, 98, 105, 114, 100, 32, 32, 116, 104, 105, 110, 32, 32, 99, 97, 108, 108, 32, 32, 103, 114, 97, 110, 116, 32, 98, 121, 32, 32, 32, 32]
def xBy1 : List Int32 := [60, 62, 61, 35, 43, 45, 42, 47, 40, 41, 59]
def xBy2 : List Int32 := [48, 49, 50, 51, 48, 49, 51, 50, 48, 50, 49, 51, 48, 50, 51, 49, 48, 51, 49, 50, 48, 51, 50, 49, 49, 48, 50, 51, 49, 48, 51, 50, 49, 50, 48, 51, 49, 50, 51, 48, 49, 51, 48, 50, 49, 51, 50, 48, 50, 48, 49, 51, 50, 48, 51, 49, 50, 49, 48, 51, 50, 49, 51, 48, 50, 51, 48, 49, 50, 51, 49, 48, 51, 48, 49, 50, 51, 48, 50, 49, 51, 49, 48, 50, 51, 49, 50, 48, 51, 50, 48, 49, 51, 50, 49, 48]
def xStB (a : Nat) : Option (Nat × (Nat → Int32)) := match a with
  | 5 => some (150, fun j => xBy0.getD j 0)
  | 6 => some (11, fun j => xBy1.getD j 0)
  | 7 => some (96, fun j => xBy2.getD j 0)
  | _ => none
def xLn (ro : xRo) (a : Nat) : Option Nat := match xStB a with
  | some q => some q.1
  | none => bif Nat.blt a 2 then (ro a).map (fun q => q.1) else none
/-- one instruction that calls nothing -/
def xStep (ro : xRo) (i : xI) (pc : Nat) (ls : xL) (st : List Value) (h : xH) : Option xS :=
  match i.1 with
  | .aconst_null => some (pc + 1, ls, .null :: st, h)
  | .aload n => (xgt ls n).bind fun v => match v with
    | .ref a => some (pc + 2, ls, .ref a :: st, h)
    | .null => some (pc + 2, ls, .null :: st, h)
    | _ => none
  | .aload_n n => (xgt ls n).bind fun v => match v with
    | .ref a => some (pc + 1, ls, .ref a :: st, h)
    | .null => some (pc + 1, ls, .null :: st, h)
    | _ => none
  | .iload n => (xgt ls n).bind fun v => match v with
    | .int a => some (pc + 2, ls, .int a :: st, h)
    | _ => none
  | .iload_n n => (xgt ls n).bind fun v => match v with
    | .int a => some (pc + 1, ls, .int a :: st, h)
    | _ => none
  | .lload n => (xgt ls n).bind fun v => match v with
    | .long a => some (pc + 2, ls, .long a :: st, h)
    | _ => none
  | .lload_n n => (xgt ls n).bind fun v => match v with
    | .long a => some (pc + 1, ls, .long a :: st, h)
    | _ => none
  | .istore n => xi st fun x r => some (pc + 2, xP1 ls n (.int x), r, h)
  | .istore_n n => xi st fun x r => some (pc + 1, xP1 ls n (.int x), r, h)
  | .lstore n => xl st fun x r => some (pc + 2, xP2 ls n (.long x), r, h)
  | .lstore_n n => xl st fun x r => some (pc + 1, xP2 ls n (.long x), r, h)
  | .astore n => xq st fun x r => some (pc + 2, xP1 ls n (va_rf x), r, h)
  | .astore_n n => xq st fun x r => some (pc + 1, xP1 ls n (va_rf x), r, h)
  | .iinc n k => (xgt ls n).bind fun v => match v with
    | .int x => some (pc + 3, xP1 ls n (.int (x + Int32.ofInt k)), st, h)
    | _ => none
  | .iconst n => some (pc + 1, ls, .int (Int32.ofInt n) :: st, h)
  | .bipush n => some (pc + 2, ls, .int (Int32.ofInt n) :: st, h)
  | .sipush n => some (pc + 3, ls, .int (Int32.ofInt n) :: st, h)
  | .lconst n => some (pc + 1, ls, .long (Int64.ofNat n) :: st, h)
  | .ldc _ => bif Nat.beq i.2.2.1 0 then some (pc + 2, ls, .int (Int32.ofInt i.2.2.2.2.1) :: st, h) else some (pc + 2, ls, .ref i.2.2.2.1 :: st, h)
  | .ldc_w _ => some (pc + 3, ls, .int (Int32.ofInt i.2.2.2.2.1) :: st, h)
  | .ldc2_w _ => some (pc + 3, ls, .long (Int64.ofInt i.2.2.2.2.1) :: st, h)
  | .iadd => xii st fun x y r => some (pc + 1, ls, .int (x + y) :: r, h)
  | .isub => xii st fun x y r => some (pc + 1, ls, .int (x - y) :: r, h)
  | .imul => xii st fun x y r => some (pc + 1, ls, .int (x * y) :: r, h)
  | .iand => xii st fun x y r => some (pc + 1, ls, .int (x &&& y) :: r, h)
  | .ior => xii st fun x y r => some (pc + 1, ls, .int (x ||| y) :: r, h)
  | .ixor => xii st fun x y r => some (pc + 1, ls, .int (x ^^^ y) :: r, h)
  | .ishl => xii st fun x y r => some (pc + 1, ls, .int (x <<< (y &&& 31)) :: r, h)
  | .ishr => xii st fun x y r => some (pc + 1, ls, .int (x >>> (y &&& 31)) :: r, h)
  | .iushr => xii st fun x y r => some (pc + 1, ls, .int (x.toUInt32 >>> (y.toUInt32 &&& Int32.toUInt32 31)).toInt32 :: r, h)
  | .idiv => xii st fun x y r => if y = 0 then none else some (pc + 1, ls, .int (x / y) :: r, h)
  | .irem => xii st fun x y r => if y = 0 then none else some (pc + 1, ls, .int (x - x / y * y) :: r, h)
  | .ineg => xi st fun x r => some (pc + 1, ls, .int (-x) :: r, h)
  | .ladd => xll st fun x y r => some (pc + 1, ls, .long (x + y) :: r, h)
  | .lsub => xll st fun x y r => some (pc + 1, ls, .long (x - y) :: r, h)
  | .lmul => xll st fun x y r => some (pc + 1, ls, .long (x * y) :: r, h)
  | .lor => xll st fun x y r => some (pc + 1, ls, .long (x ||| y) :: r, h)
  | .ldiv => xll st fun x y r => if y = 0 then none else some (pc + 1, ls, .long (x / y) :: r, h)
  | .lrem => xll st fun x y r => if y = 0 then none else some (pc + 1, ls, .long (x - x / y * y) :: r, h)
  | .lneg => xl st fun x r => some (pc + 1, ls, .long (-x) :: r, h)
  | .lshl => xli st fun x y r => some (pc + 1, ls, .long (x <<< (y.toInt64 &&& 63)) :: r, h)
  | .lshr => xli st fun x y r => some (pc + 1, ls, .long (x >>> (y.toInt64 &&& 63)) :: r, h)
  | .lcmp => xll st fun x y r => some (pc + 1, ls, .int (lg_cmp x y) :: r, h)
  | .i2l => xi st fun x r => some (pc + 1, ls, .long x.toInt64 :: r, h)
  | .l2i => xl st fun x r => some (pc + 1, ls, .int x.toInt32 :: r, h)
  | .i2c => xi st fun x r => some (pc + 1, ls, .int (x.toUInt32 % 65536).toInt32 :: r, h)
  | .i2b => xi st fun x r => some (pc + 1, ls, .int x.toInt8.toInt32 :: r, h)
  | .dup => match st with
    | .int x :: r => some (pc + 1, ls, .int x :: .int x :: r, h)
    | .ref x :: r => some (pc + 1, ls, .ref x :: .ref x :: r, h)
    | _ => none
  | .dup2 => match st with
    | .int x :: .ref y :: r => some (pc + 1, ls, .int x :: .ref y :: .int x :: .ref y :: r, h)
    | _ => none
  | .pop => match st with
    | .int _ :: r => some (pc + 1, ls, r, h)
    | .ref _ :: r => some (pc + 1, ls, r, h)
    | _ => none
  | .goto off => some (xTgt pc off, ls, st, h)
  | .ifCond c off => xi st fun x r => match c with
    | .eq => some (if x = 0 then xTgt pc off else pc + 3, ls, r, h)
    | .ne => some (if ¬ x = 0 then xTgt pc off else pc + 3, ls, r, h)
    | .lt => some (if x < 0 then xTgt pc off else pc + 3, ls, r, h)
    | .ge => some (if 0 ≤ x then xTgt pc off else pc + 3, ls, r, h)
    | .gt => some (if 0 < x then xTgt pc off else pc + 3, ls, r, h)
    | .le => some (if x ≤ 0 then xTgt pc off else pc + 3, ls, r, h)
  | .if_icmp c off => xii st fun x y r => match c with
    | .eq => some (if x = y then xTgt pc off else pc + 3, ls, r, h)
    | .ne => some (if ¬ x = y then xTgt pc off else pc + 3, ls, r, h)
    | .lt => some (if x < y then xTgt pc off else pc + 3, ls, r, h)
    | .ge => some (if y ≤ x then xTgt pc off else pc + 3, ls, r, h)
    | .gt => some (if y < x then xTgt pc off else pc + 3, ls, r, h)
    | .le => some (if x ≤ y then xTgt pc off else pc + 3, ls, r, h)
  | .ifnull off => xq st fun a r => match a with
    | some _ => some (pc + 3, ls, r, h)
    | none => some (xTgt pc off, ls, r, h)
  | .ifnonnull off => xq st fun a r => match a with
    | some _ => some (xTgt pc off, ls, r, h)
    | none => some (pc + 3, ls, r, h)
  | .tableswitch d lo hi offs => xi st fun x r =>
    if x.toInt < lo ∨ hi < x.toInt then some (xTgt pc d, ls, r, h) else (offs[(x.toInt - lo).toNat]?).bind fun off => some (xTgt pc off, ls, r, h)
  | .lookupswitch d ps => xi st fun x r => some (xTgt pc (Op.lookupswitch.offset ps.toList d x.toInt), ls, r, h)
  | .getfield _ => bif i.2.2.2.2.1 == 5 then xa st fun a r => bif Nat.ble 2 a && Nat.ble a 4 then some (pc + 3, ls, .ref (a + 3) :: r, h) else none
    else bif i.2.2.2.2.1 == 6 then xa st fun a r => bif Nat.ble 2 a && Nat.ble a 4 then some (pc + 3, ls, .int 0 :: r, h) else none
    else xa st fun a r => xob h a i.2.2.1 fun fs => (fs[i.2.2.2.1]?).bind fun v => some (pc + 3, ls, v :: r, h)
  | .putfield _ => match st with
    | v :: .ref a :: r => xob h a i.2.2.1 fun fs => bif xfit i.2.2.2.2.1 v && Nat.blt i.2.2.2.1 fs.length then some (pc + 3, ls, r, xUp h a (.inr (i.2.2.1, fs.set i.2.2.2.1 v))) else none
    | _ => none
  | .getstatic _ => bif i.2.2.2.2.1 == 1 then some (pc + 3, ls, .int 1 :: st, h)
    else bif i.2.2.2.2.1 == 2 then match ro 8 with
      | some _ => some (pc + 3, ls, .ref 8 :: st, h)
      | none => some (pc + 3, ls, .null :: st, h)
    else some (pc + 3, ls, .ref i.2.2.2.1 :: st, h)
  | .iaload => xai st fun a k r => bif Nat.blt a 2 then (ro a).bind fun q => xin k q.1 fun j => some (pc + 1, ls, .int (q.2 j) :: r, h)
      else xar h a 0 fun n f => xin k n fun j => some (pc + 1, ls, .int (f j) :: r, h)
  | .baload => xai st fun a k r => bif Nat.blt a 16 then (xStB a).bind fun q => xin k q.1 fun j => some (pc + 1, ls, .int (q.2 j) :: r, h)
      else xar h a 2 fun n f => xin k n fun j => some (pc + 1, ls, .int (f j) :: r, h)
  | .laload => xai st fun a k r => xarl h a fun n f => xin k n fun j => some (pc + 1, ls, .long (f j) :: r, h)
  | .aaload => xai st fun a k r => xarq h a fun _ n f => xin k n fun j => some (pc + 1, ls, va_rf (f j) :: r, h)
  | .iastore => xi st fun x r => xai r fun a k r => xar h a 0 fun n f => xin k n fun j => some (pc + 1, ls, r, xUp h a (.inl (0, n, .inl (upd f j x))))
  | .bastore => xi st fun x r => xai r fun a k r => xar h a 2 fun n f => xin k n fun j => if x = 0 ∨ x = 1 then some (pc + 1, ls, r, xUp h a (.inl (2, n, .inl (upd f j x)))) else none
  | .lastore => xl st fun x r => xai r fun a k r => xarl h a fun n f => xin k n fun j => some (pc + 1, ls, r, xUp h a (.inl (1, n, .inr (.inl (vp_updL f j x)))))
  | .aastore => xq st fun v r => xai r fun a k r => xarq h a fun t n f => xin k n fun j => match v with
    | none => some (pc + 1, ls, r, xUp h a (.inl (t, n, .inr (.inr (.inr (.inr (va_up f j none)))))))
    | some o => xob h o (xEl t) fun _ => some (pc + 1, ls, r, xUp h a (.inl (t, n, .inr (.inr (.inr (.inr (va_up f j (some o))))))))
  | .arraylength => xa st fun a r => bif Nat.blt a 16 then (xLn ro a).bind fun n => some (pc + 1, ls, .int (Int32.ofNat n) :: r, h)
      else match h.2.2 a with
        | some (.inl (t, n, _)) => bif Nat.blt t 5 then some (pc + 1, ls, .int (Int32.ofNat n) :: r, h) else none
        | _ => none
  | .newarray at_ => xi st fun x r => (xTag at_).bind fun t => if x < 0 ∨ 100000 < x.toNatClampNeg then none else some (pc + 2, ls, .ref h.1 :: r, xNw h x.toNatClampNeg (.inl (t, xZero t x.toNatClampNeg)))
  | .anewarray _ => xi st fun x r => if x < 0 ∨ 100000 < x.toNatClampNeg then none else some (pc + 3, ls, .ref h.1 :: r, xNw h x.toNatClampNeg (.inl (i.2.2.1, x.toNatClampNeg, .inr (.inr (.inr (.inr (fun _ => none)))))))
  | .new _ => some (pc + 3, ls, .ref h.1 :: st, xNw h i.2.2.2.1 (.inr (i.2.2.1, xNew i.2.2.1 i.2.2.2.1)))
  | .invokestatic _ => bif i.2.2.2.2.1 == 9 then match st with
      | .int n :: .int dp :: .ref a :: .int sp :: .ref a0 :: r => xar h a0 0 fun n0 f => xar h a 0 fun n1 f1 =>
          if sp < 0 ∨ dp < 0 ∨ n < 0 ∨ n0 < sp.toNatClampNeg + n.toNatClampNeg ∨ n1 < dp.toNatClampNeg + n.toNatClampNeg ∨ 8 < (r.map fun v => v.category).sum then none
          else some (pc + 3, ls, r, xUp h a (.inl (0, n1, .inl (va_cpy f f1 sp.toNatClampNeg dp.toNatClampNeg n.toNatClampNeg))))
      | _ => none
    else bif i.2.2.2.2.1 == 10 then xii st fun x y r => if 8 < (r.map fun v => v.category).sum then none else some (pc + 3, ls, .int (if x < y then y else x) :: r, h)
    else bif i.2.2.2.2.1 == 11 then xii st fun x y r => if 8 < (r.map fun v => v.category).sum then none else some (pc + 3, ls, .int (if y < x then y else x) :: r, h)
    else bif i.2.2.2.2.1 == 12 then xll st fun x y r => if 8 < (r.map fun v => v.category).sum then none else some (pc + 3, ls, .long (if y < x then x else y) :: r, h)
    else bif i.2.2.2.2.1 == 13 then xll st fun x y r => if 8 < (r.map fun v => v.category).sum then none else some (pc + 3, ls, .long (if y < x then y else x) :: r, h)
    else none
  | .invokevirtual _ => bif i.2.2.2.2.1 == 8 then xa st fun a r => xar h a 0 fun n f => if 8 < (r.map fun v => v.category).sum ∨ 100000 < n then none else some (pc + 3, ls, .ref h.1 :: r, xNw h n (.inl (0, n, .inl f))) else none
  | .checkcast _ => xa st fun a r => xar h a 0 fun _ _ => some (pc + 3, ls, .ref a :: r, h)
  | .invokespecial _ => bif i.2.2.2.2.1 == 8 then xa st fun _ r => if 8 < (r.map fun v => v.category).sum then none else some (pc + 3, ls, r, h) else none
  | _ => none
end
section
/-! ===== What a resolved instruction must be of the bytes and of the tables, by program ===== -/
def xwd (i : xI) (k : Nat) (w : Jvm.Cond) : Bool := match i.2.2.2.2.2[k]? with
  | some p => decide (lw_tbl[p]? = some w) && goodWord w
  | none => false
def xLen (i : Instr) : Option Nat := match i with
  | .aload _ | .iload _ | .lload _ | .istore _ | .lstore _ | .astore _ | .bipush _ | .ldc _ | .newarray _ => some 2
  | .iinc _ _ | .sipush _ | .ldc_w _ | .ldc2_w _ | .goto _ | .ifCond _ _ | .if_icmp _ _ | .ifnull _ | .ifnonnull _ | .getfield _ | .putfield _ | .getstatic _ | .anewarray _ | .new _ | .invokevirtual _ | .invokestatic _ | .invokespecial _ | .checkcast _ => some 3
  | .tableswitch _ _ _ _ | .lookupswitch _ _ => none
  | _ => some 1
def xNn (pc : Nat) (off : Int) : Bool := decide (0 ≤ (pc : Int) + off)
/-- the kind of a field's type -/
def xKd (ty : FieldType) (k : Int) : Bool := match ty with
  | .int => k == 0
  | .long => k == 1
  | .boolean => k == 3
  | .object _ => k == 2
  | .array _ => k == 2
  | _ => false
def xChk2 (own mname : String) (nL pc : Nat) (i : xI) : Bool := match i.1 with
  | .istore n => decide (n < nL)
  | .istore_n n => decide (n.val < nL)
  | .lstore n => decide (n + 1 < nL)
  | .lstore_n n => decide (n.val + 1 < nL)
  | .astore n => decide (n < nL)
  | .astore_n n => decide (n.val < nL)
  | .iinc n _ => decide (n < nL)
  | .bipush n => decide ((Int8.ofInt n).toInt32 = Int32.ofInt n)
  | .sipush n => decide ((Int16.ofInt n).toInt32 = Int32.ofInt n)
  | .ldc idx => bif Nat.beq i.2.2.1 0 then xwd i 0 (.constant own idx (Int32.ofInt i.2.2.2.2.1)) else
      (decide (own = RX9) && Nat.beq idx 71 && Nat.beq i.2.2.2.1 2) || (decide (own = RX9) && Nat.beq idx 64 && Nat.beq i.2.2.2.1 3) || (decide (own = RX4) && Nat.beq idx 50 && Nat.beq i.2.2.2.1 4)
  | .ldc_w idx => xwd i 0 (.constant own idx (Int32.ofInt i.2.2.2.2.1))
  | .ldc2_w idx => xwd i 0 (.constantLong own idx (Int64.ofInt i.2.2.2.2.1))
  | .goto off => xNn pc off
  | .ifCond _ off => xNn pc off
  | .if_icmp _ off => xNn pc off
  | .ifnull off => xNn pc off
  | .ifnonnull off => xNn pc off
  | .tableswitch d _ _ offs => xNn pc d && offs.toList.all (xNn pc)
  | .lookupswitch d ps => xNn pc d && ps.toList.all (fun q => xNn pc q.2) && (ps.toList.zip (ps.toList.drop 1)).all (fun (a, next) => decide (a.1 < next.1))
  | .getfield idx => bif i.2.2.2.2.1 == 5 then xwd i 0 (.fieldLink own idx "java/lang/String" "value" "[B") else bif i.2.2.2.2.1 == 6 then xwd i 0 (.fieldLink own idx "java/lang/String" "coder" "B") else match vwCl[i.2.2.1]? with
    | some q => decide (i.2.2.2.1 < q.2.2) && xwd i 0 (.fieldLink own idx (q.2.1 i.2.2.2.1).1 (q.2.1 i.2.2.2.1).2.1 (q.2.1 i.2.2.2.1).2.2.1)
    | none => false
  | .putfield idx => match vwCl[i.2.2.1]? with
    | some q => decide (i.2.2.2.1 < q.2.2) && xwd i 0 (.fieldLink own idx (q.2.1 i.2.2.2.1).1 (q.2.1 i.2.2.2.1).2.1 (q.2.1 i.2.2.2.1).2.2.1) && xKd (xTy i.2.2.1 i.2.2.2.1) i.2.2.2.2.1 &&
        (!(q.2.1 i.2.2.2.1).2.2.2 || (decide (mname = "<init>") && decide ((q.2.1 i.2.2.2.1).1 = own)))
    | none => false
  | .getstatic idx => bif i.2.2.2.2.1 == 1 then xwd i 0 (.fieldLink own idx "java/lang/String" "COMPACT_STRINGS" "Z") else bif i.2.2.2.2.1 == 2 then xwd i 0 (.fieldLink own idx "jdk/internal/util/Preconditions" "SIOOBE_FORMATTER" "Ljava/util/function/BiFunction;") else Nat.beq i.2.2.2.1 1 && xwd i 0 (.fieldLink own idx "MagpieAccounts" "GAME_PARTS" "[I")
  | .newarray t => xwd i 0 (.arrayClass (newarray.typeOf t))
  | .anewarray idx => (Nat.beq i.2.2.1 3 && xwd i 0 (.classLink own idx RX2)) || (Nat.beq i.2.2.1 4 && xwd i 0 (.classLink own idx RX10))
  | .new idx => match vwCl[i.2.2.1]? with
    | some q => Nat.beq i.2.2.2.1 q.2.2 && xwd i 0 (.classLink own idx q.1) && xwd i 1 (.instantiable q.1 q.2.2) && xwd i 2 (.initialized q.1)
    | none => false
  | .invokevirtual idx => bif i.2.2.2.2.1 == 8 then xwd i 0 (.methodLink own idx ⟨"[I", "clone", "()Ljava/lang/Object;"⟩) && xwd i 1 (.sameMethod "[I" "java/lang/Object" "clone" "()Ljava/lang/Object;") && xwd i 2 (.native ⟨"java/lang/Object", "clone", "()Ljava/lang/Object;"⟩) && xwd i 3 (.instanceMethod ⟨"java/lang/Object", "clone", "()Ljava/lang/Object;"⟩) && xwd i 4 (.selects "[I" ⟨"[I", "clone", "()Ljava/lang/Object;"⟩ ⟨"java/lang/Object", "clone", "()Ljava/lang/Object;"⟩) else true
  | .checkcast idx => xwd i 0 (.classLink own idx "[I")
  | .invokestatic idx => bif i.2.2.2.2.1 == 9 then xwd i 0 (.methodLink own idx arraycopyName) && xwd i 1 (.native arraycopyName) && xwd i 2 (.static arraycopyName) && xwd i 3 (.initialized "java/lang/System")
    else bif i.2.2.2.2.1 == 10 then xwd i 0 (.methodLink own idx Lib.Math.max.name) && xwd i 1 (.static Lib.Math.max.name) && xwd i 2 (.initialized "java/lang/Math") && xwd i 3 (.code Lib.Math.max.name Lib.Math.max.code 2 (some .int))
    else bif i.2.2.2.2.1 == 11 then xwd i 0 (.methodLink own idx Lib.Math.min.name) && xwd i 1 (.static Lib.Math.min.name) && xwd i 2 (.initialized "java/lang/Math") && xwd i 3 (.code Lib.Math.min.name Lib.Math.min.code 2 (some .int))
    else bif i.2.2.2.2.1 == 12 then xwd i 0 (.methodLink own idx Lib.MathLoose.max_long.x) && xwd i 1 (.static Lib.MathLoose.max_long.x) && xwd i 2 (.initialized "java/lang/Math") && xwd i 3 (.code Lib.MathLoose.max_long.x Lib.MathLoose.max_long.code 4 (some .long))
    else bif i.2.2.2.2.1 == 13 then xwd i 0 (.methodLink own idx Lib.MathLoose.min_long.x) && xwd i 1 (.static Lib.MathLoose.min_long.x) && xwd i 2 (.initialized "java/lang/Math") && xwd i 3 (.code Lib.MathLoose.min_long.x Lib.MathLoose.min_long.code 4 (some .long))
    else true
  | .invokespecial idx => bif i.2.2.2.2.1 == 8 then xwd i 0 (.methodLink own idx Lib.objectInit) && xwd i 1 (.instanceMethod Lib.objectInit) && xwd i 2 (.code Lib.objectInit ⟨#[0xb1]⟩ 1 none) else true
  | _ => true
def xChk (own mname : String) (cc : ByteArray) (nL pc : Nat) (i : xI) : Bool :=
  decide (decode cc pc = .ok (i.1, i.2.1)) && (match xLen i.1 with
    | some n => Nat.beq i.2.1 n
    | none => true) && xChk2 own mname nL pc i
def xNests : List Cond := lw_tbl.filter (fun w => match w with
  | .methodLinkNest _ _ _ _ => true
  | _ => false)
/-- a method: its name, bytes, locals, type of answer, resolved code -/
abbrev xMeth : Type := MethodName × ByteArray × Nat × Option FieldType × xC
/-- a call: the method's number, how many values it takes off the stack -/
def xCallee (i : xI) : Option (Nat × Nat) := match i.1 with
  | .invokevirtual _ => bif Nat.blt i.2.2.2.2.1.toNat 8 then some (i.2.2.1, i.2.2.2.1) else none
  | .invokestatic _ => bif Nat.blt i.2.2.2.2.1.toNat 8 then some (i.2.2.1, i.2.2.2.1) else none
  | .invokespecial _ => bif Nat.blt i.2.2.2.2.1.toNat 8 then some (i.2.2.1, i.2.2.2.1) else none
  | _ => none
/-- how a call's words stand -/
def xChkC (P : Nat → Option xMeth) (own : String) (i : xI) : Bool := match xCallee i with
  | none => true
  | some (j, k) => match P j with
    | none => false
    | some M => decide (M.1.cls ≠ "java/lang/invoke/MethodHandle") && decide (M.1.cls ≠ "java/lang/invoke/VarHandle") && Nat.ble M.2.2.1 100 && xwd i 2 (.initialized M.1.cls) &&
      (match i.1 with
      | .invokevirtual idx => xwd i 0 (.methodLink own idx M.1) && xwd i 3 (.instanceMethod M.1) && xwd i 4 (.selects M.1.cls M.1 M.1) && decide ((parseMethodDescriptor M.1.desc).map (fun d => d.parameters.length + 1) = some k) && (match vwCl[i.2.2.2.2.2.getD 5 0]? with
          | some q => decide (q.1 = M.1.cls)
          | none => Nat.beq (i.2.2.2.2.2.getD 5 0) 99 && decide (M.1.cls = "java/lang/String"))
      | .invokestatic idx => xwd i 3 (.static M.1) && decide ((parseMethodDescriptor M.1.desc).map (fun d => d.parameters.length) = some k) && (bif i.2.2.2.2.1 == 0 then xwd i 0 (.methodLink own idx M.1) else decide (Jvm.Cond.methodLinkNest own idx M.1 "MagpieAccounts" ∈ xNests))
      | .invokespecial idx => xwd i 3 (.instanceMethod M.1) && decide (M.1.name = "<init>" ∧ M.2.2.2.1 = none) && decide ((parseMethodDescriptor M.1.desc).map (fun d => d.parameters.length + 1) = some k) && (bif i.2.2.2.2.1 == 0 then xwd i 0 (.methodLink own idx M.1) else decide (Jvm.Cond.methodLinkNest own idx M.1 "MagpieAccounts" ∈ xNests))
      | _ => false)
/-- a program's method is as the bytes and the tables have it -/
def xChkM (P : Nat → Option xMeth) (M : xMeth) : Bool := decide (plainName M.1.cls = true) && M.2.2.2.2.all (fun l => l.all (fun q => xChk M.1.cls M.1.name M.2.1 M.2.2.1 q.1 q.2 && xChkC P M.1.cls q.2))
end
section
/-! ===== the resolved code of every method, by program ===== -/
def kX0_init : xC := [[(0, .aload_n 0, 1, 0, 0, 0, []), (1, .invokespecial 3, 3, 0, 0, 8, [153, 140, 141]), (4, .aload_n 0, 1, 0, 0, 0, []), (5, .new 9, 3, 2, 9, 0, [154, 155, 115]), (8, .dup, 1, 0, 0, 0, []), (9, .invokespecial 11, 3, 25, 1, 1, [156, 158, 115, 157]), (12, .putfield 12, 3, 0, 0, 2, [278]), (15, .aload_n 0, 1, 0, 0, 0, []), (16, .new 18, 3, 8, 3, 0, [203, 204, 116]), (19, .dup, 1, 0, 0, 0, []), (20, .invokespecial 20, 3, 94, 1, 0, [205, 207, 116, 206]), (23, .putfield 21, 3, 0, 1, 2, [281]), (26, .aload_n 0, 1, 0, 0, 0, []), (27, .bipush 8, 2, 0, 0, 0, []), (29, .newarray .int, 2, 0, 0, 0, [202]), (31, .putfield 25, 3, 0, 2, 2, [283])],
  [(34, .aload_n 0, 1, 0, 0, 0, []), (35, .bipush 8, 2, 0, 0, 0, []), (37, .newarray .int, 2, 0, 0, 0, [202]), (39, .putfield 29, 3, 0, 3, 2, [286]), (42, .aload_n 0, 1, 0, 0, 0, []), (43, .bipush 8, 2, 0, 0, 0, []), (45, .newarray .int, 2, 0, 0, 0, [202]), (47, .putfield 32, 3, 0, 4, 2, [288]), (50, .aload_n 0, 1, 0, 0, 0, []), (51, .bipush 9, 2, 0, 0, 0, []), (53, .newarray .int, 2, 0, 0, 0, [202]), (55, .dup, 1, 0, 0, 0, []), (56, .iconst 0, 1, 0, 0, 0, []), (57, .iconst 0, 1, 0, 0, 0, []), (58, .iastore, 1, 0, 0, 0, []), (59, .dup, 1, 0, 0, 0, []), (60, .iconst 1, 1, 0, 0, 0, []), (61, .iconst 1, 1, 0, 0, 0, []), (62, .iastore, 1, 0, 0, 0, []), (63, .dup, 1, 0, 0, 0, [])],
  [(64, .iconst 2, 1, 0, 0, 0, []), (65, .iconst 2, 1, 0, 0, 0, []), (66, .iastore, 1, 0, 0, 0, []), (67, .dup, 1, 0, 0, 0, []), (68, .iconst 3, 1, 0, 0, 0, []), (69, .iconst 3, 1, 0, 0, 0, []), (70, .iastore, 1, 0, 0, 0, []), (71, .dup, 1, 0, 0, 0, []), (72, .iconst 4, 1, 0, 0, 0, []), (73, .iconst 4, 1, 0, 0, 0, []), (74, .iastore, 1, 0, 0, 0, []), (75, .dup, 1, 0, 0, 0, []), (76, .iconst 5, 1, 0, 0, 0, []), (77, .iconst 5, 1, 0, 0, 0, []), (78, .iastore, 1, 0, 0, 0, []), (79, .dup, 1, 0, 0, 0, []), (80, .bipush 6, 2, 0, 0, 0, []), (82, .bipush 6, 2, 0, 0, 0, []), (84, .iastore, 1, 0, 0, 0, []), (85, .dup, 1, 0, 0, 0, []), (86, .bipush 7, 2, 0, 0, 0, []), (88, .bipush 7, 2, 0, 0, 0, []), (90, .iastore, 1, 0, 0, 0, []), (91, .dup, 1, 0, 0, 0, []), (92, .bipush 8, 2, 0, 0, 0, []), (94, .bipush 8, 2, 0, 0, 0, [])],
  [(96, .iastore, 1, 0, 0, 0, []), (97, .putfield 35, 3, 0, 6, 2, [293]), (100, .aload_n 0, 1, 0, 0, 0, []), (101, .iconst 4, 1, 0, 0, 0, []), (102, .anewarray 38, 3, 4, 0, 0, [223]), (105, .putfield 40, 3, 0, 7, 2, [296]), (108, .aload_n 0, 1, 0, 0, 0, []), (109, .iconst (-1), 1, 0, 0, 0, []), (110, .putfield 44, 3, 0, 9, 0, [299]), (113, .aload_n 0, 1, 0, 0, 0, []), (114, .new 48, 3, 3, 3, 0, [225, 226, 117]), (117, .dup, 1, 0, 0, 0, []), (118, .invokespecial 50, 3, 35, 1, 1, [227, 229, 117, 228]), (121, .putfield 51, 3, 0, 10, 2, [301]), (124, .aload_n 0, 1, 0, 0, 0, []), (125, .new 55, 3, 6, 1, 0, [243, 244, 118])],
  [(128, .dup, 1, 0, 0, 0, []), (129, .invokespecial 57, 3, 80, 1, 1, [245, 247, 118, 246]), (132, .putfield 58, 3, 0, 11, 2, [303]), (135, .aload_n 0, 1, 0, 0, 0, []), (136, .new 62, 3, 4, 5, 0, [254, 255, 119]), (139, .dup, 1, 0, 0, 0, []), (140, .invokespecial 64, 3, 43, 1, 1, [256, 258, 119, 257]), (143, .putfield 65, 3, 0, 12, 2, [305]), (146, .aload_n 0, 1, 0, 0, 0, []), (147, .bipush 8, 2, 0, 0, 0, []), (149, .newarray .int, 2, 0, 0, 0, [202]), (151, .putfield 69, 3, 0, 13, 2, [307]), (154, .aload_n 0, 1, 0, 0, 0, []), (155, .bipush 8, 2, 0, 0, 0, []), (157, .newarray .int, 2, 0, 0, 0, [202]), (159, .putfield 72, 3, 0, 14, 2, [309])],
  [(162, .return_, 1, 0, 0, 0, [])]]
def mX0_init : xMeth := (yX0_init, cX0_init, 1, none, kX0_init)
def kX0_copy : xC := [[(0, .aload_n 0, 1, 0, 0, 0, []), (1, .getfield 12, 3, 0, 0, 0, [278]), (4, .aload_n 1, 1, 0, 0, 0, []), (5, .getfield 12, 3, 0, 0, 0, [278]), (8, .invokevirtual 75, 3, 26, 2, 0, [1446, 880, 115, 878, 879, 2]), (11, .aload_n 0, 1, 0, 0, 0, []), (12, .getfield 21, 3, 0, 1, 0, [281]), (15, .aload_n 1, 1, 0, 0, 0, []), (16, .getfield 21, 3, 0, 1, 0, [281]), (19, .invokevirtual 79, 3, 95, 2, 0, [1447, 1450, 116, 1448, 1449, 8]), (22, .aload_n 1, 1, 0, 0, 0, []), (23, .getfield 25, 3, 0, 2, 0, [283]), (26, .iconst 0, 1, 0, 0, 0, []), (27, .aload_n 0, 1, 0, 0, 0, []), (28, .getfield 25, 3, 0, 2, 0, [283]), (31, .iconst 0, 1, 0, 0, 0, [])],
  [(32, .bipush 8, 2, 0, 0, 0, []), (34, .invokestatic 82, 3, 0, 0, 9, [1451, 799, 798, 132]), (37, .aload_n 1, 1, 0, 0, 0, []), (38, .getfield 29, 3, 0, 3, 0, [286]), (41, .iconst 0, 1, 0, 0, 0, []), (42, .aload_n 0, 1, 0, 0, 0, []), (43, .getfield 29, 3, 0, 3, 0, [286]), (46, .iconst 0, 1, 0, 0, 0, []), (47, .bipush 8, 2, 0, 0, 0, []), (49, .invokestatic 82, 3, 0, 0, 9, [1451, 799, 798, 132]), (52, .aload_n 1, 1, 0, 0, 0, []), (53, .getfield 32, 3, 0, 4, 0, [288]), (56, .iconst 0, 1, 0, 0, 0, []), (57, .aload_n 0, 1, 0, 0, 0, []), (58, .getfield 32, 3, 0, 4, 0, [288]), (61, .iconst 0, 1, 0, 0, 0, []), (62, .bipush 8, 2, 0, 0, 0, [])],
  [(64, .invokestatic 82, 3, 0, 0, 9, [1451, 799, 798, 132]), (67, .aload_n 0, 1, 0, 0, 0, []), (68, .aload_n 1, 1, 0, 0, 0, []), (69, .getfield 88, 3, 0, 5, 0, [291]), (72, .putfield 88, 3, 0, 5, 0, [291]), (75, .aload_n 1, 1, 0, 0, 0, []), (76, .getfield 35, 3, 0, 6, 0, [293]), (79, .iconst 0, 1, 0, 0, 0, []), (80, .aload_n 0, 1, 0, 0, 0, []), (81, .getfield 35, 3, 0, 6, 0, [293]), (84, .iconst 0, 1, 0, 0, 0, []), (85, .bipush 9, 2, 0, 0, 0, []), (87, .invokestatic 82, 3, 0, 0, 9, [1451, 799, 798, 132]), (90, .iconst 0, 1, 0, 0, 0, []), (91, .istore_n 2, 1, 0, 0, 0, []), (92, .iload_n 2, 1, 0, 0, 0, []), (93, .iconst 4, 1, 0, 0, 0, []), (94, .if_icmp .ge 21, 3, 0, 0, 0, [])],
  [(97, .aload_n 0, 1, 0, 0, 0, []), (98, .getfield 40, 3, 0, 7, 0, [296]), (101, .iload_n 2, 1, 0, 0, 0, []), (102, .aload_n 1, 1, 0, 0, 0, []), (103, .getfield 40, 3, 0, 7, 0, [296]), (106, .iload_n 2, 1, 0, 0, 0, []), (107, .aaload, 1, 0, 0, 0, []), (108, .aastore, 1, 0, 0, 0, []), (109, .iinc 2 1, 3, 0, 0, 0, []), (112, .goto (-20), 3, 0, 0, 0, []), (115, .aload_n 0, 1, 0, 0, 0, []), (116, .aload_n 1, 1, 0, 0, 0, []), (117, .getfield 91, 3, 0, 8, 0, [297]), (120, .putfield 91, 3, 0, 8, 0, [297]), (123, .aload_n 0, 1, 0, 0, 0, []), (124, .aload_n 1, 1, 0, 0, 0, []), (125, .getfield 44, 3, 0, 9, 0, [299])],
  [(128, .putfield 44, 3, 0, 9, 0, [299]), (131, .aload_n 0, 1, 0, 0, 0, []), (132, .getfield 51, 3, 0, 10, 0, [301]), (135, .aload_n 1, 1, 0, 0, 0, []), (136, .getfield 51, 3, 0, 10, 0, [301]), (139, .invokevirtual 94, 3, 36, 2, 0, [1452, 1455, 117, 1453, 1454, 3]), (142, .aload_n 0, 1, 0, 0, 0, []), (143, .getfield 58, 3, 0, 11, 0, [303]), (146, .aload_n 1, 1, 0, 0, 0, []), (147, .getfield 58, 3, 0, 11, 0, [303]), (150, .invokevirtual 97, 3, 81, 2, 0, [1456, 1459, 118, 1457, 1458, 6]), (153, .aload_n 0, 1, 0, 0, 0, []), (154, .getfield 65, 3, 0, 12, 0, [305]), (157, .aload_n 1, 1, 0, 0, 0, []), (158, .getfield 65, 3, 0, 12, 0, [305])],
  [(161, .invokevirtual 100, 3, 44, 2, 0, [1461, 1464, 119, 1462, 1463, 4]), (164, .aload_n 1, 1, 0, 0, 0, []), (165, .getfield 69, 3, 0, 13, 0, [307]), (168, .iconst 0, 1, 0, 0, 0, []), (169, .aload_n 0, 1, 0, 0, 0, []), (170, .getfield 69, 3, 0, 13, 0, [307]), (173, .iconst 0, 1, 0, 0, 0, []), (174, .bipush 8, 2, 0, 0, 0, []), (176, .invokestatic 82, 3, 0, 0, 9, [1451, 799, 798, 132]), (179, .aload_n 1, 1, 0, 0, 0, []), (180, .getfield 72, 3, 0, 14, 0, [309]), (183, .iconst 0, 1, 0, 0, 0, []), (184, .aload_n 0, 1, 0, 0, 0, []), (185, .getfield 72, 3, 0, 14, 0, [309]), (188, .iconst 0, 1, 0, 0, 0, []), (189, .bipush 8, 2, 0, 0, 0, []), (191, .invokestatic 82, 3, 0, 0, 9, [1451, 799, 798, 132])],
  [(194, .aload_n 0, 1, 0, 0, 0, []), (195, .aload_n 1, 1, 0, 0, 0, []), (196, .getfield 103, 3, 0, 15, 0, [311]), (199, .putfield 103, 3, 0, 15, 0, [311]), (202, .return_, 1, 0, 0, 0, [])]]
def mX0_copy : xMeth := (yX0_copy, cX0_copy, 3, none, kX0_copy)
def kX0_addBird : xC := [[(0, .aload_n 0, 1, 0, 0, 0, []), (1, .getfield 88, 3, 0, 5, 0, [291]), (4, .bipush 8, 2, 0, 0, 0, []), (6, .if_icmp .lt 5, 3, 0, 0, 0, []), (9, .iconst (-1), 1, 0, 0, 0, []), (10, .ireturn, 1, 0, 0, 0, []), (11, .aload_n 0, 1, 0, 0, 0, []), (12, .getfield 25, 3, 0, 2, 0, [283]), (15, .aload_n 0, 1, 0, 0, 0, []), (16, .getfield 88, 3, 0, 5, 0, [291]), (19, .iload_n 1, 1, 0, 0, 0, []), (20, .iastore, 1, 0, 0, 0, []), (21, .aload_n 0, 1, 0, 0, 0, []), (22, .getfield 29, 3, 0, 3, 0, [286]), (25, .aload_n 0, 1, 0, 0, 0, []), (26, .getfield 88, 3, 0, 5, 0, [291]), (29, .iload_n 2, 1, 0, 0, 0, []), (30, .iastore, 1, 0, 0, 0, []), (31, .aload_n 0, 1, 0, 0, 0, [])],
  [(32, .getfield 32, 3, 0, 4, 0, [288]), (35, .aload_n 0, 1, 0, 0, 0, []), (36, .getfield 88, 3, 0, 5, 0, [291]), (39, .iload_n 3, 1, 0, 0, 0, []), (40, .iastore, 1, 0, 0, 0, []), (41, .aload_n 0, 1, 0, 0, 0, []), (42, .dup, 1, 0, 0, 0, []), (43, .getfield 88, 3, 0, 5, 0, [291]), (46, .iconst 1, 1, 0, 0, 0, []), (47, .iadd, 1, 0, 0, 0, []), (48, .putfield 88, 3, 0, 5, 0, [291]), (51, .aload_n 0, 1, 0, 0, 0, []), (52, .getfield 88, 3, 0, 5, 0, [291]), (55, .iconst 1, 1, 0, 0, 0, []), (56, .isub, 1, 0, 0, 0, []), (57, .ireturn, 1, 0, 0, 0, [])]]
def mX0_addBird : xMeth := (yX0_addBird, cX0_addBird, 4, (some FieldType.int), kX0_addBird)
def kX0_addText : xC := [[(0, .aload_n 0, 1, 0, 0, 0, []), (1, .getfield 91, 3, 0, 8, 0, [297]), (4, .iconst 4, 1, 0, 0, 0, []), (5, .if_icmp .lt 5, 3, 0, 0, 0, []), (8, .iconst (-1), 1, 0, 0, 0, []), (9, .ireturn, 1, 0, 0, 0, []), (10, .aload_n 0, 1, 0, 0, 0, []), (11, .getfield 40, 3, 0, 7, 0, [296]), (14, .aload_n 0, 1, 0, 0, 0, []), (15, .getfield 91, 3, 0, 8, 0, [297]), (18, .aload_n 1, 1, 0, 0, 0, []), (19, .aastore, 1, 0, 0, 0, []), (20, .aload_n 0, 1, 0, 0, 0, []), (21, .dup, 1, 0, 0, 0, []), (22, .getfield 91, 3, 0, 8, 0, [297]), (25, .iconst 1, 1, 0, 0, 0, []), (26, .iadd, 1, 0, 0, 0, []), (27, .putfield 91, 3, 0, 8, 0, [297]), (30, .aload_n 0, 1, 0, 0, 0, []), (31, .getfield 91, 3, 0, 8, 0, [297])],
  [(34, .iconst 1, 1, 0, 0, 0, []), (35, .isub, 1, 0, 0, 0, []), (36, .ireturn, 1, 0, 0, 0, [])]]
def mX0_addText : xMeth := (yX0_addText, cX0_addText, 2, (some FieldType.int), kX0_addText)
def kX0_addTold : xC := [[(0, .aload_n 0, 1, 0, 0, 0, []), (1, .getfield 103, 3, 0, 15, 0, [311]), (4, .bipush 8, 2, 0, 0, 0, []), (6, .if_icmp .ge 33, 3, 0, 0, 0, []), (9, .aload_n 0, 1, 0, 0, 0, []), (10, .getfield 69, 3, 0, 13, 0, [307]), (13, .aload_n 0, 1, 0, 0, 0, []), (14, .getfield 103, 3, 0, 15, 0, [311]), (17, .iload_n 1, 1, 0, 0, 0, []), (18, .iastore, 1, 0, 0, 0, []), (19, .aload_n 0, 1, 0, 0, 0, []), (20, .getfield 72, 3, 0, 14, 0, [309]), (23, .aload_n 0, 1, 0, 0, 0, []), (24, .getfield 103, 3, 0, 15, 0, [311]), (27, .iload_n 2, 1, 0, 0, 0, []), (28, .iastore, 1, 0, 0, 0, []), (29, .aload_n 0, 1, 0, 0, 0, []), (30, .dup, 1, 0, 0, 0, []), (31, .getfield 103, 3, 0, 15, 0, [311])],
  [(34, .iconst 1, 1, 0, 0, 0, []), (35, .iadd, 1, 0, 0, 0, []), (36, .putfield 103, 3, 0, 15, 0, [311]), (39, .aload_n 0, 1, 0, 0, 0, []), (40, .getfield 103, 3, 0, 15, 0, [311]), (43, .ireturn, 1, 0, 0, 0, [])]]
def mX0_addTold : xMeth := (yX0_addTold, cX0_addTold, 3, (some FieldType.int), kX0_addTold)
def kX0_hasBird : xC := [[(0, .iload_n 1, 1, 0, 0, 0, []), (1, .ifCond .lt 15, 3, 0, 0, 0, []), (4, .iload_n 1, 1, 0, 0, 0, []), (5, .aload_n 0, 1, 0, 0, 0, []), (6, .getfield 88, 3, 0, 5, 0, [291]), (9, .if_icmp .ge 7, 3, 0, 0, 0, []), (12, .iconst 1, 1, 0, 0, 0, []), (13, .goto 4, 3, 0, 0, 0, []), (16, .iconst 0, 1, 0, 0, 0, []), (17, .ireturn, 1, 0, 0, 0, [])]]
def mX0_hasBird : xMeth := (yX0_hasBird, cX0_hasBird, 2, (some FieldType.boolean), kX0_hasBird)
def kX0_hasText : xC := [[(0, .iload_n 1, 1, 0, 0, 0, []), (1, .ifCond .lt 15, 3, 0, 0, 0, []), (4, .iload_n 1, 1, 0, 0, 0, []), (5, .aload_n 0, 1, 0, 0, 0, []), (6, .getfield 91, 3, 0, 8, 0, [297]), (9, .if_icmp .ge 7, 3, 0, 0, 0, []), (12, .iconst 1, 1, 0, 0, 0, []), (13, .goto 4, 3, 0, 0, 0, []), (16, .iconst 0, 1, 0, 0, 0, []), (17, .ireturn, 1, 0, 0, 0, [])]]
def mX0_hasText : xMeth := (yX0_hasText, cX0_hasText, 2, (some FieldType.boolean), kX0_hasText)
def kX0_textAt : xC := [[(0, .aload_n 0, 1, 0, 0, 0, []), (1, .iload_n 1, 1, 0, 0, 0, []), (2, .invokevirtual 106, 3, 6, 2, 0, [940, 853, 114, 851, 852, 0]), (5, .ifCond .eq 12, 3, 0, 0, 0, []), (8, .aload_n 0, 1, 0, 0, 0, []), (9, .getfield 40, 3, 0, 7, 0, [296]), (12, .iload_n 1, 1, 0, 0, 0, []), (13, .aaload, 1, 0, 0, 0, []), (14, .goto 4, 3, 0, 0, 0, []), (17, .aconst_null, 1, 0, 0, 0, []), (18, .areturn, 1, 0, 0, 0, [])]]
def mX0_textAt : xMeth := (yX0_textAt, cX0_textAt, 2, (some (FieldType.object "MagpieAccounts$Text")), kX0_textAt)
def kX0_rulingText : xC := [[(0, .aload_n 0, 1, 0, 0, 0, []), (1, .aload_n 0, 1, 0, 0, 0, []), (2, .getfield 44, 3, 0, 9, 0, [299]), (5, .invokevirtual 110, 3, 7, 2, 0, [936, 939, 114, 937, 938, 0]), (8, .areturn, 1, 0, 0, 0, [])]]
def mX0_rulingText : xMeth := (yX0_rulingText, cX0_rulingText, 1, (some (FieldType.object "MagpieAccounts$Text")), kX0_rulingText)
def kX0_isDue : xC := [[(0, .aload_n 0, 1, 0, 0, 0, []), (1, .getfield 12, 3, 0, 0, 0, [278]), (4, .iload_n 1, 1, 0, 0, 0, []), (5, .invokevirtual 114, 3, 27, 2, 0, [866, 869, 115, 867, 868, 2]), (8, .ifCond .ne 33, 3, 0, 0, 0, []), (11, .aload_n 0, 1, 0, 0, 0, []), (12, .getfield 25, 3, 0, 2, 0, [283]), (15, .iload_n 1, 1, 0, 0, 0, []), (16, .iaload, 1, 0, 0, 0, []), (17, .ifCond .le 24, 3, 0, 0, 0, []), (20, .iload_n 2, 1, 0, 0, 0, []), (21, .aload_n 0, 1, 0, 0, 0, []), (22, .getfield 25, 3, 0, 2, 0, [283]), (25, .iload_n 1, 1, 0, 0, 0, []), (26, .iaload, 1, 0, 0, 0, []), (27, .irem, 1, 0, 0, 0, []), (28, .aload_n 0, 1, 0, 0, 0, []), (29, .getfield 29, 3, 0, 3, 0, [286])],
  [(32, .iload_n 1, 1, 0, 0, 0, []), (33, .iaload, 1, 0, 0, 0, []), (34, .if_icmp .ne 7, 3, 0, 0, 0, []), (37, .iconst 1, 1, 0, 0, 0, []), (38, .goto 4, 3, 0, 0, 0, []), (41, .iconst 0, 1, 0, 0, 0, []), (42, .ireturn, 1, 0, 0, 0, [])]]
def mX0_isDue : xMeth := (yX0_isDue, cX0_isDue, 3, (some FieldType.boolean), kX0_isDue)
def kX0_dueOn : xC := [[(0, .iconst 0, 1, 0, 0, 0, []), (1, .istore_n 2, 1, 0, 0, 0, []), (2, .iconst 0, 1, 0, 0, 0, []), (3, .istore_n 3, 1, 0, 0, 0, []), (4, .iload_n 3, 1, 0, 0, 0, []), (5, .aload_n 0, 1, 0, 0, 0, []), (6, .getfield 88, 3, 0, 5, 0, [291]), (9, .if_icmp .ge 24, 3, 0, 0, 0, []), (12, .aload_n 0, 1, 0, 0, 0, []), (13, .iload_n 3, 1, 0, 0, 0, []), (14, .iload_n 1, 1, 0, 0, 0, []), (15, .invokevirtual 117, 3, 9, 3, 0, [1078, 922, 114, 920, 921, 0]), (18, .ifCond .eq 9, 3, 0, 0, 0, []), (21, .iload_n 2, 1, 0, 0, 0, []), (22, .iconst 1, 1, 0, 0, 0, []), (23, .iload_n 3, 1, 0, 0, 0, []), (24, .ishl, 1, 0, 0, 0, []), (25, .ior, 1, 0, 0, 0, []), (26, .istore_n 2, 1, 0, 0, 0, []), (27, .iinc 3 1, 3, 0, 0, 0, []), (30, .goto (-26), 3, 0, 0, 0, [])],
  [(33, .iload_n 2, 1, 0, 0, 0, []), (34, .ireturn, 1, 0, 0, 0, [])]]
def mX0_dueOn : xMeth := (yX0_dueOn, cX0_dueOn, 4, (some FieldType.int), kX0_dueOn)
def kX0_canThin : xC := [[(0, .aload_n 0, 1, 0, 0, 0, []), (1, .iload_n 1, 1, 0, 0, 0, []), (2, .invokevirtual 121, 3, 5, 2, 0, [862, 865, 114, 863, 864, 0]), (5, .ifCond .eq 18, 3, 0, 0, 0, []), (8, .aload_n 0, 1, 0, 0, 0, []), (9, .getfield 12, 3, 0, 0, 0, [278]), (12, .iload_n 1, 1, 0, 0, 0, []), (13, .invokevirtual 114, 3, 27, 2, 0, [866, 869, 115, 867, 868, 2]), (16, .ifCond .ne 7, 3, 0, 0, 0, []), (19, .iconst 1, 1, 0, 0, 0, []), (20, .goto 4, 3, 0, 0, 0, []), (23, .iconst 0, 1, 0, 0, 0, []), (24, .ireturn, 1, 0, 0, 0, [])]]
def mX0_canThin : xMeth := (yX0_canThin, cX0_canThin, 2, (some FieldType.boolean), kX0_canThin)
def kX0_canCall : xC := [[(0, .aload_n 0, 1, 0, 0, 0, []), (1, .iload_n 1, 1, 0, 0, 0, []), (2, .invokevirtual 121, 3, 5, 2, 0, [862, 865, 114, 863, 864, 0]), (5, .ifCond .eq 18, 3, 0, 0, 0, []), (8, .aload_n 0, 1, 0, 0, 0, []), (9, .getfield 12, 3, 0, 0, 0, [278]), (12, .iload_n 1, 1, 0, 0, 0, []), (13, .invokevirtual 114, 3, 27, 2, 0, [866, 869, 115, 867, 868, 2]), (16, .ifCond .eq 7, 3, 0, 0, 0, []), (19, .iconst 1, 1, 0, 0, 0, []), (20, .goto 4, 3, 0, 0, 0, []), (23, .iconst 0, 1, 0, 0, 0, []), (24, .ireturn, 1, 0, 0, 0, [])]]
def mX0_canCall : xMeth := (yX0_canCall, cX0_canCall, 2, (some FieldType.boolean), kX0_canCall)
def kX0_canGrant : xC := [[(0, .aload_n 0, 1, 0, 0, 0, []), (1, .getfield 12, 3, 0, 0, 0, [278]), (4, .getfield 124, 3, 2, 1, 0, [165]), (7, .iload_n 1, 1, 0, 0, 0, []), (8, .iadd, 1, 0, 0, 0, []), (9, .sipush (-9999), 3, 0, 0, 0, []), (12, .sipush 9999, 3, 0, 0, 0, []), (15, .invokestatic 127, 3, 189, 3, 1, [906, 521, 112, 520]), (18, .ireturn, 1, 0, 0, 0, [])]]
def mX0_canGrant : xMeth := (yX0_canGrant, cX0_canGrant, 2, (some FieldType.boolean), kX0_canGrant)
def kX0_canPass : xC := [[(0, .aload_n 0, 1, 0, 0, 0, []), (1, .getfield 12, 3, 0, 0, 0, [278]), (4, .getfield 131, 3, 2, 4, 0, [174]), (7, .sipush 9999, 3, 0, 0, 0, []), (10, .if_icmp .ge 7, 3, 0, 0, 0, []), (13, .iconst 1, 1, 0, 0, 0, []), (14, .goto 4, 3, 0, 0, 0, []), (17, .iconst 0, 1, 0, 0, 0, []), (18, .ireturn, 1, 0, 0, 0, [])]]
def mX0_canPass : xMeth := (yX0_canPass, cX0_canPass, 1, (some FieldType.boolean), kX0_canPass)
def kX1_init : xC := [[(0, .aload_n 0, 1, 0, 0, 0, []), (1, .invokespecial 3, 3, 0, 0, 8, [147, 140, 141]), (4, .aload_n 0, 1, 0, 0, 0, []), (5, .new 9, 3, 0, 16, 0, [148, 149, 114]), (8, .dup, 1, 0, 0, 0, []), (9, .invokespecial 11, 3, 0, 1, 1, [150, 152, 114, 151]), (12, .putfield 12, 3, 1, 0, 2, [346]), (15, .aload_n 0, 1, 0, 0, 0, []), (16, .sipush 301, 3, 0, 0, 0, []), (19, .newarray .int, 2, 0, 0, 0, [202]), (21, .putfield 18, 3, 1, 1, 2, [348]), (24, .return_, 1, 0, 0, 0, [])]]
def mX1_init : xMeth := (yX1_init, cX1_init, 1, none, kX1_init)
def kX1_chanceOf : xC := [[(0, .aload_n 0, 1, 0, 0, 0, []), (1, .getfield 12, 3, 1, 0, 0, [346]), (4, .iload_n 1, 1, 0, 0, 0, []), (5, .invokevirtual 22, 3, 5, 2, 0, [931, 865, 114, 863, 864, 0]), (8, .ifCond .ne 5, 3, 0, 0, 0, []), (11, .iconst 0, 1, 0, 0, 0, []), (12, .ireturn, 1, 0, 0, 0, []), (13, .aload_n 0, 1, 0, 0, 0, []), (14, .getfield 12, 3, 1, 0, 0, [346]), (17, .invokevirtual 26, 3, 8, 1, 0, [932, 935, 114, 933, 934, 0]), (20, .astore_n 2, 1, 0, 0, 0, []), (21, .aload_n 2, 1, 0, 0, 0, []), (22, .ifnull 11, 3, 0, 0, 0, []), (25, .aload_n 2, 1, 0, 0, 0, []), (26, .getfield 30, 3, 10, 2, 0, [805]), (29, .iconst (-1), 1, 0, 0, 0, []), (30, .if_icmp .ne 13, 3, 0, 0, 0, [])],
  [(33, .aload_n 0, 1, 0, 0, 0, []), (34, .getfield 12, 3, 1, 0, 0, [346]), (37, .getfield 36, 3, 0, 4, 0, [289]), (40, .iload_n 1, 1, 0, 0, 0, []), (41, .iaload, 1, 0, 0, 0, []), (42, .ireturn, 1, 0, 0, 0, []), (43, .aload_n 0, 1, 0, 0, 0, []), (44, .iload_n 1, 1, 0, 0, 0, []), (45, .putfield 39, 3, 1, 2, 0, [349]), (48, .aload_n 0, 1, 0, 0, 0, []), (49, .aload_n 2, 1, 0, 0, 0, []), (50, .aload_n 2, 1, 0, 0, 0, []), (51, .getfield 30, 3, 10, 2, 0, [805]), (54, .aload_n 2, 1, 0, 0, 0, []), (55, .getfield 42, 3, 10, 3, 0, [807]), (58, .invokevirtual 45, 3, 18, 4, 0, [941, 944, 113, 943, 27, 1]), (61, .iconst 0, 1, 0, 0, 0, []), (62, .bipush 10, 2, 0, 0, 0, [])],
  [(64, .invokestatic 49, 3, 190, 3, 1, [964, 966, 112, 965]), (67, .ireturn, 1, 0, 0, 0, [])]]
def mX1_chanceOf : xMeth := (yX1_chanceOf, cX1_chanceOf, 3, (some FieldType.int), kX1_chanceOf)
def kX1_broughtBy : xC := [[(0, .iload_n 2, 1, 0, 0, 0, []), (1, .invokestatic 53, 3, 191, 1, 1, [955, 532, 112, 531]), (4, .ifCond .ne 5, 3, 0, 0, 0, []), (7, .iconst 0, 1, 0, 0, 0, []), (8, .ireturn, 1, 0, 0, 0, []), (9, .aload_n 1, 1, 0, 0, 0, []), (10, .ifnull 11, 3, 0, 0, 0, []), (13, .aload_n 1, 1, 0, 0, 0, []), (14, .getfield 56, 3, 10, 4, 0, [809]), (17, .iconst (-1), 1, 0, 0, 0, []), (18, .if_icmp .ne 15, 3, 0, 0, 0, []), (21, .aload_n 0, 1, 0, 0, 0, []), (22, .getfield 12, 3, 1, 0, 0, [346]), (25, .getfield 59, 3, 0, 6, 0, [295]), (28, .iload_n 2, 1, 0, 0, 0, []), (29, .iaload, 1, 0, 0, 0, []), (30, .iconst 2, 1, 0, 0, 0, []), (31, .isub, 1, 0, 0, 0, [])],
  [(32, .ireturn, 1, 0, 0, 0, []), (33, .aload_n 0, 1, 0, 0, 0, []), (34, .iload_n 2, 1, 0, 0, 0, []), (35, .putfield 62, 3, 1, 3, 0, [350]), (38, .aload_n 0, 1, 0, 0, 0, []), (39, .aload_n 1, 1, 0, 0, 0, []), (40, .aload_n 1, 1, 0, 0, 0, []), (41, .getfield 56, 3, 10, 4, 0, [809]), (44, .aload_n 1, 1, 0, 0, 0, []), (45, .getfield 65, 3, 10, 5, 0, [811]), (48, .invokevirtual 45, 3, 18, 4, 0, [941, 944, 113, 943, 27, 1]), (51, .bipush (-99), 2, 0, 0, 0, []), (53, .bipush 99, 2, 0, 0, 0, []), (55, .invokestatic 49, 3, 190, 3, 1, [964, 966, 112, 965]), (58, .ireturn, 1, 0, 0, 0, [])]]
def mX1_broughtBy : xMeth := (yX1_broughtBy, cX1_broughtBy, 3, (some FieldType.int), kX1_broughtBy)
def kX1_run : xC := [[(0, .iload_n 3, 1, 0, 0, 0, []), (1, .aload_n 1, 1, 0, 0, 0, []), (2, .getfield 68, 3, 10, 0, 0, [801]), (5, .arraylength, 1, 0, 0, 0, []), (6, .aload_n 1, 1, 0, 0, 0, []), (7, .getfield 71, 3, 10, 1, 0, [803]), (10, .arraylength, 1, 0, 0, 0, []), (11, .invokestatic 74, 3, 0, 0, 11, [945, 626, 128, 627]), (14, .invokestatic 74, 3, 0, 0, 11, [945, 626, 128, 627]), (17, .istore 4, 2, 0, 0, 0, []), (19, .iconst (-1), 1, 0, 0, 0, []), (20, .istore 5, 2, 0, 0, 0, []), (22, .iconst 0, 1, 0, 0, 0, []), (23, .iload_n 2, 1, 0, 0, 0, []), (24, .invokestatic 80, 3, 0, 0, 10, [946, 656, 128, 657]), (27, .istore 6, 2, 0, 0, 0, []), (29, .iload 6, 2, 0, 0, 0, []), (31, .iload 4, 2, 0, 0, 0, [])],
  [(33, .if_icmp .ge 210, 3, 0, 0, 0, []), (36, .aload_n 1, 1, 0, 0, 0, []), (37, .getfield 68, 3, 10, 0, 0, [801]), (40, .iload 6, 2, 0, 0, 0, []), (42, .iaload, 1, 0, 0, 0, []), (43, .istore 7, 2, 0, 0, 0, []), (45, .aload_n 1, 1, 0, 0, 0, []), (46, .getfield 71, 3, 10, 1, 0, [803]), (49, .iload 6, 2, 0, 0, 0, []), (51, .iaload, 1, 0, 0, 0, []), (52, .istore 8, 2, 0, 0, 0, []), (54, .iinc 6 1, 3, 0, 0, 0, []), (57, .iload 7, 2, 0, 0, 0, []), (59, .bipush 16, 2, 0, 0, 0, []), (61, .if_icmp .ne 15, 3, 0, 0, 0, [])],
  [(64, .iload 6, 2, 0, 0, 0, []), (66, .iload 8, 2, 0, 0, 0, []), (68, .invokestatic 80, 3, 0, 0, 10, [946, 656, 128, 657]), (71, .istore 6, 2, 0, 0, 0, []), (73, .goto 167, 3, 0, 0, 0, []), (76, .iload 7, 2, 0, 0, 0, []), (78, .bipush 15, 2, 0, 0, 0, []), (80, .if_icmp .ne 38, 3, 0, 0, 0, []), (83, .iload 5, 2, 0, 0, 0, []), (85, .ifCond .lt 33, 3, 0, 0, 0, []), (88, .aload_n 0, 1, 0, 0, 0, []), (89, .getfield 18, 3, 1, 1, 0, [348]), (92, .iload 5, 2, 0, 0, 0, []), (94, .iaload, 1, 0, 0, 0, []), (95, .ifCond .ne 13, 3, 0, 0, 0, [])],
  [(98, .iload 6, 2, 0, 0, 0, []), (100, .iload 8, 2, 0, 0, 0, []), (102, .invokestatic 80, 3, 0, 0, 10, [946, 656, 128, 657]), (105, .goto 5, 3, 0, 0, 0, []), (108, .iload 6, 2, 0, 0, 0, []), (110, .istore 6, 2, 0, 0, 0, []), (112, .iinc 5 (-1), 3, 0, 0, 0, []), (115, .goto 125, 3, 0, 0, 0, []), (118, .iload 7, 2, 0, 0, 0, []), (120, .invokestatic 83, 3, 19, 1, 0, [947, 949, 113, 948]), (123, .ifCond .eq 31, 3, 0, 0, 0, []), (126, .iload 5, 2, 0, 0, 0, [])],
  [(128, .ifCond .lt 26, 3, 0, 0, 0, []), (131, .aload_n 0, 1, 0, 0, 0, []), (132, .getfield 18, 3, 1, 1, 0, [348]), (135, .iload 5, 2, 0, 0, 0, []), (137, .aload_n 0, 1, 0, 0, 0, []), (138, .iload 7, 2, 0, 0, 0, []), (140, .aload_n 0, 1, 0, 0, 0, []), (141, .getfield 18, 3, 1, 1, 0, [348]), (144, .iload 5, 2, 0, 0, 0, []), (146, .iaload, 1, 0, 0, 0, []), (147, .invokevirtual 86, 3, 22, 3, 0, [951, 954, 113, 953, 28, 1]), (150, .iastore, 1, 0, 0, 0, []), (151, .goto 89, 3, 0, 0, 0, []), (154, .iload 7, 2, 0, 0, 0, []), (156, .invokestatic 89, 3, 20, 1, 0, [956, 958, 113, 957]), (159, .ifCond .eq 45, 3, 0, 0, 0, [])],
  [(162, .iload 5, 2, 0, 0, 0, []), (164, .iconst 1, 1, 0, 0, 0, []), (165, .if_icmp .lt 39, 3, 0, 0, 0, []), (168, .aload_n 0, 1, 0, 0, 0, []), (169, .getfield 18, 3, 1, 1, 0, [348]), (172, .iload 5, 2, 0, 0, 0, []), (174, .iconst 1, 1, 0, 0, 0, []), (175, .isub, 1, 0, 0, 0, []), (176, .iload 7, 2, 0, 0, 0, []), (178, .aload_n 0, 1, 0, 0, 0, []), (179, .getfield 18, 3, 1, 1, 0, [348]), (182, .iload 5, 2, 0, 0, 0, []), (184, .iconst 1, 1, 0, 0, 0, []), (185, .isub, 1, 0, 0, 0, []), (186, .iaload, 1, 0, 0, 0, []), (187, .aload_n 0, 1, 0, 0, 0, []), (188, .getfield 18, 3, 1, 1, 0, [348]), (191, .iload 5, 2, 0, 0, 0, [])],
  [(193, .iaload, 1, 0, 0, 0, []), (194, .invokestatic 92, 3, 23, 3, 0, [959, 961, 113, 960]), (197, .iastore, 1, 0, 0, 0, []), (198, .iinc 5 (-1), 3, 0, 0, 0, []), (201, .goto 39, 3, 0, 0, 0, []), (204, .iload 5, 2, 0, 0, 0, []), (206, .sipush 300, 3, 0, 0, 0, []), (209, .if_icmp .ge 31, 3, 0, 0, 0, []), (212, .iinc 5 1, 3, 0, 0, 0, []), (215, .aload_n 0, 1, 0, 0, 0, []), (216, .getfield 18, 3, 1, 1, 0, [348]), (219, .iload 5, 2, 0, 0, 0, []), (221, .iload 7, 2, 0, 0, 0, []), (223, .bipush 38, 2, 0, 0, 0, [])],
  [(225, .if_icmp .ne 8, 3, 0, 0, 0, []), (228, .iload 8, 2, 0, 0, 0, []), (230, .goto 9, 3, 0, 0, 0, []), (233, .aload_n 0, 1, 0, 0, 0, []), (234, .iload 7, 2, 0, 0, 0, []), (236, .invokevirtual 95, 3, 21, 2, 0, [978, 981, 113, 980, 29, 1]), (239, .iastore, 1, 0, 0, 0, []), (240, .goto (-211), 3, 0, 0, 0, []), (243, .iload 5, 2, 0, 0, 0, []), (245, .ifCond .lt 13, 3, 0, 0, 0, []), (248, .aload_n 0, 1, 0, 0, 0, []), (249, .getfield 18, 3, 1, 1, 0, [348]), (252, .iload 5, 2, 0, 0, 0, []), (254, .iaload, 1, 0, 0, 0, []), (255, .goto 4, 3, 0, 0, 0, [])],
  [(258, .iconst 0, 1, 0, 0, 0, []), (259, .ireturn, 1, 0, 0, 0, [])]]
def mX1_run : xMeth := (yX1_run, cX1_run, 9, (some FieldType.int), kX1_run)
def kX1_isOfOne : xC := [[(0, .iload_n 0, 1, 0, 0, 0, []), (1, .bipush 9, 2, 0, 0, 0, []), (3, .bipush 11, 2, 0, 0, 0, []), (5, .invokestatic 99, 3, 189, 3, 1, [950, 521, 112, 520]), (8, .ifCond .ne 9, 3, 0, 0, 0, []), (11, .iload_n 0, 1, 0, 0, 0, []), (12, .bipush 41, 2, 0, 0, 0, []), (14, .if_icmp .ne 7, 3, 0, 0, 0, []), (17, .iconst 1, 1, 0, 0, 0, []), (18, .goto 4, 3, 0, 0, 0, []), (21, .iconst 0, 1, 0, 0, 0, []), (22, .ireturn, 1, 0, 0, 0, [])]]
def mX1_isOfOne : xMeth := (yX1_isOfOne, cX1_isOfOne, 1, (some FieldType.boolean), kX1_isOfOne)
def kX1_isOfTwo : xC := [[(0, .iload_n 0, 1, 0, 0, 0, []), (1, .bipush 25, 2, 0, 0, 0, []), (3, .bipush 37, 2, 0, 0, 0, []), (5, .invokestatic 99, 3, 189, 3, 1, [950, 521, 112, 520]), (8, .ifCond .ne 15, 3, 0, 0, 0, []), (11, .iload_n 0, 1, 0, 0, 0, []), (12, .bipush 12, 2, 0, 0, 0, []), (14, .if_icmp .eq 9, 3, 0, 0, 0, []), (17, .iload_n 0, 1, 0, 0, 0, []), (18, .bipush 13, 2, 0, 0, 0, []), (20, .if_icmp .ne 7, 3, 0, 0, 0, []), (23, .iconst 1, 1, 0, 0, 0, []), (24, .goto 4, 3, 0, 0, 0, []), (27, .iconst 0, 1, 0, 0, 0, []), (28, .ireturn, 1, 0, 0, 0, [])]]
def mX1_isOfTwo : xMeth := (yX1_isOfTwo, cX1_isOfTwo, 1, (some FieldType.boolean), kX1_isOfTwo)
def kX1_named : xC := [[(0, .iload_n 1, 1, 0, 0, 0, []), (1, .tableswitch 147 0 8 #[51, 62, 73, 84, 98, 103, 116, 129, 134], 51, 0, 0, 0, [])],
  [(52, .aload_n 0, 1, 0, 0, 0, []), (53, .getfield 12, 3, 1, 0, 0, [346]), (56, .getfield 103, 3, 0, 0, 0, [279]), (59, .getfield 107, 3, 2, 4, 0, [172]), (62, .ireturn, 1, 0, 0, 0, []), (63, .aload_n 0, 1, 0, 0, 0, [])],
  [(64, .getfield 12, 3, 1, 0, 0, [346]), (67, .getfield 103, 3, 0, 0, 0, [279]), (70, .getfield 112, 3, 2, 1, 0, [163]), (73, .ireturn, 1, 0, 0, 0, []), (74, .aload_n 0, 1, 0, 0, 0, []), (75, .getfield 12, 3, 1, 0, 0, [346]), (78, .getfield 103, 3, 0, 0, 0, [279]), (81, .getfield 115, 3, 2, 2, 0, [167]), (84, .ireturn, 1, 0, 0, 0, []), (85, .aload_n 0, 1, 0, 0, 0, []), (86, .getfield 12, 3, 1, 0, 0, [346]), (89, .getfield 103, 3, 0, 0, 0, [279]), (92, .getfield 116, 3, 2, 0, 0, [161]), (95, .invokestatic 119, 3, 350, 1, 0, [982, 984, 133, 983])],
  [(98, .ireturn, 1, 0, 0, 0, []), (99, .aload_n 0, 1, 0, 0, 0, []), (100, .getfield 39, 3, 1, 2, 0, [349]), (103, .ireturn, 1, 0, 0, 0, []), (104, .aload_n 0, 1, 0, 0, 0, []), (105, .getfield 12, 3, 1, 0, 0, [346]), (108, .getfield 36, 3, 0, 4, 0, [289]), (111, .aload_n 0, 1, 0, 0, 0, []), (112, .getfield 39, 3, 1, 2, 0, [349]), (115, .iaload, 1, 0, 0, 0, []), (116, .ireturn, 1, 0, 0, 0, []), (117, .aload_n 0, 1, 0, 0, 0, []), (118, .getfield 12, 3, 1, 0, 0, [346]), (121, .getfield 124, 3, 0, 2, 0, [284]), (124, .aload_n 0, 1, 0, 0, 0, []), (125, .getfield 39, 3, 1, 2, 0, [349])],
  [(128, .iaload, 1, 0, 0, 0, []), (129, .ireturn, 1, 0, 0, 0, []), (130, .aload_n 0, 1, 0, 0, 0, []), (131, .getfield 62, 3, 1, 3, 0, [350]), (134, .ireturn, 1, 0, 0, 0, []), (135, .aload_n 0, 1, 0, 0, 0, []), (136, .getfield 12, 3, 1, 0, 0, [346]), (139, .getfield 59, 3, 0, 6, 0, [295]), (142, .aload_n 0, 1, 0, 0, 0, []), (143, .getfield 62, 3, 1, 3, 0, [350]), (146, .iaload, 1, 0, 0, 0, []), (147, .ireturn, 1, 0, 0, 0, []), (148, .iconst 0, 1, 0, 0, 0, []), (149, .ireturn, 1, 0, 0, 0, [])]]
def mX1_named : xMeth := (yX1_named, cX1_named, 2, (some FieldType.int), kX1_named)
def kX1_ofOne : xC := [[(0, .iload_n 1, 1, 0, 0, 0, []), (1, .tableswitch 80 9 11 #[27, 48, 76], 27, 0, 0, 0, []), (28, .iload_n 2, 1, 0, 0, 0, []), (29, .invokestatic 53, 3, 191, 1, 1, [955, 532, 112, 531])],
  [(32, .ifCond .eq 15, 3, 0, 0, 0, []), (35, .aload_n 0, 1, 0, 0, 0, []), (36, .getfield 12, 3, 1, 0, 0, [346]), (39, .getfield 59, 3, 0, 6, 0, [295]), (42, .iload_n 2, 1, 0, 0, 0, []), (43, .iaload, 1, 0, 0, 0, []), (44, .goto 4, 3, 0, 0, 0, []), (47, .iconst 0, 1, 0, 0, 0, []), (48, .ireturn, 1, 0, 0, 0, []), (49, .aload_n 0, 1, 0, 0, 0, []), (50, .getfield 12, 3, 1, 0, 0, [346]), (53, .iload_n 2, 1, 0, 0, 0, []), (54, .invokevirtual 22, 3, 5, 2, 0, [931, 865, 114, 863, 864, 0]), (57, .ifCond .eq 18, 3, 0, 0, 0, []), (60, .aload_n 0, 1, 0, 0, 0, []), (61, .getfield 12, 3, 1, 0, 0, [346])],
  [(64, .getfield 103, 3, 0, 0, 0, [279]), (67, .getfield 127, 3, 2, 6, 0, [178]), (70, .iload_n 2, 1, 0, 0, 0, []), (71, .iaload, 1, 0, 0, 0, []), (72, .goto 4, 3, 0, 0, 0, []), (75, .iconst 0, 1, 0, 0, 0, []), (76, .ireturn, 1, 0, 0, 0, []), (77, .iconst 1, 1, 0, 0, 0, []), (78, .iload_n 2, 1, 0, 0, 0, []), (79, .isub, 1, 0, 0, 0, []), (80, .ireturn, 1, 0, 0, 0, []), (81, .iload_n 2, 1, 0, 0, 0, []), (82, .ineg, 1, 0, 0, 0, []), (83, .ireturn, 1, 0, 0, 0, [])]]
def mX1_ofOne : xMeth := (yX1_ofOne, cX1_ofOne, 3, (some FieldType.int), kX1_ofOne)
def kX1_ofTwo : xC := [[(0, .iload_n 0, 1, 0, 0, 0, []), (1, .lookupswitch 120 #[(12, 112), (13, 116), (29, 59), (30, 70), (31, 81), (32, 100)], 59, 0, 0, 0, [])],
  [(60, .iload_n 1, 1, 0, 0, 0, []), (61, .iload_n 2, 1, 0, 0, 0, []), (62, .iadd, 1, 0, 0, 0, []), (63, .ldc 130, 2, 0, 0, (-1000000), [962])],
  [(65, .ldc 131, 2, 0, 0, 1000000, [963]), (67, .invokestatic 49, 3, 190, 3, 1, [964, 966, 112, 965]), (70, .ireturn, 1, 0, 0, 0, []), (71, .iload_n 1, 1, 0, 0, 0, []), (72, .iload_n 2, 1, 0, 0, 0, []), (73, .isub, 1, 0, 0, 0, []), (74, .ldc 130, 2, 0, 0, (-1000000), [962]), (76, .ldc 131, 2, 0, 0, 1000000, [963]), (78, .invokestatic 49, 3, 190, 3, 1, [964, 966, 112, 965]), (81, .ireturn, 1, 0, 0, 0, []), (82, .ldc2_w 132, 3, 0, 0, (-1000000), [967]), (85, .ldc2_w 134, 3, 0, 0, 1000000, [968]), (88, .iload_n 1, 1, 0, 0, 0, []), (89, .i2l, 1, 0, 0, 0, []), (90, .iload_n 2, 1, 0, 0, 0, []), (91, .i2l, 1, 0, 0, 0, []), (92, .lmul, 1, 0, 0, 0, []), (93, .invokestatic 136, 3, 0, 0, 13, [969, 970, 128, 971])],
  [(96, .invokestatic 139, 3, 0, 0, 12, [972, 973, 128, 974]), (99, .l2i, 1, 0, 0, 0, []), (100, .ireturn, 1, 0, 0, 0, []), (101, .iload_n 2, 1, 0, 0, 0, []), (102, .ifCond .ne 7, 3, 0, 0, 0, []), (105, .iconst 0, 1, 0, 0, 0, []), (106, .goto 6, 3, 0, 0, 0, []), (109, .iload_n 1, 1, 0, 0, 0, []), (110, .iload_n 2, 1, 0, 0, 0, []), (111, .idiv, 1, 0, 0, 0, []), (112, .ireturn, 1, 0, 0, 0, []), (113, .iload_n 1, 1, 0, 0, 0, []), (114, .iload_n 2, 1, 0, 0, 0, []), (115, .iand, 1, 0, 0, 0, []), (116, .ireturn, 1, 0, 0, 0, []), (117, .iload_n 1, 1, 0, 0, 0, []), (118, .iload_n 2, 1, 0, 0, 0, []), (119, .ior, 1, 0, 0, 0, []), (120, .ireturn, 1, 0, 0, 0, []), (121, .iload_n 0, 1, 0, 0, 0, []), (122, .iload_n 1, 1, 0, 0, 0, []), (123, .iload_n 2, 1, 0, 0, 0, []), (124, .invokestatic 141, 3, 24, 3, 0, [975, 977, 113, 976]), (127, .ifCond .eq 7, 3, 0, 0, 0, [])],
  [(130, .iconst 1, 1, 0, 0, 0, []), (131, .goto 4, 3, 0, 0, 0, []), (134, .iconst 0, 1, 0, 0, 0, []), (135, .ireturn, 1, 0, 0, 0, [])]]
def mX1_ofTwo : xMeth := (yX1_ofTwo, cX1_ofTwo, 3, (some FieldType.int), kX1_ofTwo)
def kX1_isSo : xC := [[(0, .iload_n 0, 1, 0, 0, 0, []), (1, .tableswitch 118 25 36 #[63, 74, 85, 96, 118, 118, 118, 118, 118, 118, 118, 107], 63, 0, 0, 0, [])],
  [],
  [(64, .iload_n 1, 1, 0, 0, 0, []), (65, .iload_n 2, 1, 0, 0, 0, []), (66, .if_icmp .ge 7, 3, 0, 0, 0, []), (69, .iconst 1, 1, 0, 0, 0, []), (70, .goto 4, 3, 0, 0, 0, []), (73, .iconst 0, 1, 0, 0, 0, []), (74, .ireturn, 1, 0, 0, 0, []), (75, .iload_n 1, 1, 0, 0, 0, []), (76, .iload_n 2, 1, 0, 0, 0, []), (77, .if_icmp .le 7, 3, 0, 0, 0, []), (80, .iconst 1, 1, 0, 0, 0, []), (81, .goto 4, 3, 0, 0, 0, []), (84, .iconst 0, 1, 0, 0, 0, []), (85, .ireturn, 1, 0, 0, 0, []), (86, .iload_n 1, 1, 0, 0, 0, []), (87, .iload_n 2, 1, 0, 0, 0, []), (88, .if_icmp .ne 7, 3, 0, 0, 0, []), (91, .iconst 1, 1, 0, 0, 0, []), (92, .goto 4, 3, 0, 0, 0, []), (95, .iconst 0, 1, 0, 0, 0, [])],
  [(96, .ireturn, 1, 0, 0, 0, []), (97, .iload_n 1, 1, 0, 0, 0, []), (98, .iload_n 2, 1, 0, 0, 0, []), (99, .if_icmp .eq 7, 3, 0, 0, 0, []), (102, .iconst 1, 1, 0, 0, 0, []), (103, .goto 4, 3, 0, 0, 0, []), (106, .iconst 0, 1, 0, 0, 0, []), (107, .ireturn, 1, 0, 0, 0, []), (108, .iload_n 1, 1, 0, 0, 0, []), (109, .iload_n 2, 1, 0, 0, 0, []), (110, .if_icmp .gt 7, 3, 0, 0, 0, []), (113, .iconst 1, 1, 0, 0, 0, []), (114, .goto 4, 3, 0, 0, 0, []), (117, .iconst 0, 1, 0, 0, 0, []), (118, .ireturn, 1, 0, 0, 0, []), (119, .iload_n 1, 1, 0, 0, 0, []), (120, .iload_n 2, 1, 0, 0, 0, []), (121, .if_icmp .lt 7, 3, 0, 0, 0, []), (124, .iconst 1, 1, 0, 0, 0, []), (125, .goto 4, 3, 0, 0, 0, [])],
  [(128, .iconst 0, 1, 0, 0, 0, []), (129, .ireturn, 1, 0, 0, 0, [])]]
def mX1_isSo : xMeth := (yX1_isSo, cX1_isSo, 3, (some FieldType.boolean), kX1_isSo)
def kX2_init : xC := [[(0, .aload_n 0, 1, 0, 0, 0, []), (1, .invokespecial 3, 3, 0, 0, 8, [159, 140, 141]), (4, .aload_n 0, 1, 0, 0, 0, []), (5, .sipush 419, 3, 0, 0, 0, []), (8, .putfield 9, 3, 2, 5, 0, [175]), (11, .aload_n 0, 1, 0, 0, 0, []), (12, .bipush 8, 2, 0, 0, 0, []), (14, .newarray .int, 2, 0, 0, 0, [202]), (16, .putfield 15, 3, 2, 6, 2, [177]), (19, .aload_n 0, 1, 0, 0, 0, []), (20, .bipush 25, 2, 0, 0, 0, []), (22, .newarray .int, 2, 0, 0, 0, [202]), (24, .putfield 19, 3, 2, 7, 2, [180]), (27, .return_, 1, 0, 0, 0, [])]]
def mX2_init : xMeth := (yX2_init, cX2_init, 1, none, kX2_init)
def kX2_copy : xC := [[(0, .aload_n 0, 1, 0, 0, 0, []), (1, .aload_n 1, 1, 0, 0, 0, []), (2, .getfield 22, 3, 2, 0, 0, [160]), (5, .putfield 22, 3, 2, 0, 0, [160]), (8, .aload_n 0, 1, 0, 0, 0, []), (9, .aload_n 1, 1, 0, 0, 0, []), (10, .getfield 25, 3, 2, 1, 0, [162]), (13, .putfield 25, 3, 2, 1, 0, [162]), (16, .aload_n 0, 1, 0, 0, 0, []), (17, .aload_n 1, 1, 0, 0, 0, []), (18, .getfield 28, 3, 2, 2, 0, [166]), (21, .putfield 28, 3, 2, 2, 0, [166]), (24, .aload_n 0, 1, 0, 0, 0, []), (25, .aload_n 1, 1, 0, 0, 0, []), (26, .getfield 31, 3, 2, 3, 0, [169]), (29, .putfield 31, 3, 2, 3, 0, [169])],
  [(32, .aload_n 0, 1, 0, 0, 0, []), (33, .aload_n 1, 1, 0, 0, 0, []), (34, .getfield 34, 3, 2, 4, 0, [171]), (37, .putfield 34, 3, 2, 4, 0, [171]), (40, .aload_n 0, 1, 0, 0, 0, []), (41, .aload_n 1, 1, 0, 0, 0, []), (42, .getfield 9, 3, 2, 5, 0, [175]), (45, .putfield 9, 3, 2, 5, 0, [175]), (48, .aload_n 1, 1, 0, 0, 0, []), (49, .getfield 15, 3, 2, 6, 0, [177]), (52, .iconst 0, 1, 0, 0, 0, []), (53, .aload_n 0, 1, 0, 0, 0, []), (54, .getfield 15, 3, 2, 6, 0, [177]), (57, .iconst 0, 1, 0, 0, 0, []), (58, .bipush 8, 2, 0, 0, 0, []), (60, .invokestatic 37, 3, 0, 0, 9, [881, 799, 798, 132]), (63, .aload_n 1, 1, 0, 0, 0, [])],
  [(64, .getfield 19, 3, 2, 7, 0, [180]), (67, .iconst 0, 1, 0, 0, 0, []), (68, .aload_n 0, 1, 0, 0, 0, []), (69, .getfield 19, 3, 2, 7, 0, [180]), (72, .iconst 0, 1, 0, 0, 0, []), (73, .bipush 25, 2, 0, 0, 0, []), (75, .invokestatic 37, 3, 0, 0, 9, [881, 799, 798, 132]), (78, .aload_n 0, 1, 0, 0, 0, []), (79, .aload_n 1, 1, 0, 0, 0, []), (80, .getfield 43, 3, 2, 8, 0, [181]), (83, .putfield 43, 3, 2, 8, 0, [181]), (86, .return_, 1, 0, 0, 0, [])]]
def mX2_copy : xMeth := (yX2_copy, cX2_copy, 2, none, kX2_copy)
def kX2_isGone : xC := [[(0, .aload_n 0, 1, 0, 0, 0, []), (1, .getfield 22, 3, 2, 0, 0, [160]), (4, .iload_n 1, 1, 0, 0, 0, []), (5, .invokestatic 46, 3, 194, 2, 1, [870, 872, 112, 871]), (8, .ireturn, 1, 0, 0, 0, [])]]
def mX2_isGone : xMeth := (yX2_isGone, cX2_isGone, 2, (some FieldType.boolean), kX2_isGone)
def kX2_markGone : xC := [[(0, .aload_n 0, 1, 0, 0, 0, []), (1, .dup, 1, 0, 0, 0, []), (2, .getfield 22, 3, 2, 0, 0, [160]), (5, .iconst 1, 1, 0, 0, 0, []), (6, .iload_n 1, 1, 0, 0, 0, []), (7, .ishl, 1, 0, 0, 0, []), (8, .ior, 1, 0, 0, 0, []), (9, .putfield 22, 3, 2, 0, 0, [160]), (12, .return_, 1, 0, 0, 0, [])]]
def mX2_markGone : xMeth := (yX2_markGone, cX2_markGone, 2, none, kX2_markGone)
def kX2_markBack : xC := [[(0, .aload_n 0, 1, 0, 0, 0, []), (1, .dup, 1, 0, 0, 0, []), (2, .getfield 22, 3, 2, 0, 0, [160]), (5, .iconst 1, 1, 0, 0, 0, []), (6, .iload_n 1, 1, 0, 0, 0, []), (7, .ishl, 1, 0, 0, 0, []), (8, .iconst (-1), 1, 0, 0, 0, []), (9, .ixor, 1, 0, 0, 0, []), (10, .iand, 1, 0, 0, 0, []), (11, .putfield 22, 3, 2, 0, 0, [160]), (14, .return_, 1, 0, 0, 0, [])]]
def mX2_markBack : xMeth := (yX2_markBack, cX2_markBack, 2, none, kX2_markBack)
def kX2_noteCame : xC := [[(0, .aload_n 0, 1, 0, 0, 0, []), (1, .getfield 15, 3, 2, 6, 0, [177]), (4, .iload_n 1, 1, 0, 0, 0, []), (5, .iaload, 1, 0, 0, 0, []), (6, .sipush 9999, 3, 0, 0, 0, []), (9, .if_icmp .ge 13, 3, 0, 0, 0, []), (12, .aload_n 0, 1, 0, 0, 0, []), (13, .getfield 15, 3, 2, 6, 0, [177]), (16, .iload_n 1, 1, 0, 0, 0, []), (17, .dup2, 1, 0, 0, 0, []), (18, .iaload, 1, 0, 0, 0, []), (19, .iconst 1, 1, 0, 0, 0, []), (20, .iadd, 1, 0, 0, 0, []), (21, .iastore, 1, 0, 0, 0, []), (22, .return_, 1, 0, 0, 0, [])]]
def mX2_noteCame : xMeth := (yX2_noteCame, cX2_noteCame, 2, none, kX2_noteCame)
def kX2_draw : xC := [[(0, .aload_n 0, 1, 0, 0, 0, []), (1, .getfield 9, 3, 2, 5, 0, [175]), (4, .istore_n 1, 1, 0, 0, 0, []), (5, .aload_n 0, 1, 0, 0, 0, []), (6, .aload_n 0, 1, 0, 0, 0, []), (7, .getfield 9, 3, 2, 5, 0, [175]), (10, .sipush 661, 3, 0, 0, 0, []), (13, .imul, 1, 0, 0, 0, []), (14, .sipush 541, 3, 0, 0, 0, []), (17, .iadd, 1, 0, 0, 0, []), (18, .sipush 30949, 3, 0, 0, 0, []), (21, .irem, 1, 0, 0, 0, []), (22, .putfield 9, 3, 2, 5, 0, [175]), (25, .iload_n 1, 1, 0, 0, 0, []), (26, .ireturn, 1, 0, 0, 0, [])]]
def mX2_draw : xMeth := (yX2_draw, cX2_draw, 2, (some FieldType.int), kX2_draw)
def kX2_write : xC := [[(0, .aload_n 0, 1, 0, 0, 0, []), (1, .getfield 43, 3, 2, 8, 0, [181]), (4, .bipush 25, 2, 0, 0, 0, []), (6, .if_icmp .lt 24, 3, 0, 0, 0, []), (9, .aload_n 0, 1, 0, 0, 0, []), (10, .getfield 19, 3, 2, 7, 0, [180]), (13, .iconst 1, 1, 0, 0, 0, []), (14, .aload_n 0, 1, 0, 0, 0, []), (15, .getfield 19, 3, 2, 7, 0, [180]), (18, .iconst 0, 1, 0, 0, 0, []), (19, .bipush 24, 2, 0, 0, 0, []), (21, .invokestatic 37, 3, 0, 0, 9, [881, 799, 798, 132]), (24, .aload_n 0, 1, 0, 0, 0, []), (25, .bipush 24, 2, 0, 0, 0, []), (27, .putfield 43, 3, 2, 8, 0, [181]), (30, .aload_n 0, 1, 0, 0, 0, []), (31, .getfield 19, 3, 2, 7, 0, [180])],
  [(34, .aload_n 0, 1, 0, 0, 0, []), (35, .getfield 43, 3, 2, 8, 0, [181]), (38, .aload_n 0, 1, 0, 0, 0, []), (39, .getfield 34, 3, 2, 4, 0, [171]), (42, .bipush 16, 2, 0, 0, 0, []), (44, .ishl, 1, 0, 0, 0, []), (45, .aload_n 0, 1, 0, 0, 0, []), (46, .getfield 28, 3, 2, 2, 0, [166]), (49, .bipush 12, 2, 0, 0, 0, []), (51, .ishl, 1, 0, 0, 0, []), (52, .ior, 1, 0, 0, 0, []), (53, .aload_n 0, 1, 0, 0, 0, []), (54, .getfield 31, 3, 2, 3, 0, [169]), (57, .bipush 8, 2, 0, 0, 0, []), (59, .ishl, 1, 0, 0, 0, []), (60, .ior, 1, 0, 0, 0, []), (61, .iload_n 1, 1, 0, 0, 0, []), (62, .bipush 99, 2, 0, 0, 0, [])],
  [(64, .iadd, 1, 0, 0, 0, []), (65, .ior, 1, 0, 0, 0, []), (66, .iastore, 1, 0, 0, 0, []), (67, .aload_n 0, 1, 0, 0, 0, []), (68, .dup, 1, 0, 0, 0, []), (69, .getfield 43, 3, 2, 8, 0, [181]), (72, .iconst 1, 1, 0, 0, 0, []), (73, .iadd, 1, 0, 0, 0, []), (74, .putfield 43, 3, 2, 8, 0, [181]), (77, .return_, 1, 0, 0, 0, [])]]
def mX2_write : xMeth := (yX2_write, cX2_write, 2, none, kX2_write)
def kX2_onPage : xC := [[(0, .aload_n 0, 1, 0, 0, 0, []), (1, .getfield 19, 3, 2, 7, 0, [180]), (4, .iload_n 1, 1, 0, 0, 0, []), (5, .iaload, 1, 0, 0, 0, []), (6, .istore_n 3, 1, 0, 0, 0, []), (7, .iload_n 2, 1, 0, 0, 0, []), (8, .tableswitch 49 0 2 #[28, 33, 41], 28, 0, 0, 0, [])],
  [(36, .iload_n 3, 1, 0, 0, 0, []), (37, .bipush 16, 2, 0, 0, 0, []), (39, .ishr, 1, 0, 0, 0, []), (40, .ireturn, 1, 0, 0, 0, []), (41, .iload_n 3, 1, 0, 0, 0, []), (42, .bipush 12, 2, 0, 0, 0, []), (44, .ishr, 1, 0, 0, 0, []), (45, .bipush 15, 2, 0, 0, 0, []), (47, .iand, 1, 0, 0, 0, []), (48, .ireturn, 1, 0, 0, 0, []), (49, .iload_n 3, 1, 0, 0, 0, []), (50, .bipush 8, 2, 0, 0, 0, []), (52, .ishr, 1, 0, 0, 0, []), (53, .bipush 15, 2, 0, 0, 0, []), (55, .iand, 1, 0, 0, 0, []), (56, .ireturn, 1, 0, 0, 0, []), (57, .iload_n 3, 1, 0, 0, 0, []), (58, .sipush 255, 3, 0, 0, 0, []), (61, .iand, 1, 0, 0, 0, []), (62, .bipush 99, 2, 0, 0, 0, [])],
  [(64, .isub, 1, 0, 0, 0, []), (65, .ireturn, 1, 0, 0, 0, [])]]
def mX2_onPage : xMeth := (yX2_onPage, cX2_onPage, 4, (some FieldType.int), kX2_onPage)
def kX2_countWritten : xC := [[(0, .iconst 0, 1, 0, 0, 0, []), (1, .istore_n 2, 1, 0, 0, 0, []), (2, .iconst 0, 1, 0, 0, 0, []), (3, .istore_n 3, 1, 0, 0, 0, []), (4, .iload_n 3, 1, 0, 0, 0, []), (5, .aload_n 0, 1, 0, 0, 0, []), (6, .getfield 43, 3, 2, 8, 0, [181]), (9, .if_icmp .ge 22, 3, 0, 0, 0, []), (12, .aload_n 0, 1, 0, 0, 0, []), (13, .iload_n 3, 1, 0, 0, 0, []), (14, .iconst 2, 1, 0, 0, 0, []), (15, .invokevirtual 50, 3, 33, 3, 0, [1437, 1063, 115, 1061, 1062, 2]), (18, .iload_n 1, 1, 0, 0, 0, []), (19, .if_icmp .ne 6, 3, 0, 0, 0, []), (22, .iinc 2 1, 3, 0, 0, 0, []), (25, .iinc 3 1, 3, 0, 0, 0, []), (28, .goto (-24), 3, 0, 0, 0, []), (31, .iload_n 2, 1, 0, 0, 0, [])],
  [(32, .ireturn, 1, 0, 0, 0, [])]]
def mX2_countWritten : xMeth := (yX2_countWritten, cX2_countWritten, 4, (some FieldType.int), kX2_countWritten)
def kX3_init : xC := [[(0, .aload_n 0, 1, 0, 0, 0, []), (1, .invokespecial 3, 3, 0, 0, 8, [230, 140, 141]), (4, .aload_n 0, 1, 0, 0, 0, []), (5, .bipush 12, 2, 0, 0, 0, []), (7, .newarray .int, 2, 0, 0, 0, [202]), (9, .putfield 9, 3, 3, 0, 2, [231]), (12, .aload_n 0, 1, 0, 0, 0, []), (13, .bipush 12, 2, 0, 0, 0, []), (15, .newarray .boolean, 2, 0, 0, 0, [242]), (17, .putfield 15, 3, 3, 1, 2, [232]), (20, .return_, 1, 0, 0, 0, [])]]
def mX3_init : xMeth := (yX3_init, cX3_init, 1, none, kX3_init)
def kX3_copy : xC := [[(0, .iconst 0, 1, 0, 0, 0, []), (1, .istore_n 2, 1, 0, 0, 0, []), (2, .iload_n 2, 1, 0, 0, 0, []), (3, .bipush 12, 2, 0, 0, 0, []), (5, .if_icmp .ge 33, 3, 0, 0, 0, []), (8, .aload_n 0, 1, 0, 0, 0, []), (9, .getfield 9, 3, 3, 0, 0, [231]), (12, .iload_n 2, 1, 0, 0, 0, []), (13, .aload_n 1, 1, 0, 0, 0, []), (14, .getfield 9, 3, 3, 0, 0, [231]), (17, .iload_n 2, 1, 0, 0, 0, []), (18, .iaload, 1, 0, 0, 0, []), (19, .iastore, 1, 0, 0, 0, []), (20, .aload_n 0, 1, 0, 0, 0, []), (21, .getfield 15, 3, 3, 1, 0, [232]), (24, .iload_n 2, 1, 0, 0, 0, []), (25, .aload_n 1, 1, 0, 0, 0, []), (26, .getfield 15, 3, 3, 1, 0, [232]), (29, .iload_n 2, 1, 0, 0, 0, []), (30, .baload, 1, 0, 0, 0, []), (31, .bastore, 1, 0, 0, 0, [])],
  [(32, .iinc 2 1, 3, 0, 0, 0, []), (35, .goto (-33), 3, 0, 0, 0, []), (38, .aload_n 0, 1, 0, 0, 0, []), (39, .aload_n 1, 1, 0, 0, 0, []), (40, .getfield 19, 3, 3, 2, 0, [233]), (43, .putfield 19, 3, 3, 2, 0, [233]), (46, .return_, 1, 0, 0, 0, [])]]
def mX3_copy : xMeth := (yX3_copy, cX3_copy, 3, none, kX3_copy)
def kX3_add : xC := [[(0, .aload_n 0, 1, 0, 0, 0, []), (1, .getfield 19, 3, 3, 2, 0, [233]), (4, .bipush 12, 2, 0, 0, 0, []), (6, .if_icmp .ge 33, 3, 0, 0, 0, []), (9, .aload_n 0, 1, 0, 0, 0, []), (10, .getfield 9, 3, 3, 0, 0, [231]), (13, .aload_n 0, 1, 0, 0, 0, []), (14, .getfield 19, 3, 3, 2, 0, [233]), (17, .iload_n 1, 1, 0, 0, 0, []), (18, .iastore, 1, 0, 0, 0, []), (19, .aload_n 0, 1, 0, 0, 0, []), (20, .getfield 15, 3, 3, 1, 0, [232]), (23, .aload_n 0, 1, 0, 0, 0, []), (24, .getfield 19, 3, 3, 2, 0, [233]), (27, .iload_n 2, 1, 0, 0, 0, []), (28, .bastore, 1, 0, 0, 0, []), (29, .aload_n 0, 1, 0, 0, 0, []), (30, .dup, 1, 0, 0, 0, []), (31, .getfield 19, 3, 3, 2, 0, [233])],
  [(34, .iconst 1, 1, 0, 0, 0, []), (35, .iadd, 1, 0, 0, 0, []), (36, .putfield 19, 3, 3, 2, 0, [233]), (39, .aload_n 0, 1, 0, 0, 0, []), (40, .getfield 19, 3, 3, 2, 0, [233]), (43, .ireturn, 1, 0, 0, 0, [])]]
def mX3_add : xMeth := (yX3_add, cX3_add, 3, (some FieldType.int), kX3_add)
def kX3_fits : xC := [[(0, .iconst 0, 1, 0, 0, 0, []), (1, .istore_n 3, 1, 0, 0, 0, []), (2, .iload_n 1, 1, 0, 0, 0, []), (3, .ifCond .le 45, 3, 0, 0, 0, []), (6, .iload_n 3, 1, 0, 0, 0, []), (7, .aload_n 0, 1, 0, 0, 0, []), (8, .getfield 19, 3, 3, 2, 0, [233]), (11, .if_icmp .ge 37, 3, 0, 0, 0, []), (14, .aload_n 0, 1, 0, 0, 0, []), (15, .getfield 9, 3, 3, 0, 0, [231]), (18, .iload_n 3, 1, 0, 0, 0, []), (19, .iaload, 1, 0, 0, 0, []), (20, .iload_n 1, 1, 0, 0, 0, []), (21, .irem, 1, 0, 0, 0, []), (22, .iload_n 2, 1, 0, 0, 0, []), (23, .if_icmp .ne 7, 3, 0, 0, 0, []), (26, .iconst 1, 1, 0, 0, 0, []), (27, .goto 4, 3, 0, 0, 0, []), (30, .iconst 0, 1, 0, 0, 0, []), (31, .aload_n 0, 1, 0, 0, 0, [])],
  [(32, .getfield 15, 3, 3, 1, 0, [232]), (35, .iload_n 3, 1, 0, 0, 0, []), (36, .baload, 1, 0, 0, 0, []), (37, .if_icmp .eq 5, 3, 0, 0, 0, []), (40, .iconst 0, 1, 0, 0, 0, []), (41, .ireturn, 1, 0, 0, 0, []), (42, .iinc 3 1, 3, 0, 0, 0, []), (45, .goto (-43), 3, 0, 0, 0, []), (48, .iconst 1, 1, 0, 0, 0, []), (49, .ireturn, 1, 0, 0, 0, [])]]
def mX3_fits : xMeth := (yX3_fits, cX3_fits, 4, (some FieldType.boolean), kX3_fits)
def kX3_countFitting : xC := [[(0, .iconst 0, 1, 0, 0, 0, []), (1, .istore_n 1, 1, 0, 0, 0, []), (2, .iconst 1, 1, 0, 0, 0, []), (3, .istore_n 2, 1, 0, 0, 0, []), (4, .iload_n 2, 1, 0, 0, 0, []), (5, .bipush 12, 2, 0, 0, 0, []), (7, .if_icmp .gt 34, 3, 0, 0, 0, []), (10, .iconst 0, 1, 0, 0, 0, []), (11, .istore_n 3, 1, 0, 0, 0, []), (12, .iload_n 3, 1, 0, 0, 0, []), (13, .iload_n 2, 1, 0, 0, 0, []), (14, .if_icmp .ge 21, 3, 0, 0, 0, []), (17, .aload_n 0, 1, 0, 0, 0, []), (18, .iload_n 2, 1, 0, 0, 0, []), (19, .iload_n 3, 1, 0, 0, 0, []), (20, .invokevirtual 23, 3, 38, 3, 0, [1141, 1144, 117, 1142, 1143, 3]), (23, .ifCond .eq 6, 3, 0, 0, 0, []), (26, .iinc 1 1, 3, 0, 0, 0, []), (29, .iinc 3 1, 3, 0, 0, 0, [])],
  [(32, .goto (-20), 3, 0, 0, 0, []), (35, .iinc 2 1, 3, 0, 0, 0, []), (38, .goto (-34), 3, 0, 0, 0, []), (41, .iload_n 1, 1, 0, 0, 0, []), (42, .ireturn, 1, 0, 0, 0, [])]]
def mX3_countFitting : xMeth := (yX3_countFitting, cX3_countFitting, 4, (some FieldType.int), kX3_countFitting)
def kX3_leastPeriod : xC := [[(0, .iconst 1, 1, 0, 0, 0, []), (1, .istore_n 1, 1, 0, 0, 0, []), (2, .iload_n 1, 1, 0, 0, 0, []), (3, .bipush 12, 2, 0, 0, 0, []), (5, .if_icmp .gt 20, 3, 0, 0, 0, []), (8, .aload_n 0, 1, 0, 0, 0, []), (9, .iload_n 1, 1, 0, 0, 0, []), (10, .invokevirtual 27, 3, 41, 2, 0, [1153, 1156, 117, 1154, 1155, 3]), (13, .iconst (-1), 1, 0, 0, 0, []), (14, .if_icmp .eq 5, 3, 0, 0, 0, []), (17, .iload_n 1, 1, 0, 0, 0, []), (18, .ireturn, 1, 0, 0, 0, []), (19, .iinc 1 1, 3, 0, 0, 0, []), (22, .goto (-20), 3, 0, 0, 0, []), (25, .iconst (-1), 1, 0, 0, 0, []), (26, .ireturn, 1, 0, 0, 0, [])]]
def mX3_leastPeriod : xMeth := (yX3_leastPeriod, cX3_leastPeriod, 2, (some FieldType.int), kX3_leastPeriod)
def kX3_leastPhase : xC := [[(0, .iconst 0, 1, 0, 0, 0, []), (1, .istore_n 2, 1, 0, 0, 0, []), (2, .iload_n 2, 1, 0, 0, 0, []), (3, .iload_n 1, 1, 0, 0, 0, []), (4, .if_icmp .ge 20, 3, 0, 0, 0, []), (7, .aload_n 0, 1, 0, 0, 0, []), (8, .iload_n 1, 1, 0, 0, 0, []), (9, .iload_n 2, 1, 0, 0, 0, []), (10, .invokevirtual 23, 3, 38, 3, 0, [1141, 1144, 117, 1142, 1143, 3]), (13, .ifCond .eq 5, 3, 0, 0, 0, []), (16, .iload_n 2, 1, 0, 0, 0, []), (17, .ireturn, 1, 0, 0, 0, []), (18, .iinc 2 1, 3, 0, 0, 0, []), (21, .goto (-19), 3, 0, 0, 0, []), (24, .iconst (-1), 1, 0, 0, 0, []), (25, .ireturn, 1, 0, 0, 0, [])]]
def mX3_leastPhase : xMeth := (yX3_leastPhase, cX3_leastPhase, 3, (some FieldType.int), kX3_leastPhase)
def kX3_nextDay : xC := [[(0, .iconst (-1), 1, 0, 0, 0, []), (1, .istore_n 3, 1, 0, 0, 0, []), (2, .iconst 0, 1, 0, 0, 0, []), (3, .istore 4, 2, 0, 0, 0, []), (5, .iload 4, 2, 0, 0, 0, []), (7, .aload_n 0, 1, 0, 0, 0, []), (8, .getfield 19, 3, 3, 2, 0, [233]), (11, .if_icmp .ge 21, 3, 0, 0, 0, []), (14, .iload_n 3, 1, 0, 0, 0, []), (15, .aload_n 0, 1, 0, 0, 0, []), (16, .getfield 9, 3, 3, 0, 0, [231]), (19, .iload 4, 2, 0, 0, 0, []), (21, .iaload, 1, 0, 0, 0, []), (22, .invokestatic 31, 3, 0, 0, 10, [1162, 656, 128, 657]), (25, .istore_n 3, 1, 0, 0, 0, []), (26, .iinc 4 1, 3, 0, 0, 0, []), (29, .goto (-24), 3, 0, 0, 0, [])],
  [(32, .iload_n 3, 1, 0, 0, 0, []), (33, .iconst 1, 1, 0, 0, 0, []), (34, .iadd, 1, 0, 0, 0, []), (35, .iconst 1, 1, 0, 0, 0, []), (36, .iload_n 1, 1, 0, 0, 0, []), (37, .iload_n 2, 1, 0, 0, 0, []), (38, .invokestatic 37, 3, 185, 4, 1, [1163, 1165, 112, 1164]), (41, .ireturn, 1, 0, 0, 0, [])]]
def mX3_nextDay : xMeth := (yX3_nextDay, cX3_nextDay, 5, (some FieldType.int), kX3_nextDay)
def kX4_init : xC := [[(0, .aload_n 0, 1, 0, 0, 0, []), (1, .invokespecial 3, 3, 0, 0, 8, [259, 140, 141]), (4, .aload_n 0, 1, 0, 0, 0, []), (5, .iconst 5, 1, 0, 0, 0, []), (6, .newarray .int, 2, 0, 0, 0, [202]), (8, .putfield 9, 3, 4, 0, 2, [260]), (11, .aload_n 0, 1, 0, 0, 0, []), (12, .iconst 5, 1, 0, 0, 0, []), (13, .newarray .int, 2, 0, 0, 0, [202]), (15, .putfield 15, 3, 4, 1, 2, [262]), (18, .aload_n 0, 1, 0, 0, 0, []), (19, .iconst 5, 1, 0, 0, 0, []), (20, .newarray .int, 2, 0, 0, 0, [202]), (22, .putfield 18, 3, 4, 2, 2, [264]), (25, .aload_n 0, 1, 0, 0, 0, []), (26, .iconst 5, 1, 0, 0, 0, []), (27, .newarray .int, 2, 0, 0, 0, [202]), (29, .putfield 21, 3, 4, 3, 2, [265])],
  [(32, .aload_n 0, 1, 0, 0, 0, []), (33, .iconst 5, 1, 0, 0, 0, []), (34, .newarray .int, 2, 0, 0, 0, [202]), (36, .putfield 24, 3, 4, 4, 2, [266]), (39, .return_, 1, 0, 0, 0, [])]]
def mX4_init : xMeth := (yX4_init, cX4_init, 1, none, kX4_init)
def kX4_copy : xC := [[(0, .aload_n 1, 1, 0, 0, 0, []), (1, .getfield 9, 3, 4, 0, 0, [260]), (4, .iconst 0, 1, 0, 0, 0, []), (5, .aload_n 0, 1, 0, 0, 0, []), (6, .getfield 9, 3, 4, 0, 0, [260]), (9, .iconst 0, 1, 0, 0, 0, []), (10, .iconst 5, 1, 0, 0, 0, []), (11, .invokestatic 27, 3, 0, 0, 9, [1465, 799, 798, 132]), (14, .aload_n 1, 1, 0, 0, 0, []), (15, .getfield 15, 3, 4, 1, 0, [262]), (18, .iconst 0, 1, 0, 0, 0, []), (19, .aload_n 0, 1, 0, 0, 0, []), (20, .getfield 15, 3, 4, 1, 0, [262]), (23, .iconst 0, 1, 0, 0, 0, []), (24, .iconst 5, 1, 0, 0, 0, []), (25, .invokestatic 27, 3, 0, 0, 9, [1465, 799, 798, 132]), (28, .return_, 1, 0, 0, 0, [])]]
def mX4_copy : xMeth := (yX4_copy, cX4_copy, 2, none, kX4_copy)
def kX4_allVotes : xC := [[(0, .iconst 0, 1, 0, 0, 0, []), (1, .istore_n 1, 1, 0, 0, 0, []), (2, .aload_n 0, 1, 0, 0, 0, []), (3, .getfield 9, 3, 4, 0, 0, [260]), (6, .astore_n 2, 1, 0, 0, 0, []), (7, .aload_n 2, 1, 0, 0, 0, []), (8, .arraylength, 1, 0, 0, 0, []), (9, .istore_n 3, 1, 0, 0, 0, []), (10, .iconst 0, 1, 0, 0, 0, []), (11, .istore 4, 2, 0, 0, 0, []), (13, .iload 4, 2, 0, 0, 0, []), (15, .iload_n 3, 1, 0, 0, 0, []), (16, .if_icmp .ge 20, 3, 0, 0, 0, []), (19, .aload_n 2, 1, 0, 0, 0, []), (20, .iload 4, 2, 0, 0, 0, []), (22, .iaload, 1, 0, 0, 0, []), (23, .istore 5, 2, 0, 0, 0, []), (25, .iload_n 1, 1, 0, 0, 0, []), (26, .iload 5, 2, 0, 0, 0, []), (28, .iadd, 1, 0, 0, 0, []), (29, .istore_n 1, 1, 0, 0, 0, []), (30, .iinc 4 1, 3, 0, 0, 0, [])],
  [(33, .goto (-20), 3, 0, 0, 0, []), (36, .iload_n 1, 1, 0, 0, 0, []), (37, .ireturn, 1, 0, 0, 0, [])]]
def mX4_allVotes : xMeth := (yX4_allVotes, cX4_allVotes, 6, (some FieldType.int), kX4_allVotes)
def kX4_seatsByShares : xC := [[(0, .aload_n 0, 1, 0, 0, 0, []), (1, .getfield 18, 3, 4, 2, 0, [264]), (4, .iconst 0, 1, 0, 0, 0, []), (5, .invokestatic 33, 3, 352, 2, 0, [1290, 1292, 131, 1291]), (8, .iconst 0, 1, 0, 0, 0, []), (9, .istore_n 2, 1, 0, 0, 0, []), (10, .iload_n 2, 1, 0, 0, 0, []), (11, .iload_n 1, 1, 0, 0, 0, []), (12, .if_icmp .ge 74, 3, 0, 0, 0, []), (15, .iconst 0, 1, 0, 0, 0, []), (16, .istore_n 3, 1, 0, 0, 0, []), (17, .iconst 1, 1, 0, 0, 0, []), (18, .istore 4, 2, 0, 0, 0, []), (20, .iload 4, 2, 0, 0, 0, []), (22, .iconst 5, 1, 0, 0, 0, []), (23, .if_icmp .ge 47, 3, 0, 0, 0, []), (26, .aload_n 0, 1, 0, 0, 0, []), (27, .getfield 9, 3, 4, 0, 0, [260]), (30, .iload 4, 2, 0, 0, 0, [])],
  [(32, .iaload, 1, 0, 0, 0, []), (33, .aload_n 0, 1, 0, 0, 0, []), (34, .getfield 18, 3, 4, 2, 0, [264]), (37, .iload_n 3, 1, 0, 0, 0, []), (38, .iaload, 1, 0, 0, 0, []), (39, .iconst 1, 1, 0, 0, 0, []), (40, .iadd, 1, 0, 0, 0, []), (41, .imul, 1, 0, 0, 0, []), (42, .aload_n 0, 1, 0, 0, 0, []), (43, .getfield 9, 3, 4, 0, 0, [260]), (46, .iload_n 3, 1, 0, 0, 0, []), (47, .iaload, 1, 0, 0, 0, []), (48, .aload_n 0, 1, 0, 0, 0, []), (49, .getfield 18, 3, 4, 2, 0, [264]), (52, .iload 4, 2, 0, 0, 0, []), (54, .iaload, 1, 0, 0, 0, []), (55, .iconst 1, 1, 0, 0, 0, []), (56, .iadd, 1, 0, 0, 0, []), (57, .imul, 1, 0, 0, 0, []), (58, .if_icmp .le 6, 3, 0, 0, 0, []), (61, .iload 4, 2, 0, 0, 0, []), (63, .istore_n 3, 1, 0, 0, 0, [])],
  [(64, .iinc 4 1, 3, 0, 0, 0, []), (67, .goto (-47), 3, 0, 0, 0, []), (70, .aload_n 0, 1, 0, 0, 0, []), (71, .getfield 18, 3, 4, 2, 0, [264]), (74, .iload_n 3, 1, 0, 0, 0, []), (75, .dup2, 1, 0, 0, 0, []), (76, .iaload, 1, 0, 0, 0, []), (77, .iconst 1, 1, 0, 0, 0, []), (78, .iadd, 1, 0, 0, 0, []), (79, .iastore, 1, 0, 0, 0, []), (80, .iinc 2 1, 3, 0, 0, 0, []), (83, .goto (-73), 3, 0, 0, 0, []), (86, .aload_n 0, 1, 0, 0, 0, []), (87, .getfield 18, 3, 4, 2, 0, [264]), (90, .areturn, 1, 0, 0, 0, [])]]
def mX4_seatsByShares : xMeth := (yX4_seatsByShares, cX4_seatsByShares, 5, (some (FieldType.array FieldType.int)), kX4_seatsByShares)
def kX4_seatsByRests : xC := [[(0, .aload_n 0, 1, 0, 0, 0, []), (1, .invokevirtual 39, 3, 45, 1, 0, [1285, 1280, 119, 1278, 1279, 4]), (4, .istore_n 2, 1, 0, 0, 0, []), (5, .iload_n 1, 1, 0, 0, 0, []), (6, .istore_n 3, 1, 0, 0, 0, []), (7, .iconst 0, 1, 0, 0, 0, []), (8, .istore 4, 2, 0, 0, 0, []), (10, .iload 4, 2, 0, 0, 0, []), (12, .iconst 5, 1, 0, 0, 0, []), (13, .if_icmp .ge 68, 3, 0, 0, 0, []), (16, .aload_n 0, 1, 0, 0, 0, []), (17, .getfield 9, 3, 4, 0, 0, [260]), (20, .iload 4, 2, 0, 0, 0, []), (22, .iaload, 1, 0, 0, 0, []), (23, .iload_n 1, 1, 0, 0, 0, []), (24, .imul, 1, 0, 0, 0, []), (25, .istore 5, 2, 0, 0, 0, []), (27, .aload_n 0, 1, 0, 0, 0, []), (28, .getfield 21, 3, 4, 3, 0, [265]), (31, .iload 4, 2, 0, 0, 0, [])],
  [(33, .iload_n 2, 1, 0, 0, 0, []), (34, .ifCond .le 10, 3, 0, 0, 0, []), (37, .iload 5, 2, 0, 0, 0, []), (39, .iload_n 2, 1, 0, 0, 0, []), (40, .idiv, 1, 0, 0, 0, []), (41, .goto 4, 3, 0, 0, 0, []), (44, .iconst 0, 1, 0, 0, 0, []), (45, .iastore, 1, 0, 0, 0, []), (46, .aload_n 0, 1, 0, 0, 0, []), (47, .getfield 24, 3, 4, 4, 0, [266]), (50, .iload 4, 2, 0, 0, 0, []), (52, .iload_n 2, 1, 0, 0, 0, []), (53, .ifCond .le 10, 3, 0, 0, 0, []), (56, .iload 5, 2, 0, 0, 0, []), (58, .iload_n 2, 1, 0, 0, 0, []), (59, .irem, 1, 0, 0, 0, []), (60, .goto 4, 3, 0, 0, 0, []), (63, .iconst 0, 1, 0, 0, 0, [])],
  [(64, .iastore, 1, 0, 0, 0, []), (65, .iload_n 3, 1, 0, 0, 0, []), (66, .aload_n 0, 1, 0, 0, 0, []), (67, .getfield 21, 3, 4, 3, 0, [265]), (70, .iload 4, 2, 0, 0, 0, []), (72, .iaload, 1, 0, 0, 0, []), (73, .isub, 1, 0, 0, 0, []), (74, .istore_n 3, 1, 0, 0, 0, []), (75, .iinc 4 1, 3, 0, 0, 0, []), (78, .goto (-68), 3, 0, 0, 0, []), (81, .iconst 0, 1, 0, 0, 0, []), (82, .istore 4, 2, 0, 0, 0, []), (84, .iload 4, 2, 0, 0, 0, []), (86, .iload_n 3, 1, 0, 0, 0, []), (87, .if_icmp .ge 67, 3, 0, 0, 0, []), (90, .iconst 0, 1, 0, 0, 0, []), (91, .istore 5, 2, 0, 0, 0, []), (93, .iconst 1, 1, 0, 0, 0, []), (94, .istore 6, 2, 0, 0, 0, [])],
  [(96, .iload 6, 2, 0, 0, 0, []), (98, .iconst 5, 1, 0, 0, 0, []), (99, .if_icmp .ge 30, 3, 0, 0, 0, []), (102, .aload_n 0, 1, 0, 0, 0, []), (103, .getfield 24, 3, 4, 4, 0, [266]), (106, .iload 6, 2, 0, 0, 0, []), (108, .iaload, 1, 0, 0, 0, []), (109, .aload_n 0, 1, 0, 0, 0, []), (110, .getfield 24, 3, 4, 4, 0, [266]), (113, .iload 5, 2, 0, 0, 0, []), (115, .iaload, 1, 0, 0, 0, []), (116, .if_icmp .le 7, 3, 0, 0, 0, []), (119, .iload 6, 2, 0, 0, 0, []), (121, .istore 5, 2, 0, 0, 0, []), (123, .iinc 6 1, 3, 0, 0, 0, []), (126, .goto (-30), 3, 0, 0, 0, [])],
  [(129, .aload_n 0, 1, 0, 0, 0, []), (130, .getfield 21, 3, 4, 3, 0, [265]), (133, .iload 5, 2, 0, 0, 0, []), (135, .dup2, 1, 0, 0, 0, []), (136, .iaload, 1, 0, 0, 0, []), (137, .iconst 1, 1, 0, 0, 0, []), (138, .iadd, 1, 0, 0, 0, []), (139, .iastore, 1, 0, 0, 0, []), (140, .aload_n 0, 1, 0, 0, 0, []), (141, .getfield 24, 3, 4, 4, 0, [266]), (144, .iload 5, 2, 0, 0, 0, []), (146, .iconst (-1), 1, 0, 0, 0, []), (147, .iastore, 1, 0, 0, 0, []), (148, .iinc 4 1, 3, 0, 0, 0, []), (151, .goto (-67), 3, 0, 0, 0, []), (154, .aload_n 0, 1, 0, 0, 0, []), (155, .getfield 21, 3, 4, 3, 0, [265]), (158, .areturn, 1, 0, 0, 0, [])]]
def mX4_seatsByRests : xMeth := (yX4_seatsByRests, cX4_seatsByRests, 7, (some (FieldType.array FieldType.int)), kX4_seatsByRests)
def kX4_differing : xC := [[(0, .aload_n 0, 1, 0, 0, 0, []), (1, .iload_n 1, 1, 0, 0, 0, []), (2, .invokevirtual 43, 3, 46, 2, 0, [1301, 1289, 119, 1287, 1288, 4]), (5, .pop, 1, 0, 0, 0, []), (6, .aload_n 0, 1, 0, 0, 0, []), (7, .iload_n 1, 1, 0, 0, 0, []), (8, .invokevirtual 47, 3, 47, 2, 0, [1302, 1284, 119, 1282, 1283, 4]), (11, .pop, 1, 0, 0, 0, []), (12, .iconst 0, 1, 0, 0, 0, []), (13, .istore_n 2, 1, 0, 0, 0, []), (14, .iconst 0, 1, 0, 0, 0, []), (15, .istore_n 3, 1, 0, 0, 0, []), (16, .iload_n 3, 1, 0, 0, 0, []), (17, .iconst 5, 1, 0, 0, 0, []), (18, .if_icmp .ge 30, 3, 0, 0, 0, []), (21, .aload_n 0, 1, 0, 0, 0, []), (22, .getfield 18, 3, 4, 2, 0, [264]), (25, .iload_n 3, 1, 0, 0, 0, []), (26, .iaload, 1, 0, 0, 0, []), (27, .aload_n 0, 1, 0, 0, 0, []), (28, .getfield 21, 3, 4, 3, 0, [265]), (31, .iload_n 3, 1, 0, 0, 0, [])],
  [(32, .iaload, 1, 0, 0, 0, []), (33, .if_icmp .eq 9, 3, 0, 0, 0, []), (36, .iload_n 2, 1, 0, 0, 0, []), (37, .iconst 1, 1, 0, 0, 0, []), (38, .iload_n 3, 1, 0, 0, 0, []), (39, .ishl, 1, 0, 0, 0, []), (40, .ior, 1, 0, 0, 0, []), (41, .istore_n 2, 1, 0, 0, 0, []), (42, .iinc 3 1, 3, 0, 0, 0, []), (45, .goto (-29), 3, 0, 0, 0, []), (48, .iload_n 2, 1, 0, 0, 0, []), (49, .ireturn, 1, 0, 0, 0, [])]]
def mX4_differing : xMeth := (yX4_differing, cX4_differing, 4, (some FieldType.int), kX4_differing)
def kX4_causeAt : xC := [[(0, .aload_n 0, 1, 0, 0, 0, []), (1, .getfield 15, 3, 4, 1, 0, [262]), (4, .iload_n 1, 1, 0, 0, 0, []), (5, .iaload, 1, 0, 0, 0, []), (6, .iconst 4, 1, 0, 0, 0, []), (7, .imul, 1, 0, 0, 0, []), (8, .iload_n 2, 1, 0, 0, 0, []), (9, .iadd, 1, 0, 0, 0, []), (10, .istore_n 3, 1, 0, 0, 0, []), (11, .iload_n 3, 1, 0, 0, 0, []), (12, .iconst 0, 1, 0, 0, 0, []), (13, .ldc 50, 2, 1, 4, 0, []), (15, .invokevirtual 52, 3, 355, 1, 0, [1327, 644, 124, 642, 643, 99]), (18, .iconst 1, 1, 0, 0, 0, []), (19, .isub, 1, 0, 0, 0, []), (20, .invokestatic 57, 3, 189, 3, 1, [1328, 521, 112, 520]), (23, .ifCond .eq 15, 3, 0, 0, 0, []), (26, .ldc 50, 2, 1, 4, 0, []), (28, .iload_n 3, 1, 0, 0, 0, []), (29, .invokevirtual 61, 3, 354, 2, 0, [1329, 577, 124, 575, 576, 99])],
  [(32, .bipush 48, 2, 0, 0, 0, []), (34, .isub, 1, 0, 0, 0, []), (35, .goto 4, 3, 0, 0, 0, []), (38, .iconst 0, 1, 0, 0, 0, []), (39, .ireturn, 1, 0, 0, 0, [])]]
def mX4_causeAt : xMeth := (yX4_causeAt, cX4_causeAt, 4, (some FieldType.int), kX4_causeAt)
def kX4_placeOf : xC := [[(0, .iconst 0, 1, 0, 0, 0, []), (1, .istore_n 3, 1, 0, 0, 0, []), (2, .iload_n 3, 1, 0, 0, 0, []), (3, .iconst 3, 1, 0, 0, 0, []), (4, .if_icmp .ge 19, 3, 0, 0, 0, []), (7, .aload_n 0, 1, 0, 0, 0, []), (8, .iload_n 1, 1, 0, 0, 0, []), (9, .iload_n 3, 1, 0, 0, 0, []), (10, .invokevirtual 65, 3, 49, 3, 0, [1322, 1325, 119, 1324, 39, 4]), (13, .iload_n 2, 1, 0, 0, 0, []), (14, .if_icmp .eq 9, 3, 0, 0, 0, []), (17, .iinc 3 1, 3, 0, 0, 0, []), (20, .goto (-18), 3, 0, 0, 0, []), (23, .iload_n 3, 1, 0, 0, 0, []), (24, .ireturn, 1, 0, 0, 0, [])]]
def mX4_placeOf : xMeth := (yX4_placeOf, cX4_placeOf, 4, (some FieldType.int), kX4_placeOf)
def kX4_isAhead : xC := [[(0, .iconst 0, 1, 0, 0, 0, []), (1, .istore_n 3, 1, 0, 0, 0, []), (2, .iconst 0, 1, 0, 0, 0, []), (3, .istore 4, 2, 0, 0, 0, []), (5, .iload 4, 2, 0, 0, 0, []), (7, .iconst 5, 1, 0, 0, 0, []), (8, .if_icmp .ge 59, 3, 0, 0, 0, []), (11, .aload_n 0, 1, 0, 0, 0, []), (12, .iload 4, 2, 0, 0, 0, []), (14, .iload_n 1, 1, 0, 0, 0, []), (15, .invokevirtual 69, 3, 50, 3, 0, [1318, 1321, 119, 1320, 38, 4]), (18, .aload_n 0, 1, 0, 0, 0, []), (19, .iload 4, 2, 0, 0, 0, []), (21, .iload_n 2, 1, 0, 0, 0, []), (22, .invokevirtual 69, 3, 50, 3, 0, [1318, 1321, 119, 1320, 38, 4]), (25, .if_icmp .ge 7, 3, 0, 0, 0, []), (28, .iconst 1, 1, 0, 0, 0, []), (29, .goto 4, 3, 0, 0, 0, [])],
  [(32, .iconst 0, 1, 0, 0, 0, []), (33, .istore 5, 2, 0, 0, 0, []), (35, .iload_n 3, 1, 0, 0, 0, []), (36, .iload 5, 2, 0, 0, 0, []), (38, .ifCond .eq 13, 3, 0, 0, 0, []), (41, .aload_n 0, 1, 0, 0, 0, []), (42, .getfield 9, 3, 4, 0, 0, [260]), (45, .iload 4, 2, 0, 0, 0, []), (47, .iaload, 1, 0, 0, 0, []), (48, .goto 11, 3, 0, 0, 0, []), (51, .aload_n 0, 1, 0, 0, 0, []), (52, .getfield 9, 3, 4, 0, 0, [260]), (55, .iload 4, 2, 0, 0, 0, []), (57, .iaload, 1, 0, 0, 0, []), (58, .ineg, 1, 0, 0, 0, []), (59, .iadd, 1, 0, 0, 0, []), (60, .istore_n 3, 1, 0, 0, 0, []), (61, .iinc 4 1, 3, 0, 0, 0, [])],
  [(64, .goto (-59), 3, 0, 0, 0, []), (67, .iload_n 3, 1, 0, 0, 0, []), (68, .ifCond .le 7, 3, 0, 0, 0, []), (71, .iconst 1, 1, 0, 0, 0, []), (72, .goto 4, 3, 0, 0, 0, []), (75, .iconst 0, 1, 0, 0, 0, []), (76, .ireturn, 1, 0, 0, 0, [])]]
def mX4_isAhead : xMeth := (yX4_isAhead, cX4_isAhead, 6, (some FieldType.boolean), kX4_isAhead)
def kX4_aheadOfAll : xC := [[(0, .iconst 0, 1, 0, 0, 0, []), (1, .istore_n 1, 1, 0, 0, 0, []), (2, .iload_n 1, 1, 0, 0, 0, []), (3, .iconst 4, 1, 0, 0, 0, []), (4, .if_icmp .ge 48, 3, 0, 0, 0, []), (7, .iconst 0, 1, 0, 0, 0, []), (8, .istore_n 2, 1, 0, 0, 0, []), (9, .iconst 0, 1, 0, 0, 0, []), (10, .istore_n 3, 1, 0, 0, 0, []), (11, .iload_n 3, 1, 0, 0, 0, []), (12, .iconst 4, 1, 0, 0, 0, []), (13, .if_icmp .ge 26, 3, 0, 0, 0, []), (16, .iload_n 3, 1, 0, 0, 0, []), (17, .iload_n 1, 1, 0, 0, 0, []), (18, .if_icmp .eq 15, 3, 0, 0, 0, []), (21, .aload_n 0, 1, 0, 0, 0, []), (22, .iload_n 1, 1, 0, 0, 0, []), (23, .iload_n 3, 1, 0, 0, 0, []), (24, .invokevirtual 72, 3, 51, 3, 0, [1338, 1317, 119, 1315, 1316, 4]), (27, .ifCond .eq 6, 3, 0, 0, 0, []), (30, .iinc 2 1, 3, 0, 0, 0, [])],
  [(33, .iinc 3 1, 3, 0, 0, 0, []), (36, .goto (-25), 3, 0, 0, 0, []), (39, .iload_n 2, 1, 0, 0, 0, []), (40, .iconst 3, 1, 0, 0, 0, []), (41, .if_icmp .ne 5, 3, 0, 0, 0, []), (44, .iload_n 1, 1, 0, 0, 0, []), (45, .ireturn, 1, 0, 0, 0, []), (46, .iinc 1 1, 3, 0, 0, 0, []), (49, .goto (-47), 3, 0, 0, 0, []), (52, .iconst (-1), 1, 0, 0, 0, []), (53, .ireturn, 1, 0, 0, 0, [])]]
def mX4_aheadOfAll : xMeth := (yX4_aheadOfAll, cX4_aheadOfAll, 4, (some FieldType.int), kX4_aheadOfAll)
def kX4_pointsFor : xC := [[(0, .iconst 0, 1, 0, 0, 0, []), (1, .istore_n 2, 1, 0, 0, 0, []), (2, .iconst 0, 1, 0, 0, 0, []), (3, .istore_n 3, 1, 0, 0, 0, []), (4, .iload_n 3, 1, 0, 0, 0, []), (5, .iconst 5, 1, 0, 0, 0, []), (6, .if_icmp .ge 27, 3, 0, 0, 0, []), (9, .iload_n 2, 1, 0, 0, 0, []), (10, .aload_n 0, 1, 0, 0, 0, []), (11, .getfield 9, 3, 4, 0, 0, [260]), (14, .iload_n 3, 1, 0, 0, 0, []), (15, .iaload, 1, 0, 0, 0, []), (16, .iconst 3, 1, 0, 0, 0, []), (17, .aload_n 0, 1, 0, 0, 0, []), (18, .iload_n 3, 1, 0, 0, 0, []), (19, .iload_n 1, 1, 0, 0, 0, []), (20, .invokevirtual 69, 3, 50, 3, 0, [1318, 1321, 119, 1320, 38, 4]), (23, .isub, 1, 0, 0, 0, []), (24, .imul, 1, 0, 0, 0, []), (25, .iadd, 1, 0, 0, 0, []), (26, .istore_n 2, 1, 0, 0, 0, []), (27, .iinc 3 1, 3, 0, 0, 0, []), (30, .goto (-26), 3, 0, 0, 0, [])],
  [(33, .iload_n 2, 1, 0, 0, 0, []), (34, .ireturn, 1, 0, 0, 0, [])]]
def mX4_pointsFor : xMeth := (yX4_pointsFor, cX4_pointsFor, 4, (some FieldType.int), kX4_pointsFor)
def kX4_lastLeft : xC := [[(0, .bipush 15, 2, 0, 0, 0, []), (2, .istore_n 1, 1, 0, 0, 0, []), (3, .iconst 1, 1, 0, 0, 0, []), (4, .istore_n 2, 1, 0, 0, 0, []), (5, .iload_n 2, 1, 0, 0, 0, []), (6, .iconst 4, 1, 0, 0, 0, []), (7, .if_icmp .ge 21, 3, 0, 0, 0, []), (10, .iload_n 1, 1, 0, 0, 0, []), (11, .iconst 1, 1, 0, 0, 0, []), (12, .aload_n 0, 1, 0, 0, 0, []), (13, .iload_n 1, 1, 0, 0, 0, []), (14, .invokevirtual 76, 3, 55, 2, 0, [1355, 1358, 119, 1357, 40, 4]), (17, .ishl, 1, 0, 0, 0, []), (18, .iconst (-1), 1, 0, 0, 0, []), (19, .ixor, 1, 0, 0, 0, []), (20, .iand, 1, 0, 0, 0, []), (21, .istore_n 1, 1, 0, 0, 0, []), (22, .iinc 2 1, 3, 0, 0, 0, []), (25, .goto (-20), 3, 0, 0, 0, []), (28, .iconst 0, 1, 0, 0, 0, []), (29, .istore_n 2, 1, 0, 0, 0, []), (30, .iload_n 2, 1, 0, 0, 0, []), (31, .iconst 3, 1, 0, 0, 0, [])],
  [(32, .if_icmp .ge 17, 3, 0, 0, 0, []), (35, .iload_n 1, 1, 0, 0, 0, []), (36, .iload_n 2, 1, 0, 0, 0, []), (37, .invokestatic 80, 3, 194, 2, 1, [1360, 872, 112, 871]), (40, .ifCond .ne 9, 3, 0, 0, 0, []), (43, .iinc 2 1, 3, 0, 0, 0, []), (46, .goto (-16), 3, 0, 0, 0, []), (49, .iload_n 2, 1, 0, 0, 0, []), (50, .ireturn, 1, 0, 0, 0, [])]]
def mX4_lastLeft : xMeth := (yX4_lastLeft, cX4_lastLeft, 3, (some FieldType.int), kX4_lastLeft)
def kX4_weakest : xC := [[(0, .iconst 0, 1, 0, 0, 0, []), (1, .istore_n 2, 1, 0, 0, 0, []), (2, .ldc 85, 2, 0, 0, 2147483647, [1359]), (4, .istore_n 3, 1, 0, 0, 0, []), (5, .iconst 0, 1, 0, 0, 0, []), (6, .istore 4, 2, 0, 0, 0, []), (8, .iload 4, 2, 0, 0, 0, []), (10, .iconst 4, 1, 0, 0, 0, []), (11, .if_icmp .ge 39, 3, 0, 0, 0, []), (14, .iload_n 1, 1, 0, 0, 0, []), (15, .iload 4, 2, 0, 0, 0, []), (17, .invokestatic 80, 3, 194, 2, 1, [1360, 872, 112, 871]), (20, .ifCond .eq 24, 3, 0, 0, 0, []), (23, .aload_n 0, 1, 0, 0, 0, []), (24, .iload 4, 2, 0, 0, 0, []), (26, .iload_n 1, 1, 0, 0, 0, []), (27, .invokevirtual 86, 3, 56, 3, 0, [1361, 1364, 119, 1363, 41, 4]), (30, .istore 5, 2, 0, 0, 0, [])],
  [(32, .iload 5, 2, 0, 0, 0, []), (34, .iload_n 3, 1, 0, 0, 0, []), (35, .if_icmp .gt 9, 3, 0, 0, 0, []), (38, .iload 5, 2, 0, 0, 0, []), (40, .istore_n 3, 1, 0, 0, 0, []), (41, .iload 4, 2, 0, 0, 0, []), (43, .istore_n 2, 1, 0, 0, 0, []), (44, .iinc 4 1, 3, 0, 0, 0, []), (47, .goto (-39), 3, 0, 0, 0, []), (50, .iload_n 2, 1, 0, 0, 0, []), (51, .ireturn, 1, 0, 0, 0, [])]]
def mX4_weakest : xMeth := (yX4_weakest, cX4_weakest, 6, (some FieldType.int), kX4_weakest)
def kX4_firstVotes : xC := [[(0, .iconst 0, 1, 0, 0, 0, []), (1, .istore_n 3, 1, 0, 0, 0, []), (2, .iconst 0, 1, 0, 0, 0, []), (3, .istore 4, 2, 0, 0, 0, []), (5, .iload 4, 2, 0, 0, 0, []), (7, .iconst 5, 1, 0, 0, 0, []), (8, .if_icmp .ge 61, 3, 0, 0, 0, []), (11, .iconst 0, 1, 0, 0, 0, []), (12, .istore 5, 2, 0, 0, 0, []), (14, .iload 5, 2, 0, 0, 0, []), (16, .iconst 3, 1, 0, 0, 0, []), (17, .if_icmp .ge 24, 3, 0, 0, 0, []), (20, .iload_n 2, 1, 0, 0, 0, []), (21, .aload_n 0, 1, 0, 0, 0, []), (22, .iload 4, 2, 0, 0, 0, []), (24, .iload 5, 2, 0, 0, 0, []), (26, .invokevirtual 65, 3, 49, 3, 0, [1322, 1325, 119, 1324, 39, 4]), (29, .invokestatic 80, 3, 194, 2, 1, [1360, 872, 112, 871])],
  [(32, .ifCond .ne 9, 3, 0, 0, 0, []), (35, .iinc 5 1, 3, 0, 0, 0, []), (38, .goto (-24), 3, 0, 0, 0, []), (41, .aload_n 0, 1, 0, 0, 0, []), (42, .iload 4, 2, 0, 0, 0, []), (44, .iload 5, 2, 0, 0, 0, []), (46, .invokevirtual 65, 3, 49, 3, 0, [1322, 1325, 119, 1324, 39, 4]), (49, .iload_n 1, 1, 0, 0, 0, []), (50, .if_icmp .ne 13, 3, 0, 0, 0, []), (53, .iload_n 3, 1, 0, 0, 0, []), (54, .aload_n 0, 1, 0, 0, 0, []), (55, .getfield 9, 3, 4, 0, 0, [260]), (58, .iload 4, 2, 0, 0, 0, []), (60, .iaload, 1, 0, 0, 0, []), (61, .iadd, 1, 0, 0, 0, []), (62, .istore_n 3, 1, 0, 0, 0, []), (63, .iinc 4 1, 3, 0, 0, 0, [])],
  [(66, .goto (-61), 3, 0, 0, 0, []), (69, .iload_n 3, 1, 0, 0, 0, []), (70, .ireturn, 1, 0, 0, 0, [])]]
def mX4_firstVotes : xMeth := (yX4_firstVotes, cX4_firstVotes, 6, (some FieldType.int), kX4_firstVotes)
def kX5_init : xC := [[(0, .aload_n 0, 1, 0, 0, 0, []), (1, .invokespecial 3, 3, 0, 0, 8, [369, 140, 141]), (4, .aload_n 0, 1, 0, 0, 0, []), (5, .new 9, 3, 9, 6, 0, [370, 371, 121]), (8, .dup, 1, 0, 0, 0, []), (9, .invokespecial 11, 3, 98, 1, 1, [372, 374, 121, 373]), (12, .putfield 12, 3, 5, 0, 2, [400]), (15, .aload_n 0, 1, 0, 0, 0, []), (16, .iconst (-1), 1, 0, 0, 0, []), (17, .putfield 18, 3, 5, 4, 0, [406]), (20, .aload_n 0, 1, 0, 0, 0, []), (21, .sipush 300, 3, 0, 0, 0, []), (24, .newarray .int, 2, 0, 0, 0, [202]), (26, .putfield 22, 3, 5, 5, 2, [409]), (29, .aload_n 0, 1, 0, 0, 0, []), (30, .sipush 300, 3, 0, 0, 0, [])],
  [(33, .newarray .int, 2, 0, 0, 0, [202]), (35, .putfield 26, 3, 5, 6, 2, [411]), (38, .aload_n 0, 1, 0, 0, 0, []), (39, .bipush 24, 2, 0, 0, 0, []), (41, .newarray .int, 2, 0, 0, 0, [202]), (43, .putfield 29, 3, 5, 12, 2, [422]), (46, .aload_n 0, 1, 0, 0, 0, []), (47, .bipush 24, 2, 0, 0, 0, []), (49, .newarray .int, 2, 0, 0, 0, [202]), (51, .putfield 32, 3, 5, 13, 2, [424]), (54, .aload_n 0, 1, 0, 0, 0, []), (55, .bipush 24, 2, 0, 0, 0, []), (57, .newarray .int, 2, 0, 0, 0, [202]), (59, .putfield 35, 3, 5, 14, 2, [426]), (62, .return_, 1, 0, 0, 0, [])]]
def mX5_init : xMeth := (yX5_init, cX5_init, 1, none, kX5_init)
def kX5_readTape : xC := [[(0, .aload_n 0, 1, 0, 0, 0, []), (1, .getfield 12, 3, 5, 0, 0, [400]), (4, .invokevirtual 38, 3, 100, 1, 0, [553, 556, 121, 554, 555, 9]), (7, .aload_n 0, 1, 0, 0, 0, []), (8, .iconst 0, 1, 0, 0, 0, []), (9, .putfield 41, 3, 5, 1, 0, [402]), (12, .aload_n 0, 1, 0, 0, 0, []), (13, .iconst 0, 1, 0, 0, 0, []), (14, .putfield 44, 3, 5, 3, 0, [404]), (17, .aload_n 0, 1, 0, 0, 0, []), (18, .iconst (-1), 1, 0, 0, 0, []), (19, .putfield 18, 3, 5, 4, 0, [406]), (22, .aload_n 0, 1, 0, 0, 0, []), (23, .iconst 0, 1, 0, 0, 0, []), (24, .putfield 47, 3, 5, 7, 0, [413]), (27, .aload_n 0, 1, 0, 0, 0, []), (28, .iconst (-1), 1, 0, 0, 0, []), (29, .putfield 50, 3, 5, 8, 0, [415])],
  [(32, .aload_n 0, 1, 0, 0, 0, []), (33, .iconst (-1), 1, 0, 0, 0, []), (34, .putfield 53, 3, 5, 10, 0, [419]), (37, .aload_n 0, 1, 0, 0, 0, []), (38, .iconst 0, 1, 0, 0, 0, []), (39, .putfield 56, 3, 5, 15, 0, [429]), (42, .iconst 0, 1, 0, 0, 0, []), (43, .istore_n 1, 1, 0, 0, 0, []), (44, .iload_n 1, 1, 0, 0, 0, []), (45, .bipush 24, 2, 0, 0, 0, []), (47, .if_icmp .gt 22, 3, 0, 0, 0, []), (50, .aload_n 0, 1, 0, 0, 0, []), (51, .invokevirtual 59, 3, 59, 1, 0, [697, 700, 120, 699, 6, 5]), (54, .bipush 40, 2, 0, 0, 0, []), (56, .if_icmp .eq 13, 3, 0, 0, 0, []), (59, .aload_n 0, 1, 0, 0, 0, []), (60, .invokevirtual 63, 3, 63, 1, 0, [701, 704, 120, 703, 7, 5]), (63, .iinc 1 1, 3, 0, 0, 0, [])],
  [(66, .goto (-22), 3, 0, 0, 0, []), (69, .aload_n 0, 1, 0, 0, 0, []), (70, .getfield 44, 3, 5, 3, 0, [404]), (73, .ifCond .ne 14, 3, 0, 0, 0, []), (76, .new 66, 3, 10, 9, 0, [780, 781, 130]), (79, .dup, 1, 0, 0, 0, []), (80, .aload_n 0, 1, 0, 0, 0, []), (81, .invokespecial 68, 3, 109, 2, 0, [782, 784, 130, 783]), (84, .goto 4, 3, 0, 0, 0, []), (87, .aconst_null, 1, 0, 0, 0, []), (88, .areturn, 1, 0, 0, 0, [])]]
def mX5_readTape : xMeth := (yX5_readTape, cX5_readTape, 2, (some (FieldType.object "MagpieAccounts$Text")), kX5_readTape)
def kX5_kind : xC := [[(0, .aload_n 0, 1, 0, 0, 0, []), (1, .getfield 41, 3, 5, 1, 0, [402]), (4, .ifCond .lt 32, 3, 0, 0, 0, []), (7, .aload_n 0, 1, 0, 0, 0, []), (8, .getfield 41, 3, 5, 1, 0, [402]), (11, .aload_n 0, 1, 0, 0, 0, []), (12, .getfield 12, 3, 5, 0, 0, [400]), (15, .getfield 71, 3, 9, 5, 0, [386]), (18, .if_icmp .ge 18, 3, 0, 0, 0, []), (21, .aload_n 0, 1, 0, 0, 0, []), (22, .getfield 12, 3, 5, 0, 0, [400]), (25, .getfield 74, 3, 9, 2, 0, [380]), (28, .aload_n 0, 1, 0, 0, 0, []), (29, .getfield 41, 3, 5, 1, 0, [402])],
  [(32, .iaload, 1, 0, 0, 0, []), (33, .goto 5, 3, 0, 0, 0, []), (36, .bipush 40, 2, 0, 0, 0, []), (38, .ireturn, 1, 0, 0, 0, [])]]
def mX5_kind : xMeth := (yX5_kind, cX5_kind, 1, (some FieldType.int), kX5_kind)
def kX5_fail : xC := [[(0, .aload_n 0, 1, 0, 0, 0, []), (1, .getfield 44, 3, 5, 3, 0, [404]), (4, .ifCond .ne 44, 3, 0, 0, 0, []), (7, .aload_n 0, 1, 0, 0, 0, []), (8, .getfield 41, 3, 5, 1, 0, [402]), (11, .iconst 0, 1, 0, 0, 0, []), (12, .aload_n 0, 1, 0, 0, 0, []), (13, .getfield 12, 3, 5, 0, 0, [400]), (16, .getfield 71, 3, 9, 5, 0, [386]), (19, .iconst 1, 1, 0, 0, 0, []), (20, .isub, 1, 0, 0, 0, []), (21, .invokestatic 77, 3, 189, 3, 1, [708, 521, 112, 520]), (24, .ifCond .eq 24, 3, 0, 0, 0, []), (27, .aload_n 0, 1, 0, 0, 0, []), (28, .iload_n 1, 1, 0, 0, 0, []), (29, .putfield 44, 3, 5, 3, 0, [404])],
  [(32, .aload_n 0, 1, 0, 0, 0, []), (33, .aload_n 0, 1, 0, 0, 0, []), (34, .getfield 12, 3, 5, 0, 0, [400]), (37, .getfield 81, 3, 9, 3, 0, [382]), (40, .aload_n 0, 1, 0, 0, 0, []), (41, .getfield 41, 3, 5, 1, 0, [402]), (44, .iaload, 1, 0, 0, 0, []), (45, .putfield 18, 3, 5, 4, 0, [406]), (48, .aload_n 0, 1, 0, 0, 0, []), (49, .aload_n 0, 1, 0, 0, 0, []), (50, .getfield 12, 3, 5, 0, 0, [400]), (53, .getfield 71, 3, 9, 5, 0, [386]), (56, .iconst 1, 1, 0, 0, 0, []), (57, .isub, 1, 0, 0, 0, []), (58, .putfield 41, 3, 5, 1, 0, [402]), (61, .return_, 1, 0, 0, 0, [])]]
def mX5_fail : xMeth := (yX5_fail, cX5_fail, 2, none, kX5_fail)
def kX5_expect : xC := [[(0, .aload_n 0, 1, 0, 0, 0, []), (1, .invokevirtual 59, 3, 59, 1, 0, [697, 700, 120, 699, 6, 5]), (4, .iload_n 1, 1, 0, 0, 0, []), (5, .if_icmp .ne 16, 3, 0, 0, 0, []), (8, .aload_n 0, 1, 0, 0, 0, []), (9, .dup, 1, 0, 0, 0, []), (10, .getfield 41, 3, 5, 1, 0, [402]), (13, .iconst 1, 1, 0, 0, 0, []), (14, .iadd, 1, 0, 0, 0, []), (15, .putfield 41, 3, 5, 1, 0, [402]), (18, .goto 8, 3, 0, 0, 0, []), (21, .aload_n 0, 1, 0, 0, 0, []), (22, .iconst 1, 1, 0, 0, 0, []), (23, .invokevirtual 84, 3, 60, 2, 0, [709, 712, 120, 711, 8, 5]), (26, .return_, 1, 0, 0, 0, [])]]
def mX5_expect : xMeth := (yX5_expect, cX5_expect, 2, none, kX5_expect)
def kX5_readNumber : xC := [[(0, .aload_n 0, 1, 0, 0, 0, []), (1, .invokevirtual 59, 3, 59, 1, 0, [697, 700, 120, 699, 6, 5]), (4, .bipush 38, 2, 0, 0, 0, []), (6, .if_icmp .eq 10, 3, 0, 0, 0, []), (9, .aload_n 0, 1, 0, 0, 0, []), (10, .iconst 1, 1, 0, 0, 0, []), (11, .invokevirtual 84, 3, 60, 2, 0, [709, 712, 120, 711, 8, 5]), (14, .iconst 0, 1, 0, 0, 0, []), (15, .ireturn, 1, 0, 0, 0, []), (16, .aload_n 0, 1, 0, 0, 0, []), (17, .getfield 12, 3, 5, 0, 0, [400]), (20, .getfield 88, 3, 9, 4, 0, [384]), (23, .aload_n 0, 1, 0, 0, 0, []), (24, .getfield 41, 3, 5, 1, 0, [402]), (27, .iaload, 1, 0, 0, 0, []), (28, .istore_n 3, 1, 0, 0, 0, []), (29, .iload_n 3, 1, 0, 0, 0, []), (30, .iload_n 1, 1, 0, 0, 0, []), (31, .iload_n 2, 1, 0, 0, 0, [])],
  [(32, .invokestatic 77, 3, 189, 3, 1, [708, 521, 112, 520]), (35, .ifCond .ne 10, 3, 0, 0, 0, []), (38, .aload_n 0, 1, 0, 0, 0, []), (39, .iconst 2, 1, 0, 0, 0, []), (40, .invokevirtual 84, 3, 60, 2, 0, [709, 712, 120, 711, 8, 5]), (43, .iconst 0, 1, 0, 0, 0, []), (44, .ireturn, 1, 0, 0, 0, []), (45, .aload_n 0, 1, 0, 0, 0, []), (46, .dup, 1, 0, 0, 0, []), (47, .getfield 41, 3, 5, 1, 0, [402]), (50, .iconst 1, 1, 0, 0, 0, []), (51, .iadd, 1, 0, 0, 0, []), (52, .putfield 41, 3, 5, 1, 0, [402]), (55, .iload_n 3, 1, 0, 0, 0, []), (56, .ireturn, 1, 0, 0, 0, [])]]
def mX5_readNumber : xMeth := (yX5_readNumber, cX5_readNumber, 4, (some FieldType.int), kX5_readNumber)
def kX5_readClause : xC := [[(0, .aload_n 0, 1, 0, 0, 0, []), (1, .invokevirtual 59, 3, 59, 1, 0, [697, 700, 120, 699, 6, 5]), (4, .istore_n 1, 1, 0, 0, 0, []), (5, .iload_n 1, 1, 0, 0, 0, []), (6, .invokestatic 91, 3, 64, 1, 0, [705, 707, 120, 706]), (9, .ifCond .ne 11, 3, 0, 0, 0, []), (12, .aload_n 0, 1, 0, 0, 0, []), (13, .iconst 1, 1, 0, 0, 0, []), (14, .invokevirtual 84, 3, 60, 2, 0, [709, 712, 120, 711, 8, 5]), (17, .goto 138, 3, 0, 0, 0, []), (20, .iload_n 1, 1, 0, 0, 0, []), (21, .bipush 18, 2, 0, 0, 0, []), (23, .if_icmp .ne 11, 3, 0, 0, 0, []), (26, .aload_n 0, 1, 0, 0, 0, []), (27, .getfield 50, 3, 5, 8, 0, [415]), (30, .iconst (-1), 1, 0, 0, 0, []), (31, .if_icmp .ne 17, 3, 0, 0, 0, [])],
  [(34, .iload_n 1, 1, 0, 0, 0, []), (35, .bipush 19, 2, 0, 0, 0, []), (37, .if_icmp .ne 19, 3, 0, 0, 0, []), (40, .aload_n 0, 1, 0, 0, 0, []), (41, .getfield 53, 3, 5, 10, 0, [419]), (44, .iconst (-1), 1, 0, 0, 0, []), (45, .if_icmp .eq 11, 3, 0, 0, 0, []), (48, .aload_n 0, 1, 0, 0, 0, []), (49, .iconst 4, 1, 0, 0, 0, []), (50, .invokevirtual 84, 3, 60, 2, 0, [709, 712, 120, 711, 8, 5]), (53, .goto 102, 3, 0, 0, 0, []), (56, .aload_n 0, 1, 0, 0, 0, []), (57, .getfield 56, 3, 5, 15, 0, [429]), (60, .bipush 24, 2, 0, 0, 0, []), (62, .if_icmp .lt 12, 3, 0, 0, 0, [])],
  [(65, .aload_n 0, 1, 0, 0, 0, []), (66, .bipush 6, 2, 0, 0, 0, []), (68, .invokevirtual 84, 3, 60, 2, 0, [709, 712, 120, 711, 8, 5]), (71, .goto 84, 3, 0, 0, 0, []), (74, .aload_n 0, 1, 0, 0, 0, []), (75, .dup, 1, 0, 0, 0, []), (76, .getfield 41, 3, 5, 1, 0, [402]), (79, .iconst 1, 1, 0, 0, 0, []), (80, .iadd, 1, 0, 0, 0, []), (81, .putfield 41, 3, 5, 1, 0, [402]), (84, .aload_n 0, 1, 0, 0, 0, []), (85, .getfield 29, 3, 5, 12, 0, [422]), (88, .aload_n 0, 1, 0, 0, 0, []), (89, .getfield 56, 3, 5, 15, 0, [429]), (92, .iload_n 1, 1, 0, 0, 0, []), (93, .iastore, 1, 0, 0, 0, []), (94, .aload_n 0, 1, 0, 0, 0, []), (95, .getfield 32, 3, 5, 13, 0, [424])],
  [(98, .aload_n 0, 1, 0, 0, 0, []), (99, .getfield 56, 3, 5, 15, 0, [429]), (102, .iconst 0, 1, 0, 0, 0, []), (103, .iastore, 1, 0, 0, 0, []), (104, .aload_n 0, 1, 0, 0, 0, []), (105, .getfield 35, 3, 5, 14, 0, [426]), (108, .aload_n 0, 1, 0, 0, 0, []), (109, .getfield 56, 3, 5, 15, 0, [429]), (112, .iconst 0, 1, 0, 0, 0, []), (113, .iastore, 1, 0, 0, 0, []), (114, .iload_n 1, 1, 0, 0, 0, []), (115, .bipush 18, 2, 0, 0, 0, []), (117, .if_icmp .eq 9, 3, 0, 0, 0, []), (120, .iload_n 1, 1, 0, 0, 0, []), (121, .bipush 19, 2, 0, 0, 0, []), (123, .if_icmp .ne 11, 3, 0, 0, 0, []), (126, .aload_n 0, 1, 0, 0, 0, []), (127, .iload_n 1, 1, 0, 0, 0, [])],
  [(128, .invokevirtual 95, 3, 66, 2, 0, [713, 716, 120, 715, 9, 5]), (131, .goto 8, 3, 0, 0, 0, []), (134, .aload_n 0, 1, 0, 0, 0, []), (135, .iload_n 1, 1, 0, 0, 0, []), (136, .invokevirtual 98, 3, 65, 2, 0, [776, 779, 120, 778, 24, 5]), (139, .aload_n 0, 1, 0, 0, 0, []), (140, .bipush 35, 2, 0, 0, 0, []), (142, .invokevirtual 101, 3, 61, 2, 0, [748, 751, 120, 750, 17, 5]), (145, .aload_n 0, 1, 0, 0, 0, []), (146, .dup, 1, 0, 0, 0, []), (147, .getfield 56, 3, 5, 15, 0, [429]), (150, .iconst 1, 1, 0, 0, 0, []), (151, .iadd, 1, 0, 0, 0, []), (152, .putfield 56, 3, 5, 15, 0, [429]), (155, .return_, 1, 0, 0, 0, [])]]
def mX5_readClause : xMeth := (yX5_readClause, cX5_readClause, 2, none, kX5_readClause)
def kX5_isVerb : xC := [[(0, .iload_n 0, 1, 0, 0, 0, []), (1, .bipush 18, 2, 0, 0, 0, []), (3, .bipush 23, 2, 0, 0, 0, []), (5, .invokestatic 77, 3, 189, 3, 1, [708, 521, 112, 520]), (8, .ifCond .ne 13, 3, 0, 0, 0, []), (11, .iload_n 0, 1, 0, 0, 0, []), (12, .bipush 9, 2, 0, 0, 0, []), (14, .if_icmp .eq 7, 3, 0, 0, 0, []), (17, .iload_n 0, 1, 0, 0, 0, []), (18, .ifCond .ne 7, 3, 0, 0, 0, []), (21, .iconst 1, 1, 0, 0, 0, []), (22, .goto 4, 3, 0, 0, 0, []), (25, .iconst 0, 1, 0, 0, 0, []), (26, .ireturn, 1, 0, 0, 0, [])]]
def mX5_isVerb : xMeth := (yX5_isVerb, cX5_isVerb, 1, (some FieldType.boolean), kX5_isVerb)
def kX5_readNumbers : xC := [[(0, .iload_n 1, 1, 0, 0, 0, []), (1, .lookupswitch 163 #[(0, 144), (9, 83), (20, 43), (23, 124)], 43, 0, 0, 0, [])],
  [(44, .aload_n 0, 1, 0, 0, 0, []), (45, .getfield 32, 3, 5, 13, 0, [424]), (48, .aload_n 0, 1, 0, 0, 0, []), (49, .getfield 56, 3, 5, 15, 0, [429]), (52, .aload_n 0, 1, 0, 0, 0, []), (53, .iconst 1, 1, 0, 0, 0, []), (54, .bipush 12, 2, 0, 0, 0, []), (56, .invokevirtual 104, 3, 62, 3, 0, [729, 732, 120, 731, 13, 5]), (59, .iastore, 1, 0, 0, 0, []), (60, .aload_n 0, 1, 0, 0, 0, []), (61, .iconst 5, 1, 0, 0, 0, []), (62, .invokevirtual 101, 3, 61, 2, 0, [748, 751, 120, 750, 17, 5])],
  [(65, .aload_n 0, 1, 0, 0, 0, []), (66, .getfield 35, 3, 5, 14, 0, [426]), (69, .aload_n 0, 1, 0, 0, 0, []), (70, .getfield 56, 3, 5, 15, 0, [429]), (73, .aload_n 0, 1, 0, 0, 0, []), (74, .iconst 0, 1, 0, 0, 0, []), (75, .bipush 10, 2, 0, 0, 0, []), (77, .invokevirtual 104, 3, 62, 3, 0, [729, 732, 120, 731, 13, 5]), (80, .iastore, 1, 0, 0, 0, []), (81, .goto 99, 3, 0, 0, 0, []), (84, .aload_n 0, 1, 0, 0, 0, []), (85, .getfield 32, 3, 5, 13, 0, [424]), (88, .aload_n 0, 1, 0, 0, 0, []), (89, .getfield 56, 3, 5, 15, 0, [429]), (92, .aload_n 0, 1, 0, 0, 0, []), (93, .iconst 0, 1, 0, 0, 0, []), (94, .bipush 8, 2, 0, 0, 0, [])],
  [(96, .invokevirtual 104, 3, 62, 3, 0, [729, 732, 120, 731, 13, 5]), (99, .iastore, 1, 0, 0, 0, []), (100, .aload_n 0, 1, 0, 0, 0, []), (101, .bipush 24, 2, 0, 0, 0, []), (103, .invokevirtual 101, 3, 61, 2, 0, [748, 751, 120, 750, 17, 5]), (106, .aload_n 0, 1, 0, 0, 0, []), (107, .getfield 35, 3, 5, 14, 0, [426]), (110, .aload_n 0, 1, 0, 0, 0, []), (111, .getfield 56, 3, 5, 15, 0, [429]), (114, .aload_n 0, 1, 0, 0, 0, []), (115, .iconst 0, 1, 0, 0, 0, []), (116, .bipush 9, 2, 0, 0, 0, []), (118, .invokevirtual 104, 3, 62, 3, 0, [729, 732, 120, 731, 13, 5]), (121, .iastore, 1, 0, 0, 0, []), (122, .goto 58, 3, 0, 0, 0, []), (125, .aload_n 0, 1, 0, 0, 0, []), (126, .getfield 32, 3, 5, 13, 0, [424])],
  [(129, .aload_n 0, 1, 0, 0, 0, []), (130, .getfield 56, 3, 5, 15, 0, [429]), (133, .aload_n 0, 1, 0, 0, 0, []), (134, .iconst 1, 1, 0, 0, 0, []), (135, .sipush 999, 3, 0, 0, 0, []), (138, .invokevirtual 104, 3, 62, 3, 0, [729, 732, 120, 731, 13, 5]), (141, .iastore, 1, 0, 0, 0, []), (142, .goto 38, 3, 0, 0, 0, []), (145, .aload_n 0, 1, 0, 0, 0, []), (146, .getfield 32, 3, 5, 13, 0, [424]), (149, .aload_n 0, 1, 0, 0, 0, []), (150, .getfield 56, 3, 5, 15, 0, [429]), (153, .aload_n 0, 1, 0, 0, 0, []), (154, .iconst 1, 1, 0, 0, 0, []), (155, .bipush 60, 2, 0, 0, 0, []), (157, .invokevirtual 104, 3, 62, 3, 0, [729, 732, 120, 731, 13, 5])],
  [(160, .iastore, 1, 0, 0, 0, []), (161, .goto 19, 3, 0, 0, 0, []), (164, .aload_n 0, 1, 0, 0, 0, []), (165, .getfield 32, 3, 5, 13, 0, [424]), (168, .aload_n 0, 1, 0, 0, 0, []), (169, .getfield 56, 3, 5, 15, 0, [429]), (172, .aload_n 0, 1, 0, 0, 0, []), (173, .iconst 0, 1, 0, 0, 0, []), (174, .bipush 7, 2, 0, 0, 0, []), (176, .invokevirtual 104, 3, 62, 3, 0, [729, 732, 120, 731, 13, 5]), (179, .iastore, 1, 0, 0, 0, []), (180, .return_, 1, 0, 0, 0, [])]]
def mX5_readNumbers : xMeth := (yX5_readNumbers, cX5_readNumbers, 2, none, kX5_readNumbers)
def kX5_readLaw : xC := [[(0, .aload_n 0, 1, 0, 0, 0, []), (1, .iload_n 1, 1, 0, 0, 0, []), (2, .bipush 18, 2, 0, 0, 0, []), (4, .if_icmp .ne 7, 3, 0, 0, 0, []), (7, .iconst 1, 1, 0, 0, 0, []), (8, .goto 4, 3, 0, 0, 0, []), (11, .iconst 0, 1, 0, 0, 0, []), (12, .putfield 108, 3, 5, 2, 3, [403]), (15, .aload_n 0, 1, 0, 0, 0, []), (16, .getfield 47, 3, 5, 7, 0, [413]), (19, .istore_n 2, 1, 0, 0, 0, []), (20, .aload_n 0, 1, 0, 0, 0, []), (21, .iconst 0, 1, 0, 0, 0, []), (22, .invokevirtual 112, 3, 68, 2, 0, [717, 720, 120, 719, 10, 5]), (25, .aload_n 0, 1, 0, 0, 0, []), (26, .getfield 108, 3, 5, 2, 0, [403]), (29, .ifCond .eq 19, 3, 0, 0, 0, [])],
  [(32, .aload_n 0, 1, 0, 0, 0, []), (33, .iload_n 2, 1, 0, 0, 0, []), (34, .putfield 50, 3, 5, 8, 0, [415]), (37, .aload_n 0, 1, 0, 0, 0, []), (38, .aload_n 0, 1, 0, 0, 0, []), (39, .getfield 47, 3, 5, 7, 0, [413]), (42, .putfield 115, 3, 5, 9, 0, [417]), (45, .goto 16, 3, 0, 0, 0, []), (48, .aload_n 0, 1, 0, 0, 0, []), (49, .iload_n 2, 1, 0, 0, 0, []), (50, .putfield 53, 3, 5, 10, 0, [419]), (53, .aload_n 0, 1, 0, 0, 0, []), (54, .aload_n 0, 1, 0, 0, 0, []), (55, .getfield 47, 3, 5, 7, 0, [413]), (58, .putfield 118, 3, 5, 11, 0, [421]), (61, .return_, 1, 0, 0, 0, [])]]
def mX5_readLaw : xMeth := (yX5_readLaw, cX5_readLaw, 3, none, kX5_readLaw)
def kX5_emit : xC := [[(0, .aload_n 0, 1, 0, 0, 0, []), (1, .getfield 47, 3, 5, 7, 0, [413]), (4, .sipush 300, 3, 0, 0, 0, []), (7, .if_icmp .ge 33, 3, 0, 0, 0, []), (10, .aload_n 0, 1, 0, 0, 0, []), (11, .getfield 22, 3, 5, 5, 0, [409]), (14, .aload_n 0, 1, 0, 0, 0, []), (15, .getfield 47, 3, 5, 7, 0, [413]), (18, .iload_n 1, 1, 0, 0, 0, []), (19, .iastore, 1, 0, 0, 0, []), (20, .aload_n 0, 1, 0, 0, 0, []), (21, .getfield 26, 3, 5, 6, 0, [411]), (24, .aload_n 0, 1, 0, 0, 0, []), (25, .getfield 47, 3, 5, 7, 0, [413]), (28, .iload_n 2, 1, 0, 0, 0, []), (29, .iastore, 1, 0, 0, 0, []), (30, .aload_n 0, 1, 0, 0, 0, []), (31, .dup, 1, 0, 0, 0, [])],
  [(32, .getfield 47, 3, 5, 7, 0, [413]), (35, .iconst 1, 1, 0, 0, 0, []), (36, .iadd, 1, 0, 0, 0, []), (37, .putfield 47, 3, 5, 7, 0, [413]), (40, .return_, 1, 0, 0, 0, [])]]
def mX5_emit : xMeth := (yX5_emit, cX5_emit, 3, none, kX5_emit)
def kX5_readSum : xC := [[(0, .aload_n 0, 1, 0, 0, 0, []), (1, .iload_n 1, 1, 0, 0, 0, []), (2, .invokevirtual 121, 3, 69, 2, 0, [721, 724, 120, 723, 11, 5]), (5, .iconst 0, 1, 0, 0, 0, []), (6, .istore_n 2, 1, 0, 0, 0, []), (7, .iload_n 2, 1, 0, 0, 0, []), (8, .sipush 300, 3, 0, 0, 0, []), (11, .if_icmp .ge 53, 3, 0, 0, 0, []), (14, .aload_n 0, 1, 0, 0, 0, []), (15, .invokevirtual 59, 3, 59, 1, 0, [697, 700, 120, 699, 6, 5]), (18, .bipush 29, 2, 0, 0, 0, []), (20, .if_icmp .eq 12, 3, 0, 0, 0, []), (23, .aload_n 0, 1, 0, 0, 0, []), (24, .invokevirtual 59, 3, 59, 1, 0, [697, 700, 120, 699, 6, 5]), (27, .bipush 30, 2, 0, 0, 0, []), (29, .if_icmp .ne 35, 3, 0, 0, 0, [])],
  [(32, .aload_n 0, 1, 0, 0, 0, []), (33, .invokevirtual 59, 3, 59, 1, 0, [697, 700, 120, 699, 6, 5]), (36, .istore_n 3, 1, 0, 0, 0, []), (37, .aload_n 0, 1, 0, 0, 0, []), (38, .dup, 1, 0, 0, 0, []), (39, .getfield 41, 3, 5, 1, 0, [402]), (42, .iconst 1, 1, 0, 0, 0, []), (43, .iadd, 1, 0, 0, 0, []), (44, .putfield 41, 3, 5, 1, 0, [402]), (47, .aload_n 0, 1, 0, 0, 0, []), (48, .iload_n 1, 1, 0, 0, 0, []), (49, .invokevirtual 121, 3, 69, 2, 0, [721, 724, 120, 723, 11, 5]), (52, .aload_n 0, 1, 0, 0, 0, []), (53, .iload_n 3, 1, 0, 0, 0, []), (54, .iconst 0, 1, 0, 0, 0, []), (55, .invokevirtual 124, 3, 67, 3, 0, [733, 736, 120, 735, 14, 5]), (58, .iinc 2 1, 3, 0, 0, 0, []), (61, .goto (-54), 3, 0, 0, 0, [])],
  [(64, .return_, 1, 0, 0, 0, [])]]
def mX5_readSum : xMeth := (yX5_readSum, cX5_readSum, 4, none, kX5_readSum)
def kX5_readProduct : xC := [[(0, .aload_n 0, 1, 0, 0, 0, []), (1, .iload_n 1, 1, 0, 0, 0, []), (2, .invokevirtual 128, 3, 70, 2, 0, [725, 728, 120, 727, 12, 5]), (5, .iconst 0, 1, 0, 0, 0, []), (6, .istore_n 2, 1, 0, 0, 0, []), (7, .iload_n 2, 1, 0, 0, 0, []), (8, .sipush 300, 3, 0, 0, 0, []), (11, .if_icmp .ge 53, 3, 0, 0, 0, []), (14, .aload_n 0, 1, 0, 0, 0, []), (15, .invokevirtual 59, 3, 59, 1, 0, [697, 700, 120, 699, 6, 5]), (18, .bipush 31, 2, 0, 0, 0, []), (20, .if_icmp .eq 12, 3, 0, 0, 0, []), (23, .aload_n 0, 1, 0, 0, 0, []), (24, .invokevirtual 59, 3, 59, 1, 0, [697, 700, 120, 699, 6, 5]), (27, .bipush 32, 2, 0, 0, 0, []), (29, .if_icmp .ne 35, 3, 0, 0, 0, [])],
  [(32, .aload_n 0, 1, 0, 0, 0, []), (33, .invokevirtual 59, 3, 59, 1, 0, [697, 700, 120, 699, 6, 5]), (36, .istore_n 3, 1, 0, 0, 0, []), (37, .aload_n 0, 1, 0, 0, 0, []), (38, .dup, 1, 0, 0, 0, []), (39, .getfield 41, 3, 5, 1, 0, [402]), (42, .iconst 1, 1, 0, 0, 0, []), (43, .iadd, 1, 0, 0, 0, []), (44, .putfield 41, 3, 5, 1, 0, [402]), (47, .aload_n 0, 1, 0, 0, 0, []), (48, .iload_n 1, 1, 0, 0, 0, []), (49, .invokevirtual 128, 3, 70, 2, 0, [725, 728, 120, 727, 12, 5]), (52, .aload_n 0, 1, 0, 0, 0, []), (53, .iload_n 3, 1, 0, 0, 0, []), (54, .iconst 0, 1, 0, 0, 0, []), (55, .invokevirtual 124, 3, 67, 3, 0, [733, 736, 120, 735, 14, 5]), (58, .iinc 2 1, 3, 0, 0, 0, []), (61, .goto (-54), 3, 0, 0, 0, [])],
  [(64, .return_, 1, 0, 0, 0, [])]]
def mX5_readProduct : xMeth := (yX5_readProduct, cX5_readProduct, 4, none, kX5_readProduct)
def kX5_readOne : xC := [[(0, .aload_n 0, 1, 0, 0, 0, []), (1, .invokevirtual 59, 3, 59, 1, 0, [697, 700, 120, 699, 6, 5]), (4, .istore_n 2, 1, 0, 0, 0, []), (5, .iload_n 2, 1, 0, 0, 0, []), (6, .bipush 38, 2, 0, 0, 0, []), (8, .if_icmp .ne 20, 3, 0, 0, 0, []), (11, .aload_n 0, 1, 0, 0, 0, []), (12, .bipush 38, 2, 0, 0, 0, []), (14, .aload_n 0, 1, 0, 0, 0, []), (15, .iconst 0, 1, 0, 0, 0, []), (16, .sipush 9999, 3, 0, 0, 0, []), (19, .invokevirtual 104, 3, 62, 3, 0, [729, 732, 120, 731, 13, 5]), (22, .invokevirtual 124, 3, 67, 3, 0, [733, 736, 120, 735, 14, 5]), (25, .goto 68, 3, 0, 0, 0, []), (28, .iload_n 2, 1, 0, 0, 0, []), (29, .iconst 0, 1, 0, 0, 0, []), (30, .bipush 8, 2, 0, 0, 0, [])],
  [(32, .invokestatic 77, 3, 189, 3, 1, [708, 521, 112, 520]), (35, .ifCond .eq 11, 3, 0, 0, 0, []), (38, .aload_n 0, 1, 0, 0, 0, []), (39, .iload_n 2, 1, 0, 0, 0, []), (40, .invokevirtual 131, 3, 72, 2, 0, [737, 740, 120, 739, 15, 5]), (43, .goto 50, 3, 0, 0, 0, []), (46, .iload_n 2, 1, 0, 0, 0, []), (47, .invokestatic 134, 3, 71, 1, 0, [741, 743, 120, 742]), (50, .ifCond .ne 11, 3, 0, 0, 0, []), (53, .aload_n 0, 1, 0, 0, 0, []), (54, .iconst 1, 1, 0, 0, 0, []), (55, .invokevirtual 84, 3, 60, 2, 0, [709, 712, 120, 711, 8, 5]), (58, .goto 35, 3, 0, 0, 0, []), (61, .iload_n 1, 1, 0, 0, 0, []), (62, .bipush 8, 2, 0, 0, 0, [])],
  [(64, .if_icmp .lt 11, 3, 0, 0, 0, []), (67, .aload_n 0, 1, 0, 0, 0, []), (68, .iconst 3, 1, 0, 0, 0, []), (69, .invokevirtual 84, 3, 60, 2, 0, [709, 712, 120, 711, 8, 5]), (72, .goto 21, 3, 0, 0, 0, []), (75, .aload_n 0, 1, 0, 0, 0, []), (76, .dup, 1, 0, 0, 0, []), (77, .getfield 41, 3, 5, 1, 0, [402]), (80, .iconst 1, 1, 0, 0, 0, []), (81, .iadd, 1, 0, 0, 0, []), (82, .putfield 41, 3, 5, 1, 0, [402]), (85, .aload_n 0, 1, 0, 0, 0, []), (86, .iload_n 2, 1, 0, 0, 0, []), (87, .iload_n 1, 1, 0, 0, 0, []), (88, .iconst 1, 1, 0, 0, 0, []), (89, .iadd, 1, 0, 0, 0, []), (90, .invokevirtual 137, 3, 73, 3, 0, [744, 747, 120, 746, 16, 5]), (93, .return_, 1, 0, 0, 0, [])]]
def mX5_readOne : xMeth := (yX5_readOne, cX5_readOne, 3, none, kX5_readOne)
def kX5_opensOne : xC := [[(0, .iload_n 0, 1, 0, 0, 0, []), (1, .bipush 33, 2, 0, 0, 0, []), (3, .if_icmp .eq 27, 3, 0, 0, 0, []), (6, .iload_n 0, 1, 0, 0, 0, []), (7, .bipush 30, 2, 0, 0, 0, []), (9, .if_icmp .eq 21, 3, 0, 0, 0, []), (12, .iload_n 0, 1, 0, 0, 0, []), (13, .bipush 9, 2, 0, 0, 0, []), (15, .if_icmp .eq 15, 3, 0, 0, 0, []), (18, .iload_n 0, 1, 0, 0, 0, []), (19, .bipush 10, 2, 0, 0, 0, []), (21, .if_icmp .eq 9, 3, 0, 0, 0, []), (24, .iload_n 0, 1, 0, 0, 0, []), (25, .bipush 14, 2, 0, 0, 0, []), (27, .if_icmp .ne 7, 3, 0, 0, 0, []), (30, .iconst 1, 1, 0, 0, 0, []), (31, .goto 4, 3, 0, 0, 0, [])],
  [(34, .iconst 0, 1, 0, 0, 0, []), (35, .ireturn, 1, 0, 0, 0, [])]]
def mX5_opensOne : xMeth := (yX5_opensOne, cX5_opensOne, 1, (some FieldType.boolean), kX5_opensOne)
def kX5_readName : xC := [[(0, .aload_n 0, 1, 0, 0, 0, []), (1, .getfield 108, 3, 5, 2, 0, [403]), (4, .ifCond .eq 17, 3, 0, 0, 0, []), (7, .iload_n 1, 1, 0, 0, 0, []), (8, .bipush 7, 2, 0, 0, 0, []), (10, .if_icmp .lt 7, 3, 0, 0, 0, []), (13, .iconst 1, 1, 0, 0, 0, []), (14, .goto 14, 3, 0, 0, 0, []), (17, .iconst 0, 1, 0, 0, 0, []), (18, .goto 10, 3, 0, 0, 0, []), (21, .iload_n 1, 1, 0, 0, 0, []), (22, .iconst 4, 1, 0, 0, 0, []), (23, .bipush 6, 2, 0, 0, 0, []), (25, .invokestatic 77, 3, 189, 3, 1, [708, 521, 112, 520]), (28, .istore_n 2, 1, 0, 0, 0, []), (29, .iload_n 2, 1, 0, 0, 0, []), (30, .ifCond .eq 11, 3, 0, 0, 0, [])],
  [(33, .aload_n 0, 1, 0, 0, 0, []), (34, .iconst 5, 1, 0, 0, 0, []), (35, .invokevirtual 84, 3, 60, 2, 0, [709, 712, 120, 711, 8, 5]), (38, .goto 19, 3, 0, 0, 0, []), (41, .aload_n 0, 1, 0, 0, 0, []), (42, .dup, 1, 0, 0, 0, []), (43, .getfield 41, 3, 5, 1, 0, [402]), (46, .iconst 1, 1, 0, 0, 0, []), (47, .iadd, 1, 0, 0, 0, []), (48, .putfield 41, 3, 5, 1, 0, [402]), (51, .aload_n 0, 1, 0, 0, 0, []), (52, .iload_n 1, 1, 0, 0, 0, []), (53, .iconst 0, 1, 0, 0, 0, []), (54, .invokevirtual 124, 3, 67, 3, 0, [733, 736, 120, 735, 14, 5]), (57, .return_, 1, 0, 0, 0, [])]]
def mX5_readName : xMeth := (yX5_readName, cX5_readName, 3, none, kX5_readName)
def kX5_readOpened : xC := [[(0, .iload_n 1, 1, 0, 0, 0, []), (1, .bipush 33, 2, 0, 0, 0, []), (3, .if_icmp .ne 17, 3, 0, 0, 0, []), (6, .aload_n 0, 1, 0, 0, 0, []), (7, .iload_n 2, 1, 0, 0, 0, []), (8, .invokevirtual 112, 3, 68, 2, 0, [717, 720, 120, 719, 10, 5]), (11, .aload_n 0, 1, 0, 0, 0, []), (12, .bipush 34, 2, 0, 0, 0, []), (14, .invokevirtual 101, 3, 61, 2, 0, [748, 751, 120, 750, 17, 5]), (17, .goto 39, 3, 0, 0, 0, []), (20, .iload_n 1, 1, 0, 0, 0, []), (21, .bipush 14, 2, 0, 0, 0, []), (23, .if_icmp .ne 11, 3, 0, 0, 0, []), (26, .aload_n 0, 1, 0, 0, 0, []), (27, .iload_n 2, 1, 0, 0, 0, []), (28, .invokevirtual 140, 3, 74, 2, 0, [752, 755, 120, 754, 18, 5]), (31, .goto 25, 3, 0, 0, 0, [])],
  [(34, .aload_n 0, 1, 0, 0, 0, []), (35, .iload_n 2, 1, 0, 0, 0, []), (36, .invokevirtual 128, 3, 70, 2, 0, [725, 728, 120, 727, 12, 5]), (39, .aload_n 0, 1, 0, 0, 0, []), (40, .iload_n 1, 1, 0, 0, 0, []), (41, .bipush 30, 2, 0, 0, 0, []), (43, .if_icmp .ne 8, 3, 0, 0, 0, []), (46, .bipush 41, 2, 0, 0, 0, []), (48, .goto 4, 3, 0, 0, 0, []), (51, .iload_n 1, 1, 0, 0, 0, []), (52, .iconst 0, 1, 0, 0, 0, []), (53, .invokevirtual 124, 3, 67, 3, 0, [733, 736, 120, 735, 14, 5]), (56, .return_, 1, 0, 0, 0, [])]]
def mX5_readOpened : xMeth := (yX5_readOpened, cX5_readOpened, 3, none, kX5_readOpened)
def kX5_readChoice : xC := [[(0, .aload_n 0, 1, 0, 0, 0, []), (1, .iload_n 1, 1, 0, 0, 0, []), (2, .invokevirtual 143, 3, 76, 2, 0, [756, 759, 120, 758, 19, 5]), (5, .aload_n 0, 1, 0, 0, 0, []), (6, .bipush 15, 2, 0, 0, 0, []), (8, .invokevirtual 101, 3, 61, 2, 0, [748, 751, 120, 750, 17, 5]), (11, .aload_n 0, 1, 0, 0, 0, []), (12, .getfield 47, 3, 5, 7, 0, [413]), (15, .istore_n 2, 1, 0, 0, 0, []), (16, .aload_n 0, 1, 0, 0, 0, []), (17, .bipush 15, 2, 0, 0, 0, []), (19, .iconst 0, 1, 0, 0, 0, []), (20, .invokevirtual 124, 3, 67, 3, 0, [733, 736, 120, 735, 14, 5]), (23, .aload_n 0, 1, 0, 0, 0, []), (24, .iload_n 1, 1, 0, 0, 0, []), (25, .invokevirtual 112, 3, 68, 2, 0, [717, 720, 120, 719, 10, 5]), (28, .aload_n 0, 1, 0, 0, 0, []), (29, .bipush 16, 2, 0, 0, 0, []), (31, .invokevirtual 101, 3, 61, 2, 0, [748, 751, 120, 750, 17, 5])],
  [(34, .aload_n 0, 1, 0, 0, 0, []), (35, .getfield 47, 3, 5, 7, 0, [413]), (38, .istore_n 3, 1, 0, 0, 0, []), (39, .aload_n 0, 1, 0, 0, 0, []), (40, .bipush 16, 2, 0, 0, 0, []), (42, .iconst 0, 1, 0, 0, 0, []), (43, .invokevirtual 124, 3, 67, 3, 0, [733, 736, 120, 735, 14, 5]), (46, .aload_n 0, 1, 0, 0, 0, []), (47, .iload_n 2, 1, 0, 0, 0, []), (48, .invokevirtual 146, 3, 75, 2, 0, [772, 775, 120, 774, 23, 5]), (51, .aload_n 0, 1, 0, 0, 0, []), (52, .iload_n 1, 1, 0, 0, 0, []), (53, .invokevirtual 112, 3, 68, 2, 0, [717, 720, 120, 719, 10, 5]), (56, .aload_n 0, 1, 0, 0, 0, []), (57, .bipush 17, 2, 0, 0, 0, []), (59, .invokevirtual 101, 3, 61, 2, 0, [748, 751, 120, 750, 17, 5]), (62, .aload_n 0, 1, 0, 0, 0, []), (63, .iload_n 3, 1, 0, 0, 0, [])],
  [(64, .invokevirtual 146, 3, 75, 2, 0, [772, 775, 120, 774, 23, 5]), (67, .return_, 1, 0, 0, 0, [])]]
def mX5_readChoice : xMeth := (yX5_readChoice, cX5_readChoice, 4, none, kX5_readChoice)
def kX5_aim : xC := [[(0, .iload_n 1, 1, 0, 0, 0, []), (1, .iconst 0, 1, 0, 0, 0, []), (2, .sipush 299, 3, 0, 0, 0, []), (5, .invokestatic 77, 3, 189, 3, 1, [708, 521, 112, 520]), (8, .ifCond .eq 13, 3, 0, 0, 0, []), (11, .aload_n 0, 1, 0, 0, 0, []), (12, .getfield 26, 3, 5, 6, 0, [411]), (15, .iload_n 1, 1, 0, 0, 0, []), (16, .aload_n 0, 1, 0, 0, 0, []), (17, .getfield 47, 3, 5, 7, 0, [413]), (20, .iastore, 1, 0, 0, 0, []), (21, .return_, 1, 0, 0, 0, [])]]
def mX5_aim : xMeth := (yX5_aim, cX5_aim, 2, none, kX5_aim)
def kX5_readEither : xC := [[(0, .aload_n 0, 1, 0, 0, 0, []), (1, .iload_n 1, 1, 0, 0, 0, []), (2, .invokevirtual 149, 3, 77, 2, 0, [760, 763, 120, 762, 20, 5]), (5, .iconst 0, 1, 0, 0, 0, []), (6, .istore_n 2, 1, 0, 0, 0, []), (7, .iload_n 2, 1, 0, 0, 0, []), (8, .sipush 300, 3, 0, 0, 0, []), (11, .if_icmp .ge 40, 3, 0, 0, 0, []), (14, .aload_n 0, 1, 0, 0, 0, []), (15, .invokevirtual 59, 3, 59, 1, 0, [697, 700, 120, 699, 6, 5]), (18, .bipush 13, 2, 0, 0, 0, []), (20, .if_icmp .ne 31, 3, 0, 0, 0, []), (23, .aload_n 0, 1, 0, 0, 0, []), (24, .dup, 1, 0, 0, 0, []), (25, .getfield 41, 3, 5, 1, 0, [402]), (28, .iconst 1, 1, 0, 0, 0, []), (29, .iadd, 1, 0, 0, 0, []), (30, .putfield 41, 3, 5, 1, 0, [402])],
  [(33, .aload_n 0, 1, 0, 0, 0, []), (34, .iload_n 1, 1, 0, 0, 0, []), (35, .invokevirtual 149, 3, 77, 2, 0, [760, 763, 120, 762, 20, 5]), (38, .aload_n 0, 1, 0, 0, 0, []), (39, .bipush 13, 2, 0, 0, 0, []), (41, .iconst 0, 1, 0, 0, 0, []), (42, .invokevirtual 124, 3, 67, 3, 0, [733, 736, 120, 735, 14, 5]), (45, .iinc 2 1, 3, 0, 0, 0, []), (48, .goto (-41), 3, 0, 0, 0, []), (51, .return_, 1, 0, 0, 0, [])]]
def mX5_readEither : xMeth := (yX5_readEither, cX5_readEither, 3, none, kX5_readEither)
def kX5_readBoth : xC := [[(0, .aload_n 0, 1, 0, 0, 0, []), (1, .iload_n 1, 1, 0, 0, 0, []), (2, .invokevirtual 152, 3, 78, 2, 0, [764, 767, 120, 766, 21, 5]), (5, .iconst 0, 1, 0, 0, 0, []), (6, .istore_n 2, 1, 0, 0, 0, []), (7, .iload_n 2, 1, 0, 0, 0, []), (8, .sipush 300, 3, 0, 0, 0, []), (11, .if_icmp .ge 40, 3, 0, 0, 0, []), (14, .aload_n 0, 1, 0, 0, 0, []), (15, .invokevirtual 59, 3, 59, 1, 0, [697, 700, 120, 699, 6, 5]), (18, .bipush 12, 2, 0, 0, 0, []), (20, .if_icmp .ne 31, 3, 0, 0, 0, []), (23, .aload_n 0, 1, 0, 0, 0, []), (24, .dup, 1, 0, 0, 0, []), (25, .getfield 41, 3, 5, 1, 0, [402]), (28, .iconst 1, 1, 0, 0, 0, []), (29, .iadd, 1, 0, 0, 0, []), (30, .putfield 41, 3, 5, 1, 0, [402])],
  [(33, .aload_n 0, 1, 0, 0, 0, []), (34, .iload_n 1, 1, 0, 0, 0, []), (35, .invokevirtual 152, 3, 78, 2, 0, [764, 767, 120, 766, 21, 5]), (38, .aload_n 0, 1, 0, 0, 0, []), (39, .bipush 12, 2, 0, 0, 0, []), (41, .iconst 0, 1, 0, 0, 0, []), (42, .invokevirtual 124, 3, 67, 3, 0, [733, 736, 120, 735, 14, 5]), (45, .iinc 2 1, 3, 0, 0, 0, []), (48, .goto (-41), 3, 0, 0, 0, []), (51, .return_, 1, 0, 0, 0, [])]]
def mX5_readBoth : xMeth := (yX5_readBoth, cX5_readBoth, 3, none, kX5_readBoth)
def kX5_readAsk : xC := [[(0, .aload_n 0, 1, 0, 0, 0, []), (1, .invokevirtual 59, 3, 59, 1, 0, [697, 700, 120, 699, 6, 5]), (4, .bipush 11, 2, 0, 0, 0, []), (6, .if_icmp .eq 11, 3, 0, 0, 0, []), (9, .aload_n 0, 1, 0, 0, 0, []), (10, .iload_n 1, 1, 0, 0, 0, []), (11, .invokevirtual 155, 3, 79, 2, 0, [768, 771, 120, 770, 22, 5]), (14, .goto 41, 3, 0, 0, 0, []), (17, .iload_n 1, 1, 0, 0, 0, []), (18, .bipush 8, 2, 0, 0, 0, []), (20, .if_icmp .lt 11, 3, 0, 0, 0, []), (23, .aload_n 0, 1, 0, 0, 0, []), (24, .iconst 3, 1, 0, 0, 0, []), (25, .invokevirtual 84, 3, 60, 2, 0, [709, 712, 120, 711, 8, 5]), (28, .goto 27, 3, 0, 0, 0, []), (31, .aload_n 0, 1, 0, 0, 0, [])],
  [(32, .dup, 1, 0, 0, 0, []), (33, .getfield 41, 3, 5, 1, 0, [402]), (36, .iconst 1, 1, 0, 0, 0, []), (37, .iadd, 1, 0, 0, 0, []), (38, .putfield 41, 3, 5, 1, 0, [402]), (41, .aload_n 0, 1, 0, 0, 0, []), (42, .iload_n 1, 1, 0, 0, 0, []), (43, .iconst 1, 1, 0, 0, 0, []), (44, .iadd, 1, 0, 0, 0, []), (45, .invokevirtual 152, 3, 78, 2, 0, [764, 767, 120, 766, 21, 5]), (48, .aload_n 0, 1, 0, 0, 0, []), (49, .bipush 11, 2, 0, 0, 0, []), (51, .iconst 0, 1, 0, 0, 0, []), (52, .invokevirtual 124, 3, 67, 3, 0, [733, 736, 120, 735, 14, 5]), (55, .return_, 1, 0, 0, 0, [])]]
def mX5_readAsk : xMeth := (yX5_readAsk, cX5_readAsk, 2, none, kX5_readAsk)
def kX5_readCompared : xC := [[(0, .aload_n 0, 1, 0, 0, 0, []), (1, .iload_n 1, 1, 0, 0, 0, []), (2, .invokevirtual 112, 3, 68, 2, 0, [717, 720, 120, 719, 10, 5]), (5, .aload_n 0, 1, 0, 0, 0, []), (6, .invokevirtual 59, 3, 59, 1, 0, [697, 700, 120, 699, 6, 5]), (9, .istore_n 2, 1, 0, 0, 0, []), (10, .iload_n 2, 1, 0, 0, 0, []), (11, .bipush 25, 2, 0, 0, 0, []), (13, .bipush 28, 2, 0, 0, 0, []), (15, .invokestatic 77, 3, 189, 3, 1, [708, 521, 112, 520]), (18, .ifCond .ne 14, 3, 0, 0, 0, []), (21, .iload_n 2, 1, 0, 0, 0, []), (22, .bipush 36, 2, 0, 0, 0, []), (24, .bipush 37, 2, 0, 0, 0, []), (26, .invokestatic 77, 3, 189, 3, 1, [708, 521, 112, 520]), (29, .ifCond .eq 27, 3, 0, 0, 0, [])],
  [(32, .aload_n 0, 1, 0, 0, 0, []), (33, .dup, 1, 0, 0, 0, []), (34, .getfield 41, 3, 5, 1, 0, [402]), (37, .iconst 1, 1, 0, 0, 0, []), (38, .iadd, 1, 0, 0, 0, []), (39, .putfield 41, 3, 5, 1, 0, [402]), (42, .aload_n 0, 1, 0, 0, 0, []), (43, .iload_n 1, 1, 0, 0, 0, []), (44, .invokevirtual 112, 3, 68, 2, 0, [717, 720, 120, 719, 10, 5]), (47, .aload_n 0, 1, 0, 0, 0, []), (48, .iload_n 2, 1, 0, 0, 0, []), (49, .iconst 0, 1, 0, 0, 0, []), (50, .invokevirtual 124, 3, 67, 3, 0, [733, 736, 120, 735, 14, 5]), (53, .goto 8, 3, 0, 0, 0, []), (56, .aload_n 0, 1, 0, 0, 0, []), (57, .iconst 1, 1, 0, 0, 0, []), (58, .invokevirtual 84, 3, 60, 2, 0, [709, 712, 120, 711, 8, 5]), (61, .return_, 1, 0, 0, 0, [])]]
def mX5_readCompared : xMeth := (yX5_readCompared, cX5_readCompared, 3, none, kX5_readCompared)
def kX6_init : xC := [[(0, .aload_n 0, 1, 0, 0, 0, []), (1, .invokespecial 3, 3, 0, 0, 8, [248, 140, 141]), (4, .aload_n 0, 1, 0, 0, 0, []), (5, .bipush 9, 2, 0, 0, 0, []), (7, .newarray .int, 2, 0, 0, 0, [202]), (9, .dup, 1, 0, 0, 0, []), (10, .iconst 0, 1, 0, 0, 0, []), (11, .iconst 0, 1, 0, 0, 0, []), (12, .iastore, 1, 0, 0, 0, []), (13, .dup, 1, 0, 0, 0, []), (14, .iconst 1, 1, 0, 0, 0, []), (15, .iconst 1, 1, 0, 0, 0, []), (16, .iastore, 1, 0, 0, 0, []), (17, .dup, 1, 0, 0, 0, []), (18, .iconst 2, 1, 0, 0, 0, []), (19, .iconst 2, 1, 0, 0, 0, []), (20, .iastore, 1, 0, 0, 0, []), (21, .dup, 1, 0, 0, 0, []), (22, .iconst 3, 1, 0, 0, 0, []), (23, .iconst 3, 1, 0, 0, 0, []), (24, .iastore, 1, 0, 0, 0, []), (25, .dup, 1, 0, 0, 0, []), (26, .iconst 4, 1, 0, 0, 0, []), (27, .iconst 4, 1, 0, 0, 0, []), (28, .iastore, 1, 0, 0, 0, []), (29, .dup, 1, 0, 0, 0, []), (30, .iconst 5, 1, 0, 0, 0, []), (31, .iconst 5, 1, 0, 0, 0, [])],
  [(32, .iastore, 1, 0, 0, 0, []), (33, .dup, 1, 0, 0, 0, []), (34, .bipush 6, 2, 0, 0, 0, []), (36, .bipush 6, 2, 0, 0, 0, []), (38, .iastore, 1, 0, 0, 0, []), (39, .dup, 1, 0, 0, 0, []), (40, .bipush 7, 2, 0, 0, 0, []), (42, .bipush 7, 2, 0, 0, 0, []), (44, .iastore, 1, 0, 0, 0, []), (45, .dup, 1, 0, 0, 0, []), (46, .bipush 8, 2, 0, 0, 0, []), (48, .bipush 8, 2, 0, 0, 0, []), (50, .iastore, 1, 0, 0, 0, []), (51, .putfield 9, 3, 6, 0, 2, [249]), (54, .return_, 1, 0, 0, 0, [])]]
def mX6_init : xMeth := (yX6_init, cX6_init, 1, none, kX6_init)
def kX6_copy : xC := [[(0, .aload_n 1, 1, 0, 0, 0, []), (1, .getfield 9, 3, 6, 0, 0, [249]), (4, .iconst 0, 1, 0, 0, 0, []), (5, .aload_n 0, 1, 0, 0, 0, []), (6, .getfield 9, 3, 6, 0, 0, [249]), (9, .iconst 0, 1, 0, 0, 0, []), (10, .bipush 9, 2, 0, 0, 0, []), (12, .invokestatic 15, 3, 0, 0, 9, [1460, 799, 798, 132]), (15, .return_, 1, 0, 0, 0, [])]]
def mX6_copy : xMeth := (yX6_copy, cX6_copy, 2, none, kX6_copy)
def kX6_selfFollowing : xC := [[(0, .iconst 0, 1, 0, 0, 0, []), (1, .istore_n 1, 1, 0, 0, 0, []), (2, .iconst 0, 1, 0, 0, 0, []), (3, .istore_n 2, 1, 0, 0, 0, []), (4, .iload_n 2, 1, 0, 0, 0, []), (5, .bipush 9, 2, 0, 0, 0, []), (7, .if_icmp .ge 25, 3, 0, 0, 0, []), (10, .aload_n 0, 1, 0, 0, 0, []), (11, .getfield 9, 3, 6, 0, 0, [249]), (14, .iload_n 2, 1, 0, 0, 0, []), (15, .iaload, 1, 0, 0, 0, []), (16, .iload_n 2, 1, 0, 0, 0, []), (17, .if_icmp .ne 9, 3, 0, 0, 0, []), (20, .iload_n 1, 1, 0, 0, 0, []), (21, .iconst 1, 1, 0, 0, 0, []), (22, .iload_n 2, 1, 0, 0, 0, []), (23, .ishl, 1, 0, 0, 0, []), (24, .ior, 1, 0, 0, 0, []), (25, .istore_n 1, 1, 0, 0, 0, []), (26, .iinc 2 1, 3, 0, 0, 0, []), (29, .goto (-25), 3, 0, 0, 0, [])],
  [(32, .iload_n 1, 1, 0, 0, 0, []), (33, .ireturn, 1, 0, 0, 0, [])]]
def mX6_selfFollowing : xMeth := (yX6_selfFollowing, cX6_selfFollowing, 3, (some FieldType.int), kX6_selfFollowing)
def kX6_sizeAt : xC := [[(0, .iload_n 1, 1, 0, 0, 0, []), (1, .istore_n 2, 1, 0, 0, 0, []), (2, .iconst 1, 1, 0, 0, 0, []), (3, .istore_n 3, 1, 0, 0, 0, []), (4, .iload_n 3, 1, 0, 0, 0, []), (5, .bipush 9, 2, 0, 0, 0, []), (7, .if_icmp .gt 23, 3, 0, 0, 0, []), (10, .aload_n 0, 1, 0, 0, 0, []), (11, .getfield 9, 3, 6, 0, 0, [249]), (14, .iload_n 2, 1, 0, 0, 0, []), (15, .iaload, 1, 0, 0, 0, []), (16, .istore_n 2, 1, 0, 0, 0, []), (17, .iload_n 2, 1, 0, 0, 0, []), (18, .iload_n 1, 1, 0, 0, 0, []), (19, .if_icmp .ne 5, 3, 0, 0, 0, []), (22, .iload_n 3, 1, 0, 0, 0, []), (23, .ireturn, 1, 0, 0, 0, []), (24, .iinc 3 1, 3, 0, 0, 0, []), (27, .goto (-23), 3, 0, 0, 0, []), (30, .iconst 0, 1, 0, 0, 0, []), (31, .ireturn, 1, 0, 0, 0, [])]]
def mX6_sizeAt : xMeth := (yX6_sizeAt, cX6_sizeAt, 4, (some FieldType.int), kX6_sizeAt)
def kX6_smallest : xC := [[(0, .iconst 0, 1, 0, 0, 0, []), (1, .istore_n 1, 1, 0, 0, 0, []), (2, .bipush 10, 2, 0, 0, 0, []), (4, .istore_n 2, 1, 0, 0, 0, []), (5, .iconst 0, 1, 0, 0, 0, []), (6, .istore_n 3, 1, 0, 0, 0, []), (7, .iload_n 3, 1, 0, 0, 0, []), (8, .bipush 9, 2, 0, 0, 0, []), (10, .if_icmp .ge 32, 3, 0, 0, 0, []), (13, .aload_n 0, 1, 0, 0, 0, []), (14, .iload_n 3, 1, 0, 0, 0, []), (15, .invokevirtual 21, 3, 83, 2, 0, [1211, 1214, 118, 1212, 1213, 6]), (18, .istore 4, 2, 0, 0, 0, []), (20, .iload 4, 2, 0, 0, 0, []), (22, .ifCond .le 14, 3, 0, 0, 0, []), (25, .iload 4, 2, 0, 0, 0, []), (27, .iload_n 2, 1, 0, 0, 0, []), (28, .if_icmp .ge 8, 3, 0, 0, 0, []), (31, .iload 4, 2, 0, 0, 0, [])],
  [(33, .istore_n 2, 1, 0, 0, 0, []), (34, .iload_n 3, 1, 0, 0, 0, []), (35, .istore_n 1, 1, 0, 0, 0, []), (36, .iinc 3 1, 3, 0, 0, 0, []), (39, .goto (-32), 3, 0, 0, 0, []), (42, .iload_n 1, 1, 0, 0, 0, []), (43, .ireturn, 1, 0, 0, 0, [])]]
def mX6_smallest : xMeth := (yX6_smallest, cX6_smallest, 5, (some FieldType.int), kX6_smallest)
def kX6_stepsToRing : xC := [[(0, .iload_n 1, 1, 0, 0, 0, []), (1, .istore_n 2, 1, 0, 0, 0, []), (2, .iconst 0, 1, 0, 0, 0, []), (3, .istore_n 3, 1, 0, 0, 0, []), (4, .iload_n 3, 1, 0, 0, 0, []), (5, .bipush 9, 2, 0, 0, 0, []), (7, .if_icmp .ge 24, 3, 0, 0, 0, []), (10, .aload_n 0, 1, 0, 0, 0, []), (11, .iload_n 2, 1, 0, 0, 0, []), (12, .invokevirtual 21, 3, 83, 2, 0, [1211, 1214, 118, 1212, 1213, 6]), (15, .ifCond .ne 16, 3, 0, 0, 0, []), (18, .aload_n 0, 1, 0, 0, 0, []), (19, .getfield 9, 3, 6, 0, 0, [249]), (22, .iload_n 2, 1, 0, 0, 0, []), (23, .iaload, 1, 0, 0, 0, []), (24, .istore_n 2, 1, 0, 0, 0, []), (25, .iinc 3 1, 3, 0, 0, 0, []), (28, .goto (-24), 3, 0, 0, 0, []), (31, .iload_n 3, 1, 0, 0, 0, [])],
  [(32, .ireturn, 1, 0, 0, 0, [])]]
def mX6_stepsToRing : xMeth := (yX6_stepsToRing, cX6_stepsToRing, 4, (some FieldType.int), kX6_stepsToRing)
def kX6_behind : xC := [[(0, .iload_n 2, 1, 0, 0, 0, []), (1, .istore_n 3, 1, 0, 0, 0, []), (2, .aload_n 0, 1, 0, 0, 0, []), (3, .iload_n 1, 1, 0, 0, 0, []), (4, .invokevirtual 25, 3, 85, 2, 0, [1233, 1223, 118, 1221, 1222, 6]), (7, .istore 4, 2, 0, 0, 0, []), (9, .iload_n 2, 1, 0, 0, 0, []), (10, .iload 4, 2, 0, 0, 0, []), (12, .if_icmp .le 36, 3, 0, 0, 0, []), (15, .aload_n 0, 1, 0, 0, 0, []), (16, .aload_n 0, 1, 0, 0, 0, []), (17, .iload_n 1, 1, 0, 0, 0, []), (18, .iload 4, 2, 0, 0, 0, []), (20, .invokevirtual 28, 3, 87, 3, 0, [1234, 1237, 118, 1236, 36, 6]), (23, .invokevirtual 21, 3, 83, 2, 0, [1211, 1214, 118, 1212, 1213, 6]), (26, .istore 5, 2, 0, 0, 0, []), (28, .iload 5, 2, 0, 0, 0, []), (30, .ifCond .le 16, 3, 0, 0, 0, [])],
  [(33, .iload 4, 2, 0, 0, 0, []), (35, .iload_n 2, 1, 0, 0, 0, []), (36, .iload 4, 2, 0, 0, 0, []), (38, .isub, 1, 0, 0, 0, []), (39, .iload 5, 2, 0, 0, 0, []), (41, .irem, 1, 0, 0, 0, []), (42, .iadd, 1, 0, 0, 0, []), (43, .goto 4, 3, 0, 0, 0, []), (46, .iload_n 2, 1, 0, 0, 0, []), (47, .istore_n 3, 1, 0, 0, 0, []), (48, .aload_n 0, 1, 0, 0, 0, []), (49, .iload_n 1, 1, 0, 0, 0, []), (50, .iload_n 3, 1, 0, 0, 0, []), (51, .invokevirtual 28, 3, 87, 3, 0, [1234, 1237, 118, 1236, 36, 6]), (54, .ireturn, 1, 0, 0, 0, [])]]
def mX6_behind : xMeth := (yX6_behind, cX6_behind, 6, (some FieldType.int), kX6_behind)
def kX6_walked : xC := [[(0, .iload_n 1, 1, 0, 0, 0, []), (1, .istore_n 3, 1, 0, 0, 0, []), (2, .iconst 0, 1, 0, 0, 0, []), (3, .istore 4, 2, 0, 0, 0, []), (5, .iload 4, 2, 0, 0, 0, []), (7, .iload_n 2, 1, 0, 0, 0, []), (8, .if_icmp .ge 16, 3, 0, 0, 0, []), (11, .aload_n 0, 1, 0, 0, 0, []), (12, .getfield 9, 3, 6, 0, 0, [249]), (15, .iload_n 3, 1, 0, 0, 0, []), (16, .iaload, 1, 0, 0, 0, []), (17, .istore_n 3, 1, 0, 0, 0, []), (18, .iinc 4 1, 3, 0, 0, 0, []), (21, .goto (-16), 3, 0, 0, 0, []), (24, .iload_n 3, 1, 0, 0, 0, []), (25, .ireturn, 1, 0, 0, 0, [])]]
def mX6_walked : xMeth := (yX6_walked, cX6_walked, 5, (some FieldType.int), kX6_walked)
def kX7_init : xC := [[(0, .aload_n 0, 1, 0, 0, 0, []), (1, .invokespecial 3, 3, 0, 0, 8, [468, 140, 141]), (4, .aload_n 0, 1, 0, 0, 0, []), (5, .bipush 13, 2, 0, 0, 0, []), (7, .newarray .long, 2, 0, 0, 0, [480]), (9, .putfield 9, 3, 7, 0, 2, [469]), (12, .aload_n 0, 1, 0, 0, 0, []), (13, .lconst 1, 1, 0, 0, 0, []), (14, .putfield 15, 3, 7, 2, 1, [471]), (17, .return_, 1, 0, 0, 0, [])]]
def mX7_init : xMeth := (yX7_init, cX7_init, 1, none, kX7_init)
def kX7_begin : xC := [[(0, .aload_n 0, 1, 0, 0, 0, []), (1, .getfield 9, 3, 7, 0, 0, [469]), (4, .lconst 0, 1, 0, 0, 0, []), (5, .invokestatic 19, 3, 351, 2, 0, [1091, 1093, 131, 1092]), (8, .aload_n 0, 1, 0, 0, 0, []), (9, .getfield 9, 3, 7, 0, 0, [469]), (12, .iconst 0, 1, 0, 0, 0, []), (13, .lconst 1, 1, 0, 0, 0, []), (14, .lastore, 1, 0, 0, 0, []), (15, .aload_n 0, 1, 0, 0, 0, []), (16, .iconst 0, 1, 0, 0, 0, []), (17, .putfield 25, 3, 7, 1, 0, [470]), (20, .aload_n 0, 1, 0, 0, 0, []), (21, .lconst 1, 1, 0, 0, 0, []), (22, .putfield 15, 3, 7, 2, 1, [471]), (25, .return_, 1, 0, 0, 0, [])]]
def mX7_begin : xMeth := (yX7_begin, cX7_begin, 1, none, kX7_begin)
def kX7_addOne : xC := [[(0, .aload_n 0, 1, 0, 0, 0, []), (1, .getfield 25, 3, 7, 1, 0, [470]), (4, .bipush 12, 2, 0, 0, 0, []), (6, .if_icmp .lt 4, 3, 0, 0, 0, []), (9, .return_, 1, 0, 0, 0, []), (10, .aload_n 0, 1, 0, 0, 0, []), (11, .dup, 1, 0, 0, 0, []), (12, .getfield 25, 3, 7, 1, 0, [470]), (15, .iconst 1, 1, 0, 0, 0, []), (16, .iadd, 1, 0, 0, 0, []), (17, .putfield 25, 3, 7, 1, 0, [470]), (20, .aload_n 0, 1, 0, 0, 0, []), (21, .getfield 25, 3, 7, 1, 0, [470]), (24, .istore_n 2, 1, 0, 0, 0, []), (25, .iload_n 2, 1, 0, 0, 0, []), (26, .ifCond .le 39, 3, 0, 0, 0, []), (29, .aload_n 0, 1, 0, 0, 0, []), (30, .getfield 9, 3, 7, 0, 0, [469])],
  [(33, .iload_n 2, 1, 0, 0, 0, []), (34, .aload_n 0, 1, 0, 0, 0, []), (35, .getfield 9, 3, 7, 0, 0, [469]), (38, .iload_n 2, 1, 0, 0, 0, []), (39, .laload, 1, 0, 0, 0, []), (40, .bipush 10, 2, 0, 0, 0, []), (42, .iload_n 1, 1, 0, 0, 0, []), (43, .isub, 1, 0, 0, 0, []), (44, .i2l, 1, 0, 0, 0, []), (45, .lmul, 1, 0, 0, 0, []), (46, .aload_n 0, 1, 0, 0, 0, []), (47, .getfield 9, 3, 7, 0, 0, [469]), (50, .iload_n 2, 1, 0, 0, 0, []), (51, .iconst 1, 1, 0, 0, 0, []), (52, .isub, 1, 0, 0, 0, []), (53, .laload, 1, 0, 0, 0, []), (54, .iload_n 1, 1, 0, 0, 0, []), (55, .i2l, 1, 0, 0, 0, []), (56, .lmul, 1, 0, 0, 0, []), (57, .ladd, 1, 0, 0, 0, []), (58, .lastore, 1, 0, 0, 0, []), (59, .iinc 2 (-1), 3, 0, 0, 0, []), (62, .goto (-37), 3, 0, 0, 0, [])],
  [(65, .aload_n 0, 1, 0, 0, 0, []), (66, .getfield 9, 3, 7, 0, 0, [469]), (69, .iconst 0, 1, 0, 0, 0, []), (70, .aload_n 0, 1, 0, 0, 0, []), (71, .getfield 9, 3, 7, 0, 0, [469]), (74, .iconst 0, 1, 0, 0, 0, []), (75, .laload, 1, 0, 0, 0, []), (76, .bipush 10, 2, 0, 0, 0, []), (78, .iload_n 1, 1, 0, 0, 0, []), (79, .isub, 1, 0, 0, 0, []), (80, .i2l, 1, 0, 0, 0, []), (81, .lmul, 1, 0, 0, 0, []), (82, .lastore, 1, 0, 0, 0, []), (83, .aload_n 0, 1, 0, 0, 0, []), (84, .dup, 1, 0, 0, 0, []), (85, .getfield 15, 3, 7, 2, 0, [471]), (88, .ldc2_w 29, 3, 0, 0, 10, [1099]), (91, .lmul, 1, 0, 0, 0, []), (92, .putfield 15, 3, 7, 2, 1, [471]), (95, .return_, 1, 0, 0, 0, [])]]
def mX7_addOne : xMeth := (yX7_addOne, cX7_addOne, 3, none, kX7_addOne)
def kX7_ofTrials : xC := [[(0, .aload_n 0, 1, 0, 0, 0, []), (1, .invokevirtual 31, 3, 89, 1, 0, [1246, 1090, 122, 1088, 1089, 7]), (4, .iconst 0, 1, 0, 0, 0, []), (5, .istore_n 3, 1, 0, 0, 0, []), (6, .iload_n 3, 1, 0, 0, 0, []), (7, .iload_n 1, 1, 0, 0, 0, []), (8, .if_icmp .ge 14, 3, 0, 0, 0, []), (11, .aload_n 0, 1, 0, 0, 0, []), (12, .iload_n 2, 1, 0, 0, 0, []), (13, .invokevirtual 34, 3, 90, 2, 0, [1247, 1098, 122, 1096, 1097, 7]), (16, .iinc 3 1, 3, 0, 0, 0, []), (19, .goto (-13), 3, 0, 0, 0, []), (22, .return_, 1, 0, 0, 0, [])]]
def mX7_ofTrials : xMeth := (yX7_ofTrials, cX7_ofTrials, 4, none, kX7_ofTrials)
def kX7_just : xC := [[(0, .iload_n 1, 1, 0, 0, 0, []), (1, .iconst 0, 1, 0, 0, 0, []), (2, .bipush 12, 2, 0, 0, 0, []), (4, .invokestatic 38, 3, 189, 3, 1, [1104, 521, 112, 520]), (7, .ifCond .eq 12, 3, 0, 0, 0, []), (10, .aload_n 0, 1, 0, 0, 0, []), (11, .getfield 9, 3, 7, 0, 0, [469]), (14, .iload_n 1, 1, 0, 0, 0, []), (15, .laload, 1, 0, 0, 0, []), (16, .goto 4, 3, 0, 0, 0, []), (19, .lconst 0, 1, 0, 0, 0, []), (20, .lreturn, 1, 0, 0, 0, [])]]
def mX7_just : xMeth := (yX7_just, cX7_just, 2, (some FieldType.long), kX7_just)
def kX7_orMore : xC := [[(0, .lconst 0, 1, 0, 0, 0, []), (1, .lstore_n 2, 1, 0, 0, 0, []), (2, .iconst 0, 1, 0, 0, 0, []), (3, .iload_n 1, 1, 0, 0, 0, []), (4, .invokestatic 42, 3, 0, 0, 10, [1252, 656, 128, 657]), (7, .istore 4, 2, 0, 0, 0, []), (9, .iload 4, 2, 0, 0, 0, []), (11, .bipush 12, 2, 0, 0, 0, []), (13, .if_icmp .gt 19, 3, 0, 0, 0, []), (16, .lload_n 2, 1, 0, 0, 0, []), (17, .aload_n 0, 1, 0, 0, 0, []), (18, .getfield 9, 3, 7, 0, 0, [469]), (21, .iload 4, 2, 0, 0, 0, []), (23, .laload, 1, 0, 0, 0, []), (24, .ladd, 1, 0, 0, 0, []), (25, .lstore_n 2, 1, 0, 0, 0, []), (26, .iinc 4 1, 3, 0, 0, 0, []), (29, .goto (-20), 3, 0, 0, 0, [])],
  [(32, .lload_n 2, 1, 0, 0, 0, []), (33, .lreturn, 1, 0, 0, 0, [])]]
def mX7_orMore : xMeth := (yX7_orMore, cX7_orMore, 5, (some FieldType.long), kX7_orMore)
def kX8_init : xC := [[(0, .aload_n 0, 1, 0, 0, 0, []), (1, .invokespecial 3, 3, 0, 0, 8, [208, 140, 141]), (4, .aload_n 0, 1, 0, 0, 0, []), (5, .bipush 30, 2, 0, 0, 0, []), (7, .anewarray 9, 3, 3, 0, 0, [209]), (10, .putfield 11, 3, 8, 0, 2, [212]), (13, .iconst 0, 1, 0, 0, 0, []), (14, .istore_n 1, 1, 0, 0, 0, []), (15, .iload_n 1, 1, 0, 0, 0, []), (16, .bipush 30, 2, 0, 0, 0, []), (18, .if_icmp .ge 22, 3, 0, 0, 0, []), (21, .aload_n 0, 1, 0, 0, 0, []), (22, .getfield 11, 3, 8, 0, 0, [212]), (25, .iload_n 1, 1, 0, 0, 0, []), (26, .new 9, 3, 2, 9, 0, [209, 155, 115]), (29, .dup, 1, 0, 0, 0, []), (30, .invokespecial 17, 3, 25, 1, 1, [211, 158, 115, 157])],
  [(33, .aastore, 1, 0, 0, 0, []), (34, .iinc 1 1, 3, 0, 0, 0, []), (37, .goto (-22), 3, 0, 0, 0, []), (40, .return_, 1, 0, 0, 0, [])]]
def mX8_init : xMeth := (yX8_init, cX8_init, 2, none, kX8_init)
def kX8_copy : xC := [[(0, .aload_n 0, 1, 0, 0, 0, []), (1, .aload_n 1, 1, 0, 0, 0, []), (2, .getfield 18, 3, 8, 1, 0, [213]), (5, .putfield 18, 3, 8, 1, 0, [213]), (8, .aload_n 0, 1, 0, 0, 0, []), (9, .aload_n 1, 1, 0, 0, 0, []), (10, .getfield 22, 3, 8, 2, 0, [214]), (13, .putfield 22, 3, 8, 2, 0, [214]), (16, .iconst 0, 1, 0, 0, 0, []), (17, .istore_n 2, 1, 0, 0, 0, []), (18, .iload_n 2, 1, 0, 0, 0, []), (19, .aload_n 0, 1, 0, 0, 0, []), (20, .getfield 22, 3, 8, 2, 0, [214]), (23, .if_icmp .ge 34, 3, 0, 0, 0, []), (26, .aload_n 0, 1, 0, 0, 0, []), (27, .getfield 18, 3, 8, 1, 0, [213]), (30, .iload_n 2, 1, 0, 0, 0, []), (31, .iadd, 1, 0, 0, 0, [])],
  [(32, .bipush 30, 2, 0, 0, 0, []), (34, .irem, 1, 0, 0, 0, []), (35, .istore_n 3, 1, 0, 0, 0, []), (36, .aload_n 0, 1, 0, 0, 0, []), (37, .getfield 11, 3, 8, 0, 0, [212]), (40, .iload_n 3, 1, 0, 0, 0, []), (41, .aaload, 1, 0, 0, 0, []), (42, .aload_n 1, 1, 0, 0, 0, []), (43, .getfield 11, 3, 8, 0, 0, [212]), (46, .iload_n 3, 1, 0, 0, 0, []), (47, .aaload, 1, 0, 0, 0, []), (48, .invokevirtual 25, 3, 26, 2, 0, [877, 880, 115, 878, 879, 2]), (51, .iinc 2 1, 3, 0, 0, 0, []), (54, .goto (-36), 3, 0, 0, 0, []), (57, .return_, 1, 0, 0, 0, [])]]
def mX8_copy : xMeth := (yX8_copy, cX8_copy, 4, none, kX8_copy)
def kX8_keep : xC := [[(0, .aload_n 0, 1, 0, 0, 0, []), (1, .getfield 11, 3, 8, 0, 0, [212]), (4, .aload_n 0, 1, 0, 0, 0, []), (5, .getfield 18, 3, 8, 1, 0, [213]), (8, .aload_n 0, 1, 0, 0, 0, []), (9, .getfield 22, 3, 8, 2, 0, [214]), (12, .iadd, 1, 0, 0, 0, []), (13, .bipush 30, 2, 0, 0, 0, []), (15, .irem, 1, 0, 0, 0, []), (16, .aaload, 1, 0, 0, 0, []), (17, .aload_n 1, 1, 0, 0, 0, []), (18, .invokevirtual 25, 3, 26, 2, 0, [877, 880, 115, 878, 879, 2]), (21, .aload_n 0, 1, 0, 0, 0, []), (22, .getfield 22, 3, 8, 2, 0, [214]), (25, .bipush 30, 2, 0, 0, 0, []), (27, .if_icmp .ge 16, 3, 0, 0, 0, []), (30, .aload_n 0, 1, 0, 0, 0, []), (31, .dup, 1, 0, 0, 0, [])],
  [(32, .getfield 22, 3, 8, 2, 0, [214]), (35, .iconst 1, 1, 0, 0, 0, []), (36, .iadd, 1, 0, 0, 0, []), (37, .putfield 22, 3, 8, 2, 0, [214]), (40, .goto 16, 3, 0, 0, 0, []), (43, .aload_n 0, 1, 0, 0, 0, []), (44, .aload_n 0, 1, 0, 0, 0, []), (45, .getfield 18, 3, 8, 1, 0, [213]), (48, .iconst 1, 1, 0, 0, 0, []), (49, .iadd, 1, 0, 0, 0, []), (50, .bipush 30, 2, 0, 0, 0, []), (52, .irem, 1, 0, 0, 0, []), (53, .putfield 18, 3, 8, 1, 0, [213]), (56, .return_, 1, 0, 0, 0, [])]]
def mX8_keep : xMeth := (yX8_keep, cX8_keep, 2, none, kX8_keep)
def kX8_takeBack : xC := [[(0, .aload_n 0, 1, 0, 0, 0, []), (1, .getfield 22, 3, 8, 2, 0, [214]), (4, .ifCond .le 34, 3, 0, 0, 0, []), (7, .aload_n 0, 1, 0, 0, 0, []), (8, .dup, 1, 0, 0, 0, []), (9, .getfield 22, 3, 8, 2, 0, [214]), (12, .iconst 1, 1, 0, 0, 0, []), (13, .isub, 1, 0, 0, 0, []), (14, .putfield 22, 3, 8, 2, 0, [214]), (17, .aload_n 1, 1, 0, 0, 0, []), (18, .aload_n 0, 1, 0, 0, 0, []), (19, .getfield 11, 3, 8, 0, 0, [212]), (22, .aload_n 0, 1, 0, 0, 0, []), (23, .getfield 18, 3, 8, 1, 0, [213]), (26, .aload_n 0, 1, 0, 0, 0, []), (27, .getfield 22, 3, 8, 2, 0, [214]), (30, .iadd, 1, 0, 0, 0, []), (31, .bipush 30, 2, 0, 0, 0, [])],
  [(33, .irem, 1, 0, 0, 0, []), (34, .aaload, 1, 0, 0, 0, []), (35, .invokevirtual 25, 3, 26, 2, 0, [877, 880, 115, 878, 879, 2]), (38, .return_, 1, 0, 0, 0, [])]]
def mX8_takeBack : xMeth := (yX8_takeBack, cX8_takeBack, 2, none, kX8_takeBack)
def kX9_init : xC := [[(0, .aload_n 0, 1, 0, 0, 0, []), (1, .invokespecial 3, 3, 0, 0, 8, [375, 140, 141]), (4, .aload_n 0, 1, 0, 0, 0, []), (5, .sipush 300, 3, 0, 0, 0, []), (8, .newarray .int, 2, 0, 0, 0, [202]), (10, .putfield 9, 3, 9, 0, 2, [376]), (13, .aload_n 0, 1, 0, 0, 0, []), (14, .sipush 301, 3, 0, 0, 0, []), (17, .newarray .int, 2, 0, 0, 0, [202]), (19, .putfield 15, 3, 9, 2, 2, [379]), (22, .aload_n 0, 1, 0, 0, 0, []), (23, .sipush 301, 3, 0, 0, 0, []), (26, .newarray .int, 2, 0, 0, 0, [202]), (28, .putfield 18, 3, 9, 3, 2, [381]), (31, .aload_n 0, 1, 0, 0, 0, [])],
  [(32, .sipush 301, 3, 0, 0, 0, []), (35, .newarray .int, 2, 0, 0, 0, [202]), (37, .putfield 21, 3, 9, 4, 2, [383]), (40, .return_, 1, 0, 0, 0, [])]]
def mX9_init : xMeth := (yX9_init, cX9_init, 1, none, kX9_init)
def kX9_add : xC := [[(0, .bipush 24, 2, 0, 0, 0, []), (2, .istore_n 2, 1, 0, 0, 0, []), (3, .iload_n 2, 1, 0, 0, 0, []), (4, .ifCond .lt 45, 3, 0, 0, 0, []), (7, .aload_n 0, 1, 0, 0, 0, []), (8, .getfield 24, 3, 9, 1, 0, [377]), (11, .sipush 300, 3, 0, 0, 0, []), (14, .if_icmp .ge 35, 3, 0, 0, 0, []), (17, .aload_n 0, 1, 0, 0, 0, []), (18, .getfield 9, 3, 9, 0, 0, [376]), (21, .aload_n 0, 1, 0, 0, 0, []), (22, .getfield 24, 3, 9, 1, 0, [377]), (25, .iload_n 1, 1, 0, 0, 0, []), (26, .iload_n 2, 1, 0, 0, 0, []), (27, .ishr, 1, 0, 0, 0, []), (28, .sipush 255, 3, 0, 0, 0, []), (31, .iand, 1, 0, 0, 0, [])],
  [(32, .iastore, 1, 0, 0, 0, []), (33, .aload_n 0, 1, 0, 0, 0, []), (34, .dup, 1, 0, 0, 0, []), (35, .getfield 24, 3, 9, 1, 0, [377]), (38, .iconst 1, 1, 0, 0, 0, []), (39, .iadd, 1, 0, 0, 0, []), (40, .putfield 24, 3, 9, 1, 0, [377]), (43, .iinc 2 (-8), 3, 0, 0, 0, []), (46, .goto (-43), 3, 0, 0, 0, []), (49, .return_, 1, 0, 0, 0, [])]]
def mX9_add : xMeth := (yX9_add, cX9_add, 3, none, kX9_add)
def kX9_scan : xC := [[(0, .aload_n 0, 1, 0, 0, 0, []), (1, .iconst 0, 1, 0, 0, 0, []), (2, .putfield 28, 3, 9, 5, 0, [385]), (5, .iconst 0, 1, 0, 0, 0, []), (6, .istore_n 1, 1, 0, 0, 0, []), (7, .iload_n 1, 1, 0, 0, 0, []), (8, .aload_n 0, 1, 0, 0, 0, []), (9, .getfield 24, 3, 9, 1, 0, [377]), (12, .if_icmp .ge 42, 3, 0, 0, 0, []), (15, .aload_n 0, 1, 0, 0, 0, []), (16, .getfield 9, 3, 9, 0, 0, [376]), (19, .iload_n 1, 1, 0, 0, 0, []), (20, .iaload, 1, 0, 0, 0, []), (21, .bipush 32, 2, 0, 0, 0, []), (23, .if_icmp .eq 14, 3, 0, 0, 0, []), (26, .aload_n 0, 1, 0, 0, 0, []), (27, .getfield 9, 3, 9, 0, 0, [376]), (30, .iload_n 1, 1, 0, 0, 0, []), (31, .iaload, 1, 0, 0, 0, [])],
  [(32, .bipush 10, 2, 0, 0, 0, []), (34, .if_icmp .ne 9, 3, 0, 0, 0, []), (37, .iinc 1 1, 3, 0, 0, 0, []), (40, .goto (-33), 3, 0, 0, 0, []), (43, .iload_n 1, 1, 0, 0, 0, []), (44, .aload_n 0, 1, 0, 0, 0, []), (45, .iload_n 1, 1, 0, 0, 0, []), (46, .invokevirtual 31, 3, 102, 2, 0, [557, 560, 121, 559, 0, 9]), (49, .iadd, 1, 0, 0, 0, []), (50, .istore_n 1, 1, 0, 0, 0, []), (51, .goto (-44), 3, 0, 0, 0, []), (54, .aload_n 0, 1, 0, 0, 0, []), (55, .bipush 40, 2, 0, 0, 0, []), (57, .aload_n 0, 1, 0, 0, 0, []), (58, .getfield 24, 3, 9, 1, 0, [377]), (61, .iconst 0, 1, 0, 0, 0, []), (62, .invokevirtual 35, 3, 101, 4, 0, [614, 617, 121, 616, 3, 9])],
  [(65, .return_, 1, 0, 0, 0, [])]]
def mX9_scan : xMeth := (yX9_scan, cX9_scan, 2, none, kX9_scan)
def kX9_put : xC := [[(0, .aload_n 0, 1, 0, 0, 0, []), (1, .getfield 28, 3, 9, 5, 0, [385]), (4, .aload_n 0, 1, 0, 0, 0, []), (5, .getfield 15, 3, 9, 2, 0, [379]), (8, .arraylength, 1, 0, 0, 0, []), (9, .if_icmp .ge 43, 3, 0, 0, 0, []), (12, .aload_n 0, 1, 0, 0, 0, []), (13, .getfield 15, 3, 9, 2, 0, [379]), (16, .aload_n 0, 1, 0, 0, 0, []), (17, .getfield 28, 3, 9, 5, 0, [385]), (20, .iload_n 1, 1, 0, 0, 0, []), (21, .iastore, 1, 0, 0, 0, []), (22, .aload_n 0, 1, 0, 0, 0, []), (23, .getfield 18, 3, 9, 3, 0, [381]), (26, .aload_n 0, 1, 0, 0, 0, []), (27, .getfield 28, 3, 9, 5, 0, [385]), (30, .iload_n 2, 1, 0, 0, 0, []), (31, .iastore, 1, 0, 0, 0, [])],
  [(32, .aload_n 0, 1, 0, 0, 0, []), (33, .getfield 21, 3, 9, 4, 0, [383]), (36, .aload_n 0, 1, 0, 0, 0, []), (37, .getfield 28, 3, 9, 5, 0, [385]), (40, .iload_n 3, 1, 0, 0, 0, []), (41, .iastore, 1, 0, 0, 0, []), (42, .aload_n 0, 1, 0, 0, 0, []), (43, .dup, 1, 0, 0, 0, []), (44, .getfield 28, 3, 9, 5, 0, [385]), (47, .iconst 1, 1, 0, 0, 0, []), (48, .iadd, 1, 0, 0, 0, []), (49, .putfield 28, 3, 9, 5, 0, [385]), (52, .return_, 1, 0, 0, 0, [])]]
def mX9_put : xMeth := (yX9_put, cX9_put, 4, none, kX9_put)
def kX9_scanToken : xC := [[(0, .aload_n 0, 1, 0, 0, 0, []), (1, .getfield 9, 3, 9, 0, 0, [376]), (4, .iload_n 1, 1, 0, 0, 0, []), (5, .iaload, 1, 0, 0, 0, []), (6, .invokestatic 39, 3, 107, 1, 0, [561, 563, 121, 562]), (9, .ifCond .eq 9, 3, 0, 0, 0, []), (12, .aload_n 0, 1, 0, 0, 0, []), (13, .iload_n 1, 1, 0, 0, 0, []), (14, .invokevirtual 43, 3, 103, 2, 0, [565, 568, 121, 567, 1, 9]), (17, .ireturn, 1, 0, 0, 0, []), (18, .aload_n 0, 1, 0, 0, 0, []), (19, .getfield 9, 3, 9, 0, 0, [376]), (22, .iload_n 1, 1, 0, 0, 0, []), (23, .iaload, 1, 0, 0, 0, []), (24, .invokestatic 46, 3, 108, 1, 0, [618, 620, 121, 619]), (27, .ifCond .eq 11, 3, 0, 0, 0, []), (30, .aload_n 0, 1, 0, 0, 0, []), (31, .iload_n 1, 1, 0, 0, 0, [])],
  [(32, .invokevirtual 49, 3, 104, 2, 0, [621, 624, 121, 623, 4, 9]), (35, .goto 8, 3, 0, 0, 0, []), (38, .aload_n 0, 1, 0, 0, 0, []), (39, .iload_n 1, 1, 0, 0, 0, []), (40, .invokevirtual 52, 3, 105, 2, 0, [628, 631, 121, 630, 5, 9]), (43, .ireturn, 1, 0, 0, 0, [])]]
def mX9_scanToken : xMeth := (yX9_scanToken, cX9_scanToken, 2, (some FieldType.int), kX9_scanToken)
def kX9_scanWord : xC := [[(0, .iload_n 1, 1, 0, 0, 0, []), (1, .iconst 1, 1, 0, 0, 0, []), (2, .iadd, 1, 0, 0, 0, []), (3, .istore_n 2, 1, 0, 0, 0, []), (4, .iload_n 2, 1, 0, 0, 0, []), (5, .aload_n 0, 1, 0, 0, 0, []), (6, .getfield 24, 3, 9, 1, 0, [377]), (9, .if_icmp .ge 21, 3, 0, 0, 0, []), (12, .aload_n 0, 1, 0, 0, 0, []), (13, .getfield 9, 3, 9, 0, 0, [376]), (16, .iload_n 2, 1, 0, 0, 0, []), (17, .iaload, 1, 0, 0, 0, []), (18, .invokestatic 39, 3, 107, 1, 0, [561, 563, 121, 562]), (21, .ifCond .eq 9, 3, 0, 0, 0, []), (24, .iinc 2 1, 3, 0, 0, 0, []), (27, .goto (-23), 3, 0, 0, 0, []), (30, .aload_n 0, 1, 0, 0, 0, []), (31, .aload_n 0, 1, 0, 0, 0, [])],
  [(32, .iload_n 1, 1, 0, 0, 0, []), (33, .iload_n 2, 1, 0, 0, 0, []), (34, .iload_n 1, 1, 0, 0, 0, []), (35, .isub, 1, 0, 0, 0, []), (36, .invokevirtual 55, 3, 106, 3, 0, [569, 572, 121, 571, 2, 9]), (39, .iload_n 1, 1, 0, 0, 0, []), (40, .iconst 0, 1, 0, 0, 0, []), (41, .invokevirtual 35, 3, 101, 4, 0, [614, 617, 121, 616, 3, 9]), (44, .iload_n 2, 1, 0, 0, 0, []), (45, .iload_n 1, 1, 0, 0, 0, []), (46, .isub, 1, 0, 0, 0, []), (47, .ireturn, 1, 0, 0, 0, [])]]
def mX9_scanWord : xMeth := (yX9_scanWord, cX9_scanWord, 3, (some FieldType.int), kX9_scanWord)
def kX9_scanNumber : xC := [[(0, .aload_n 0, 1, 0, 0, 0, []), (1, .getfield 9, 3, 9, 0, 0, [376]), (4, .iload_n 1, 1, 0, 0, 0, []), (5, .iaload, 1, 0, 0, 0, []), (6, .bipush 48, 2, 0, 0, 0, []), (8, .isub, 1, 0, 0, 0, []), (9, .istore_n 2, 1, 0, 0, 0, []), (10, .iload_n 1, 1, 0, 0, 0, []), (11, .iconst 1, 1, 0, 0, 0, []), (12, .iadd, 1, 0, 0, 0, []), (13, .istore_n 3, 1, 0, 0, 0, []), (14, .iload_n 3, 1, 0, 0, 0, []), (15, .aload_n 0, 1, 0, 0, 0, []), (16, .getfield 24, 3, 9, 1, 0, [377]), (19, .if_icmp .ge 42, 3, 0, 0, 0, []), (22, .aload_n 0, 1, 0, 0, 0, []), (23, .getfield 9, 3, 9, 0, 0, [376]), (26, .iload_n 3, 1, 0, 0, 0, []), (27, .iaload, 1, 0, 0, 0, []), (28, .invokestatic 46, 3, 108, 1, 0, [618, 620, 121, 619]), (31, .ifCond .eq 30, 3, 0, 0, 0, [])],
  [(34, .sipush 10000, 3, 0, 0, 0, []), (37, .iload_n 2, 1, 0, 0, 0, []), (38, .bipush 10, 2, 0, 0, 0, []), (40, .imul, 1, 0, 0, 0, []), (41, .aload_n 0, 1, 0, 0, 0, []), (42, .getfield 9, 3, 9, 0, 0, [376]), (45, .iload_n 3, 1, 0, 0, 0, []), (46, .iaload, 1, 0, 0, 0, []), (47, .iadd, 1, 0, 0, 0, []), (48, .bipush 48, 2, 0, 0, 0, []), (50, .isub, 1, 0, 0, 0, []), (51, .invokestatic 59, 3, 0, 0, 11, [625, 626, 128, 627]), (54, .istore_n 2, 1, 0, 0, 0, []), (55, .iinc 3 1, 3, 0, 0, 0, []), (58, .goto (-44), 3, 0, 0, 0, []), (61, .aload_n 0, 1, 0, 0, 0, []), (62, .bipush 38, 2, 0, 0, 0, [])],
  [(64, .iload_n 1, 1, 0, 0, 0, []), (65, .iload_n 2, 1, 0, 0, 0, []), (66, .invokevirtual 35, 3, 101, 4, 0, [614, 617, 121, 616, 3, 9]), (69, .iload_n 3, 1, 0, 0, 0, []), (70, .iload_n 1, 1, 0, 0, 0, []), (71, .isub, 1, 0, 0, 0, []), (72, .ireturn, 1, 0, 0, 0, [])]]
def mX9_scanNumber : xMeth := (yX9_scanNumber, cX9_scanNumber, 4, (some FieldType.int), kX9_scanNumber)
def kX9_scanSign : xC := [[(0, .ldc 64, 2, 1, 3, 0, []), (2, .aload_n 0, 1, 0, 0, 0, []), (3, .getfield 9, 3, 9, 0, 0, [376]), (6, .iload_n 1, 1, 0, 0, 0, []), (7, .iaload, 1, 0, 0, 0, []), (8, .i2c, 1, 0, 0, 0, []), (9, .invokevirtual 66, 3, 356, 2, 0, [633, 636, 124, 634, 635, 99]), (12, .istore_n 2, 1, 0, 0, 0, []), (13, .iload_n 2, 1, 0, 0, 0, []), (14, .ifCond .ge 13, 3, 0, 0, 0, []), (17, .aload_n 0, 1, 0, 0, 0, []), (18, .bipush 39, 2, 0, 0, 0, []), (20, .iload_n 1, 1, 0, 0, 0, []), (21, .iconst 0, 1, 0, 0, 0, []), (22, .invokevirtual 35, 3, 101, 4, 0, [614, 617, 121, 616, 3, 9]), (25, .iconst 1, 1, 0, 0, 0, []), (26, .ireturn, 1, 0, 0, 0, []), (27, .iload_n 2, 1, 0, 0, 0, []), (28, .iconst 1, 1, 0, 0, 0, []), (29, .if_icmp .gt 30, 3, 0, 0, 0, [])],
  [(32, .iload_n 1, 1, 0, 0, 0, []), (33, .iconst 1, 1, 0, 0, 0, []), (34, .iadd, 1, 0, 0, 0, []), (35, .aload_n 0, 1, 0, 0, 0, []), (36, .getfield 24, 3, 9, 1, 0, [377]), (39, .if_icmp .ge 20, 3, 0, 0, 0, []), (42, .aload_n 0, 1, 0, 0, 0, []), (43, .getfield 9, 3, 9, 0, 0, [376]), (46, .iload_n 1, 1, 0, 0, 0, []), (47, .iconst 1, 1, 0, 0, 0, []), (48, .iadd, 1, 0, 0, 0, []), (49, .iaload, 1, 0, 0, 0, []), (50, .bipush 61, 2, 0, 0, 0, []), (52, .if_icmp .ne 7, 3, 0, 0, 0, []), (55, .iconst 1, 1, 0, 0, 0, []), (56, .goto 4, 3, 0, 0, 0, []), (59, .iconst 0, 1, 0, 0, 0, []), (60, .istore_n 3, 1, 0, 0, 0, []), (61, .aload_n 0, 1, 0, 0, 0, []), (62, .iload_n 2, 1, 0, 0, 0, []), (63, .iload_n 3, 1, 0, 0, 0, [])],
  [(64, .ifCond .eq 8, 3, 0, 0, 0, []), (67, .bipush 36, 2, 0, 0, 0, []), (69, .goto 5, 3, 0, 0, 0, []), (72, .bipush 25, 2, 0, 0, 0, []), (74, .iadd, 1, 0, 0, 0, []), (75, .iload_n 1, 1, 0, 0, 0, []), (76, .iconst 0, 1, 0, 0, 0, []), (77, .invokevirtual 35, 3, 101, 4, 0, [614, 617, 121, 616, 3, 9]), (80, .iload_n 3, 1, 0, 0, 0, []), (81, .ifCond .eq 7, 3, 0, 0, 0, []), (84, .iconst 2, 1, 0, 0, 0, []), (85, .goto 4, 3, 0, 0, 0, []), (88, .iconst 1, 1, 0, 0, 0, []), (89, .ireturn, 1, 0, 0, 0, [])]]
def mX9_scanSign : xMeth := (yX9_scanSign, cX9_scanSign, 4, (some FieldType.int), kX9_scanSign)
def kX9_kindOfWord : xC := [[(0, .iconst 0, 1, 0, 0, 0, []), (1, .istore_n 3, 1, 0, 0, 0, []), (2, .iload_n 3, 1, 0, 0, 0, []), (3, .bipush 25, 2, 0, 0, 0, []), (5, .if_icmp .ge 96, 3, 0, 0, 0, []), (8, .iload_n 2, 1, 0, 0, 0, []), (9, .bipush 6, 2, 0, 0, 0, []), (11, .if_icmp .gt 90, 3, 0, 0, 0, []), (14, .iconst 0, 1, 0, 0, 0, []), (15, .istore 4, 2, 0, 0, 0, []), (17, .iload 4, 2, 0, 0, 0, []), (19, .iload_n 2, 1, 0, 0, 0, []), (20, .if_icmp .ge 33, 3, 0, 0, 0, []), (23, .ldc 71, 2, 1, 2, 0, []), (25, .iload_n 3, 1, 0, 0, 0, []), (26, .bipush 6, 2, 0, 0, 0, []), (28, .imul, 1, 0, 0, 0, []), (29, .iload 4, 2, 0, 0, 0, []), (31, .iadd, 1, 0, 0, 0, [])],
  [(32, .invokevirtual 73, 3, 354, 2, 0, [574, 577, 124, 575, 576, 99]), (35, .aload_n 0, 1, 0, 0, 0, []), (36, .getfield 9, 3, 9, 0, 0, [376]), (39, .iload_n 1, 1, 0, 0, 0, []), (40, .iload 4, 2, 0, 0, 0, []), (42, .iadd, 1, 0, 0, 0, []), (43, .iaload, 1, 0, 0, 0, []), (44, .if_icmp .ne 9, 3, 0, 0, 0, []), (47, .iinc 4 1, 3, 0, 0, 0, []), (50, .goto (-33), 3, 0, 0, 0, []), (53, .iload_n 2, 1, 0, 0, 0, []), (54, .bipush 6, 2, 0, 0, 0, []), (56, .if_icmp .eq 19, 3, 0, 0, 0, []), (59, .ldc 71, 2, 1, 2, 0, []), (61, .iload_n 3, 1, 0, 0, 0, []), (62, .bipush 6, 2, 0, 0, 0, [])],
  [(64, .imul, 1, 0, 0, 0, []), (65, .iload_n 2, 1, 0, 0, 0, []), (66, .iadd, 1, 0, 0, 0, []), (67, .invokevirtual 73, 3, 354, 2, 0, [574, 577, 124, 575, 576, 99]), (70, .bipush 32, 2, 0, 0, 0, []), (72, .if_icmp .ne 7, 3, 0, 0, 0, []), (75, .iconst 1, 1, 0, 0, 0, []), (76, .goto 4, 3, 0, 0, 0, []), (79, .iconst 0, 1, 0, 0, 0, []), (80, .istore 5, 2, 0, 0, 0, []), (82, .iload 4, 2, 0, 0, 0, []), (84, .iload_n 2, 1, 0, 0, 0, []), (85, .if_icmp .ne 10, 3, 0, 0, 0, []), (88, .iload 5, 2, 0, 0, 0, []), (90, .ifCond .eq 5, 3, 0, 0, 0, []), (93, .iload_n 3, 1, 0, 0, 0, []), (94, .ireturn, 1, 0, 0, 0, []), (95, .iinc 3 1, 3, 0, 0, 0, [])],
  [(98, .goto (-96), 3, 0, 0, 0, []), (101, .bipush 39, 2, 0, 0, 0, []), (103, .ireturn, 1, 0, 0, 0, [])]]
def mX9_kindOfWord : xMeth := (yX9_kindOfWord, cX9_kindOfWord, 6, (some FieldType.int), kX9_kindOfWord)
def kX9_isLetter : xC := [[(0, .iload_n 0, 1, 0, 0, 0, []), (1, .bipush 97, 2, 0, 0, 0, []), (3, .bipush 122, 2, 0, 0, 0, []), (5, .invokestatic 77, 3, 189, 3, 1, [564, 521, 112, 520]), (8, .ifCond .ne 14, 3, 0, 0, 0, []), (11, .iload_n 0, 1, 0, 0, 0, []), (12, .bipush 65, 2, 0, 0, 0, []), (14, .bipush 90, 2, 0, 0, 0, []), (16, .invokestatic 77, 3, 189, 3, 1, [564, 521, 112, 520]), (19, .ifCond .eq 7, 3, 0, 0, 0, []), (22, .iconst 1, 1, 0, 0, 0, []), (23, .goto 4, 3, 0, 0, 0, []), (26, .iconst 0, 1, 0, 0, 0, []), (27, .ireturn, 1, 0, 0, 0, [])]]
def mX9_isLetter : xMeth := (yX9_isLetter, cX9_isLetter, 1, (some FieldType.boolean), kX9_isLetter)
def kX9_isDigit : xC := [[(0, .iload_n 0, 1, 0, 0, 0, []), (1, .bipush 48, 2, 0, 0, 0, []), (3, .bipush 57, 2, 0, 0, 0, []), (5, .invokestatic 77, 3, 189, 3, 1, [564, 521, 112, 520]), (8, .ireturn, 1, 0, 0, 0, [])]]
def mX9_isDigit : xMeth := (yX9_isDigit, cX9_isDigit, 1, (some FieldType.boolean), kX9_isDigit)
def kX10_init : xC := [[(0, .aload_n 0, 1, 0, 0, 0, []), (1, .invokespecial 1, 3, 0, 0, 8, [785, 140, 141]), (4, .aload_n 0, 1, 0, 0, 0, []), (5, .aload_n 1, 1, 0, 0, 0, []), (6, .getfield 7, 3, 5, 5, 0, [408]), (9, .aload_n 1, 1, 0, 0, 0, []), (10, .getfield 13, 3, 5, 7, 0, [412]), (13, .invokestatic 17, 3, 353, 2, 0, [786, 788, 131, 787]), (16, .putfield 23, 3, 10, 0, 2, [800]), (19, .aload_n 0, 1, 0, 0, 0, []), (20, .aload_n 1, 1, 0, 0, 0, []), (21, .getfield 26, 3, 5, 6, 0, [410]), (24, .aload_n 1, 1, 0, 0, 0, []), (25, .getfield 13, 3, 5, 7, 0, [412]), (28, .invokestatic 17, 3, 353, 2, 0, [786, 788, 131, 787]), (31, .putfield 29, 3, 10, 1, 2, [802])],
  [(34, .aload_n 0, 1, 0, 0, 0, []), (35, .aload_n 1, 1, 0, 0, 0, []), (36, .getfield 30, 3, 5, 8, 0, [414]), (39, .putfield 33, 3, 10, 2, 0, [804]), (42, .aload_n 0, 1, 0, 0, 0, []), (43, .aload_n 1, 1, 0, 0, 0, []), (44, .getfield 34, 3, 5, 9, 0, [416]), (47, .putfield 37, 3, 10, 3, 0, [806]), (50, .aload_n 0, 1, 0, 0, 0, []), (51, .aload_n 1, 1, 0, 0, 0, []), (52, .getfield 38, 3, 5, 10, 0, [418]), (55, .putfield 41, 3, 10, 4, 0, [808]), (58, .aload_n 0, 1, 0, 0, 0, []), (59, .aload_n 1, 1, 0, 0, 0, []), (60, .getfield 42, 3, 5, 11, 0, [420]), (63, .putfield 45, 3, 10, 5, 0, [810])],
  [(66, .aload_n 0, 1, 0, 0, 0, []), (67, .aload_n 1, 1, 0, 0, 0, []), (68, .getfield 46, 3, 5, 12, 0, [423]), (71, .aload_n 1, 1, 0, 0, 0, []), (72, .getfield 49, 3, 5, 15, 0, [428]), (75, .invokestatic 17, 3, 353, 2, 0, [786, 788, 131, 787]), (78, .putfield 52, 3, 10, 6, 2, [812]), (81, .aload_n 0, 1, 0, 0, 0, []), (82, .aload_n 1, 1, 0, 0, 0, []), (83, .getfield 53, 3, 5, 13, 0, [425]), (86, .aload_n 1, 1, 0, 0, 0, []), (87, .getfield 49, 3, 5, 15, 0, [428]), (90, .invokestatic 17, 3, 353, 2, 0, [786, 788, 131, 787]), (93, .putfield 56, 3, 10, 7, 2, [814])],
  [(96, .aload_n 0, 1, 0, 0, 0, []), (97, .aload_n 1, 1, 0, 0, 0, []), (98, .getfield 57, 3, 5, 14, 0, [427]), (101, .aload_n 1, 1, 0, 0, 0, []), (102, .getfield 49, 3, 5, 15, 0, [428]), (105, .invokestatic 17, 3, 353, 2, 0, [786, 788, 131, 787]), (108, .putfield 60, 3, 10, 8, 2, [816]), (111, .return_, 1, 0, 0, 0, [])]]
def mX10_init : xMeth := (yX10_init, cX10_init, 2, none, kX10_init)
def kX11_init : xC := [[(0, .aload_n 0, 1, 0, 0, 0, []), (1, .invokespecial 1, 3, 0, 0, 8, [139, 140, 141]), (4, .aload_n 0, 1, 0, 0, 0, []), (5, .new 7, 3, 1, 4, 0, [142, 143, 113]), (8, .dup, 1, 0, 0, 0, []), (9, .invokespecial 9, 3, 15, 1, 1, [144, 146, 113, 145]), (12, .putfield 10, 3, 11, 0, 2, [481]), (15, .aload_n 0, 1, 0, 0, 0, []), (16, .aload_n 0, 1, 0, 0, 0, []), (17, .getfield 10, 3, 11, 0, 0, [481]), (20, .getfield 16, 3, 1, 0, 0, [347]), (23, .putfield 20, 3, 11, 1, 2, [482]), (26, .aload_n 0, 1, 0, 0, 0, []), (27, .new 21, 3, 0, 16, 0, [360, 149, 114]), (30, .dup, 1, 0, 0, 0, []), (31, .invokespecial 23, 3, 0, 1, 1, [361, 152, 114, 151])],
  [(34, .putfield 24, 3, 11, 2, 2, [483]), (37, .aload_n 0, 1, 0, 0, 0, []), (38, .new 27, 3, 2, 9, 0, [362, 155, 115]), (41, .dup, 1, 0, 0, 0, []), (42, .invokespecial 29, 3, 25, 1, 1, [363, 158, 115, 157]), (45, .putfield 30, 3, 11, 3, 2, [484]), (48, .aload_n 0, 1, 0, 0, 0, []), (49, .new 34, 3, 5, 16, 0, [364, 365, 120]), (52, .dup, 1, 0, 0, 0, []), (53, .invokespecial 36, 3, 57, 1, 1, [366, 368, 120, 367]), (56, .putfield 37, 3, 11, 4, 2, [485]), (59, .aload_n 0, 1, 0, 0, 0, []), (60, .aload_n 0, 1, 0, 0, 0, []), (61, .getfield 37, 3, 11, 4, 0, [485])],
  [(64, .getfield 41, 3, 5, 0, 0, [401]), (67, .putfield 45, 3, 11, 5, 2, [486]), (70, .aload_n 0, 1, 0, 0, 0, []), (71, .new 46, 3, 7, 3, 0, [463, 464, 122]), (74, .dup, 1, 0, 0, 0, []), (75, .invokespecial 48, 3, 88, 1, 1, [465, 467, 122, 466]), (78, .putfield 49, 3, 11, 6, 2, [487]), (81, .aload_n 0, 1, 0, 0, 0, []), (82, .bipush 8, 2, 0, 0, 0, []), (84, .newarray .int, 2, 0, 0, 0, [202]), (86, .putfield 53, 3, 11, 7, 2, [488]), (89, .aload_n 0, 1, 0, 0, 0, []), (90, .bipush 101, 2, 0, 0, 0, []), (92, .newarray .int, 2, 0, 0, 0, [202]), (94, .putfield 57, 3, 11, 8, 2, [489])],
  [(97, .aload_n 0, 1, 0, 0, 0, []), (98, .iconst (-1), 1, 0, 0, 0, []), (99, .putfield 60, 3, 11, 9, 0, [490]), (102, .aload_n 0, 1, 0, 0, 0, []), (103, .iconst (-1), 1, 0, 0, 0, []), (104, .putfield 64, 3, 11, 10, 0, [491]), (107, .return_, 1, 0, 0, 0, [])]]
def mX11_init : xMeth := (yX11_init, cX11_init, 1, none, kX11_init)
def kX11_bird : xC := [[(0, .iload_n 1, 1, 0, 0, 0, []), (1, .iconst 1, 1, 0, 0, 0, []), (2, .bipush 12, 2, 0, 0, 0, []), (4, .invokestatic 67, 3, 189, 3, 0, [519, 521, 112, 520]), (7, .ifCond .eq 24, 3, 0, 0, 0, []), (10, .iload_n 2, 1, 0, 0, 0, []), (11, .iconst 0, 1, 0, 0, 0, []), (12, .iload_n 1, 1, 0, 0, 0, []), (13, .iconst 1, 1, 0, 0, 0, []), (14, .isub, 1, 0, 0, 0, []), (15, .invokestatic 67, 3, 189, 3, 0, [519, 521, 112, 520]), (18, .ifCond .eq 13, 3, 0, 0, 0, []), (21, .iload_n 3, 1, 0, 0, 0, []), (22, .iconst 0, 1, 0, 0, 0, []), (23, .bipush 10, 2, 0, 0, 0, []), (25, .invokestatic 67, 3, 189, 3, 0, [519, 521, 112, 520]), (28, .ifCond .ne 5, 3, 0, 0, 0, []), (31, .iconst (-1), 1, 0, 0, 0, [])],
  [(32, .ireturn, 1, 0, 0, 0, []), (33, .aload_n 0, 1, 0, 0, 0, []), (34, .getfield 20, 3, 11, 1, 0, [482]), (37, .iload_n 1, 1, 0, 0, 0, []), (38, .iload_n 2, 1, 0, 0, 0, []), (39, .iload_n 3, 1, 0, 0, 0, []), (40, .invokevirtual 71, 3, 2, 4, 0, [522, 525, 114, 523, 524, 0]), (43, .ireturn, 1, 0, 0, 0, [])]]
def mX11_bird : xMeth := (yX11_bird, cX11_bird, 4, (some FieldType.int), kX11_bird)
def kX11_rhyme : xC := [[(0, .iload_n 1, 1, 0, 0, 0, []), (1, .invokestatic 75, 3, 191, 1, 0, [530, 532, 112, 531]), (4, .ifCond .eq 13, 3, 0, 0, 0, []), (7, .iload_n 2, 1, 0, 0, 0, []), (8, .iconst 0, 1, 0, 0, 0, []), (9, .bipush 9, 2, 0, 0, 0, []), (11, .invokestatic 67, 3, 189, 3, 0, [519, 521, 112, 520]), (14, .ifCond .ne 5, 3, 0, 0, 0, []), (17, .iconst 0, 1, 0, 0, 0, []), (18, .ireturn, 1, 0, 0, 0, []), (19, .aload_n 0, 1, 0, 0, 0, []), (20, .getfield 20, 3, 11, 1, 0, [482]), (23, .getfield 79, 3, 0, 6, 0, [294]), (26, .iload_n 1, 1, 0, 0, 0, []), (27, .iload_n 2, 1, 0, 0, 0, []), (28, .iastore, 1, 0, 0, 0, []), (29, .iconst 1, 1, 0, 0, 0, []), (30, .ireturn, 1, 0, 0, 0, [])]]
def mX11_rhyme : xMeth := (yX11_rhyme, cX11_rhyme, 3, (some FieldType.boolean), kX11_rhyme)
def kX11_feed : xC := [[(0, .aload_n 0, 1, 0, 0, 0, []), (1, .getfield 45, 3, 11, 5, 0, [486]), (4, .getfield 82, 3, 9, 1, 0, [378]), (7, .bipush 20, 2, 0, 0, 0, []), (9, .iadd, 1, 0, 0, 0, []), (10, .sipush 300, 3, 0, 0, 0, []), (13, .if_icmp .le 5, 3, 0, 0, 0, []), (16, .iconst (-1), 1, 0, 0, 0, []), (17, .ireturn, 1, 0, 0, 0, []), (18, .aload_n 0, 1, 0, 0, 0, []), (19, .getfield 45, 3, 11, 5, 0, [486]), (22, .iload_n 1, 1, 0, 0, 0, []), (23, .invokevirtual 87, 3, 99, 2, 0, [537, 540, 121, 538, 539, 9]), (26, .aload_n 0, 1, 0, 0, 0, []), (27, .getfield 45, 3, 11, 5, 0, [486]), (30, .iload_n 2, 1, 0, 0, 0, []), (31, .invokevirtual 87, 3, 99, 2, 0, [537, 540, 121, 538, 539, 9])],
  [(34, .aload_n 0, 1, 0, 0, 0, []), (35, .getfield 45, 3, 11, 5, 0, [486]), (38, .iload_n 3, 1, 0, 0, 0, []), (39, .invokevirtual 87, 3, 99, 2, 0, [537, 540, 121, 538, 539, 9]), (42, .aload_n 0, 1, 0, 0, 0, []), (43, .getfield 45, 3, 11, 5, 0, [486]), (46, .iload 4, 2, 0, 0, 0, []), (48, .invokevirtual 87, 3, 99, 2, 0, [537, 540, 121, 538, 539, 9]), (51, .aload_n 0, 1, 0, 0, 0, []), (52, .getfield 45, 3, 11, 5, 0, [486]), (55, .iload 5, 2, 0, 0, 0, []), (57, .invokevirtual 87, 3, 99, 2, 0, [537, 540, 121, 538, 539, 9]), (60, .aload_n 0, 1, 0, 0, 0, []), (61, .getfield 45, 3, 11, 5, 0, [486])],
  [(64, .getfield 82, 3, 9, 1, 0, [378]), (67, .ireturn, 1, 0, 0, 0, [])]]
def mX11_feed : xMeth := (yX11_feed, cX11_feed, 6, (some FieldType.int), kX11_feed)
def kX11_end : xC := [[(0, .iload_n 1, 1, 0, 0, 0, []), (1, .iconst 0, 1, 0, 0, 0, []), (2, .aload_n 0, 1, 0, 0, 0, []), (3, .getfield 45, 3, 11, 5, 0, [486]), (6, .getfield 82, 3, 9, 1, 0, [378]), (9, .invokestatic 67, 3, 189, 3, 0, [519, 521, 112, 520]), (12, .ifCond .ne 5, 3, 0, 0, 0, []), (15, .iconst (-1), 1, 0, 0, 0, []), (16, .ireturn, 1, 0, 0, 0, []), (17, .aload_n 0, 1, 0, 0, 0, []), (18, .getfield 45, 3, 11, 5, 0, [486]), (21, .iload_n 1, 1, 0, 0, 0, []), (22, .putfield 82, 3, 9, 1, 0, [378]), (25, .iload_n 1, 1, 0, 0, 0, []), (26, .ireturn, 1, 0, 0, 0, [])]]
def mX11_end : xMeth := (yX11_end, cX11_end, 2, (some FieldType.int), kX11_end)
def kX11_text : xC := [[(0, .aload_n 0, 1, 0, 0, 0, []), (1, .getfield 20, 3, 11, 1, 0, [482]), (4, .getfield 91, 3, 0, 8, 0, [298]), (7, .iconst 4, 1, 0, 0, 0, []), (8, .if_icmp .lt 5, 3, 0, 0, 0, []), (11, .iconst (-1), 1, 0, 0, 0, []), (12, .ireturn, 1, 0, 0, 0, []), (13, .aload_n 0, 1, 0, 0, 0, []), (14, .getfield 37, 3, 11, 4, 0, [485]), (17, .invokevirtual 94, 3, 58, 1, 0, [549, 552, 120, 550, 551, 5]), (20, .astore_n 1, 1, 0, 0, 0, []), (21, .aload_n 0, 1, 0, 0, 0, []), (22, .getfield 45, 3, 11, 5, 0, [486]), (25, .iconst 0, 1, 0, 0, 0, []), (26, .putfield 82, 3, 9, 1, 0, [378]), (29, .aload_n 0, 1, 0, 0, 0, []), (30, .aload_n 0, 1, 0, 0, 0, []), (31, .getfield 37, 3, 11, 4, 0, [485])],
  [(34, .getfield 98, 3, 5, 3, 0, [405]), (37, .putfield 60, 3, 11, 9, 0, [490]), (40, .aload_n 0, 1, 0, 0, 0, []), (41, .aload_n 0, 1, 0, 0, 0, []), (42, .getfield 37, 3, 11, 4, 0, [485]), (45, .getfield 101, 3, 5, 4, 0, [407]), (48, .putfield 64, 3, 11, 10, 0, [491]), (51, .aload_n 1, 1, 0, 0, 0, []), (52, .ifnonnull 7, 3, 0, 0, 0, []), (55, .iconst (-1), 1, 0, 0, 0, []), (56, .goto 11, 3, 0, 0, 0, []), (59, .aload_n 0, 1, 0, 0, 0, []), (60, .getfield 20, 3, 11, 1, 0, [482]), (63, .aload_n 1, 1, 0, 0, 0, [])],
  [(64, .invokevirtual 104, 3, 3, 2, 0, [838, 841, 114, 839, 840, 0]), (67, .ireturn, 1, 0, 0, 0, [])]]
def mX11_text : xMeth := (yX11_text, cX11_text, 2, (some FieldType.int), kX11_text)
def kX11_fault : xC := [[(0, .iload_n 1, 1, 0, 0, 0, []), (1, .ifCond .ne 8, 3, 0, 0, 0, []), (4, .aload_n 0, 1, 0, 0, 0, []), (5, .getfield 60, 3, 11, 9, 0, [490]), (8, .ireturn, 1, 0, 0, 0, []), (9, .iload_n 1, 1, 0, 0, 0, []), (10, .iconst 1, 1, 0, 0, 0, []), (11, .if_icmp .ne 10, 3, 0, 0, 0, []), (14, .aload_n 0, 1, 0, 0, 0, []), (15, .getfield 64, 3, 11, 10, 0, [491]), (18, .goto 4, 3, 0, 0, 0, []), (21, .iconst (-1), 1, 0, 0, 0, []), (22, .ireturn, 1, 0, 0, 0, [])]]
def mX11_fault : xMeth := (yX11_fault, cX11_fault, 2, (some FieldType.int), kX11_fault)
def kX11_by : xC := [[(0, .iload_n 1, 1, 0, 0, 0, []), (1, .iconst (-1), 1, 0, 0, 0, []), (2, .if_icmp .eq 16, 3, 0, 0, 0, []), (5, .aload_n 0, 1, 0, 0, 0, []), (6, .getfield 20, 3, 11, 1, 0, [482]), (9, .iload_n 1, 1, 0, 0, 0, []), (10, .invokevirtual 108, 3, 6, 2, 0, [850, 853, 114, 851, 852, 0]), (13, .ifCond .ne 5, 3, 0, 0, 0, []), (16, .iconst 0, 1, 0, 0, 0, []), (17, .ireturn, 1, 0, 0, 0, []), (18, .aload_n 0, 1, 0, 0, 0, []), (19, .getfield 20, 3, 11, 1, 0, [482]), (22, .iload_n 1, 1, 0, 0, 0, []), (23, .putfield 111, 3, 0, 9, 0, [300]), (26, .iconst 1, 1, 0, 0, 0, []), (27, .ireturn, 1, 0, 0, 0, [])]]
def mX11_by : xMeth := (yX11_by, cX11_by, 2, (some FieldType.boolean), kX11_by)
def kX11_thin : xC := [[(0, .aload_n 0, 1, 0, 0, 0, []), (1, .getfield 20, 3, 11, 1, 0, [482]), (4, .iload_n 1, 1, 0, 0, 0, []), (5, .invokevirtual 114, 3, 11, 2, 0, [858, 861, 114, 859, 860, 0]), (8, .ifCond .ne 5, 3, 0, 0, 0, []), (11, .iconst 0, 1, 0, 0, 0, []), (12, .ireturn, 1, 0, 0, 0, []), (13, .aload_n 0, 1, 0, 0, 0, []), (14, .getfield 20, 3, 11, 1, 0, [482]), (17, .getfield 117, 3, 0, 1, 0, [282]), (20, .aload_n 0, 1, 0, 0, 0, []), (21, .getfield 20, 3, 11, 1, 0, [482]), (24, .getfield 121, 3, 0, 0, 0, [280]), (27, .invokevirtual 124, 3, 96, 2, 0, [873, 876, 116, 874, 875, 8]), (30, .aload_n 0, 1, 0, 0, 0, []), (31, .getfield 20, 3, 11, 1, 0, [482])],
  [(34, .getfield 121, 3, 0, 0, 0, [280]), (37, .iload_n 1, 1, 0, 0, 0, []), (38, .invokevirtual 130, 3, 28, 2, 0, [882, 885, 115, 883, 884, 2]), (41, .iconst 1, 1, 0, 0, 0, []), (42, .ireturn, 1, 0, 0, 0, [])]]
def mX11_thin : xMeth := (yX11_thin, cX11_thin, 2, (some FieldType.boolean), kX11_thin)
def kX11_call : xC := [[(0, .aload_n 0, 1, 0, 0, 0, []), (1, .getfield 20, 3, 11, 1, 0, [482]), (4, .iload_n 1, 1, 0, 0, 0, []), (5, .invokevirtual 133, 3, 12, 2, 0, [890, 893, 114, 891, 892, 0]), (8, .ifCond .ne 5, 3, 0, 0, 0, []), (11, .iconst 0, 1, 0, 0, 0, []), (12, .ireturn, 1, 0, 0, 0, []), (13, .aload_n 0, 1, 0, 0, 0, []), (14, .getfield 20, 3, 11, 1, 0, [482]), (17, .getfield 117, 3, 0, 1, 0, [282]), (20, .aload_n 0, 1, 0, 0, 0, []), (21, .getfield 20, 3, 11, 1, 0, [482]), (24, .getfield 121, 3, 0, 0, 0, [280]), (27, .invokevirtual 124, 3, 96, 2, 0, [873, 876, 116, 874, 875, 8]), (30, .aload_n 0, 1, 0, 0, 0, []), (31, .getfield 20, 3, 11, 1, 0, [482])],
  [(34, .getfield 121, 3, 0, 0, 0, [280]), (37, .iload_n 1, 1, 0, 0, 0, []), (38, .invokevirtual 136, 3, 29, 2, 0, [894, 897, 115, 895, 896, 2]), (41, .iconst 1, 1, 0, 0, 0, []), (42, .ireturn, 1, 0, 0, 0, [])]]
def mX11_call : xMeth := (yX11_call, cX11_call, 2, (some FieldType.boolean), kX11_call)
def kX11_grant : xC := [[(0, .iload_n 1, 1, 0, 0, 0, []), (1, .ifCond .eq 27, 3, 0, 0, 0, []), (4, .iload_n 1, 1, 0, 0, 0, []), (5, .sipush (-999), 3, 0, 0, 0, []), (8, .sipush 999, 3, 0, 0, 0, []), (11, .invokestatic 67, 3, 189, 3, 0, [519, 521, 112, 520]), (14, .ifCond .eq 14, 3, 0, 0, 0, []), (17, .aload_n 0, 1, 0, 0, 0, []), (18, .getfield 20, 3, 11, 1, 0, [482]), (21, .iload_n 1, 1, 0, 0, 0, []), (22, .invokevirtual 139, 3, 13, 2, 0, [902, 905, 114, 903, 904, 0]), (25, .ifCond .ne 5, 3, 0, 0, 0, []), (28, .iconst 0, 1, 0, 0, 0, []), (29, .ireturn, 1, 0, 0, 0, []), (30, .aload_n 0, 1, 0, 0, 0, []), (31, .getfield 20, 3, 11, 1, 0, [482])],
  [(34, .getfield 117, 3, 0, 1, 0, [282]), (37, .aload_n 0, 1, 0, 0, 0, []), (38, .getfield 20, 3, 11, 1, 0, [482]), (41, .getfield 121, 3, 0, 0, 0, [280]), (44, .invokevirtual 124, 3, 96, 2, 0, [873, 876, 116, 874, 875, 8]), (47, .aload_n 0, 1, 0, 0, 0, []), (48, .getfield 20, 3, 11, 1, 0, [482]), (51, .getfield 121, 3, 0, 0, 0, [280]), (54, .dup, 1, 0, 0, 0, []), (55, .getfield 142, 3, 2, 1, 0, [164]), (58, .iload_n 1, 1, 0, 0, 0, []), (59, .iadd, 1, 0, 0, 0, []), (60, .putfield 142, 3, 2, 1, 0, [164]), (63, .iconst 1, 1, 0, 0, 0, [])],
  [(64, .ireturn, 1, 0, 0, 0, [])]]
def mX11_grant : xMeth := (yX11_grant, cX11_grant, 2, (some FieldType.boolean), kX11_grant)
def kX11_day : xC := [[(0, .iload_n 1, 1, 0, 0, 0, []), (1, .iconst 1, 1, 0, 0, 0, []), (2, .bipush 60, 2, 0, 0, 0, []), (4, .invokestatic 67, 3, 189, 3, 0, [519, 521, 112, 520]), (7, .ifCond .eq 21, 3, 0, 0, 0, []), (10, .aload_n 0, 1, 0, 0, 0, []), (11, .getfield 20, 3, 11, 1, 0, [482]), (14, .getfield 121, 3, 0, 0, 0, [280]), (17, .getfield 145, 3, 2, 4, 0, [173]), (20, .iload_n 1, 1, 0, 0, 0, []), (21, .iadd, 1, 0, 0, 0, []), (22, .sipush 9999, 3, 0, 0, 0, []), (25, .if_icmp .le 5, 3, 0, 0, 0, []), (28, .iconst (-1), 1, 0, 0, 0, []), (29, .ireturn, 1, 0, 0, 0, []), (30, .aload_n 0, 1, 0, 0, 0, []), (31, .iload_n 1, 1, 0, 0, 0, [])],
  [(32, .invokevirtual 148, 3, 171, 2, 0, [911, 914, 112, 913, 25, 11]), (35, .ireturn, 1, 0, 0, 0, [])]]
def mX11_day : xMeth := (yX11_day, cX11_day, 2, (some FieldType.int), kX11_day)
def kX11_played : xC := [[(0, .aload_n 0, 1, 0, 0, 0, []), (1, .getfield 20, 3, 11, 1, 0, [482]), (4, .iload_n 1, 1, 0, 0, 0, []), (5, .invokevirtual 152, 3, 7, 2, 0, [1006, 939, 114, 937, 938, 0]), (8, .astore_n 2, 1, 0, 0, 0, []), (9, .aload_n 2, 1, 0, 0, 0, []), (10, .ifnonnull 6, 3, 0, 0, 0, []), (13, .bipush (-2), 2, 0, 0, 0, []), (15, .ireturn, 1, 0, 0, 0, []), (16, .iconst 0, 1, 0, 0, 0, []), (17, .istore_n 3, 1, 0, 0, 0, []), (18, .iload_n 3, 1, 0, 0, 0, []), (19, .aload_n 2, 1, 0, 0, 0, []), (20, .getfield 156, 3, 10, 6, 0, [813]), (23, .arraylength, 1, 0, 0, 0, []), (24, .if_icmp .ge 36, 3, 0, 0, 0, []), (27, .aload_n 0, 1, 0, 0, 0, []), (28, .aload_n 2, 1, 0, 0, 0, []), (29, .getfield 156, 3, 10, 6, 0, [813])],
  [(32, .iload_n 3, 1, 0, 0, 0, []), (33, .iaload, 1, 0, 0, 0, []), (34, .aload_n 2, 1, 0, 0, 0, []), (35, .getfield 161, 3, 10, 7, 0, [815]), (38, .iload_n 3, 1, 0, 0, 0, []), (39, .iaload, 1, 0, 0, 0, []), (40, .aload_n 2, 1, 0, 0, 0, []), (41, .getfield 164, 3, 10, 8, 0, [817]), (44, .iload_n 3, 1, 0, 0, 0, []), (45, .iaload, 1, 0, 0, 0, []), (46, .invokevirtual 167, 3, 173, 4, 0, [1007, 1010, 112, 1009, 30, 11]), (49, .ifCond .ne 5, 3, 0, 0, 0, []), (52, .iload_n 3, 1, 0, 0, 0, []), (53, .ireturn, 1, 0, 0, 0, []), (54, .iinc 3 1, 3, 0, 0, 0, []), (57, .goto (-39), 3, 0, 0, 0, []), (60, .iconst (-1), 1, 0, 0, 0, []), (61, .ireturn, 1, 0, 0, 0, [])]]
def mX11_played : xMeth := (yX11_played, cX11_played, 4, (some FieldType.int), kX11_played)
def kX11_years : xC := [[(0, .iload_n 1, 1, 0, 0, 0, []), (1, .iconst 0, 1, 0, 0, 0, []), (2, .sipush 9999, 3, 0, 0, 0, []), (5, .invokestatic 67, 3, 189, 3, 0, [519, 521, 112, 520]), (8, .ifCond .eq 13, 3, 0, 0, 0, []), (11, .iload_n 2, 1, 0, 0, 0, []), (12, .iconst 1, 1, 0, 0, 0, []), (13, .bipush 40, 2, 0, 0, 0, []), (15, .invokestatic 67, 3, 189, 3, 0, [519, 521, 112, 520]), (18, .ifCond .ne 5, 3, 0, 0, 0, []), (21, .iconst (-1), 1, 0, 0, 0, []), (22, .ireturn, 1, 0, 0, 0, []), (23, .aload_n 0, 1, 0, 0, 0, []), (24, .getfield 20, 3, 11, 1, 0, [482]), (27, .getfield 117, 3, 0, 1, 0, [282]), (30, .aload_n 0, 1, 0, 0, 0, []), (31, .getfield 20, 3, 11, 1, 0, [482])],
  [(34, .getfield 121, 3, 0, 0, 0, [280]), (37, .invokevirtual 124, 3, 96, 2, 0, [873, 876, 116, 874, 875, 8]), (40, .aload_n 0, 1, 0, 0, 0, []), (41, .getfield 20, 3, 11, 1, 0, [482]), (44, .getfield 121, 3, 0, 0, 0, [280]), (47, .iload_n 1, 1, 0, 0, 0, []), (48, .iconst 2, 1, 0, 0, 0, []), (49, .imul, 1, 0, 0, 0, []), (50, .sipush 419, 3, 0, 0, 0, []), (53, .iadd, 1, 0, 0, 0, []), (54, .putfield 170, 3, 2, 5, 0, [176]), (57, .iconst 0, 1, 0, 0, 0, []), (58, .istore_n 3, 1, 0, 0, 0, []), (59, .iload_n 3, 1, 0, 0, 0, []), (60, .iload_n 2, 1, 0, 0, 0, []), (61, .if_icmp .ge 13, 3, 0, 0, 0, [])],
  [(64, .aload_n 0, 1, 0, 0, 0, []), (65, .invokevirtual 173, 3, 174, 1, 0, [1021, 1024, 112, 1023, 31, 11]), (68, .iinc 3 1, 3, 0, 0, 0, []), (71, .goto (-12), 3, 0, 0, 0, []), (74, .aload_n 0, 1, 0, 0, 0, []), (75, .getfield 20, 3, 11, 1, 0, [482]), (78, .getfield 121, 3, 0, 0, 0, [280]), (81, .getfield 145, 3, 2, 4, 0, [173]), (84, .ireturn, 1, 0, 0, 0, [])]]
def mX11_years : xMeth := (yX11_years, cX11_years, 4, (some FieldType.int), kX11_years)
def kX11_undo : xC := [[(0, .aload_n 0, 1, 0, 0, 0, []), (1, .getfield 20, 3, 11, 1, 0, [482]), (4, .getfield 117, 3, 0, 1, 0, [282]), (7, .getfield 176, 3, 8, 2, 0, [215]), (10, .ifCond .ne 5, 3, 0, 0, 0, []), (13, .iconst (-1), 1, 0, 0, 0, []), (14, .ireturn, 1, 0, 0, 0, []), (15, .aload_n 0, 1, 0, 0, 0, []), (16, .getfield 20, 3, 11, 1, 0, [482]), (19, .getfield 117, 3, 0, 1, 0, [282]), (22, .aload_n 0, 1, 0, 0, 0, []), (23, .getfield 20, 3, 11, 1, 0, [482]), (26, .getfield 121, 3, 0, 0, 0, [280]), (29, .invokevirtual 179, 3, 97, 2, 0, [1033, 1036, 116, 1034, 1035, 8])],
  [(32, .aload_n 0, 1, 0, 0, 0, []), (33, .getfield 20, 3, 11, 1, 0, [482]), (36, .getfield 117, 3, 0, 1, 0, [282]), (39, .getfield 176, 3, 8, 2, 0, [215]), (42, .ireturn, 1, 0, 0, 0, [])]]
def mX11_undo : xMeth := (yX11_undo, cX11_undo, 1, (some FieldType.int), kX11_undo)
def kX11_of : xC := [[(0, .aload_n 0, 1, 0, 0, 0, []), (1, .getfield 20, 3, 11, 1, 0, [482]), (4, .iload_n 1, 1, 0, 0, 0, []), (5, .invokevirtual 182, 3, 5, 2, 0, [1041, 865, 114, 863, 864, 0]), (8, .ifCond .ne 5, 3, 0, 0, 0, []), (11, .iconst (-1), 1, 0, 0, 0, []), (12, .ireturn, 1, 0, 0, 0, []), (13, .iload_n 2, 1, 0, 0, 0, []), (14, .tableswitch 110 0 5 #[38, 48, 58, 68, 88, 101], 38, 0, 0, 0, [])],
  [(52, .aload_n 0, 1, 0, 0, 0, []), (53, .getfield 20, 3, 11, 1, 0, [482]), (56, .getfield 185, 3, 0, 2, 0, [285]), (59, .iload_n 1, 1, 0, 0, 0, []), (60, .iaload, 1, 0, 0, 0, []), (61, .ireturn, 1, 0, 0, 0, []), (62, .aload_n 0, 1, 0, 0, 0, []), (63, .getfield 20, 3, 11, 1, 0, [482])],
  [(66, .getfield 188, 3, 0, 3, 0, [287]), (69, .iload_n 1, 1, 0, 0, 0, []), (70, .iaload, 1, 0, 0, 0, []), (71, .ireturn, 1, 0, 0, 0, []), (72, .aload_n 0, 1, 0, 0, 0, []), (73, .getfield 20, 3, 11, 1, 0, [482]), (76, .getfield 191, 3, 0, 4, 0, [290]), (79, .iload_n 1, 1, 0, 0, 0, []), (80, .iaload, 1, 0, 0, 0, []), (81, .ireturn, 1, 0, 0, 0, []), (82, .aload_n 0, 1, 0, 0, 0, []), (83, .getfield 20, 3, 11, 1, 0, [482]), (86, .getfield 121, 3, 0, 0, 0, [280]), (89, .iload_n 1, 1, 0, 0, 0, []), (90, .invokevirtual 194, 3, 27, 2, 0, [1042, 869, 115, 867, 868, 2]), (93, .ifCond .eq 7, 3, 0, 0, 0, [])],
  [(96, .iconst 1, 1, 0, 0, 0, []), (97, .goto 4, 3, 0, 0, 0, []), (100, .iconst 0, 1, 0, 0, 0, []), (101, .ireturn, 1, 0, 0, 0, []), (102, .aload_n 0, 1, 0, 0, 0, []), (103, .getfield 20, 3, 11, 1, 0, [482]), (106, .getfield 121, 3, 0, 0, 0, [280]), (109, .getfield 197, 3, 2, 6, 0, [179]), (112, .iload_n 1, 1, 0, 0, 0, []), (113, .iaload, 1, 0, 0, 0, []), (114, .ireturn, 1, 0, 0, 0, []), (115, .aload_n 0, 1, 0, 0, 0, []), (116, .getfield 10, 3, 11, 0, 0, [481]), (119, .iload_n 1, 1, 0, 0, 0, []), (120, .invokevirtual 200, 3, 16, 2, 0, [927, 930, 113, 928, 929, 1]), (123, .ireturn, 1, 0, 0, 0, []), (124, .iconst (-1), 1, 0, 0, 0, []), (125, .ireturn, 1, 0, 0, 0, [])]]
def mX11_of : xMeth := (yX11_of, cX11_of, 3, (some FieldType.int), kX11_of)
def kX11_is : xC := [[(0, .iload_n 1, 1, 0, 0, 0, []), (1, .tableswitch 90 0 4 #[35, 46, 57, 68, 79], 35, 0, 0, 0, [])],
  [(36, .aload_n 0, 1, 0, 0, 0, []), (37, .getfield 20, 3, 11, 1, 0, [482]), (40, .getfield 121, 3, 0, 0, 0, [280]), (43, .getfield 145, 3, 2, 4, 0, [173]), (46, .ireturn, 1, 0, 0, 0, []), (47, .aload_n 0, 1, 0, 0, 0, []), (48, .getfield 20, 3, 11, 1, 0, [482]), (51, .getfield 121, 3, 0, 0, 0, [280]), (54, .getfield 170, 3, 2, 5, 0, [176]), (57, .ireturn, 1, 0, 0, 0, []), (58, .aload_n 0, 1, 0, 0, 0, []), (59, .getfield 20, 3, 11, 1, 0, [482]), (62, .getfield 121, 3, 0, 0, 0, [280])],
  [(65, .getfield 142, 3, 2, 1, 0, [164]), (68, .ireturn, 1, 0, 0, 0, []), (69, .aload_n 0, 1, 0, 0, 0, []), (70, .getfield 20, 3, 11, 1, 0, [482]), (73, .getfield 121, 3, 0, 0, 0, [280]), (76, .getfield 203, 3, 2, 2, 0, [168]), (79, .ireturn, 1, 0, 0, 0, []), (80, .aload_n 0, 1, 0, 0, 0, []), (81, .getfield 20, 3, 11, 1, 0, [482]), (84, .getfield 121, 3, 0, 0, 0, [280]), (87, .getfield 206, 3, 2, 3, 0, [170]), (90, .ireturn, 1, 0, 0, 0, []), (91, .ldc 209, 2, 0, 0, (-100000), [1047]), (93, .ireturn, 1, 0, 0, 0, [])]]
def mX11_is : xMeth := (yX11_is, cX11_is, 2, (some FieldType.int), kX11_is)
def kX11_things : xC := [[(0, .iload_n 1, 1, 0, 0, 0, []), (1, .invokestatic 75, 3, 191, 1, 0, [530, 532, 112, 531]), (4, .ifCond .eq 15, 3, 0, 0, 0, []), (7, .aload_n 0, 1, 0, 0, 0, []), (8, .getfield 20, 3, 11, 1, 0, [482]), (11, .getfield 79, 3, 0, 6, 0, [294]), (14, .iload_n 1, 1, 0, 0, 0, []), (15, .iaload, 1, 0, 0, 0, []), (16, .goto 4, 3, 0, 0, 0, []), (19, .iconst (-1), 1, 0, 0, 0, []), (20, .ireturn, 1, 0, 0, 0, [])]]
def mX11_things : xMeth := (yX11_things, cX11_things, 2, (some FieldType.int), kX11_things)
def kX11_brings : xC := [[(0, .iload_n 1, 1, 0, 0, 0, []), (1, .invokestatic 75, 3, 191, 1, 0, [530, 532, 112, 531]), (4, .ifCond .eq 21, 3, 0, 0, 0, []), (7, .aload_n 0, 1, 0, 0, 0, []), (8, .getfield 10, 3, 11, 0, 0, [481]), (11, .aload_n 0, 1, 0, 0, 0, []), (12, .getfield 20, 3, 11, 1, 0, [482]), (15, .invokevirtual 210, 3, 8, 1, 0, [992, 935, 114, 933, 934, 0]), (18, .iload_n 1, 1, 0, 0, 0, []), (19, .invokevirtual 213, 3, 17, 3, 0, [993, 996, 113, 994, 995, 1]), (22, .goto 6, 3, 0, 0, 0, []), (25, .sipush (-1000), 3, 0, 0, 0, []), (28, .ireturn, 1, 0, 0, 0, [])]]
def mX11_brings : xMeth := (yX11_brings, cX11_brings, 2, (some FieldType.int), kX11_brings)
def kX11_book : xC := [[(0, .iload_n 1, 1, 0, 0, 0, []), (1, .iconst (-1), 1, 0, 0, 0, []), (2, .if_icmp .ne 14, 3, 0, 0, 0, []), (5, .aload_n 0, 1, 0, 0, 0, []), (6, .getfield 20, 3, 11, 1, 0, [482]), (9, .getfield 121, 3, 0, 0, 0, [280]), (12, .getfield 217, 3, 2, 8, 0, [182]), (15, .ireturn, 1, 0, 0, 0, []), (16, .iload_n 1, 1, 0, 0, 0, []), (17, .iconst 0, 1, 0, 0, 0, []), (18, .aload_n 0, 1, 0, 0, 0, []), (19, .getfield 20, 3, 11, 1, 0, [482]), (22, .getfield 121, 3, 0, 0, 0, [280]), (25, .getfield 217, 3, 2, 8, 0, [182]), (28, .iconst 1, 1, 0, 0, 0, []), (29, .isub, 1, 0, 0, 0, []), (30, .invokestatic 67, 3, 189, 3, 0, [519, 521, 112, 520])],
  [(33, .ifCond .eq 12, 3, 0, 0, 0, []), (36, .iload_n 2, 1, 0, 0, 0, []), (37, .iconst 0, 1, 0, 0, 0, []), (38, .iconst 3, 1, 0, 0, 0, []), (39, .invokestatic 67, 3, 189, 3, 0, [519, 521, 112, 520]), (42, .ifCond .ne 7, 3, 0, 0, 0, []), (45, .sipush (-1000), 3, 0, 0, 0, []), (48, .ireturn, 1, 0, 0, 0, []), (49, .aload_n 0, 1, 0, 0, 0, []), (50, .getfield 20, 3, 11, 1, 0, [482]), (53, .getfield 121, 3, 0, 0, 0, [280]), (56, .iload_n 1, 1, 0, 0, 0, []), (57, .iload_n 2, 1, 0, 0, 0, []), (58, .invokevirtual 220, 3, 33, 3, 0, [1060, 1063, 115, 1061, 1062, 2]), (61, .ireturn, 1, 0, 0, 0, [])]]
def mX11_book : xMeth := (yX11_book, cX11_book, 3, (some FieldType.int), kX11_book)
def kX11_foretold : xC := [[(0, .iload_n 1, 1, 0, 0, 0, []), (1, .iconst 1, 1, 0, 0, 0, []), (2, .bipush 60, 2, 0, 0, 0, []), (4, .invokestatic 67, 3, 189, 3, 0, [519, 521, 112, 520]), (7, .ifCond .eq 12, 3, 0, 0, 0, []), (10, .iload_n 2, 1, 0, 0, 0, []), (11, .iconst 0, 1, 0, 0, 0, []), (12, .iconst 1, 1, 0, 0, 0, []), (13, .invokestatic 67, 3, 189, 3, 0, [519, 521, 112, 520]), (16, .ifCond .ne 6, 3, 0, 0, 0, []), (19, .ldc 209, 2, 0, 0, (-100000), [1047]), (21, .ireturn, 1, 0, 0, 0, []), (22, .aload_n 0, 1, 0, 0, 0, []), (23, .getfield 30, 3, 11, 3, 0, [484]), (26, .aload_n 0, 1, 0, 0, 0, []), (27, .getfield 20, 3, 11, 1, 0, [482]), (30, .getfield 121, 3, 0, 0, 0, [280])],
  [(33, .invokevirtual 224, 3, 26, 2, 0, [1068, 880, 115, 878, 879, 2]), (36, .iconst 0, 1, 0, 0, 0, []), (37, .istore_n 3, 1, 0, 0, 0, []), (38, .iload_n 3, 1, 0, 0, 0, []), (39, .iload_n 1, 1, 0, 0, 0, []), (40, .if_icmp .ge 24, 3, 0, 0, 0, []), (43, .aload_n 0, 1, 0, 0, 0, []), (44, .getfield 20, 3, 11, 1, 0, [482]), (47, .invokevirtual 227, 3, 14, 1, 0, [1025, 1028, 114, 1026, 1027, 0]), (50, .ifCond .eq 14, 3, 0, 0, 0, []), (53, .aload_n 0, 1, 0, 0, 0, []), (54, .invokevirtual 231, 3, 172, 1, 0, [915, 918, 112, 917, 26, 11]), (57, .pop, 1, 0, 0, 0, []), (58, .iinc 3 1, 3, 0, 0, 0, []), (61, .goto (-23), 3, 0, 0, 0, [])],
  [(64, .iload_n 2, 1, 0, 0, 0, []), (65, .ifCond .ne 16, 3, 0, 0, 0, []), (68, .aload_n 0, 1, 0, 0, 0, []), (69, .getfield 20, 3, 11, 1, 0, [482]), (72, .getfield 121, 3, 0, 0, 0, [280]), (75, .getfield 142, 3, 2, 1, 0, [164]), (78, .goto 13, 3, 0, 0, 0, []), (81, .aload_n 0, 1, 0, 0, 0, []), (82, .getfield 20, 3, 11, 1, 0, [482]), (85, .getfield 121, 3, 0, 0, 0, [280]), (88, .getfield 203, 3, 2, 2, 0, [168]), (91, .istore_n 3, 1, 0, 0, 0, []), (92, .aload_n 0, 1, 0, 0, 0, []), (93, .getfield 20, 3, 11, 1, 0, [482])],
  [(96, .getfield 121, 3, 0, 0, 0, [280]), (99, .aload_n 0, 1, 0, 0, 0, []), (100, .getfield 30, 3, 11, 3, 0, [484]), (103, .invokevirtual 224, 3, 26, 2, 0, [1068, 880, 115, 878, 879, 2]), (106, .iload_n 3, 1, 0, 0, 0, []), (107, .ireturn, 1, 0, 0, 0, [])]]
def mX11_foretold : xMeth := (yX11_foretold, cX11_foretold, 4, (some FieldType.int), kX11_foretold)
def kX11_likely : xC := [[(0, .iload_n 1, 1, 0, 0, 0, []), (1, .invokestatic 75, 3, 191, 1, 0, [530, 532, 112, 531]), (4, .ifCond .ne 7, 3, 0, 0, 0, []), (7, .ldc2_w 235, 3, 0, 0, (-1), [1073]), (10, .lreturn, 1, 0, 0, 0, []), (11, .aload_n 0, 1, 0, 0, 0, []), (12, .getfield 20, 3, 11, 1, 0, [482]), (15, .aload_n 0, 1, 0, 0, 0, []), (16, .getfield 20, 3, 11, 1, 0, [482]), (19, .getfield 121, 3, 0, 0, 0, [280]), (22, .getfield 145, 3, 2, 4, 0, [173]), (25, .invokevirtual 237, 3, 10, 2, 0, [1074, 1077, 114, 1075, 1076, 0]), (28, .istore_n 3, 1, 0, 0, 0, []), (29, .aload_n 0, 1, 0, 0, 0, []), (30, .invokevirtual 240, 3, 175, 1, 0, [1079, 1082, 112, 1081, 32, 11])],
  [(33, .aload_n 0, 1, 0, 0, 0, []), (34, .iload_n 3, 1, 0, 0, 0, []), (35, .iconst 0, 1, 0, 0, 0, []), (36, .invokevirtual 243, 3, 176, 3, 0, [1083, 1086, 112, 1085, 33, 11]), (39, .aload_n 0, 1, 0, 0, 0, []), (40, .getfield 49, 3, 11, 6, 0, [487]), (43, .iload_n 1, 1, 0, 0, 0, []), (44, .invokevirtual 247, 3, 92, 2, 0, [1100, 1103, 122, 1101, 1102, 7]), (47, .aload_n 0, 1, 0, 0, 0, []), (48, .getfield 49, 3, 11, 6, 0, [487]), (51, .getfield 251, 3, 7, 2, 0, [472]), (54, .iload_n 2, 1, 0, 0, 0, []), (55, .invokestatic 255, 3, 188, 3, 0, [1105, 1107, 112, 1106]), (58, .lreturn, 1, 0, 0, 0, [])]]
def mX11_likely : xMeth := (yX11_likely, cX11_likely, 4, (some FieldType.long), kX11_likely)
def kX11_mean : xC := [[(0, .aload_n 0, 1, 0, 0, 0, []), (1, .getfield 20, 3, 11, 1, 0, [482]), (4, .aload_n 0, 1, 0, 0, 0, []), (5, .getfield 20, 3, 11, 1, 0, [482]), (8, .getfield 121, 3, 0, 0, 0, [280]), (11, .getfield 145, 3, 2, 4, 0, [173]), (14, .invokevirtual 237, 3, 10, 2, 0, [1074, 1077, 114, 1075, 1076, 0]), (17, .istore_n 2, 1, 0, 0, 0, []), (18, .aload_n 0, 1, 0, 0, 0, []), (19, .invokevirtual 240, 3, 175, 1, 0, [1079, 1082, 112, 1081, 32, 11]), (22, .iconst 0, 1, 0, 0, 0, []), (23, .istore_n 3, 1, 0, 0, 0, []), (24, .iconst 0, 1, 0, 0, 0, []), (25, .istore 4, 2, 0, 0, 0, []), (27, .iload 4, 2, 0, 0, 0, []), (29, .bipush 8, 2, 0, 0, 0, []), (31, .if_icmp .ge 28, 3, 0, 0, 0, [])],
  [(34, .iload_n 2, 1, 0, 0, 0, []), (35, .iload 4, 2, 0, 0, 0, []), (37, .invokestatic 259, 3, 194, 2, 0, [1094, 872, 112, 871]), (40, .ifCond .eq 13, 3, 0, 0, 0, []), (43, .iload_n 3, 1, 0, 0, 0, []), (44, .aload_n 0, 1, 0, 0, 0, []), (45, .getfield 53, 3, 11, 7, 0, [488]), (48, .iload 4, 2, 0, 0, 0, []), (50, .iaload, 1, 0, 0, 0, []), (51, .iadd, 1, 0, 0, 0, []), (52, .istore_n 3, 1, 0, 0, 0, []), (53, .iinc 4 1, 3, 0, 0, 0, []), (56, .goto (-29), 3, 0, 0, 0, []), (59, .iload_n 3, 1, 0, 0, 0, []), (60, .i2l, 1, 0, 0, 0, []), (61, .ldc2_w 263, 3, 0, 0, 10, [1115])],
  [(64, .iload_n 1, 1, 0, 0, 0, []), (65, .invokestatic 255, 3, 188, 3, 0, [1105, 1107, 112, 1106]), (68, .lreturn, 1, 0, 0, 0, [])]]
def mX11_mean : xMeth := (yX11_mean, cX11_mean, 5, (some FieldType.long), kX11_mean)
def kX11_best : xC := [[(0, .iload_n 1, 1, 0, 0, 0, []), (1, .invokestatic 75, 3, 191, 1, 0, [530, 532, 112, 531]), (4, .ifCond .ne 5, 3, 0, 0, 0, []), (7, .iconst (-1), 1, 0, 0, 0, []), (8, .ireturn, 1, 0, 0, 0, []), (9, .aload_n 0, 1, 0, 0, 0, []), (10, .iload_n 1, 1, 0, 0, 0, []), (11, .invokevirtual 265, 3, 177, 2, 0, [1120, 1123, 112, 1122, 34, 11]), (14, .istore_n 3, 1, 0, 0, 0, []), (15, .iload_n 2, 1, 0, 0, 0, []), (16, .ifCond .eq 10, 3, 0, 0, 0, []), (19, .iload_n 3, 1, 0, 0, 0, []), (20, .invokestatic 268, 3, 350, 1, 0, [1124, 984, 133, 983]), (23, .goto 4, 3, 0, 0, 0, []), (26, .iload_n 3, 1, 0, 0, 0, []), (27, .ireturn, 1, 0, 0, 0, [])]]
def mX11_best : xMeth := (yX11_best, cX11_best, 4, (some FieldType.int), kX11_best)
def kX11_morning : xC := [[(0, .iload_n 1, 1, 0, 0, 0, []), (1, .iconst (-1), 1, 0, 0, 0, []), (2, .if_icmp .ne 16, 3, 0, 0, 0, []), (5, .aload_n 0, 1, 0, 0, 0, []), (6, .getfield 20, 3, 11, 1, 0, [482]), (9, .getfield 273, 3, 0, 10, 0, [302]), (12, .iconst 0, 1, 0, 0, 0, []), (13, .putfield 277, 3, 3, 2, 0, [234]), (16, .iconst 0, 1, 0, 0, 0, []), (17, .ireturn, 1, 0, 0, 0, []), (18, .iload_n 1, 1, 0, 0, 0, []), (19, .iconst 0, 1, 0, 0, 0, []), (20, .bipush 99, 2, 0, 0, 0, []), (22, .invokestatic 67, 3, 189, 3, 0, [519, 521, 112, 520]), (25, .ifCond .eq 18, 3, 0, 0, 0, []), (28, .aload_n 0, 1, 0, 0, 0, []), (29, .getfield 20, 3, 11, 1, 0, [482])],
  [(32, .getfield 273, 3, 0, 10, 0, [302]), (35, .getfield 277, 3, 3, 2, 0, [234]), (38, .bipush 12, 2, 0, 0, 0, []), (40, .if_icmp .lt 6, 3, 0, 0, 0, []), (43, .bipush (-2), 2, 0, 0, 0, []), (45, .ireturn, 1, 0, 0, 0, []), (46, .aload_n 0, 1, 0, 0, 0, []), (47, .getfield 20, 3, 11, 1, 0, [482]), (50, .getfield 273, 3, 0, 10, 0, [302]), (53, .iload_n 1, 1, 0, 0, 0, []), (54, .iload_n 2, 1, 0, 0, 0, []), (55, .invokevirtual 280, 3, 37, 3, 0, [1129, 1132, 117, 1130, 1131, 3]), (58, .ireturn, 1, 0, 0, 0, [])]]
def mX11_morning : xMeth := (yX11_morning, cX11_morning, 3, (some FieldType.int), kX11_morning)
def kX11_habits : xC := [[(0, .aload_n 0, 1, 0, 0, 0, []), (1, .getfield 20, 3, 11, 1, 0, [482]), (4, .getfield 273, 3, 0, 10, 0, [302]), (7, .invokevirtual 283, 3, 39, 1, 0, [1137, 1140, 117, 1138, 1139, 3]), (10, .ireturn, 1, 0, 0, 0, [])]]
def mX11_habits : xMeth := (yX11_habits, cX11_habits, 1, (some FieldType.int), kX11_habits)
def kX11_habit : xC := [[(0, .aload_n 0, 1, 0, 0, 0, []), (1, .getfield 20, 3, 11, 1, 0, [482]), (4, .getfield 273, 3, 0, 10, 0, [302]), (7, .invokevirtual 286, 3, 40, 1, 0, [1149, 1152, 117, 1150, 1151, 3]), (10, .istore_n 2, 1, 0, 0, 0, []), (11, .iload_n 2, 1, 0, 0, 0, []), (12, .iconst (-1), 1, 0, 0, 0, []), (13, .if_icmp .ne 5, 3, 0, 0, 0, []), (16, .iconst (-1), 1, 0, 0, 0, []), (17, .ireturn, 1, 0, 0, 0, []), (18, .aload_n 0, 1, 0, 0, 0, []), (19, .getfield 20, 3, 11, 1, 0, [482]), (22, .getfield 273, 3, 0, 10, 0, [302]), (25, .iload_n 2, 1, 0, 0, 0, []), (26, .invokevirtual 289, 3, 41, 2, 0, [1157, 1156, 117, 1154, 1155, 3]), (29, .istore_n 3, 1, 0, 0, 0, []), (30, .iload_n 1, 1, 0, 0, 0, []), (31, .tableswitch 42 0 2 #[25, 27, 29], 25, 0, 0, 0, [])],
  [(56, .iload_n 2, 1, 0, 0, 0, []), (57, .ireturn, 1, 0, 0, 0, []), (58, .iload_n 3, 1, 0, 0, 0, []), (59, .ireturn, 1, 0, 0, 0, []), (60, .aload_n 0, 1, 0, 0, 0, []), (61, .getfield 20, 3, 11, 1, 0, [482])],
  [(64, .getfield 273, 3, 0, 10, 0, [302]), (67, .iload_n 2, 1, 0, 0, 0, []), (68, .iload_n 3, 1, 0, 0, 0, []), (69, .invokevirtual 292, 3, 42, 3, 0, [1158, 1161, 117, 1159, 1160, 3]), (72, .ireturn, 1, 0, 0, 0, []), (73, .iconst (-1), 1, 0, 0, 0, []), (74, .ireturn, 1, 0, 0, 0, [])]]
def mX11_habit : xMeth := (yX11_habit, cX11_habit, 4, (some FieldType.int), kX11_habit)
def kX11_whom : xC := [[(0, .iconst 0, 1, 0, 0, 0, []), (1, .istore_n 1, 1, 0, 0, 0, []), (2, .iconst 0, 1, 0, 0, 0, []), (3, .istore_n 2, 1, 0, 0, 0, []), (4, .iload_n 2, 1, 0, 0, 0, []), (5, .aload_n 0, 1, 0, 0, 0, []), (6, .getfield 20, 3, 11, 1, 0, [482]), (9, .getfield 295, 3, 0, 5, 0, [292]), (12, .if_icmp .ge 46, 3, 0, 0, 0, []), (15, .aload_n 0, 1, 0, 0, 0, []), (16, .getfield 20, 3, 11, 1, 0, [482]), (19, .getfield 273, 3, 0, 10, 0, [302]), (22, .aload_n 0, 1, 0, 0, 0, []), (23, .getfield 20, 3, 11, 1, 0, [482]), (26, .getfield 185, 3, 0, 2, 0, [285]), (29, .iload_n 2, 1, 0, 0, 0, []), (30, .iaload, 1, 0, 0, 0, []), (31, .aload_n 0, 1, 0, 0, 0, [])],
  [(32, .getfield 20, 3, 11, 1, 0, [482]), (35, .getfield 188, 3, 0, 3, 0, [287]), (38, .iload_n 2, 1, 0, 0, 0, []), (39, .iaload, 1, 0, 0, 0, []), (40, .invokevirtual 298, 3, 38, 3, 0, [1170, 1144, 117, 1142, 1143, 3]), (43, .ifCond .eq 9, 3, 0, 0, 0, []), (46, .iload_n 1, 1, 0, 0, 0, []), (47, .iconst 1, 1, 0, 0, 0, []), (48, .iload_n 2, 1, 0, 0, 0, []), (49, .ishl, 1, 0, 0, 0, []), (50, .ior, 1, 0, 0, 0, []), (51, .istore_n 1, 1, 0, 0, 0, []), (52, .iinc 2 1, 3, 0, 0, 0, []), (55, .goto (-51), 3, 0, 0, 0, []), (58, .iload_n 1, 1, 0, 0, 0, []), (59, .ireturn, 1, 0, 0, 0, [])]]
def mX11_whom : xMeth := (yX11_whom, cX11_whom, 3, (some FieldType.int), kX11_whom)
def kX11_rota : xC := [[(0, .iload_n 1, 1, 0, 0, 0, []), (1, .iconst 0, 1, 0, 0, 0, []), (2, .sipush 999, 3, 0, 0, 0, []), (5, .invokestatic 67, 3, 189, 3, 0, [519, 521, 112, 520]), (8, .ifCond .eq 25, 3, 0, 0, 0, []), (11, .aload_n 0, 1, 0, 0, 0, []), (12, .getfield 20, 3, 11, 1, 0, [482]), (15, .aload_n 0, 1, 0, 0, 0, []), (16, .getfield 20, 3, 11, 1, 0, [482]), (19, .getfield 121, 3, 0, 0, 0, [280]), (22, .getfield 145, 3, 2, 4, 0, [173]), (25, .iload_n 1, 1, 0, 0, 0, []), (26, .iadd, 1, 0, 0, 0, []), (27, .invokevirtual 237, 3, 10, 2, 0, [1074, 1077, 114, 1075, 1076, 0]), (30, .goto 4, 3, 0, 0, 0, [])],
  [(33, .iconst (-1), 1, 0, 0, 0, []), (34, .ireturn, 1, 0, 0, 0, [])]]
def mX11_rota : xMeth := (yX11_rota, cX11_rota, 2, (some FieldType.int), kX11_rota)
def kX11_gather : xC := [[(0, .aload_n 0, 1, 0, 0, 0, []), (1, .getfield 20, 3, 11, 1, 0, [482]), (4, .getfield 121, 3, 0, 0, 0, [280]), (7, .getfield 145, 3, 2, 4, 0, [173]), (10, .istore_n 1, 1, 0, 0, 0, []), (11, .iconst 1, 1, 0, 0, 0, []), (12, .istore_n 2, 1, 0, 0, 0, []), (13, .iconst 0, 1, 0, 0, 0, []), (14, .istore_n 3, 1, 0, 0, 0, []), (15, .iconst 0, 1, 0, 0, 0, []), (16, .istore 4, 2, 0, 0, 0, []), (18, .iload 4, 2, 0, 0, 0, []), (20, .aload_n 0, 1, 0, 0, 0, []), (21, .getfield 20, 3, 11, 1, 0, [482]), (24, .getfield 295, 3, 0, 5, 0, [292]), (27, .if_icmp .ge 77, 3, 0, 0, 0, []), (30, .aload_n 0, 1, 0, 0, 0, []), (31, .getfield 20, 3, 11, 1, 0, [482])],
  [(34, .getfield 121, 3, 0, 0, 0, [280]), (37, .iload 4, 2, 0, 0, 0, []), (39, .invokevirtual 194, 3, 27, 2, 0, [1042, 869, 115, 867, 868, 2]), (42, .ifCond .eq 6, 3, 0, 0, 0, []), (45, .goto 53, 3, 0, 0, 0, []), (48, .iconst 1, 1, 0, 0, 0, []), (49, .istore_n 3, 1, 0, 0, 0, []), (50, .iload_n 1, 1, 0, 0, 0, []), (51, .iload_n 2, 1, 0, 0, 0, []), (52, .aload_n 0, 1, 0, 0, 0, []), (53, .getfield 20, 3, 11, 1, 0, [482]), (56, .getfield 185, 3, 0, 2, 0, [285]), (59, .iload 4, 2, 0, 0, 0, []), (61, .iaload, 1, 0, 0, 0, []), (62, .aload_n 0, 1, 0, 0, 0, []), (63, .getfield 20, 3, 11, 1, 0, [482])],
  [(66, .getfield 188, 3, 0, 3, 0, [287]), (69, .iload 4, 2, 0, 0, 0, []), (71, .iaload, 1, 0, 0, 0, []), (72, .invokestatic 301, 3, 185, 4, 0, [1179, 1165, 112, 1164]), (75, .istore_n 1, 1, 0, 0, 0, []), (76, .iload_n 1, 1, 0, 0, 0, []), (77, .iconst (-1), 1, 0, 0, 0, []), (78, .if_icmp .ne 5, 3, 0, 0, 0, []), (81, .iconst (-1), 1, 0, 0, 0, []), (82, .ireturn, 1, 0, 0, 0, []), (83, .iload_n 2, 1, 0, 0, 0, []), (84, .aload_n 0, 1, 0, 0, 0, []), (85, .getfield 20, 3, 11, 1, 0, [482]), (88, .getfield 185, 3, 0, 2, 0, [285]), (91, .iload 4, 2, 0, 0, 0, []), (93, .iaload, 1, 0, 0, 0, []), (94, .invokestatic 305, 3, 186, 2, 0, [1180, 1182, 112, 1181])],
  [(97, .istore_n 2, 1, 0, 0, 0, []), (98, .iinc 4 1, 3, 0, 0, 0, []), (101, .goto (-83), 3, 0, 0, 0, []), (104, .iload_n 3, 1, 0, 0, 0, []), (105, .ifCond .eq 7, 3, 0, 0, 0, []), (108, .iload_n 1, 1, 0, 0, 0, []), (109, .goto 4, 3, 0, 0, 0, []), (112, .iconst (-1), 1, 0, 0, 0, []), (113, .ireturn, 1, 0, 0, 0, [])]]
def mX11_gather : xMeth := (yX11_gather, cX11_gather, 5, (some FieldType.int), kX11_gather)
def kX11_comes : xC := [[(0, .iload_n 1, 1, 0, 0, 0, []), (1, .invokestatic 75, 3, 191, 1, 0, [530, 532, 112, 531]), (4, .ifCond .ne 5, 3, 0, 0, 0, []), (7, .iconst (-1), 1, 0, 0, 0, []), (8, .ireturn, 1, 0, 0, 0, []), (9, .aload_n 0, 1, 0, 0, 0, []), (10, .invokevirtual 240, 3, 175, 1, 0, [1079, 1082, 112, 1081, 32, 11]), (13, .iconst 0, 1, 0, 0, 0, []), (14, .istore_n 2, 1, 0, 0, 0, []), (15, .iload_n 2, 1, 0, 0, 0, []), (16, .bipush 60, 2, 0, 0, 0, []), (18, .if_icmp .gt 38, 3, 0, 0, 0, []), (21, .aload_n 0, 1, 0, 0, 0, []), (22, .aload_n 0, 1, 0, 0, 0, []), (23, .getfield 20, 3, 11, 1, 0, [482]), (26, .aload_n 0, 1, 0, 0, 0, []), (27, .getfield 20, 3, 11, 1, 0, [482]), (30, .getfield 121, 3, 0, 0, 0, [280])],
  [(33, .getfield 145, 3, 2, 4, 0, [173]), (36, .iload_n 2, 1, 0, 0, 0, []), (37, .iadd, 1, 0, 0, 0, []), (38, .invokevirtual 237, 3, 10, 2, 0, [1074, 1077, 114, 1075, 1076, 0]), (41, .iload_n 1, 1, 0, 0, 0, []), (42, .invokevirtual 308, 3, 178, 3, 0, [1187, 1190, 112, 1189, 35, 11]), (45, .ifCond .eq 5, 3, 0, 0, 0, []), (48, .iload_n 2, 1, 0, 0, 0, []), (49, .ireturn, 1, 0, 0, 0, []), (50, .iinc 2 1, 3, 0, 0, 0, []), (53, .goto (-38), 3, 0, 0, 0, []), (56, .iconst (-1), 1, 0, 0, 0, []), (57, .ireturn, 1, 0, 0, 0, [])]]
def mX11_comes : xMeth := (yX11_comes, cX11_comes, 3, (some FieldType.int), kX11_comes)
def kX11_follows : xC := [[(0, .iload_n 1, 1, 0, 0, 0, []), (1, .invokestatic 75, 3, 191, 1, 0, [530, 532, 112, 531]), (4, .ifCond .eq 10, 3, 0, 0, 0, []), (7, .iload_n 2, 1, 0, 0, 0, []), (8, .invokestatic 75, 3, 191, 1, 0, [530, 532, 112, 531]), (11, .ifCond .ne 5, 3, 0, 0, 0, []), (14, .iconst 0, 1, 0, 0, 0, []), (15, .ireturn, 1, 0, 0, 0, []), (16, .aload_n 0, 1, 0, 0, 0, []), (17, .getfield 20, 3, 11, 1, 0, [482]), (20, .getfield 311, 3, 0, 11, 0, [304]), (23, .getfield 315, 3, 6, 0, 0, [250]), (26, .iload_n 1, 1, 0, 0, 0, []), (27, .iload_n 2, 1, 0, 0, 0, []), (28, .iastore, 1, 0, 0, 0, []), (29, .iconst 1, 1, 0, 0, 0, []), (30, .ireturn, 1, 0, 0, 0, [])]]
def mX11_follows : xMeth := (yX11_follows, cX11_follows, 3, (some FieldType.boolean), kX11_follows)
def kX11_agree : xC := [[(0, .aload_n 0, 1, 0, 0, 0, []), (1, .getfield 20, 3, 11, 1, 0, [482]), (4, .getfield 311, 3, 0, 11, 0, [304]), (7, .invokevirtual 320, 3, 82, 1, 0, [1199, 1202, 118, 1200, 1201, 6]), (10, .ireturn, 1, 0, 0, 0, [])]]
def mX11_agree : xMeth := (yX11_agree, cX11_agree, 1, (some FieldType.int), kX11_agree)
def kX11_ring : xC := [[(0, .aload_n 0, 1, 0, 0, 0, []), (1, .getfield 20, 3, 11, 1, 0, [482]), (4, .getfield 311, 3, 0, 11, 0, [304]), (7, .invokevirtual 323, 3, 84, 1, 0, [1207, 1210, 118, 1208, 1209, 6]), (10, .istore_n 2, 1, 0, 0, 0, []), (11, .iload_n 1, 1, 0, 0, 0, []), (12, .ifCond .eq 17, 3, 0, 0, 0, []), (15, .aload_n 0, 1, 0, 0, 0, []), (16, .getfield 20, 3, 11, 1, 0, [482]), (19, .getfield 311, 3, 0, 11, 0, [304]), (22, .iload_n 2, 1, 0, 0, 0, []), (23, .invokevirtual 326, 3, 83, 2, 0, [1215, 1214, 118, 1212, 1213, 6]), (26, .goto 4, 3, 0, 0, 0, []), (29, .iload_n 2, 1, 0, 0, 0, []), (30, .ireturn, 1, 0, 0, 0, [])]]
def mX11_ring : xMeth := (yX11_ring, cX11_ring, 3, (some FieldType.int), kX11_ring)
def kX11_till : xC := [[(0, .iload_n 1, 1, 0, 0, 0, []), (1, .invokestatic 75, 3, 191, 1, 0, [530, 532, 112, 531]), (4, .ifCond .eq 17, 3, 0, 0, 0, []), (7, .aload_n 0, 1, 0, 0, 0, []), (8, .getfield 20, 3, 11, 1, 0, [482]), (11, .getfield 311, 3, 0, 11, 0, [304]), (14, .iload_n 1, 1, 0, 0, 0, []), (15, .invokevirtual 329, 3, 85, 2, 0, [1220, 1223, 118, 1221, 1222, 6]), (18, .goto 4, 3, 0, 0, 0, []), (21, .iconst (-1), 1, 0, 0, 0, []), (22, .ireturn, 1, 0, 0, 0, [])]]
def mX11_till : xMeth := (yX11_till, cX11_till, 2, (some FieldType.int), kX11_till)
def kX11_after : xC := [[(0, .iload_n 1, 1, 0, 0, 0, []), (1, .invokestatic 75, 3, 191, 1, 0, [530, 532, 112, 531]), (4, .ifCond .eq 29, 3, 0, 0, 0, []), (7, .iload_n 2, 1, 0, 0, 0, []), (8, .iconst 0, 1, 0, 0, 0, []), (9, .ldc_w 332, 3, 0, 0, 1000000, [1228]), (12, .invokestatic 67, 3, 189, 3, 0, [519, 521, 112, 520]), (15, .ifCond .eq 18, 3, 0, 0, 0, []), (18, .aload_n 0, 1, 0, 0, 0, []), (19, .getfield 20, 3, 11, 1, 0, [482]), (22, .getfield 311, 3, 0, 11, 0, [304]), (25, .iload_n 1, 1, 0, 0, 0, []), (26, .iload_n 2, 1, 0, 0, 0, []), (27, .invokevirtual 333, 3, 86, 3, 0, [1229, 1232, 118, 1230, 1231, 6]), (30, .goto 4, 3, 0, 0, 0, [])],
  [(33, .iconst (-1), 1, 0, 0, 0, []), (34, .ireturn, 1, 0, 0, 0, [])]]
def mX11_after : xMeth := (yX11_after, cX11_after, 3, (some FieldType.int), kX11_after)
def kX11_test : xC := [[(0, .iload_n 1, 1, 0, 0, 0, []), (1, .iconst 0, 1, 0, 0, 0, []), (2, .bipush 12, 2, 0, 0, 0, []), (4, .invokestatic 67, 3, 189, 3, 0, [519, 521, 112, 520]), (7, .ifCond .eq 22, 3, 0, 0, 0, []), (10, .iload_n 2, 1, 0, 0, 0, []), (11, .iconst 0, 1, 0, 0, 0, []), (12, .iload_n 1, 1, 0, 0, 0, []), (13, .invokestatic 67, 3, 189, 3, 0, [519, 521, 112, 520]), (16, .ifCond .eq 13, 3, 0, 0, 0, []), (19, .iload_n 3, 1, 0, 0, 0, []), (20, .iconst 0, 1, 0, 0, 0, []), (21, .bipush 10, 2, 0, 0, 0, []), (23, .invokestatic 67, 3, 189, 3, 0, [519, 521, 112, 520]), (26, .ifCond .ne 7, 3, 0, 0, 0, []), (29, .ldc2_w 235, 3, 0, 0, (-1), [1073])],
  [(32, .lreturn, 1, 0, 0, 0, []), (33, .aload_n 0, 1, 0, 0, 0, []), (34, .getfield 49, 3, 11, 6, 0, [487]), (37, .iload_n 1, 1, 0, 0, 0, []), (38, .iload_n 3, 1, 0, 0, 0, []), (39, .invokevirtual 336, 3, 91, 3, 0, [1242, 1245, 122, 1243, 1244, 7]), (42, .aload_n 0, 1, 0, 0, 0, []), (43, .getfield 49, 3, 11, 6, 0, [487]), (46, .iload_n 2, 1, 0, 0, 0, []), (47, .invokevirtual 339, 3, 93, 2, 0, [1248, 1251, 122, 1249, 1250, 7]), (50, .aload_n 0, 1, 0, 0, 0, []), (51, .getfield 49, 3, 11, 6, 0, [487]), (54, .getfield 251, 3, 7, 2, 0, [472]), (57, .iload 4, 2, 0, 0, 0, []), (59, .invokestatic 255, 3, 188, 3, 0, [1105, 1107, 112, 1106]), (62, .lreturn, 1, 0, 0, 0, [])]]
def mX11_test : xMeth := (yX11_test, cX11_test, 5, (some FieldType.long), kX11_test)
def kX11_bound : xC := [[(0, .iload_n 1, 1, 0, 0, 0, []), (1, .iconst 1, 1, 0, 0, 0, []), (2, .bipush 12, 2, 0, 0, 0, []), (4, .invokestatic 67, 3, 189, 3, 0, [519, 521, 112, 520]), (7, .ifCond .eq 22, 3, 0, 0, 0, []), (10, .iload_n 2, 1, 0, 0, 0, []), (11, .iconst 0, 1, 0, 0, 0, []), (12, .bipush 10, 2, 0, 0, 0, []), (14, .invokestatic 67, 3, 189, 3, 0, [519, 521, 112, 520]), (17, .ifCond .eq 12, 3, 0, 0, 0, []), (20, .aload_n 0, 1, 0, 0, 0, []), (21, .iload_n 1, 1, 0, 0, 0, []), (22, .iload_n 2, 1, 0, 0, 0, []), (23, .invokevirtual 342, 3, 179, 3, 0, [1257, 1260, 112, 1259, 37, 11]), (26, .goto 4, 3, 0, 0, 0, []), (29, .iconst (-1), 1, 0, 0, 0, []), (30, .ireturn, 1, 0, 0, 0, [])]]
def mX11_bound : xMeth := (yX11_bound, cX11_bound, 3, (some FieldType.int), kX11_bound)
def kX11_sure : xC := [[(0, .iload_n 1, 1, 0, 0, 0, []), (1, .iconst 1, 1, 0, 0, 0, []), (2, .bipush 12, 2, 0, 0, 0, []), (4, .invokestatic 67, 3, 189, 3, 0, [519, 521, 112, 520]), (7, .ifCond .eq 23, 3, 0, 0, 0, []), (10, .iload_n 2, 1, 0, 0, 0, []), (11, .iconst 0, 1, 0, 0, 0, []), (12, .bipush 10, 2, 0, 0, 0, []), (14, .invokestatic 67, 3, 189, 3, 0, [519, 521, 112, 520]), (17, .ifCond .eq 13, 3, 0, 0, 0, []), (20, .iload_n 3, 1, 0, 0, 0, []), (21, .iconst 0, 1, 0, 0, 0, []), (22, .bipush 10, 2, 0, 0, 0, []), (24, .invokestatic 67, 3, 189, 3, 0, [519, 521, 112, 520]), (27, .ifCond .ne 7, 3, 0, 0, 0, []), (30, .ldc2_w 235, 3, 0, 0, (-1), [1073])],
  [(33, .lreturn, 1, 0, 0, 0, []), (34, .aload_n 0, 1, 0, 0, 0, []), (35, .iload_n 1, 1, 0, 0, 0, []), (36, .iload_n 2, 1, 0, 0, 0, []), (37, .invokevirtual 342, 3, 179, 3, 0, [1257, 1260, 112, 1259, 37, 11]), (40, .istore 5, 2, 0, 0, 0, []), (42, .iload 5, 2, 0, 0, 0, []), (44, .iconst (-1), 1, 0, 0, 0, []), (45, .if_icmp .ne 7, 3, 0, 0, 0, []), (48, .ldc2_w 235, 3, 0, 0, (-1), [1073]), (51, .lreturn, 1, 0, 0, 0, []), (52, .aload_n 0, 1, 0, 0, 0, []), (53, .getfield 49, 3, 11, 6, 0, [487]), (56, .iload_n 1, 1, 0, 0, 0, []), (57, .iload_n 3, 1, 0, 0, 0, []), (58, .invokevirtual 336, 3, 91, 3, 0, [1242, 1245, 122, 1243, 1244, 7]), (61, .aload_n 0, 1, 0, 0, 0, []), (62, .getfield 49, 3, 11, 6, 0, [487])],
  [(65, .iload 5, 2, 0, 0, 0, []), (67, .invokevirtual 339, 3, 93, 2, 0, [1248, 1251, 122, 1249, 1250, 7]), (70, .aload_n 0, 1, 0, 0, 0, []), (71, .getfield 49, 3, 11, 6, 0, [487]), (74, .getfield 251, 3, 7, 2, 0, [472]), (77, .iload 4, 2, 0, 0, 0, []), (79, .invokestatic 255, 3, 188, 3, 0, [1105, 1107, 112, 1106]), (82, .lreturn, 1, 0, 0, 0, [])]]
def mX11_sure : xMeth := (yX11_sure, cX11_sure, 6, (some FieldType.long), kX11_sure)
def kX11_votes : xC := [[(0, .iload_n 1, 1, 0, 0, 0, []), (1, .invokestatic 345, 3, 192, 1, 0, [1270, 1272, 112, 1271]), (4, .ifCond .eq 14, 3, 0, 0, 0, []), (7, .iload_n 2, 1, 0, 0, 0, []), (8, .iconst 0, 1, 0, 0, 0, []), (9, .sipush 999, 3, 0, 0, 0, []), (12, .invokestatic 67, 3, 189, 3, 0, [519, 521, 112, 520]), (15, .ifCond .ne 5, 3, 0, 0, 0, []), (18, .iconst 0, 1, 0, 0, 0, []), (19, .ireturn, 1, 0, 0, 0, []), (20, .aload_n 0, 1, 0, 0, 0, []), (21, .getfield 20, 3, 11, 1, 0, [482]), (24, .getfield 348, 3, 0, 12, 0, [306]), (27, .getfield 352, 3, 4, 0, 0, [261]), (30, .iload_n 1, 1, 0, 0, 0, []), (31, .iload_n 2, 1, 0, 0, 0, [])],
  [(32, .iastore, 1, 0, 0, 0, []), (33, .iconst 1, 1, 0, 0, 0, []), (34, .ireturn, 1, 0, 0, 0, [])]]
def mX11_votes : xMeth := (yX11_votes, cX11_votes, 3, (some FieldType.boolean), kX11_votes)
def kX11_seats : xC := [[(0, .iload_n 1, 1, 0, 0, 0, []), (1, .invokestatic 345, 3, 192, 1, 0, [1270, 1272, 112, 1271]), (4, .ifCond .eq 26, 3, 0, 0, 0, []), (7, .iload_n 2, 1, 0, 0, 0, []), (8, .iconst 0, 1, 0, 0, 0, []), (9, .bipush 30, 2, 0, 0, 0, []), (11, .invokestatic 67, 3, 189, 3, 0, [519, 521, 112, 520]), (14, .ifCond .eq 16, 3, 0, 0, 0, []), (17, .aload_n 0, 1, 0, 0, 0, []), (18, .getfield 20, 3, 11, 1, 0, [482]), (21, .getfield 348, 3, 0, 12, 0, [306]), (24, .invokevirtual 357, 3, 45, 1, 0, [1277, 1280, 119, 1278, 1279, 4]), (27, .ifCond .ne 5, 3, 0, 0, 0, []), (30, .iconst (-1), 1, 0, 0, 0, []), (31, .ireturn, 1, 0, 0, 0, [])],
  [(32, .iload_n 3, 1, 0, 0, 0, []), (33, .ifCond .eq 19, 3, 0, 0, 0, []), (36, .aload_n 0, 1, 0, 0, 0, []), (37, .getfield 20, 3, 11, 1, 0, [482]), (40, .getfield 348, 3, 0, 12, 0, [306]), (43, .iload_n 2, 1, 0, 0, 0, []), (44, .invokevirtual 360, 3, 47, 2, 0, [1281, 1284, 119, 1282, 1283, 4]), (47, .iload_n 1, 1, 0, 0, 0, []), (48, .iaload, 1, 0, 0, 0, []), (49, .goto 16, 3, 0, 0, 0, []), (52, .aload_n 0, 1, 0, 0, 0, []), (53, .getfield 20, 3, 11, 1, 0, [482]), (56, .getfield 348, 3, 0, 12, 0, [306]), (59, .iload_n 2, 1, 0, 0, 0, []), (60, .invokevirtual 364, 3, 46, 2, 0, [1286, 1289, 119, 1287, 1288, 4]), (63, .iload_n 1, 1, 0, 0, 0, [])],
  [(64, .iaload, 1, 0, 0, 0, []), (65, .ireturn, 1, 0, 0, 0, [])]]
def mX11_seats : xMeth := (yX11_seats, cX11_seats, 4, (some FieldType.int), kX11_seats)
def kX11_unlike : xC := [[(0, .iload_n 1, 1, 0, 0, 0, []), (1, .iconst 0, 1, 0, 0, 0, []), (2, .bipush 30, 2, 0, 0, 0, []), (4, .invokestatic 67, 3, 189, 3, 0, [519, 521, 112, 520]), (7, .ifCond .eq 16, 3, 0, 0, 0, []), (10, .aload_n 0, 1, 0, 0, 0, []), (11, .getfield 20, 3, 11, 1, 0, [482]), (14, .getfield 348, 3, 0, 12, 0, [306]), (17, .invokevirtual 357, 3, 45, 1, 0, [1277, 1280, 119, 1278, 1279, 4]), (20, .ifCond .ne 5, 3, 0, 0, 0, []), (23, .iconst (-1), 1, 0, 0, 0, []), (24, .ireturn, 1, 0, 0, 0, []), (25, .aload_n 0, 1, 0, 0, 0, []), (26, .getfield 20, 3, 11, 1, 0, [482]), (29, .getfield 348, 3, 0, 12, 0, [306])],
  [(32, .iload_n 1, 1, 0, 0, 0, []), (33, .invokevirtual 367, 3, 48, 2, 0, [1297, 1300, 119, 1298, 1299, 4]), (36, .ireturn, 1, 0, 0, 0, [])]]
def mX11_unlike : xMeth := (yX11_unlike, cX11_unlike, 2, (some FieldType.int), kX11_unlike)
def kX11_ranks : xC := [[(0, .iload_n 1, 1, 0, 0, 0, []), (1, .invokestatic 345, 3, 192, 1, 0, [1270, 1272, 112, 1271]), (4, .ifCond .eq 13, 3, 0, 0, 0, []), (7, .iload_n 2, 1, 0, 0, 0, []), (8, .iconst 0, 1, 0, 0, 0, []), (9, .bipush 23, 2, 0, 0, 0, []), (11, .invokestatic 67, 3, 189, 3, 0, [519, 521, 112, 520]), (14, .ifCond .ne 5, 3, 0, 0, 0, []), (17, .iconst 0, 1, 0, 0, 0, []), (18, .ireturn, 1, 0, 0, 0, []), (19, .aload_n 0, 1, 0, 0, 0, []), (20, .getfield 20, 3, 11, 1, 0, [482]), (23, .getfield 348, 3, 0, 12, 0, [306]), (26, .getfield 370, 3, 4, 1, 0, [263]), (29, .iload_n 1, 1, 0, 0, 0, []), (30, .iload_n 2, 1, 0, 0, 0, []), (31, .iastore, 1, 0, 0, 0, [])],
  [(32, .iconst 1, 1, 0, 0, 0, []), (33, .ireturn, 1, 0, 0, 0, [])]]
def mX11_ranks : xMeth := (yX11_ranks, cX11_ranks, 3, (some FieldType.boolean), kX11_ranks)
def kX11_beats : xC := [[(0, .iload_n 1, 1, 0, 0, 0, []), (1, .invokestatic 373, 3, 193, 1, 0, [1311, 1313, 112, 1312]), (4, .ifCond .eq 34, 3, 0, 0, 0, []), (7, .iload_n 2, 1, 0, 0, 0, []), (8, .invokestatic 373, 3, 193, 1, 0, [1311, 1313, 112, 1312]), (11, .ifCond .eq 27, 3, 0, 0, 0, []), (14, .iload_n 1, 1, 0, 0, 0, []), (15, .iload_n 2, 1, 0, 0, 0, []), (16, .if_icmp .eq 22, 3, 0, 0, 0, []), (19, .aload_n 0, 1, 0, 0, 0, []), (20, .getfield 20, 3, 11, 1, 0, [482]), (23, .getfield 348, 3, 0, 12, 0, [306]), (26, .iload_n 1, 1, 0, 0, 0, []), (27, .iload_n 2, 1, 0, 0, 0, []), (28, .invokevirtual 376, 3, 51, 3, 0, [1314, 1317, 119, 1315, 1316, 4]), (31, .ifCond .eq 7, 3, 0, 0, 0, [])],
  [(34, .iconst 1, 1, 0, 0, 0, []), (35, .goto 4, 3, 0, 0, 0, []), (38, .iconst 0, 1, 0, 0, 0, []), (39, .ireturn, 1, 0, 0, 0, [])]]
def mX11_beats : xMeth := (yX11_beats, cX11_beats, 3, (some FieldType.boolean), kX11_beats)
def kX11_winner : xC := [[(0, .aload_n 0, 1, 0, 0, 0, []), (1, .getfield 20, 3, 11, 1, 0, [482]), (4, .getfield 348, 3, 0, 12, 0, [306]), (7, .invokevirtual 379, 3, 52, 1, 0, [1334, 1337, 119, 1335, 1336, 4]), (10, .ireturn, 1, 0, 0, 0, [])]]
def mX11_winner : xMeth := (yX11_winner, cX11_winner, 1, (some FieldType.int), kX11_winner)
def kX11_points : xC := [[(0, .iload_n 1, 1, 0, 0, 0, []), (1, .invokestatic 373, 3, 193, 1, 0, [1311, 1313, 112, 1312]), (4, .ifCond .eq 17, 3, 0, 0, 0, []), (7, .aload_n 0, 1, 0, 0, 0, []), (8, .getfield 20, 3, 11, 1, 0, [482]), (11, .getfield 348, 3, 0, 12, 0, [306]), (14, .iload_n 1, 1, 0, 0, 0, []), (15, .invokevirtual 382, 3, 53, 2, 0, [1343, 1346, 119, 1344, 1345, 4]), (18, .goto 4, 3, 0, 0, 0, []), (21, .iconst (-1), 1, 0, 0, 0, []), (22, .ireturn, 1, 0, 0, 0, [])]]
def mX11_points : xMeth := (yX11_points, cX11_points, 2, (some FieldType.int), kX11_points)
def kX11_runoff : xC := [[(0, .aload_n 0, 1, 0, 0, 0, []), (1, .getfield 20, 3, 11, 1, 0, [482]), (4, .getfield 348, 3, 0, 12, 0, [306]), (7, .invokevirtual 385, 3, 54, 1, 0, [1351, 1354, 119, 1352, 1353, 4]), (10, .ireturn, 1, 0, 0, 0, [])]]
def mX11_runoff : xMeth := (yX11_runoff, cX11_runoff, 1, (some FieldType.int), kX11_runoff)
def kX11_digits : xC := [[(0, .iload_n 1, 1, 0, 0, 0, []), (1, .iconst 0, 1, 0, 0, 0, []), (2, .bipush 99, 2, 0, 0, 0, []), (4, .invokestatic 67, 3, 189, 3, 0, [519, 521, 112, 520]), (7, .ifCond .eq 22, 3, 0, 0, 0, []), (10, .iload_n 2, 1, 0, 0, 0, []), (11, .iconst 0, 1, 0, 0, 0, []), (12, .bipush 50, 2, 0, 0, 0, []), (14, .invokestatic 67, 3, 189, 3, 0, [519, 521, 112, 520]), (17, .ifCond .eq 12, 3, 0, 0, 0, []), (20, .aload_n 0, 1, 0, 0, 0, []), (21, .iload_n 1, 1, 0, 0, 0, []), (22, .iload_n 2, 1, 0, 0, 0, []), (23, .invokevirtual 388, 3, 181, 3, 0, [1369, 1372, 112, 1371, 42, 11]), (26, .goto 4, 3, 0, 0, 0, []), (29, .iconst (-1), 1, 0, 0, 0, []), (30, .ireturn, 1, 0, 0, 0, [])]]
def mX11_digits : xMeth := (yX11_digits, cX11_digits, 3, (some FieldType.int), kX11_digits)
def kX11_digit : xC := [[(0, .iload_n 1, 1, 0, 0, 0, []), (1, .iconst 0, 1, 0, 0, 0, []), (2, .bipush 99, 2, 0, 0, 0, []), (4, .invokestatic 67, 3, 189, 3, 0, [519, 521, 112, 520]), (7, .ifCond .eq 13, 3, 0, 0, 0, []), (10, .iload_n 2, 1, 0, 0, 0, []), (11, .iconst 0, 1, 0, 0, 0, []), (12, .bipush 50, 2, 0, 0, 0, []), (14, .invokestatic 67, 3, 189, 3, 0, [519, 521, 112, 520]), (17, .ifCond .ne 5, 3, 0, 0, 0, []), (20, .iconst (-1), 1, 0, 0, 0, []), (21, .ireturn, 1, 0, 0, 0, []), (22, .aload_n 0, 1, 0, 0, 0, []), (23, .iload_n 1, 1, 0, 0, 0, []), (24, .iload_n 2, 1, 0, 0, 0, []), (25, .invokevirtual 388, 3, 181, 3, 0, [1369, 1372, 112, 1371, 42, 11]), (28, .istore 4, 2, 0, 0, 0, []), (30, .iload_n 3, 1, 0, 0, 0, []), (31, .iconst 0, 1, 0, 0, 0, [])],
  [(32, .iload 4, 2, 0, 0, 0, []), (34, .iconst 1, 1, 0, 0, 0, []), (35, .isub, 1, 0, 0, 0, []), (36, .invokestatic 67, 3, 189, 3, 0, [519, 521, 112, 520]), (39, .ifCond .eq 17, 3, 0, 0, 0, []), (42, .aload_n 0, 1, 0, 0, 0, []), (43, .getfield 57, 3, 11, 8, 0, [489]), (46, .iload 4, 2, 0, 0, 0, []), (48, .iconst 1, 1, 0, 0, 0, []), (49, .isub, 1, 0, 0, 0, []), (50, .iload_n 3, 1, 0, 0, 0, []), (51, .isub, 1, 0, 0, 0, []), (52, .iaload, 1, 0, 0, 0, []), (53, .goto 4, 3, 0, 0, 0, []), (56, .iconst (-1), 1, 0, 0, 0, []), (57, .ireturn, 1, 0, 0, 0, [])]]
def mX11_digit : xMeth := (yX11_digit, cX11_digit, 5, (some FieldType.int), kX11_digit)
def kX11_depth : xC := [[(0, .iload_n 1, 1, 0, 0, 0, []), (1, .iconst 0, 1, 0, 0, 0, []), (2, .sipush 999, 3, 0, 0, 0, []), (5, .invokestatic 67, 3, 189, 3, 0, [519, 521, 112, 520]), (8, .ifCond .eq 13, 3, 0, 0, 0, []), (11, .iload_n 2, 1, 0, 0, 0, []), (12, .iconst 0, 1, 0, 0, 0, []), (13, .bipush 99, 2, 0, 0, 0, []), (15, .invokestatic 67, 3, 189, 3, 0, [519, 521, 112, 520]), (18, .ifCond .ne 5, 3, 0, 0, 0, []), (21, .iconst (-1), 1, 0, 0, 0, []), (22, .ireturn, 1, 0, 0, 0, []), (23, .iload_n 1, 1, 0, 0, 0, []), (24, .istore_n 3, 1, 0, 0, 0, []), (25, .iconst 0, 1, 0, 0, 0, []), (26, .istore 4, 2, 0, 0, 0, []), (28, .iload 4, 2, 0, 0, 0, []), (30, .iload_n 2, 1, 0, 0, 0, []), (31, .if_icmp .ge 14, 3, 0, 0, 0, [])],
  [(34, .iload_n 3, 1, 0, 0, 0, []), (35, .invokestatic 391, 3, 183, 1, 0, [1385, 1387, 112, 1386]), (38, .istore_n 3, 1, 0, 0, 0, []), (39, .iinc 4 1, 3, 0, 0, 0, []), (42, .goto (-14), 3, 0, 0, 0, []), (45, .iload_n 3, 1, 0, 0, 0, []), (46, .ireturn, 1, 0, 0, 0, [])]]
def mX11_depth : xMeth := (yX11_depth, cX11_depth, 5, (some FieldType.int), kX11_depth)
def kX11_rests : xC := [[(0, .iload_n 1, 1, 0, 0, 0, []), (1, .iconst 0, 1, 0, 0, 0, []), (2, .sipush 999, 3, 0, 0, 0, []), (5, .invokestatic 67, 3, 189, 3, 0, [519, 521, 112, 520]), (8, .ifCond .ne 5, 3, 0, 0, 0, []), (11, .iconst (-1), 1, 0, 0, 0, []), (12, .ireturn, 1, 0, 0, 0, []), (13, .iload_n 1, 1, 0, 0, 0, []), (14, .istore_n 2, 1, 0, 0, 0, []), (15, .iconst 0, 1, 0, 0, 0, []), (16, .istore_n 3, 1, 0, 0, 0, []), (17, .iload_n 3, 1, 0, 0, 0, []), (18, .sipush 999, 3, 0, 0, 0, []), (21, .if_icmp .gt 22, 3, 0, 0, 0, []), (24, .iload_n 2, 1, 0, 0, 0, []), (25, .invokestatic 391, 3, 183, 1, 0, [1385, 1387, 112, 1386]), (28, .iload_n 2, 1, 0, 0, 0, []), (29, .if_icmp .eq 14, 3, 0, 0, 0, [])],
  [(32, .iload_n 2, 1, 0, 0, 0, []), (33, .invokestatic 391, 3, 183, 1, 0, [1385, 1387, 112, 1386]), (36, .istore_n 2, 1, 0, 0, 0, []), (37, .iinc 3 1, 3, 0, 0, 0, []), (40, .goto (-23), 3, 0, 0, 0, []), (43, .iload_n 3, 1, 0, 0, 0, []), (44, .ireturn, 1, 0, 0, 0, [])]]
def mX11_rests : xMeth := (yX11_rests, cX11_rests, 4, (some FieldType.int), kX11_rests)
def kX11_game : xC := [[(0, .iload_n 1, 1, 0, 0, 0, []), (1, .iconst 0, 1, 0, 0, 0, []), (2, .bipush 40, 2, 0, 0, 0, []), (4, .invokestatic 67, 3, 189, 3, 0, [519, 521, 112, 520]), (7, .ifCond .ne 5, 3, 0, 0, 0, []), (10, .iconst (-1), 1, 0, 0, 0, []), (11, .ireturn, 1, 0, 0, 0, []), (12, .iload_n 1, 1, 0, 0, 0, []), (13, .iconst 1, 1, 0, 0, 0, []), (14, .if_icmp .eq 11, 3, 0, 0, 0, []), (17, .iload_n 1, 1, 0, 0, 0, []), (18, .invokestatic 394, 3, 184, 1, 0, [1396, 1398, 112, 1397]), (21, .iload_n 1, 1, 0, 0, 0, []), (22, .if_icmp .ge 7, 3, 0, 0, 0, []), (25, .iconst 1, 1, 0, 0, 0, []), (26, .goto 4, 3, 0, 0, 0, []), (29, .iconst 0, 1, 0, 0, 0, []), (30, .ireturn, 1, 0, 0, 0, [])]]
def mX11_game : xMeth := (yX11_game, cX11_game, 2, (some FieldType.int), kX11_game)
def kX11_take : xC := [[(0, .iload_n 1, 1, 0, 0, 0, []), (1, .iconst 1, 1, 0, 0, 0, []), (2, .bipush 40, 2, 0, 0, 0, []), (4, .invokestatic 67, 3, 189, 3, 0, [519, 521, 112, 520]), (7, .ifCond .eq 13, 3, 0, 0, 0, []), (10, .iload_n 2, 1, 0, 0, 0, []), (11, .iconst 1, 1, 0, 0, 0, []), (12, .bipush 40, 2, 0, 0, 0, []), (14, .invokestatic 67, 3, 189, 3, 0, [519, 521, 112, 520]), (17, .ifCond .ne 5, 3, 0, 0, 0, []), (20, .iconst (-1), 1, 0, 0, 0, []), (21, .ireturn, 1, 0, 0, 0, []), (22, .iload_n 1, 1, 0, 0, 0, []), (23, .invokestatic 394, 3, 184, 1, 0, [1396, 1398, 112, 1397]), (26, .istore_n 3, 1, 0, 0, 0, []), (27, .iload_n 3, 1, 0, 0, 0, []), (28, .iload_n 2, 1, 0, 0, 0, []), (29, .if_icmp .gt 7, 3, 0, 0, 0, [])],
  [(32, .iload_n 3, 1, 0, 0, 0, []), (33, .goto 4, 3, 0, 0, 0, []), (36, .iconst (-1), 1, 0, 0, 0, []), (37, .ireturn, 1, 0, 0, 0, [])]]
def mX11_take : xMeth := (yX11_take, cX11_take, 4, (some FieldType.int), kX11_take)
def kX11_told : xC := [[(0, .iload_n 1, 1, 0, 0, 0, []), (1, .iconst (-1), 1, 0, 0, 0, []), (2, .if_icmp .ne 13, 3, 0, 0, 0, []), (5, .aload_n 0, 1, 0, 0, 0, []), (6, .getfield 20, 3, 11, 1, 0, [482]), (9, .iconst 0, 1, 0, 0, 0, []), (10, .putfield 397, 3, 0, 15, 0, [312]), (13, .iconst 0, 1, 0, 0, 0, []), (14, .ireturn, 1, 0, 0, 0, []), (15, .iload_n 1, 1, 0, 0, 0, []), (16, .invokestatic 75, 3, 191, 1, 0, [530, 532, 112, 531]), (19, .ifCond .eq 26, 3, 0, 0, 0, []), (22, .iload_n 2, 1, 0, 0, 0, []), (23, .bipush (-99), 2, 0, 0, 0, []), (25, .bipush 99, 2, 0, 0, 0, []), (27, .invokestatic 67, 3, 189, 3, 0, [519, 521, 112, 520]), (30, .ifCond .eq 15, 3, 0, 0, 0, [])],
  [(33, .aload_n 0, 1, 0, 0, 0, []), (34, .getfield 20, 3, 11, 1, 0, [482]), (37, .getfield 397, 3, 0, 15, 0, [312]), (40, .bipush 8, 2, 0, 0, 0, []), (42, .if_icmp .lt 6, 3, 0, 0, 0, []), (45, .bipush (-2), 2, 0, 0, 0, []), (47, .ireturn, 1, 0, 0, 0, []), (48, .aload_n 0, 1, 0, 0, 0, []), (49, .getfield 20, 3, 11, 1, 0, [482]), (52, .iload_n 1, 1, 0, 0, 0, []), (53, .iload_n 2, 1, 0, 0, 0, []), (54, .invokevirtual 400, 3, 4, 3, 0, [1409, 1412, 114, 1410, 1411, 0]), (57, .ireturn, 1, 0, 0, 0, [])]]
def mX11_told : xMeth := (yX11_told, cX11_told, 3, (some FieldType.int), kX11_told)
def kX11_whose : xC := [[(0, .iconst 0, 1, 0, 0, 0, []), (1, .istore_n 1, 1, 0, 0, 0, []), (2, .iconst 0, 1, 0, 0, 0, []), (3, .istore_n 2, 1, 0, 0, 0, []), (4, .iload_n 2, 1, 0, 0, 0, []), (5, .aload_n 0, 1, 0, 0, 0, []), (6, .getfield 20, 3, 11, 1, 0, [482]), (9, .getfield 91, 3, 0, 8, 0, [298]), (12, .if_icmp .ge 30, 3, 0, 0, 0, []), (15, .aload_n 0, 1, 0, 0, 0, []), (16, .aload_n 0, 1, 0, 0, 0, []), (17, .getfield 20, 3, 11, 1, 0, [482]), (20, .iload_n 2, 1, 0, 0, 0, []), (21, .invokevirtual 152, 3, 7, 2, 0, [1006, 939, 114, 937, 938, 0]), (24, .invokevirtual 403, 3, 180, 2, 0, [1417, 1420, 112, 1419, 44, 11]), (27, .ifCond .eq 9, 3, 0, 0, 0, []), (30, .iload_n 1, 1, 0, 0, 0, []), (31, .iconst 1, 1, 0, 0, 0, [])],
  [(32, .iload_n 2, 1, 0, 0, 0, []), (33, .ishl, 1, 0, 0, 0, []), (34, .ior, 1, 0, 0, 0, []), (35, .istore_n 1, 1, 0, 0, 0, []), (36, .iinc 2 1, 3, 0, 0, 0, []), (39, .goto (-35), 3, 0, 0, 0, []), (42, .iload_n 1, 1, 0, 0, 0, []), (43, .ireturn, 1, 0, 0, 0, [])]]
def mX11_whose : xMeth := (yX11_whose, cX11_whose, 3, (some FieldType.int), kX11_whose)
def kX11_eldest : xC := [[(0, .iconst (-1), 1, 0, 0, 0, []), (1, .istore_n 1, 1, 0, 0, 0, []), (2, .iconst 0, 1, 0, 0, 0, []), (3, .istore_n 2, 1, 0, 0, 0, []), (4, .iconst 0, 1, 0, 0, 0, []), (5, .istore_n 3, 1, 0, 0, 0, []), (6, .iload_n 3, 1, 0, 0, 0, []), (7, .aload_n 0, 1, 0, 0, 0, []), (8, .getfield 20, 3, 11, 1, 0, [482]), (11, .getfield 295, 3, 0, 5, 0, [292]), (14, .if_icmp .ge 40, 3, 0, 0, 0, []), (17, .aload_n 0, 1, 0, 0, 0, []), (18, .getfield 20, 3, 11, 1, 0, [482]), (21, .getfield 121, 3, 0, 0, 0, [280]), (24, .getfield 197, 3, 2, 6, 0, [179]), (27, .iload_n 3, 1, 0, 0, 0, []), (28, .iaload, 1, 0, 0, 0, []), (29, .iload_n 2, 1, 0, 0, 0, []), (30, .if_icmp .le 18, 3, 0, 0, 0, [])],
  [(33, .aload_n 0, 1, 0, 0, 0, []), (34, .getfield 20, 3, 11, 1, 0, [482]), (37, .getfield 121, 3, 0, 0, 0, [280]), (40, .getfield 197, 3, 2, 6, 0, [179]), (43, .iload_n 3, 1, 0, 0, 0, []), (44, .iaload, 1, 0, 0, 0, []), (45, .istore_n 2, 1, 0, 0, 0, []), (46, .iload_n 3, 1, 0, 0, 0, []), (47, .istore_n 1, 1, 0, 0, 0, []), (48, .iinc 3 1, 3, 0, 0, 0, []), (51, .goto (-45), 3, 0, 0, 0, []), (54, .iload_n 1, 1, 0, 0, 0, []), (55, .ireturn, 1, 0, 0, 0, [])]]
def mX11_eldest : xMeth := (yX11_eldest, cX11_eldest, 4, (some FieldType.int), kX11_eldest)
def kX11_due : xC := [[(0, .aload_n 0, 1, 0, 0, 0, []), (1, .getfield 20, 3, 11, 1, 0, [482]), (4, .aload_n 0, 1, 0, 0, 0, []), (5, .getfield 20, 3, 11, 1, 0, [482]), (8, .getfield 121, 3, 0, 0, 0, [280]), (11, .getfield 145, 3, 2, 4, 0, [173]), (14, .invokevirtual 237, 3, 10, 2, 0, [1074, 1077, 114, 1075, 1076, 0]), (17, .ireturn, 1, 0, 0, 0, [])]]
def mX11_due : xMeth := (yX11_due, cX11_due, 1, (some FieldType.int), kX11_due)
def kX11_ledger : xC := [[(0, .iload_n 1, 1, 0, 0, 0, []), (1, .iconst 0, 1, 0, 0, 0, []), (2, .bipush 9, 2, 0, 0, 0, []), (4, .invokestatic 67, 3, 189, 3, 0, [519, 521, 112, 520]), (7, .ifCond .eq 17, 3, 0, 0, 0, []), (10, .aload_n 0, 1, 0, 0, 0, []), (11, .getfield 20, 3, 11, 1, 0, [482]), (14, .getfield 121, 3, 0, 0, 0, [280]), (17, .iload_n 1, 1, 0, 0, 0, []), (18, .invokevirtual 407, 3, 34, 2, 0, [1433, 1436, 115, 1434, 1435, 2]), (21, .goto 5, 3, 0, 0, 0, []), (24, .bipush (-2), 2, 0, 0, 0, []), (26, .ireturn, 1, 0, 0, 0, [])]]
def mX11_ledger : xMeth := (yX11_ledger, cX11_ledger, 2, (some FieldType.int), kX11_ledger)
def kX11_image : xC := [[(0, .aload_n 0, 1, 0, 0, 0, []), (1, .getfield 24, 3, 11, 2, 0, [483]), (4, .aload_n 0, 1, 0, 0, 0, []), (5, .getfield 20, 3, 11, 1, 0, [482]), (8, .invokevirtual 410, 3, 1, 2, 0, [1442, 1445, 114, 1443, 1444, 0]), (11, .aload_n 0, 1, 0, 0, 0, []), (12, .getfield 20, 3, 11, 1, 0, [482]), (15, .getfield 121, 3, 0, 0, 0, [280]), (18, .getfield 145, 3, 2, 4, 0, [173]), (21, .ireturn, 1, 0, 0, 0, [])]]
def mX11_image : xMeth := (yX11_image, cX11_image, 1, (some FieldType.int), kX11_image)
def kX11_back : xC := [[(0, .aload_n 0, 1, 0, 0, 0, []), (1, .getfield 20, 3, 11, 1, 0, [482]), (4, .aload_n 0, 1, 0, 0, 0, []), (5, .getfield 24, 3, 11, 2, 0, [483]), (8, .invokevirtual 410, 3, 1, 2, 0, [1442, 1445, 114, 1443, 1444, 0]), (11, .aload_n 0, 1, 0, 0, 0, []), (12, .getfield 20, 3, 11, 1, 0, [482]), (15, .getfield 121, 3, 0, 0, 0, [280]), (18, .getfield 145, 3, 2, 4, 0, [173]), (21, .ireturn, 1, 0, 0, 0, [])]]
def mX11_back : xMeth := (yX11_back, cX11_back, 1, (some FieldType.int), kX11_back)
def kX11_about : xC := [[(0, .iload_n 1, 1, 0, 0, 0, []), (1, .tableswitch 105 0 6 #[43, 51, 59, 67, 78, 89, 97], 43, 0, 0, 0, [])],
  [(44, .aload_n 0, 1, 0, 0, 0, []), (45, .getfield 20, 3, 11, 1, 0, [482]), (48, .getfield 295, 3, 0, 5, 0, [292]), (51, .ireturn, 1, 0, 0, 0, []), (52, .aload_n 0, 1, 0, 0, 0, []), (53, .getfield 20, 3, 11, 1, 0, [482]), (56, .getfield 91, 3, 0, 8, 0, [298]), (59, .ireturn, 1, 0, 0, 0, []), (60, .aload_n 0, 1, 0, 0, 0, []), (61, .getfield 20, 3, 11, 1, 0, [482])],
  [(64, .getfield 111, 3, 0, 9, 0, [300]), (67, .ireturn, 1, 0, 0, 0, []), (68, .aload_n 0, 1, 0, 0, 0, []), (69, .getfield 20, 3, 11, 1, 0, [482]), (72, .getfield 117, 3, 0, 1, 0, [282]), (75, .getfield 176, 3, 8, 2, 0, [215]), (78, .ireturn, 1, 0, 0, 0, []), (79, .aload_n 0, 1, 0, 0, 0, []), (80, .getfield 20, 3, 11, 1, 0, [482]), (83, .getfield 273, 3, 0, 10, 0, [302]), (86, .getfield 277, 3, 3, 2, 0, [234]), (89, .ireturn, 1, 0, 0, 0, []), (90, .aload_n 0, 1, 0, 0, 0, []), (91, .getfield 20, 3, 11, 1, 0, [482]), (94, .getfield 397, 3, 0, 15, 0, [312])],
  [(97, .ireturn, 1, 0, 0, 0, []), (98, .aload_n 0, 1, 0, 0, 0, []), (99, .getfield 45, 3, 11, 5, 0, [486]), (102, .getfield 82, 3, 9, 1, 0, [378]), (105, .ireturn, 1, 0, 0, 0, []), (106, .bipush (-2), 2, 0, 0, 0, []), (108, .ireturn, 1, 0, 0, 0, [])]]
def mX11_about : xMeth := (yX11_about, cX11_about, 2, (some FieldType.int), kX11_about)
def kX11_passSteps : xC := [[(0, .iconst 0, 1, 0, 0, 0, []), (1, .istore_n 2, 1, 0, 0, 0, []), (2, .iconst 0, 1, 0, 0, 0, []), (3, .istore_n 3, 1, 0, 0, 0, []), (4, .iload_n 3, 1, 0, 0, 0, []), (5, .iload_n 1, 1, 0, 0, 0, []), (6, .if_icmp .ge 33, 3, 0, 0, 0, []), (9, .aload_n 0, 1, 0, 0, 0, []), (10, .getfield 20, 3, 11, 1, 0, [482]), (13, .getfield 117, 3, 0, 1, 0, [282]), (16, .aload_n 0, 1, 0, 0, 0, []), (17, .getfield 20, 3, 11, 1, 0, [482]), (20, .getfield 121, 3, 0, 0, 0, [280]), (23, .invokevirtual 124, 3, 96, 2, 0, [873, 876, 116, 874, 875, 8]), (26, .iload_n 2, 1, 0, 0, 0, []), (27, .aload_n 0, 1, 0, 0, 0, []), (28, .invokevirtual 231, 3, 172, 1, 0, [915, 918, 112, 917, 26, 11]), (31, .iadd, 1, 0, 0, 0, [])],
  [(32, .istore_n 2, 1, 0, 0, 0, []), (33, .iinc 3 1, 3, 0, 0, 0, []), (36, .goto (-32), 3, 0, 0, 0, []), (39, .iload_n 2, 1, 0, 0, 0, []), (40, .ireturn, 1, 0, 0, 0, [])]]
def mX11_passSteps : xMeth := (yX11_passSteps, cX11_passSteps, 4, (some FieldType.int), kX11_passSteps)
def kX11_passDay : xC := [[(0, .aload_n 0, 1, 0, 0, 0, []), (1, .getfield 20, 3, 11, 1, 0, [482]), (4, .getfield 121, 3, 0, 0, 0, [280]), (7, .astore_n 1, 1, 0, 0, 0, []), (8, .iconst 0, 1, 0, 0, 0, []), (9, .istore_n 2, 1, 0, 0, 0, []), (10, .iconst 0, 1, 0, 0, 0, []), (11, .istore_n 3, 1, 0, 0, 0, []), (12, .iload_n 3, 1, 0, 0, 0, []), (13, .aload_n 0, 1, 0, 0, 0, []), (14, .getfield 20, 3, 11, 1, 0, [482]), (17, .getfield 295, 3, 0, 5, 0, [292]), (20, .if_icmp .ge 54, 3, 0, 0, 0, []), (23, .aload_n 0, 1, 0, 0, 0, []), (24, .getfield 20, 3, 11, 1, 0, [482]), (27, .iload_n 3, 1, 0, 0, 0, []), (28, .aload_n 1, 1, 0, 0, 0, []), (29, .getfield 145, 3, 2, 4, 0, [173])],
  [(32, .invokevirtual 413, 3, 9, 3, 0, [919, 922, 114, 920, 921, 0]), (35, .ifCond .eq 33, 3, 0, 0, 0, []), (38, .aload_n 1, 1, 0, 0, 0, []), (39, .invokevirtual 416, 3, 31, 1, 0, [923, 926, 115, 924, 925, 2]), (42, .bipush 10, 2, 0, 0, 0, []), (44, .irem, 1, 0, 0, 0, []), (45, .istore 4, 2, 0, 0, 0, []), (47, .iload 4, 2, 0, 0, 0, []), (49, .aload_n 0, 1, 0, 0, 0, []), (50, .getfield 10, 3, 11, 0, 0, [481]), (53, .iload_n 3, 1, 0, 0, 0, []), (54, .invokevirtual 200, 3, 16, 2, 0, [927, 930, 113, 928, 929, 1]), (57, .if_icmp .ge 11, 3, 0, 0, 0, []), (60, .aload_n 1, 1, 0, 0, 0, []), (61, .iload_n 3, 1, 0, 0, 0, []), (62, .invokevirtual 419, 3, 30, 2, 0, [988, 991, 115, 989, 990, 2])],
  [(65, .iinc 2 1, 3, 0, 0, 0, []), (68, .iinc 3 1, 3, 0, 0, 0, []), (71, .goto (-59), 3, 0, 0, 0, []), (74, .aload_n 0, 1, 0, 0, 0, []), (75, .getfield 10, 3, 11, 0, 0, [481]), (78, .aload_n 0, 1, 0, 0, 0, []), (79, .getfield 20, 3, 11, 1, 0, [482]), (82, .invokevirtual 210, 3, 8, 1, 0, [992, 935, 114, 933, 934, 0]), (85, .iload_n 2, 1, 0, 0, 0, []), (86, .invokevirtual 213, 3, 17, 3, 0, [993, 996, 113, 994, 995, 1]), (89, .istore_n 3, 1, 0, 0, 0, []), (90, .aload_n 1, 1, 0, 0, 0, []), (91, .iload_n 2, 1, 0, 0, 0, []), (92, .putfield 203, 3, 2, 2, 0, [168]), (95, .aload_n 1, 1, 0, 0, 0, [])],
  [(96, .aload_n 0, 1, 0, 0, 0, []), (97, .getfield 20, 3, 11, 1, 0, [482]), (100, .getfield 79, 3, 0, 6, 0, [294]), (103, .iload_n 2, 1, 0, 0, 0, []), (104, .iaload, 1, 0, 0, 0, []), (105, .putfield 206, 3, 2, 3, 0, [170]), (108, .aload_n 1, 1, 0, 0, 0, []), (109, .aload_n 1, 1, 0, 0, 0, []), (110, .getfield 142, 3, 2, 1, 0, [164]), (113, .iload_n 3, 1, 0, 0, 0, []), (114, .iadd, 1, 0, 0, 0, []), (115, .sipush (-9999), 3, 0, 0, 0, []), (118, .sipush 9999, 3, 0, 0, 0, []), (121, .invokestatic 422, 3, 190, 3, 0, [997, 966, 112, 965]), (124, .putfield 142, 3, 2, 1, 0, [164]), (127, .aload_n 1, 1, 0, 0, 0, [])],
  [(128, .iload_n 3, 1, 0, 0, 0, []), (129, .invokevirtual 425, 3, 32, 2, 0, [998, 1001, 115, 999, 1000, 2]), (132, .aload_n 1, 1, 0, 0, 0, []), (133, .dup, 1, 0, 0, 0, []), (134, .getfield 145, 3, 2, 4, 0, [173]), (137, .iconst 1, 1, 0, 0, 0, []), (138, .iadd, 1, 0, 0, 0, []), (139, .putfield 145, 3, 2, 4, 0, [173]), (142, .iload_n 2, 1, 0, 0, 0, []), (143, .ireturn, 1, 0, 0, 0, [])]]
def mX11_passDay : xMeth := (yX11_passDay, cX11_passDay, 5, (some FieldType.int), kX11_passDay)
def kX11_playClause : xC := [[(0, .iload_n 1, 1, 0, 0, 0, []), (1, .lookupswitch 140 #[(0, 101), (9, 76), (20, 59), (21, 83), (22, 89), (23, 95)], 59, 0, 0, 0, [])],
  [(60, .aload_n 0, 1, 0, 0, 0, []), (61, .iload_n 2, 1, 0, 0, 0, []), (62, .iconst 0, 1, 0, 0, 0, []), (63, .iload_n 3, 1, 0, 0, 0, [])],
  [(64, .invokevirtual 428, 3, 111, 4, 0, [1011, 518, 112, 516, 517, 11]), (67, .iconst (-1), 1, 0, 0, 0, []), (68, .if_icmp .eq 7, 3, 0, 0, 0, []), (71, .iconst 1, 1, 0, 0, 0, []), (72, .goto 4, 3, 0, 0, 0, []), (75, .iconst 0, 1, 0, 0, 0, []), (76, .ireturn, 1, 0, 0, 0, []), (77, .aload_n 0, 1, 0, 0, 0, []), (78, .iload_n 2, 1, 0, 0, 0, []), (79, .iload_n 3, 1, 0, 0, 0, []), (80, .invokevirtual 431, 3, 112, 3, 0, [1012, 529, 112, 527, 528, 11]), (83, .ireturn, 1, 0, 0, 0, []), (84, .aload_n 0, 1, 0, 0, 0, []), (85, .iload_n 2, 1, 0, 0, 0, []), (86, .invokevirtual 434, 3, 118, 2, 0, [1013, 857, 112, 855, 856, 11]), (89, .ireturn, 1, 0, 0, 0, []), (90, .aload_n 0, 1, 0, 0, 0, []), (91, .iload_n 2, 1, 0, 0, 0, []), (92, .invokevirtual 437, 3, 119, 2, 0, [1014, 889, 112, 887, 888, 11]), (95, .ireturn, 1, 0, 0, 0, [])],
  [(96, .aload_n 0, 1, 0, 0, 0, []), (97, .iload_n 2, 1, 0, 0, 0, []), (98, .invokevirtual 440, 3, 120, 2, 0, [1015, 901, 112, 899, 900, 11]), (101, .ireturn, 1, 0, 0, 0, []), (102, .iload_n 2, 1, 0, 0, 0, []), (103, .sipush 9999, 3, 0, 0, 0, []), (106, .aload_n 0, 1, 0, 0, 0, []), (107, .getfield 20, 3, 11, 1, 0, [482]), (110, .getfield 121, 3, 0, 0, 0, [280]), (113, .getfield 145, 3, 2, 4, 0, [173]), (116, .isub, 1, 0, 0, 0, []), (117, .invokestatic 443, 3, 0, 0, 11, [1016, 626, 128, 627]), (120, .istore 4, 2, 0, 0, 0, []), (122, .aload_n 0, 1, 0, 0, 0, []), (123, .iload 4, 2, 0, 0, 0, []), (125, .invokevirtual 148, 3, 171, 2, 0, [911, 914, 112, 913, 25, 11])],
  [(128, .pop, 1, 0, 0, 0, []), (129, .iload 4, 2, 0, 0, 0, []), (131, .iload_n 2, 1, 0, 0, 0, []), (132, .if_icmp .ne 7, 3, 0, 0, 0, []), (135, .iconst 1, 1, 0, 0, 0, []), (136, .goto 4, 3, 0, 0, 0, []), (139, .iconst 0, 1, 0, 0, 0, []), (140, .ireturn, 1, 0, 0, 0, []), (141, .iconst 1, 1, 0, 0, 0, []), (142, .ireturn, 1, 0, 0, 0, [])]]
def mX11_playClause : xMeth := (yX11_playClause, cX11_playClause, 5, (some FieldType.boolean), kX11_playClause)
def kX11_drawYear : xC := [[(0, .aload_n 0, 1, 0, 0, 0, []), (1, .getfield 20, 3, 11, 1, 0, [482]), (4, .getfield 121, 3, 0, 0, 0, [280]), (7, .astore_n 1, 1, 0, 0, 0, []), (8, .aload_n 1, 1, 0, 0, 0, []), (9, .invokevirtual 416, 3, 31, 1, 0, [923, 926, 115, 924, 925, 2]), (12, .istore_n 2, 1, 0, 0, 0, []), (13, .iload_n 2, 1, 0, 0, 0, []), (14, .bipush 6, 2, 0, 0, 0, []), (16, .idiv, 1, 0, 0, 0, []), (17, .bipush 8, 2, 0, 0, 0, []), (19, .irem, 1, 0, 0, 0, []), (20, .istore_n 3, 1, 0, 0, 0, []), (21, .iconst 1, 1, 0, 0, 0, []), (22, .iload_n 2, 1, 0, 0, 0, []), (23, .bipush 6, 2, 0, 0, 0, []), (25, .idiv, 1, 0, 0, 0, []), (26, .bipush 50, 2, 0, 0, 0, []), (28, .irem, 1, 0, 0, 0, []), (29, .iadd, 1, 0, 0, 0, []), (30, .istore 4, 2, 0, 0, 0, [])],
  [(32, .iload_n 2, 1, 0, 0, 0, []), (33, .bipush 6, 2, 0, 0, 0, []), (35, .irem, 1, 0, 0, 0, []), (36, .tableswitch 105 0 2 #[28, 54, 73], 28, 0, 0, 0, [])],
  [(64, .iload_n 2, 1, 0, 0, 0, []), (65, .iconst 4, 1, 0, 0, 0, []), (66, .irem, 1, 0, 0, 0, []), (67, .iconst 2, 1, 0, 0, 0, []), (68, .if_icmp .ne 88, 3, 0, 0, 0, []), (71, .aload_n 0, 1, 0, 0, 0, []), (72, .getfield 20, 3, 11, 1, 0, [482]), (75, .iload_n 3, 1, 0, 0, 0, []), (76, .invokevirtual 114, 3, 11, 2, 0, [858, 861, 114, 859, 860, 0]), (79, .ifCond .eq 77, 3, 0, 0, 0, []), (82, .aload_n 1, 1, 0, 0, 0, []), (83, .iload_n 3, 1, 0, 0, 0, []), (84, .invokevirtual 130, 3, 28, 2, 0, [882, 885, 115, 883, 884, 2]), (87, .goto 69, 3, 0, 0, 0, []), (90, .aload_n 0, 1, 0, 0, 0, []), (91, .getfield 20, 3, 11, 1, 0, [482]), (94, .iload_n 3, 1, 0, 0, 0, []), (95, .invokevirtual 133, 3, 12, 2, 0, [890, 893, 114, 891, 892, 0])],
  [(98, .ifCond .eq 58, 3, 0, 0, 0, []), (101, .aload_n 1, 1, 0, 0, 0, []), (102, .iload_n 3, 1, 0, 0, 0, []), (103, .invokevirtual 136, 3, 29, 2, 0, [894, 897, 115, 895, 896, 2]), (106, .goto 50, 3, 0, 0, 0, []), (109, .iload_n 2, 1, 0, 0, 0, []), (110, .iconst 4, 1, 0, 0, 0, []), (111, .irem, 1, 0, 0, 0, []), (112, .ifCond .ne 44, 3, 0, 0, 0, []), (115, .aload_n 0, 1, 0, 0, 0, []), (116, .getfield 20, 3, 11, 1, 0, [482]), (119, .iload 4, 2, 0, 0, 0, []), (121, .invokevirtual 139, 3, 13, 2, 0, [902, 905, 114, 903, 904, 0]), (124, .ifCond .eq 32, 3, 0, 0, 0, []), (127, .aload_n 1, 1, 0, 0, 0, [])],
  [(128, .dup, 1, 0, 0, 0, []), (129, .getfield 142, 3, 2, 1, 0, [164]), (132, .iload 4, 2, 0, 0, 0, []), (134, .iadd, 1, 0, 0, 0, []), (135, .putfield 142, 3, 2, 1, 0, [164]), (138, .goto 18, 3, 0, 0, 0, []), (141, .aload_n 0, 1, 0, 0, 0, []), (142, .getfield 20, 3, 11, 1, 0, [482]), (145, .invokevirtual 227, 3, 14, 1, 0, [1025, 1028, 114, 1026, 1027, 0]), (148, .ifCond .eq 8, 3, 0, 0, 0, []), (151, .aload_n 0, 1, 0, 0, 0, []), (152, .invokevirtual 231, 3, 172, 1, 0, [915, 918, 112, 917, 26, 11]), (155, .pop, 1, 0, 0, 0, []), (156, .return_, 1, 0, 0, 0, [])]]
def mX11_drawYear : xMeth := (yX11_drawYear, cX11_drawYear, 5, none, kX11_drawYear)
def kX11_noteChances : xC := [[(0, .iconst 0, 1, 0, 0, 0, []), (1, .istore_n 1, 1, 0, 0, 0, []), (2, .iload_n 1, 1, 0, 0, 0, []), (3, .aload_n 0, 1, 0, 0, 0, []), (4, .getfield 20, 3, 11, 1, 0, [482]), (7, .getfield 295, 3, 0, 5, 0, [292]), (10, .if_icmp .ge 23, 3, 0, 0, 0, []), (13, .aload_n 0, 1, 0, 0, 0, []), (14, .getfield 53, 3, 11, 7, 0, [488]), (17, .iload_n 1, 1, 0, 0, 0, []), (18, .aload_n 0, 1, 0, 0, 0, []), (19, .getfield 10, 3, 11, 0, 0, [481]), (22, .iload_n 1, 1, 0, 0, 0, []), (23, .invokevirtual 200, 3, 16, 2, 0, [927, 930, 113, 928, 929, 1]), (26, .iastore, 1, 0, 0, 0, []), (27, .iinc 1 1, 3, 0, 0, 0, []), (30, .goto (-28), 3, 0, 0, 0, [])],
  [(33, .return_, 1, 0, 0, 0, [])]]
def mX11_noteChances : xMeth := (yX11_noteChances, cX11_noteChances, 2, none, kX11_noteChances)
def kX11_spreadOver : xC := [[(0, .aload_n 0, 1, 0, 0, 0, []), (1, .getfield 49, 3, 11, 6, 0, [487]), (4, .invokevirtual 448, 3, 89, 1, 0, [1087, 1090, 122, 1088, 1089, 7]), (7, .iconst 0, 1, 0, 0, 0, []), (8, .istore_n 3, 1, 0, 0, 0, []), (9, .iload_n 3, 1, 0, 0, 0, []), (10, .bipush 8, 2, 0, 0, 0, []), (12, .if_icmp .ge 42, 3, 0, 0, 0, []), (15, .iload_n 1, 1, 0, 0, 0, []), (16, .iload_n 3, 1, 0, 0, 0, []), (17, .invokestatic 259, 3, 194, 2, 0, [1094, 872, 112, 871]), (20, .ifCond .eq 28, 3, 0, 0, 0, []), (23, .aload_n 0, 1, 0, 0, 0, []), (24, .getfield 49, 3, 11, 6, 0, [487]), (27, .iload_n 2, 1, 0, 0, 0, []), (28, .iload_n 3, 1, 0, 0, 0, []), (29, .invokestatic 259, 3, 194, 2, 0, [1094, 872, 112, 871])],
  [(32, .ifCond .eq 7, 3, 0, 0, 0, []), (35, .iconst 0, 1, 0, 0, 0, []), (36, .goto 9, 3, 0, 0, 0, []), (39, .aload_n 0, 1, 0, 0, 0, []), (40, .getfield 53, 3, 11, 7, 0, [488]), (43, .iload_n 3, 1, 0, 0, 0, []), (44, .iaload, 1, 0, 0, 0, []), (45, .invokevirtual 451, 3, 90, 2, 0, [1095, 1098, 122, 1096, 1097, 7]), (48, .iinc 3 1, 3, 0, 0, 0, []), (51, .goto (-42), 3, 0, 0, 0, []), (54, .return_, 1, 0, 0, 0, [])]]
def mX11_spreadOver : xMeth := (yX11_spreadOver, cX11_spreadOver, 4, none, kX11_spreadOver)
def kX11_bestThinned : xC := [[(0, .aload_n 0, 1, 0, 0, 0, []), (1, .getfield 20, 3, 11, 1, 0, [482]), (4, .aload_n 0, 1, 0, 0, 0, []), (5, .getfield 20, 3, 11, 1, 0, [482]), (8, .getfield 121, 3, 0, 0, 0, [280]), (11, .getfield 145, 3, 2, 4, 0, [173]), (14, .invokevirtual 237, 3, 10, 2, 0, [1074, 1077, 114, 1075, 1076, 0]), (17, .istore_n 2, 1, 0, 0, 0, []), (18, .aload_n 0, 1, 0, 0, 0, []), (19, .invokevirtual 240, 3, 175, 1, 0, [1079, 1082, 112, 1081, 32, 11]), (22, .iconst 0, 1, 0, 0, 0, []), (23, .istore_n 3, 1, 0, 0, 0, []), (24, .ldc2_w 235, 3, 0, 0, (-1), [1073]), (27, .lstore 4, 2, 0, 0, 0, []), (29, .iconst 0, 1, 0, 0, 0, []), (30, .istore 6, 2, 0, 0, 0, [])],
  [(32, .iload 6, 2, 0, 0, 0, []), (34, .sipush 256, 3, 0, 0, 0, []), (37, .if_icmp .ge 73, 3, 0, 0, 0, []), (40, .iload 6, 2, 0, 0, 0, []), (42, .iload_n 2, 1, 0, 0, 0, []), (43, .iconst (-1), 1, 0, 0, 0, []), (44, .ixor, 1, 0, 0, 0, []), (45, .iand, 1, 0, 0, 0, []), (46, .ifCond .eq 6, 3, 0, 0, 0, []), (49, .goto 55, 3, 0, 0, 0, []), (52, .aload_n 0, 1, 0, 0, 0, []), (53, .iload_n 2, 1, 0, 0, 0, []), (54, .iload 6, 2, 0, 0, 0, []), (56, .invokevirtual 243, 3, 176, 3, 0, [1083, 1086, 112, 1085, 33, 11]), (59, .aload_n 0, 1, 0, 0, 0, []), (60, .getfield 49, 3, 11, 6, 0, [487]), (63, .iload_n 1, 1, 0, 0, 0, [])],
  [(64, .invokevirtual 247, 3, 92, 2, 0, [1100, 1103, 122, 1101, 1102, 7]), (67, .lstore 7, 2, 0, 0, 0, []), (69, .lload 7, 2, 0, 0, 0, []), (71, .lload 4, 2, 0, 0, 0, []), (73, .lcmp, 1, 0, 0, 0, []), (74, .ifCond .gt 23, 3, 0, 0, 0, []), (77, .lload 7, 2, 0, 0, 0, []), (79, .lload 4, 2, 0, 0, 0, []), (81, .lcmp, 1, 0, 0, 0, []), (82, .ifCond .ne 22, 3, 0, 0, 0, []), (85, .iload 6, 2, 0, 0, 0, []), (87, .invokestatic 268, 3, 350, 1, 0, [1124, 984, 133, 983]), (90, .iload_n 3, 1, 0, 0, 0, []), (91, .invokestatic 268, 3, 350, 1, 0, [1124, 984, 133, 983]), (94, .if_icmp .ge 10, 3, 0, 0, 0, [])],
  [(97, .lload 7, 2, 0, 0, 0, []), (99, .lstore 4, 2, 0, 0, 0, []), (101, .iload 6, 2, 0, 0, 0, []), (103, .istore_n 3, 1, 0, 0, 0, []), (104, .iinc 6 1, 3, 0, 0, 0, []), (107, .goto (-75), 3, 0, 0, 0, []), (110, .iload_n 3, 1, 0, 0, 0, []), (111, .ireturn, 1, 0, 0, 0, [])]]
def mX11_bestThinned : xMeth := (yX11_bestThinned, cX11_bestThinned, 9, (some FieldType.int), kX11_bestThinned)
def kX11_canCome : xC := [[(0, .iconst 0, 1, 0, 0, 0, []), (1, .istore_n 3, 1, 0, 0, 0, []), (2, .iconst 0, 1, 0, 0, 0, []), (3, .istore 4, 2, 0, 0, 0, []), (5, .iconst 0, 1, 0, 0, 0, []), (6, .istore 5, 2, 0, 0, 0, []), (8, .iload 5, 2, 0, 0, 0, []), (10, .bipush 8, 2, 0, 0, 0, []), (12, .if_icmp .ge 58, 3, 0, 0, 0, []), (15, .iload_n 1, 1, 0, 0, 0, []), (16, .iload 5, 2, 0, 0, 0, []), (18, .invokestatic 259, 3, 194, 2, 0, [1094, 872, 112, 871]), (21, .ifCond .eq 21, 3, 0, 0, 0, []), (24, .aload_n 0, 1, 0, 0, 0, []), (25, .getfield 53, 3, 11, 7, 0, [488]), (28, .iload 5, 2, 0, 0, 0, []), (30, .iaload, 1, 0, 0, 0, []), (31, .bipush 10, 2, 0, 0, 0, [])],
  [(33, .if_icmp .ne 9, 3, 0, 0, 0, []), (36, .iinc 3 1, 3, 0, 0, 0, []), (39, .goto 25, 3, 0, 0, 0, []), (42, .iload_n 1, 1, 0, 0, 0, []), (43, .iload 5, 2, 0, 0, 0, []), (45, .invokestatic 259, 3, 194, 2, 0, [1094, 872, 112, 871]), (48, .ifCond .eq 16, 3, 0, 0, 0, []), (51, .aload_n 0, 1, 0, 0, 0, []), (52, .getfield 53, 3, 11, 7, 0, [488]), (55, .iload 5, 2, 0, 0, 0, []), (57, .iaload, 1, 0, 0, 0, []), (58, .ifCond .le 6, 3, 0, 0, 0, []), (61, .iinc 4 1, 3, 0, 0, 0, [])],
  [(64, .iinc 5 1, 3, 0, 0, 0, []), (67, .goto (-59), 3, 0, 0, 0, []), (70, .iload_n 2, 1, 0, 0, 0, []), (71, .iload_n 3, 1, 0, 0, 0, []), (72, .iload_n 3, 1, 0, 0, 0, []), (73, .iload 4, 2, 0, 0, 0, []), (75, .iadd, 1, 0, 0, 0, []), (76, .invokestatic 67, 3, 189, 3, 0, [519, 521, 112, 520]), (79, .ireturn, 1, 0, 0, 0, [])]]
def mX11_canCome : xMeth := (yX11_canCome, cX11_canCome, 6, (some FieldType.boolean), kX11_canCome)
def kX11_leastBound : xC := [[(0, .aload_n 0, 1, 0, 0, 0, []), (1, .getfield 49, 3, 11, 6, 0, [487]), (4, .iload_n 1, 1, 0, 0, 0, []), (5, .iload_n 2, 1, 0, 0, 0, []), (6, .invokevirtual 336, 3, 91, 3, 0, [1242, 1245, 122, 1243, 1244, 7]), (9, .iconst 0, 1, 0, 0, 0, []), (10, .istore_n 3, 1, 0, 0, 0, []), (11, .iload_n 3, 1, 0, 0, 0, []), (12, .iload_n 1, 1, 0, 0, 0, []), (13, .if_icmp .gt 34, 3, 0, 0, 0, []), (16, .aload_n 0, 1, 0, 0, 0, []), (17, .getfield 49, 3, 11, 6, 0, [487]), (20, .iload_n 3, 1, 0, 0, 0, []), (21, .invokevirtual 339, 3, 93, 2, 0, [1248, 1251, 122, 1249, 1250, 7]), (24, .ldc2_w 454, 3, 0, 0, 20, [1261]), (27, .lmul, 1, 0, 0, 0, []), (28, .aload_n 0, 1, 0, 0, 0, []), (29, .getfield 49, 3, 11, 6, 0, [487])],
  [(32, .getfield 251, 3, 7, 2, 0, [472]), (35, .lcmp, 1, 0, 0, 0, []), (36, .ifCond .gt 5, 3, 0, 0, 0, []), (39, .iload_n 3, 1, 0, 0, 0, []), (40, .ireturn, 1, 0, 0, 0, []), (41, .iinc 3 1, 3, 0, 0, 0, []), (44, .goto (-33), 3, 0, 0, 0, []), (47, .iconst (-1), 1, 0, 0, 0, []), (48, .ireturn, 1, 0, 0, 0, [])]]
def mX11_leastBound : xMeth := (yX11_leastBound, cX11_leastBound, 4, (some FieldType.int), kX11_leastBound)
def kX11_bringsAllTold : xC := [[(0, .iconst 0, 1, 0, 0, 0, []), (1, .istore_n 2, 1, 0, 0, 0, []), (2, .iload_n 2, 1, 0, 0, 0, []), (3, .aload_n 0, 1, 0, 0, 0, []), (4, .getfield 20, 3, 11, 1, 0, [482]), (7, .getfield 397, 3, 0, 15, 0, [312]), (10, .if_icmp .ge 40, 3, 0, 0, 0, []), (13, .aload_n 0, 1, 0, 0, 0, []), (14, .getfield 10, 3, 11, 0, 0, [481]), (17, .aload_n 1, 1, 0, 0, 0, []), (18, .aload_n 0, 1, 0, 0, 0, []), (19, .getfield 20, 3, 11, 1, 0, [482]), (22, .getfield 456, 3, 0, 13, 0, [308]), (25, .iload_n 2, 1, 0, 0, 0, []), (26, .iaload, 1, 0, 0, 0, []), (27, .invokevirtual 213, 3, 17, 3, 0, [993, 996, 113, 994, 995, 1]), (30, .aload_n 0, 1, 0, 0, 0, []), (31, .getfield 20, 3, 11, 1, 0, [482])],
  [(34, .getfield 459, 3, 0, 14, 0, [310]), (37, .iload_n 2, 1, 0, 0, 0, []), (38, .iaload, 1, 0, 0, 0, []), (39, .if_icmp .eq 5, 3, 0, 0, 0, []), (42, .iconst 0, 1, 0, 0, 0, []), (43, .ireturn, 1, 0, 0, 0, []), (44, .iinc 2 1, 3, 0, 0, 0, []), (47, .goto (-45), 3, 0, 0, 0, []), (50, .iconst 1, 1, 0, 0, 0, []), (51, .ireturn, 1, 0, 0, 0, [])]]
def mX11_bringsAllTold : xMeth := (yX11_bringsAllTold, cX11_bringsAllTold, 3, (some FieldType.boolean), kX11_bringsAllTold)
def kX11_raise : xC := [[(0, .aload_n 0, 1, 0, 0, 0, []), (1, .getfield 57, 3, 11, 8, 0, [489]), (4, .iconst 0, 1, 0, 0, 0, []), (5, .iconst 1, 1, 0, 0, 0, []), (6, .iastore, 1, 0, 0, 0, []), (7, .iconst 1, 1, 0, 0, 0, []), (8, .istore_n 3, 1, 0, 0, 0, []), (9, .iconst 0, 1, 0, 0, 0, []), (10, .istore 4, 2, 0, 0, 0, []), (12, .iload 4, 2, 0, 0, 0, []), (14, .iload_n 2, 1, 0, 0, 0, []), (15, .if_icmp .ge 16, 3, 0, 0, 0, []), (18, .aload_n 0, 1, 0, 0, 0, []), (19, .iload_n 1, 1, 0, 0, 0, []), (20, .iload_n 3, 1, 0, 0, 0, []), (21, .invokevirtual 462, 3, 182, 3, 0, [1373, 1376, 112, 1375, 43, 11]), (24, .istore_n 3, 1, 0, 0, 0, []), (25, .iinc 4 1, 3, 0, 0, 0, []), (28, .goto (-16), 3, 0, 0, 0, []), (31, .iload_n 3, 1, 0, 0, 0, [])],
  [(32, .ireturn, 1, 0, 0, 0, [])]]
def mX11_raise : xMeth := (yX11_raise, cX11_raise, 5, (some FieldType.int), kX11_raise)
def kX11_multiply : xC := [[(0, .iconst 0, 1, 0, 0, 0, []), (1, .istore_n 3, 1, 0, 0, 0, []), (2, .iconst 0, 1, 0, 0, 0, []), (3, .istore 4, 2, 0, 0, 0, []), (5, .iload 4, 2, 0, 0, 0, []), (7, .bipush 100, 2, 0, 0, 0, []), (9, .if_icmp .ge 60, 3, 0, 0, 0, []), (12, .iload 4, 2, 0, 0, 0, []), (14, .iload_n 2, 1, 0, 0, 0, []), (15, .if_icmp .lt 7, 3, 0, 0, 0, []), (18, .iload_n 3, 1, 0, 0, 0, []), (19, .ifCond .le 50, 3, 0, 0, 0, []), (22, .iload_n 3, 1, 0, 0, 0, []), (23, .iload 4, 2, 0, 0, 0, []), (25, .iload_n 2, 1, 0, 0, 0, []), (26, .if_icmp .ge 15, 3, 0, 0, 0, []), (29, .aload_n 0, 1, 0, 0, 0, []), (30, .getfield 57, 3, 11, 8, 0, [489])],
  [(33, .iload 4, 2, 0, 0, 0, []), (35, .iaload, 1, 0, 0, 0, []), (36, .iload_n 1, 1, 0, 0, 0, []), (37, .imul, 1, 0, 0, 0, []), (38, .goto 4, 3, 0, 0, 0, []), (41, .iconst 0, 1, 0, 0, 0, []), (42, .iadd, 1, 0, 0, 0, []), (43, .istore 5, 2, 0, 0, 0, []), (45, .aload_n 0, 1, 0, 0, 0, []), (46, .getfield 57, 3, 11, 8, 0, [489]), (49, .iload 4, 2, 0, 0, 0, []), (51, .iload 5, 2, 0, 0, 0, []), (53, .bipush 10, 2, 0, 0, 0, []), (55, .irem, 1, 0, 0, 0, []), (56, .iastore, 1, 0, 0, 0, []), (57, .iload 5, 2, 0, 0, 0, []), (59, .bipush 10, 2, 0, 0, 0, []), (61, .idiv, 1, 0, 0, 0, []), (62, .istore_n 3, 1, 0, 0, 0, []), (63, .iinc 4 1, 3, 0, 0, 0, [])],
  [(66, .goto (-61), 3, 0, 0, 0, []), (69, .iload 4, 2, 0, 0, 0, []), (71, .iconst 1, 1, 0, 0, 0, []), (72, .if_icmp .le 21, 3, 0, 0, 0, []), (75, .aload_n 0, 1, 0, 0, 0, []), (76, .getfield 57, 3, 11, 8, 0, [489]), (79, .iload 4, 2, 0, 0, 0, []), (81, .iconst 1, 1, 0, 0, 0, []), (82, .isub, 1, 0, 0, 0, []), (83, .iaload, 1, 0, 0, 0, []), (84, .ifCond .ne 9, 3, 0, 0, 0, []), (87, .iinc 4 (-1), 3, 0, 0, 0, []), (90, .goto (-21), 3, 0, 0, 0, []), (93, .iload 4, 2, 0, 0, 0, []), (95, .ireturn, 1, 0, 0, 0, [])]]
def mX11_multiply : xMeth := (yX11_multiply, cX11_multiply, 6, (some FieldType.int), kX11_multiply)
def kX11_deeper : xC := [[(0, .iload_n 0, 1, 0, 0, 0, []), (1, .iconst 2, 1, 0, 0, 0, []), (2, .imul, 1, 0, 0, 0, []), (3, .iconst 3, 1, 0, 0, 0, []), (4, .idiv, 1, 0, 0, 0, []), (5, .ireturn, 1, 0, 0, 0, [])]]
def mX11_deeper : xMeth := (yX11_deeper, cX11_deeper, 1, (some FieldType.int), kX11_deeper)
def kX11_leastPart : xC := [[(0, .iload_n 0, 1, 0, 0, 0, []), (1, .istore_n 1, 1, 0, 0, 0, []), (2, .iconst 0, 1, 0, 0, 0, []), (3, .istore_n 2, 1, 0, 0, 0, []), (4, .getstatic 465, 3, 0, 1, 0, [1399]), (7, .astore_n 3, 1, 0, 0, 0, []), (8, .aload_n 3, 1, 0, 0, 0, []), (9, .arraylength, 1, 0, 0, 0, []), (10, .istore 4, 2, 0, 0, 0, []), (12, .iconst 0, 1, 0, 0, 0, []), (13, .istore 5, 2, 0, 0, 0, []), (15, .iload 5, 2, 0, 0, 0, []), (17, .iload 4, 2, 0, 0, 0, []), (19, .if_icmp .ge 29, 3, 0, 0, 0, []), (22, .aload_n 3, 1, 0, 0, 0, []), (23, .iload 5, 2, 0, 0, 0, []), (25, .iaload, 1, 0, 0, 0, []), (26, .istore 6, 2, 0, 0, 0, []), (28, .iload 6, 2, 0, 0, 0, []), (30, .iload_n 1, 1, 0, 0, 0, []), (31, .if_icmp .gt 11, 3, 0, 0, 0, [])],
  [(34, .iload_n 1, 1, 0, 0, 0, []), (35, .iload 6, 2, 0, 0, 0, []), (37, .isub, 1, 0, 0, 0, []), (38, .istore_n 1, 1, 0, 0, 0, []), (39, .iload 6, 2, 0, 0, 0, []), (41, .istore_n 2, 1, 0, 0, 0, []), (42, .iinc 5 1, 3, 0, 0, 0, []), (45, .goto (-30), 3, 0, 0, 0, []), (48, .iload_n 2, 1, 0, 0, 0, []), (49, .ireturn, 1, 0, 0, 0, [])]]
def mX11_leastPart : xMeth := (yX11_leastPart, cX11_leastPart, 7, (some FieldType.int), kX11_leastPart)
def kX11_firstOfHabit : xC := [[(0, .iconst 0, 1, 0, 0, 0, []), (1, .istore 4, 2, 0, 0, 0, []), (3, .iload_n 2, 1, 0, 0, 0, []), (4, .ifCond .le 34, 3, 0, 0, 0, []), (7, .iload 4, 2, 0, 0, 0, []), (9, .iload_n 2, 1, 0, 0, 0, []), (10, .if_icmp .ge 28, 3, 0, 0, 0, []), (13, .iload_n 0, 1, 0, 0, 0, []), (14, .iload 4, 2, 0, 0, 0, []), (16, .iload_n 1, 1, 0, 0, 0, []), (17, .imul, 1, 0, 0, 0, []), (18, .iadd, 1, 0, 0, 0, []), (19, .iload_n 2, 1, 0, 0, 0, []), (20, .irem, 1, 0, 0, 0, []), (21, .iload_n 3, 1, 0, 0, 0, []), (22, .if_icmp .ne 10, 3, 0, 0, 0, []), (25, .iload_n 0, 1, 0, 0, 0, []), (26, .iload 4, 2, 0, 0, 0, []), (28, .iload_n 1, 1, 0, 0, 0, []), (29, .imul, 1, 0, 0, 0, []), (30, .iadd, 1, 0, 0, 0, []), (31, .ireturn, 1, 0, 0, 0, [])],
  [(32, .iinc 4 1, 3, 0, 0, 0, []), (35, .goto (-32), 3, 0, 0, 0, []), (38, .iconst (-1), 1, 0, 0, 0, []), (39, .ireturn, 1, 0, 0, 0, [])]]
def mX11_firstOfHabit : xMeth := (yX11_firstOfHabit, cX11_firstOfHabit, 5, (some FieldType.int), kX11_firstOfHabit)
def kX11_leastCommon : xC := [[(0, .iload_n 0, 1, 0, 0, 0, []), (1, .i2l, 1, 0, 0, 0, []), (2, .iload_n 1, 1, 0, 0, 0, []), (3, .i2l, 1, 0, 0, 0, []), (4, .invokestatic 468, 3, 187, 2, 0, [1108, 1110, 112, 1109]), (7, .lstore_n 2, 1, 0, 0, 0, []), (8, .lload_n 2, 1, 0, 0, 0, []), (9, .lconst 0, 1, 0, 0, 0, []), (10, .lcmp, 1, 0, 0, 0, []), (11, .ifCond .ne 7, 3, 0, 0, 0, []), (14, .iconst 0, 1, 0, 0, 0, []), (15, .goto 10, 3, 0, 0, 0, []), (18, .iload_n 0, 1, 0, 0, 0, []), (19, .i2l, 1, 0, 0, 0, []), (20, .lload_n 2, 1, 0, 0, 0, []), (21, .ldiv, 1, 0, 0, 0, []), (22, .l2i, 1, 0, 0, 0, []), (23, .iload_n 1, 1, 0, 0, 0, []), (24, .imul, 1, 0, 0, 0, []), (25, .ireturn, 1, 0, 0, 0, [])]]
def mX11_leastCommon : xMeth := (yX11_leastCommon, cX11_leastCommon, 4, (some FieldType.int), kX11_leastCommon)
def kX11_greatestCommon : xC := [[(0, .lload_n 0, 1, 0, 0, 0, []), (1, .lstore 4, 2, 0, 0, 0, []), (3, .lload_n 2, 1, 0, 0, 0, []), (4, .lstore 6, 2, 0, 0, 0, []), (6, .iconst 0, 1, 0, 0, 0, []), (7, .istore 8, 2, 0, 0, 0, []), (9, .iload 8, 2, 0, 0, 0, []), (11, .bipush 100, 2, 0, 0, 0, []), (13, .if_icmp .ge 31, 3, 0, 0, 0, []), (16, .lload 6, 2, 0, 0, 0, []), (18, .lconst 0, 1, 0, 0, 0, []), (19, .lcmp, 1, 0, 0, 0, []), (20, .ifCond .eq 24, 3, 0, 0, 0, []), (23, .lload 4, 2, 0, 0, 0, []), (25, .lload 6, 2, 0, 0, 0, []), (27, .lrem, 1, 0, 0, 0, []), (28, .lstore 9, 2, 0, 0, 0, []), (30, .lload 6, 2, 0, 0, 0, [])],
  [(32, .lstore 4, 2, 0, 0, 0, []), (34, .lload 9, 2, 0, 0, 0, []), (36, .lstore 6, 2, 0, 0, 0, []), (38, .iinc 8 1, 3, 0, 0, 0, []), (41, .goto (-32), 3, 0, 0, 0, []), (44, .lload 4, 2, 0, 0, 0, []), (46, .lreturn, 1, 0, 0, 0, [])]]
def mX11_greatestCommon : xMeth := (yX11_greatestCommon, cX11_greatestCommon, 11, (some FieldType.long), kX11_greatestCommon)
def kX11_lowest : xC := [[(0, .lload_n 0, 1, 0, 0, 0, []), (1, .lload_n 2, 1, 0, 0, 0, []), (2, .invokestatic 468, 3, 187, 2, 0, [1108, 1110, 112, 1109]), (5, .lstore 5, 2, 0, 0, 0, []), (7, .lload 5, 2, 0, 0, 0, []), (9, .lconst 0, 1, 0, 0, 0, []), (10, .lcmp, 1, 0, 0, 0, []), (11, .ifCond .ne 7, 3, 0, 0, 0, []), (14, .ldc2_w 235, 3, 0, 0, (-1), [1073]), (17, .lreturn, 1, 0, 0, 0, []), (18, .iload 4, 2, 0, 0, 0, []), (20, .ifCond .eq 10, 3, 0, 0, 0, []), (23, .lload_n 2, 1, 0, 0, 0, []), (24, .lload 5, 2, 0, 0, 0, []), (26, .ldiv, 1, 0, 0, 0, []), (27, .goto 7, 3, 0, 0, 0, []), (30, .lload_n 0, 1, 0, 0, 0, []), (31, .lload 5, 2, 0, 0, 0, [])],
  [(33, .ldiv, 1, 0, 0, 0, []), (34, .lreturn, 1, 0, 0, 0, [])]]
def mX11_lowest : xMeth := (yX11_lowest, cX11_lowest, 7, (some FieldType.long), kX11_lowest)
def kX11_within : xC := [[(0, .iload_n 0, 1, 0, 0, 0, []), (1, .iload_n 1, 1, 0, 0, 0, []), (2, .if_icmp .lt 12, 3, 0, 0, 0, []), (5, .iload_n 0, 1, 0, 0, 0, []), (6, .iload_n 2, 1, 0, 0, 0, []), (7, .if_icmp .gt 7, 3, 0, 0, 0, []), (10, .iconst 1, 1, 0, 0, 0, []), (11, .goto 4, 3, 0, 0, 0, []), (14, .iconst 0, 1, 0, 0, 0, []), (15, .ireturn, 1, 0, 0, 0, [])]]
def mX11_within : xMeth := (yX11_within, cX11_within, 3, (some FieldType.boolean), kX11_within)
def kX11_held : xC := [[(0, .iload_n 0, 1, 0, 0, 0, []), (1, .iload_n 1, 1, 0, 0, 0, []), (2, .if_icmp .ge 5, 3, 0, 0, 0, []), (5, .iload_n 1, 1, 0, 0, 0, []), (6, .ireturn, 1, 0, 0, 0, []), (7, .iload_n 0, 1, 0, 0, 0, []), (8, .iload_n 2, 1, 0, 0, 0, []), (9, .if_icmp .le 7, 3, 0, 0, 0, []), (12, .iload_n 2, 1, 0, 0, 0, []), (13, .goto 4, 3, 0, 0, 0, []), (16, .iload_n 0, 1, 0, 0, 0, []), (17, .ireturn, 1, 0, 0, 0, [])]]
def mX11_held : xMeth := (yX11_held, cX11_held, 3, (some FieldType.int), kX11_held)
def kX11_isCount : xC := [[(0, .iload_n 0, 1, 0, 0, 0, []), (1, .ifCond .lt 13, 3, 0, 0, 0, []), (4, .iload_n 0, 1, 0, 0, 0, []), (5, .bipush 9, 2, 0, 0, 0, []), (7, .if_icmp .ge 7, 3, 0, 0, 0, []), (10, .iconst 1, 1, 0, 0, 0, []), (11, .goto 4, 3, 0, 0, 0, []), (14, .iconst 0, 1, 0, 0, 0, []), (15, .ireturn, 1, 0, 0, 0, [])]]
def mX11_isCount : xMeth := (yX11_isCount, cX11_isCount, 1, (some FieldType.boolean), kX11_isCount)
def kX11_isParish : xC := [[(0, .iload_n 0, 1, 0, 0, 0, []), (1, .iconst 0, 1, 0, 0, 0, []), (2, .iconst 4, 1, 0, 0, 0, []), (3, .invokestatic 67, 3, 189, 3, 0, [519, 521, 112, 520]), (6, .ireturn, 1, 0, 0, 0, [])]]
def mX11_isParish : xMeth := (yX11_isParish, cX11_isParish, 1, (some FieldType.boolean), kX11_isParish)
def kX11_isCause : xC := [[(0, .iload_n 0, 1, 0, 0, 0, []), (1, .iconst 0, 1, 0, 0, 0, []), (2, .iconst 3, 1, 0, 0, 0, []), (3, .invokestatic 67, 3, 189, 3, 0, [519, 521, 112, 520]), (6, .ireturn, 1, 0, 0, 0, [])]]
def mX11_isCause : xMeth := (yX11_isCause, cX11_isCause, 1, (some FieldType.boolean), kX11_isCause)
def kX11_isIn : xC := [[(0, .iload_n 0, 1, 0, 0, 0, []), (1, .iload_n 1, 1, 0, 0, 0, []), (2, .ishr, 1, 0, 0, 0, []), (3, .iconst 1, 1, 0, 0, 0, []), (4, .iand, 1, 0, 0, 0, []), (5, .iconst 1, 1, 0, 0, 0, []), (6, .if_icmp .ne 7, 3, 0, 0, 0, []), (9, .iconst 1, 1, 0, 0, 0, []), (10, .goto 4, 3, 0, 0, 0, []), (13, .iconst 0, 1, 0, 0, 0, []), (14, .ireturn, 1, 0, 0, 0, [])]]
def mX11_isIn : xMeth := (yX11_isIn, cX11_isIn, 2, (some FieldType.boolean), kX11_isIn)
def kX12_init : xC := [[(0, .aload_n 0, 1, 0, 0, 0, []), (1, .invokespecial 1, 3, 0, 0, 8, [1479, 140, 141]), (4, .aload_n 0, 1, 0, 0, 0, []), (5, .sipush 1338, 3, 0, 0, 0, []), (8, .newarray .int, 2, 0, 0, 0, [202]), (10, .putfield 7, 3, 12, 0, 2, [1483]), (13, .aload_n 0, 1, 0, 0, 0, []), (14, .sipush 1338, 3, 0, 0, 0, []), (17, .newarray .int, 2, 0, 0, 0, [202]), (19, .putfield 13, 3, 12, 1, 2, [1484]), (22, .aload_n 0, 1, 0, 0, 0, []), (23, .sipush 2724, 3, 0, 0, 0, []), (26, .newarray .int, 2, 0, 0, 0, [202]), (28, .putfield 16, 3, 12, 2, 2, [1485]), (31, .aload_n 0, 1, 0, 0, 0, [])],
  [(32, .sipush 300, 3, 0, 0, 0, []), (35, .newarray .int, 2, 0, 0, 0, [202]), (37, .putfield 19, 3, 12, 3, 2, [1486]), (40, .aload_n 0, 1, 0, 0, 0, []), (41, .iconst (-1), 1, 0, 0, 0, []), (42, .putfield 22, 3, 12, 5, 0, [1488]), (45, .aload_n 0, 1, 0, 0, 0, []), (46, .iconst (-1), 1, 0, 0, 0, []), (47, .putfield 26, 3, 12, 6, 0, [1489]), (50, .aload_n 0, 1, 0, 0, 0, []), (51, .sipush 160, 3, 0, 0, 0, []), (54, .newarray .int, 2, 0, 0, 0, [202]), (56, .putfield 29, 3, 12, 15, 2, [1498]), (59, .aload_n 0, 1, 0, 0, 0, []), (60, .bipush 9, 2, 0, 0, 0, []), (62, .newarray .int, 2, 0, 0, 0, [202])],
  [(64, .putfield 32, 3, 12, 20, 2, [1503]), (67, .aload_n 0, 1, 0, 0, 0, []), (68, .sipush 330, 3, 0, 0, 0, []), (71, .newarray .long, 2, 0, 0, 0, [480]), (73, .putfield 35, 3, 12, 21, 2, [1504]), (76, .aload_n 0, 1, 0, 0, 0, []), (77, .sipush 330, 3, 0, 0, 0, []), (80, .newarray .boolean, 2, 0, 0, 0, [242]), (82, .putfield 39, 3, 12, 22, 2, [1505]), (85, .aload_n 0, 1, 0, 0, 0, []), (86, .iconst 1, 1, 0, 0, 0, []), (87, .putfield 43, 3, 12, 23, 3, [1506]), (90, .aload_n 0, 1, 0, 0, 0, []), (91, .bipush 21, 2, 0, 0, 0, []), (93, .newarray .int, 2, 0, 0, 0, [202]), (95, .putfield 47, 3, 12, 25, 2, [1508])],
  [(98, .aload_n 0, 1, 0, 0, 0, []), (99, .bipush 13, 2, 0, 0, 0, []), (101, .newarray .long, 2, 0, 0, 0, [480]), (103, .putfield 50, 3, 12, 26, 2, [1509]), (106, .aload_n 0, 1, 0, 0, 0, []), (107, .iconst 5, 1, 0, 0, 0, []), (108, .newarray .int, 2, 0, 0, 0, [202]), (110, .putfield 53, 3, 12, 27, 2, [1510]), (113, .aload_n 0, 1, 0, 0, 0, []), (114, .iconst 5, 1, 0, 0, 0, []), (115, .newarray .int, 2, 0, 0, 0, [202]), (117, .putfield 56, 3, 12, 28, 2, [1511]), (120, .aload_n 0, 1, 0, 0, 0, []), (121, .iconst 5, 1, 0, 0, 0, []), (122, .newarray .int, 2, 0, 0, 0, [202]), (124, .putfield 59, 3, 12, 29, 2, [1512]), (127, .aload_n 0, 1, 0, 0, 0, [])],
  [(128, .bipush 104, 2, 0, 0, 0, []), (130, .newarray .int, 2, 0, 0, 0, [202]), (132, .putfield 62, 3, 12, 30, 2, [1513]), (135, .aload_n 0, 1, 0, 0, 0, []), (136, .sipush 3321, 3, 0, 0, 0, []), (139, .newarray .boolean, 2, 0, 0, 0, [242]), (141, .putfield 65, 3, 12, 31, 2, [1514]), (144, .aload_n 0, 1, 0, 0, 0, []), (145, .getfield 7, 3, 12, 0, 0, [1483]), (148, .bipush 7, 2, 0, 0, 0, []), (150, .sipush 419, 3, 0, 0, 0, []), (153, .iastore, 1, 0, 0, 0, []), (154, .aload_n 0, 1, 0, 0, 0, []), (155, .getfield 7, 3, 12, 0, 0, [1483]), (158, .iconst 2, 1, 0, 0, 0, []), (159, .iconst (-1), 1, 0, 0, 0, [])],
  [(160, .iastore, 1, 0, 0, 0, []), (161, .iconst 0, 1, 0, 0, 0, []), (162, .istore_n 1, 1, 0, 0, 0, []), (163, .iload_n 1, 1, 0, 0, 0, []), (164, .bipush 9, 2, 0, 0, 0, []), (166, .if_icmp .ge 29, 3, 0, 0, 0, []), (169, .aload_n 0, 1, 0, 0, 0, []), (170, .getfield 7, 3, 12, 0, 0, [1483]), (173, .bipush 45, 2, 0, 0, 0, []), (175, .iload_n 1, 1, 0, 0, 0, []), (176, .iadd, 1, 0, 0, 0, []), (177, .iload_n 1, 1, 0, 0, 0, []), (178, .iastore, 1, 0, 0, 0, []), (179, .aload_n 0, 1, 0, 0, 0, []), (180, .getfield 7, 3, 12, 0, 0, [1483]), (183, .bipush 78, 2, 0, 0, 0, []), (185, .iload_n 1, 1, 0, 0, 0, []), (186, .iadd, 1, 0, 0, 0, []), (187, .iload_n 1, 1, 0, 0, 0, []), (188, .iastore, 1, 0, 0, 0, []), (189, .iinc 1 1, 3, 0, 0, 0, [])],
  [(192, .goto (-29), 3, 0, 0, 0, []), (195, .aload_n 0, 1, 0, 0, 0, []), (196, .getfield 7, 3, 12, 0, 0, [1483]), (199, .aload_n 0, 1, 0, 0, 0, []), (200, .getfield 13, 3, 12, 1, 0, [1484]), (203, .invokestatic 68, 3, 196, 2, 0, [1480, 1482, 123, 1481]), (206, .return_, 1, 0, 0, 0, [])]]
def mX12_init : xMeth := (yX12_init, cX12_init, 2, none, kX12_init)
def kX12_copy : xC := [[(0, .iconst 0, 1, 0, 0, 0, []), (1, .istore_n 2, 1, 0, 0, 0, []), (2, .iload_n 2, 1, 0, 0, 0, []), (3, .sipush 1338, 3, 0, 0, 0, []), (6, .if_icmp .ge 15, 3, 0, 0, 0, []), (9, .aload_n 1, 1, 0, 0, 0, []), (10, .iload_n 2, 1, 0, 0, 0, []), (11, .aload_n 0, 1, 0, 0, 0, []), (12, .iload_n 2, 1, 0, 0, 0, []), (13, .iaload, 1, 0, 0, 0, []), (14, .iastore, 1, 0, 0, 0, []), (15, .iinc 2 1, 3, 0, 0, 0, []), (18, .goto (-16), 3, 0, 0, 0, []), (21, .return_, 1, 0, 0, 0, [])]]
def mX12_copy : xMeth := (yX12_copy, cX12_copy, 3, none, kX12_copy)
def kX12_isIn : xC := [[(0, .iload_n 0, 1, 0, 0, 0, []), (1, .iload_n 1, 1, 0, 0, 0, []), (2, .if_icmp .lt 12, 3, 0, 0, 0, []), (5, .iload_n 0, 1, 0, 0, 0, []), (6, .iload_n 2, 1, 0, 0, 0, []), (7, .if_icmp .gt 7, 3, 0, 0, 0, []), (10, .iconst 1, 1, 0, 0, 0, []), (11, .goto 4, 3, 0, 0, 0, []), (14, .iconst 0, 1, 0, 0, 0, []), (15, .ireturn, 1, 0, 0, 0, [])]]
def mX12_isIn : xMeth := (yX12_isIn, cX12_isIn, 3, (some FieldType.boolean), kX12_isIn)
def kX12_held : xC := [[(0, .lload_n 0, 1, 0, 0, 0, []), (1, .iload_n 2, 1, 0, 0, 0, []), (2, .i2l, 1, 0, 0, 0, []), (3, .lcmp, 1, 0, 0, 0, []), (4, .ifCond .ge 7, 3, 0, 0, 0, []), (7, .iload_n 2, 1, 0, 0, 0, []), (8, .goto 16, 3, 0, 0, 0, []), (11, .lload_n 0, 1, 0, 0, 0, []), (12, .iload_n 3, 1, 0, 0, 0, []), (13, .i2l, 1, 0, 0, 0, []), (14, .lcmp, 1, 0, 0, 0, []), (15, .ifCond .le 7, 3, 0, 0, 0, []), (18, .iload_n 3, 1, 0, 0, 0, []), (19, .goto 5, 3, 0, 0, 0, []), (22, .lload_n 0, 1, 0, 0, 0, []), (23, .l2i, 1, 0, 0, 0, []), (24, .ireturn, 1, 0, 0, 0, [])]]
def mX12_held : xMeth := (yX12_held, cX12_held, 4, (some FieldType.int), kX12_held)
def kX12_has : xC := [[(0, .iload_n 0, 1, 0, 0, 0, []), (1, .iload_n 1, 1, 0, 0, 0, []), (2, .ishr, 1, 0, 0, 0, []), (3, .iconst 1, 1, 0, 0, 0, []), (4, .iand, 1, 0, 0, 0, []), (5, .iconst 1, 1, 0, 0, 0, []), (6, .if_icmp .ne 7, 3, 0, 0, 0, []), (9, .iconst 1, 1, 0, 0, 0, []), (10, .goto 4, 3, 0, 0, 0, []), (13, .iconst 0, 1, 0, 0, 0, []), (14, .ireturn, 1, 0, 0, 0, [])]]
def mX12_has : xMeth := (yX12_has, cX12_has, 2, (some FieldType.boolean), kX12_has)
def kX12_bits : xC := [[(0, .iconst 0, 1, 0, 0, 0, []), (1, .istore_n 1, 1, 0, 0, 0, []), (2, .iload_n 0, 1, 0, 0, 0, []), (3, .istore_n 2, 1, 0, 0, 0, []), (4, .iload_n 2, 1, 0, 0, 0, []), (5, .ifCond .eq 15, 3, 0, 0, 0, []), (8, .iinc 1 1, 3, 0, 0, 0, []), (11, .iload_n 2, 1, 0, 0, 0, []), (12, .iload_n 2, 1, 0, 0, 0, []), (13, .iconst 1, 1, 0, 0, 0, []), (14, .isub, 1, 0, 0, 0, []), (15, .iand, 1, 0, 0, 0, []), (16, .istore_n 2, 1, 0, 0, 0, []), (17, .goto (-13), 3, 0, 0, 0, []), (20, .iload_n 1, 1, 0, 0, 0, []), (21, .ireturn, 1, 0, 0, 0, [])]]
def mX12_bits : xMeth := (yX12_bits, cX12_bits, 3, (some FieldType.int), kX12_bits)
def kX12_isBird : xC := [[(0, .iload_n 1, 1, 0, 0, 0, []), (1, .iconst 0, 1, 0, 0, 0, []), (2, .aload_n 0, 1, 0, 0, 0, []), (3, .getfield 7, 3, 12, 0, 0, [1483]), (6, .iconst 0, 1, 0, 0, 0, []), (7, .iaload, 1, 0, 0, 0, []), (8, .iconst 1, 1, 0, 0, 0, []), (9, .isub, 1, 0, 0, 0, []), (10, .invokestatic 72, 3, 197, 3, 0, [1584, 1586, 123, 1585]), (13, .ireturn, 1, 0, 0, 0, [])]]
def mX12_isBird : xMeth := (yX12_isBird, cX12_isBird, 2, (some FieldType.boolean), kX12_isBird)
def kX12_isCount : xC := [[(0, .iload_n 0, 1, 0, 0, 0, []), (1, .iconst 0, 1, 0, 0, 0, []), (2, .bipush 8, 2, 0, 0, 0, []), (4, .invokestatic 72, 3, 197, 3, 0, [1584, 1586, 123, 1585]), (7, .ireturn, 1, 0, 0, 0, [])]]
def mX12_isCount : xMeth := (yX12_isCount, cX12_isCount, 1, (some FieldType.boolean), kX12_isCount)
def kX12_isGone : xC := [[(0, .aload_n 0, 1, 0, 0, 0, []), (1, .getfield 7, 3, 12, 0, 0, [1483]), (4, .bipush 12, 2, 0, 0, 0, []), (6, .iaload, 1, 0, 0, 0, []), (7, .iload_n 1, 1, 0, 0, 0, []), (8, .invokestatic 76, 3, 199, 2, 0, [1660, 1662, 123, 1661]), (11, .ireturn, 1, 0, 0, 0, [])]]
def mX12_isGone : xMeth := (yX12_isGone, cX12_isGone, 2, (some FieldType.boolean), kX12_isGone)
def kX12_isDue : xC := [[(0, .aload_n 0, 1, 0, 0, 0, []), (1, .iload_n 1, 1, 0, 0, 0, []), (2, .invokevirtual 80, 3, 203, 2, 0, [1762, 1765, 123, 1764, 72, 12]), (5, .ifCond .ne 38, 3, 0, 0, 0, []), (8, .aload_n 0, 1, 0, 0, 0, []), (9, .getfield 7, 3, 12, 0, 0, [1483]), (12, .bipush 6, 2, 0, 0, 0, []), (14, .iaload, 1, 0, 0, 0, []), (15, .iload_n 2, 1, 0, 0, 0, []), (16, .iadd, 1, 0, 0, 0, []), (17, .aload_n 0, 1, 0, 0, 0, []), (18, .getfield 7, 3, 12, 0, 0, [1483]), (21, .bipush 21, 2, 0, 0, 0, []), (23, .iload_n 1, 1, 0, 0, 0, []), (24, .iadd, 1, 0, 0, 0, []), (25, .iaload, 1, 0, 0, 0, []), (26, .irem, 1, 0, 0, 0, []), (27, .aload_n 0, 1, 0, 0, 0, []), (28, .getfield 7, 3, 12, 0, 0, [1483]), (31, .bipush 29, 2, 0, 0, 0, [])],
  [(33, .iload_n 1, 1, 0, 0, 0, []), (34, .iadd, 1, 0, 0, 0, []), (35, .iaload, 1, 0, 0, 0, []), (36, .if_icmp .ne 7, 3, 0, 0, 0, []), (39, .iconst 1, 1, 0, 0, 0, []), (40, .goto 4, 3, 0, 0, 0, []), (43, .iconst 0, 1, 0, 0, 0, []), (44, .ireturn, 1, 0, 0, 0, [])]]
def mX12_isDue : xMeth := (yX12_isDue, cX12_isDue, 3, (some FieldType.boolean), kX12_isDue)
def kX12_dueBy : xC := [[(0, .iconst 0, 1, 0, 0, 0, []), (1, .istore_n 2, 1, 0, 0, 0, []), (2, .iconst 0, 1, 0, 0, 0, []), (3, .istore_n 3, 1, 0, 0, 0, []), (4, .iload_n 3, 1, 0, 0, 0, []), (5, .aload_n 0, 1, 0, 0, 0, []), (6, .getfield 7, 3, 12, 0, 0, [1483]), (9, .iconst 0, 1, 0, 0, 0, []), (10, .iaload, 1, 0, 0, 0, []), (11, .if_icmp .ge 28, 3, 0, 0, 0, []), (14, .iload_n 2, 1, 0, 0, 0, []), (15, .aload_n 0, 1, 0, 0, 0, []), (16, .iload_n 3, 1, 0, 0, 0, []), (17, .iload_n 1, 1, 0, 0, 0, []), (18, .invokevirtual 84, 3, 204, 3, 0, [1802, 1805, 123, 1804, 79, 12]), (21, .ifCond .eq 9, 3, 0, 0, 0, []), (24, .iconst 1, 1, 0, 0, 0, []), (25, .iload_n 3, 1, 0, 0, 0, []), (26, .ishl, 1, 0, 0, 0, []), (27, .goto 4, 3, 0, 0, 0, []), (30, .iconst 0, 1, 0, 0, 0, []), (31, .ior, 1, 0, 0, 0, [])],
  [(32, .istore_n 2, 1, 0, 0, 0, []), (33, .iinc 3 1, 3, 0, 0, 0, []), (36, .goto (-32), 3, 0, 0, 0, []), (39, .iload_n 2, 1, 0, 0, 0, []), (40, .ireturn, 1, 0, 0, 0, [])]]
def mX12_dueBy : xMeth := (yX12_dueBy, cX12_dueBy, 4, (some FieldType.int), kX12_dueBy)
def kX12_dueNow : xC := [[(0, .aload_n 0, 1, 0, 0, 0, []), (1, .iconst 0, 1, 0, 0, 0, []), (2, .invokevirtual 87, 3, 205, 2, 0, [1798, 1801, 123, 1800, 78, 12]), (5, .ireturn, 1, 0, 0, 0, [])]]
def mX12_dueNow : xMeth := (yX12_dueNow, cX12_dueNow, 1, (some FieldType.int), kX12_dueNow)
def kX12_bird : xC := [[(0, .iload_n 1, 1, 0, 0, 0, []), (1, .iconst 1, 1, 0, 0, 0, []), (2, .bipush 12, 2, 0, 0, 0, []), (4, .invokestatic 72, 3, 197, 3, 0, [1584, 1586, 123, 1585]), (7, .ifCond .eq 35, 3, 0, 0, 0, []), (10, .iload_n 2, 1, 0, 0, 0, []), (11, .iconst 0, 1, 0, 0, 0, []), (12, .iload_n 1, 1, 0, 0, 0, []), (13, .iconst 1, 1, 0, 0, 0, []), (14, .isub, 1, 0, 0, 0, []), (15, .invokestatic 72, 3, 197, 3, 0, [1584, 1586, 123, 1585]), (18, .ifCond .eq 24, 3, 0, 0, 0, []), (21, .iload_n 3, 1, 0, 0, 0, []), (22, .iconst 0, 1, 0, 0, 0, []), (23, .bipush 10, 2, 0, 0, 0, []), (25, .invokestatic 72, 3, 197, 3, 0, [1584, 1586, 123, 1585]), (28, .ifCond .eq 14, 3, 0, 0, 0, []), (31, .aload_n 0, 1, 0, 0, 0, [])],
  [(32, .getfield 7, 3, 12, 0, 0, [1483]), (35, .iconst 0, 1, 0, 0, 0, []), (36, .iaload, 1, 0, 0, 0, []), (37, .bipush 8, 2, 0, 0, 0, []), (39, .if_icmp .ne 5, 3, 0, 0, 0, []), (42, .iconst (-1), 1, 0, 0, 0, []), (43, .ireturn, 1, 0, 0, 0, []), (44, .aload_n 0, 1, 0, 0, 0, []), (45, .getfield 7, 3, 12, 0, 0, [1483]), (48, .iconst 0, 1, 0, 0, 0, []), (49, .iaload, 1, 0, 0, 0, []), (50, .istore 4, 2, 0, 0, 0, []), (52, .aload_n 0, 1, 0, 0, 0, []), (53, .getfield 7, 3, 12, 0, 0, [1483]), (56, .bipush 21, 2, 0, 0, 0, []), (58, .iload 4, 2, 0, 0, 0, []), (60, .iadd, 1, 0, 0, 0, []), (61, .iload_n 1, 1, 0, 0, 0, []), (62, .iastore, 1, 0, 0, 0, []), (63, .aload_n 0, 1, 0, 0, 0, [])],
  [(64, .getfield 7, 3, 12, 0, 0, [1483]), (67, .bipush 29, 2, 0, 0, 0, []), (69, .iload 4, 2, 0, 0, 0, []), (71, .iadd, 1, 0, 0, 0, []), (72, .iload_n 2, 1, 0, 0, 0, []), (73, .iastore, 1, 0, 0, 0, []), (74, .aload_n 0, 1, 0, 0, 0, []), (75, .getfield 7, 3, 12, 0, 0, [1483]), (78, .bipush 37, 2, 0, 0, 0, []), (80, .iload 4, 2, 0, 0, 0, []), (82, .iadd, 1, 0, 0, 0, []), (83, .iload_n 3, 1, 0, 0, 0, []), (84, .iastore, 1, 0, 0, 0, []), (85, .aload_n 0, 1, 0, 0, 0, []), (86, .getfield 7, 3, 12, 0, 0, [1483]), (89, .iconst 0, 1, 0, 0, 0, []), (90, .dup2, 1, 0, 0, 0, []), (91, .iaload, 1, 0, 0, 0, []), (92, .iconst 1, 1, 0, 0, 0, []), (93, .iadd, 1, 0, 0, 0, []), (94, .iastore, 1, 0, 0, 0, []), (95, .iload 4, 2, 0, 0, 0, [])],
  [(97, .ireturn, 1, 0, 0, 0, [])]]
def mX12_bird : xMeth := (yX12_bird, cX12_bird, 5, (some FieldType.int), kX12_bird)
def kX12_rhyme : xC := [[(0, .iload_n 1, 1, 0, 0, 0, []), (1, .invokestatic 91, 3, 202, 1, 0, [1591, 1593, 123, 1592]), (4, .ifCond .eq 13, 3, 0, 0, 0, []), (7, .iload_n 2, 1, 0, 0, 0, []), (8, .iconst 0, 1, 0, 0, 0, []), (9, .bipush 9, 2, 0, 0, 0, []), (11, .invokestatic 72, 3, 197, 3, 0, [1584, 1586, 123, 1585]), (14, .ifCond .ne 5, 3, 0, 0, 0, []), (17, .iconst 0, 1, 0, 0, 0, []), (18, .ireturn, 1, 0, 0, 0, []), (19, .aload_n 0, 1, 0, 0, 0, []), (20, .getfield 7, 3, 12, 0, 0, [1483]), (23, .bipush 45, 2, 0, 0, 0, []), (25, .iload_n 1, 1, 0, 0, 0, []), (26, .iadd, 1, 0, 0, 0, []), (27, .iload_n 2, 1, 0, 0, 0, []), (28, .iastore, 1, 0, 0, 0, []), (29, .iconst 1, 1, 0, 0, 0, []), (30, .ireturn, 1, 0, 0, 0, [])]]
def mX12_rhyme : xMeth := (yX12_rhyme, cX12_rhyme, 3, (some FieldType.boolean), kX12_rhyme)
def kX12_four : xC := [[(0, .bipush 24, 2, 0, 0, 0, []), (2, .istore_n 2, 1, 0, 0, 0, []), (3, .iload_n 2, 1, 0, 0, 0, []), (4, .ifCond .lt 35, 3, 0, 0, 0, []), (7, .aload_n 0, 1, 0, 0, 0, []), (8, .getfield 19, 3, 12, 3, 0, [1486]), (11, .aload_n 0, 1, 0, 0, 0, []), (12, .getfield 94, 3, 12, 4, 0, [1487]), (15, .iload_n 1, 1, 0, 0, 0, []), (16, .iload_n 2, 1, 0, 0, 0, []), (17, .ishr, 1, 0, 0, 0, []), (18, .sipush 255, 3, 0, 0, 0, []), (21, .iand, 1, 0, 0, 0, []), (22, .iastore, 1, 0, 0, 0, []), (23, .aload_n 0, 1, 0, 0, 0, []), (24, .dup, 1, 0, 0, 0, []), (25, .getfield 94, 3, 12, 4, 0, [1487]), (28, .iconst 1, 1, 0, 0, 0, []), (29, .iadd, 1, 0, 0, 0, []), (30, .putfield 94, 3, 12, 4, 0, [1487])],
  [(33, .iinc 2 (-8), 3, 0, 0, 0, []), (36, .goto (-33), 3, 0, 0, 0, []), (39, .return_, 1, 0, 0, 0, [])]]
def mX12_four : xMeth := (yX12_four, cX12_four, 3, none, kX12_four)
def kX12_feed : xC := [[(0, .aload_n 0, 1, 0, 0, 0, []), (1, .getfield 94, 3, 12, 4, 0, [1487]), (4, .bipush 20, 2, 0, 0, 0, []), (6, .iadd, 1, 0, 0, 0, []), (7, .sipush 300, 3, 0, 0, 0, []), (10, .if_icmp .le 5, 3, 0, 0, 0, []), (13, .iconst (-1), 1, 0, 0, 0, []), (14, .ireturn, 1, 0, 0, 0, []), (15, .aload_n 0, 1, 0, 0, 0, []), (16, .iload_n 1, 1, 0, 0, 0, []), (17, .invokevirtual 97, 3, 209, 2, 0, [1598, 1601, 123, 1600, 45, 12]), (20, .aload_n 0, 1, 0, 0, 0, []), (21, .iload_n 2, 1, 0, 0, 0, []), (22, .invokevirtual 97, 3, 209, 2, 0, [1598, 1601, 123, 1600, 45, 12]), (25, .aload_n 0, 1, 0, 0, 0, []), (26, .iload_n 3, 1, 0, 0, 0, []), (27, .invokevirtual 97, 3, 209, 2, 0, [1598, 1601, 123, 1600, 45, 12]), (30, .aload_n 0, 1, 0, 0, 0, []), (31, .iload 4, 2, 0, 0, 0, [])],
  [(33, .invokevirtual 97, 3, 209, 2, 0, [1598, 1601, 123, 1600, 45, 12]), (36, .aload_n 0, 1, 0, 0, 0, []), (37, .iload 5, 2, 0, 0, 0, []), (39, .invokevirtual 97, 3, 209, 2, 0, [1598, 1601, 123, 1600, 45, 12]), (42, .aload_n 0, 1, 0, 0, 0, []), (43, .getfield 94, 3, 12, 4, 0, [1487]), (46, .ireturn, 1, 0, 0, 0, [])]]
def mX12_feed : xMeth := (yX12_feed, cX12_feed, 6, (some FieldType.int), kX12_feed)
def kX12_end : xC := [[(0, .iload_n 1, 1, 0, 0, 0, []), (1, .iconst 0, 1, 0, 0, 0, []), (2, .aload_n 0, 1, 0, 0, 0, []), (3, .getfield 94, 3, 12, 4, 0, [1487]), (6, .invokestatic 72, 3, 197, 3, 0, [1584, 1586, 123, 1585]), (9, .ifCond .ne 5, 3, 0, 0, 0, []), (12, .iconst (-1), 1, 0, 0, 0, []), (13, .ireturn, 1, 0, 0, 0, []), (14, .aload_n 0, 1, 0, 0, 0, []), (15, .iload_n 1, 1, 0, 0, 0, []), (16, .putfield 94, 3, 12, 4, 0, [1487]), (19, .iload_n 1, 1, 0, 0, 0, []), (20, .ireturn, 1, 0, 0, 0, [])]]
def mX12_end : xMeth := (yX12_end, cX12_end, 2, (some FieldType.int), kX12_end)
def kX12_byteAt : xC := [[(0, .iload_n 1, 1, 0, 0, 0, []), (1, .aload_n 0, 1, 0, 0, 0, []), (2, .getfield 94, 3, 12, 4, 0, [1487]), (5, .if_icmp .ge 12, 3, 0, 0, 0, []), (8, .aload_n 0, 1, 0, 0, 0, []), (9, .getfield 19, 3, 12, 3, 0, [1486]), (12, .iload_n 1, 1, 0, 0, 0, []), (13, .iaload, 1, 0, 0, 0, []), (14, .goto 4, 3, 0, 0, 0, []), (17, .iconst (-1), 1, 0, 0, 0, []), (18, .ireturn, 1, 0, 0, 0, [])]]
def mX12_byteAt : xMeth := (yX12_byteAt, cX12_byteAt, 2, (some FieldType.int), kX12_byteAt)
def kX12_isLetterByte : xC := [[(0, .iload_n 0, 1, 0, 0, 0, []), (1, .bipush 97, 2, 0, 0, 0, []), (3, .if_icmp .lt 9, 3, 0, 0, 0, []), (6, .iload_n 0, 1, 0, 0, 0, []), (7, .bipush 122, 2, 0, 0, 0, []), (9, .if_icmp .le 15, 3, 0, 0, 0, []), (12, .iload_n 0, 1, 0, 0, 0, []), (13, .bipush 65, 2, 0, 0, 0, []), (15, .if_icmp .lt 13, 3, 0, 0, 0, []), (18, .iload_n 0, 1, 0, 0, 0, []), (19, .bipush 90, 2, 0, 0, 0, []), (21, .if_icmp .gt 7, 3, 0, 0, 0, []), (24, .iconst 1, 1, 0, 0, 0, []), (25, .goto 4, 3, 0, 0, 0, []), (28, .iconst 0, 1, 0, 0, 0, []), (29, .ireturn, 1, 0, 0, 0, [])]]
def mX12_isLetterByte : xMeth := (yX12_isLetterByte, cX12_isLetterByte, 1, (some FieldType.boolean), kX12_isLetterByte)
def kX12_isFigure : xC := [[(0, .iload_n 0, 1, 0, 0, 0, []), (1, .bipush 48, 2, 0, 0, 0, []), (3, .if_icmp .lt 13, 3, 0, 0, 0, []), (6, .iload_n 0, 1, 0, 0, 0, []), (7, .bipush 57, 2, 0, 0, 0, []), (9, .if_icmp .gt 7, 3, 0, 0, 0, []), (12, .iconst 1, 1, 0, 0, 0, []), (13, .goto 4, 3, 0, 0, 0, []), (16, .iconst 0, 1, 0, 0, 0, []), (17, .ireturn, 1, 0, 0, 0, [])]]
def mX12_isFigure : xMeth := (yX12_isFigure, cX12_isFigure, 1, (some FieldType.boolean), kX12_isFigure)
def kX12_isSign : xC := [[(0, .iload_n 0, 1, 0, 0, 0, []), (1, .tableswitch 129 35 62 #[127, 129, 129, 129, 129, 127, 127, 127, 127, 129, 127, 129, 127, 129, 129, 129, 129, 129, 129, 129, 129, 129, 129, 127, 127, 127, 127, 127], 127, 0, 0, 0, [])],
  [],
  [],
  [],
  [(128, .iconst 1, 1, 0, 0, 0, []), (129, .ireturn, 1, 0, 0, 0, []), (130, .iconst 0, 1, 0, 0, 0, []), (131, .ireturn, 1, 0, 0, 0, [])]]
def mX12_isSign : xMeth := (yX12_isSign, cX12_isSign, 1, (some FieldType.boolean), kX12_isSign)
def kX12_nextToken : xC := [[(0, .aload_n 0, 1, 0, 0, 0, []), (1, .aload_n 0, 1, 0, 0, 0, []), (2, .getfield 101, 3, 12, 7, 0, [1490]), (5, .invokevirtual 104, 3, 212, 2, 0, [1618, 1621, 123, 1620, 48, 12]), (8, .bipush 32, 2, 0, 0, 0, []), (10, .if_icmp .eq 16, 3, 0, 0, 0, []), (13, .aload_n 0, 1, 0, 0, 0, []), (14, .aload_n 0, 1, 0, 0, 0, []), (15, .getfield 101, 3, 12, 7, 0, [1490]), (18, .invokevirtual 104, 3, 212, 2, 0, [1618, 1621, 123, 1620, 48, 12]), (21, .bipush 10, 2, 0, 0, 0, []), (23, .if_icmp .ne 16, 3, 0, 0, 0, []), (26, .aload_n 0, 1, 0, 0, 0, []), (27, .dup, 1, 0, 0, 0, []), (28, .getfield 101, 3, 12, 7, 0, [1490]), (31, .iconst 1, 1, 0, 0, 0, [])],
  [(32, .iadd, 1, 0, 0, 0, []), (33, .putfield 101, 3, 12, 7, 0, [1490]), (36, .goto (-36), 3, 0, 0, 0, []), (39, .aload_n 0, 1, 0, 0, 0, []), (40, .aload_n 0, 1, 0, 0, 0, []), (41, .getfield 101, 3, 12, 7, 0, [1490]), (44, .putfield 107, 3, 12, 8, 0, [1491]), (47, .aload_n 0, 1, 0, 0, 0, []), (48, .aload_n 0, 1, 0, 0, 0, []), (49, .getfield 101, 3, 12, 7, 0, [1490]), (52, .invokevirtual 104, 3, 212, 2, 0, [1618, 1621, 123, 1620, 48, 12]), (55, .istore_n 1, 1, 0, 0, 0, []), (56, .iload_n 1, 1, 0, 0, 0, []), (57, .ifCond .ge 11, 3, 0, 0, 0, []), (60, .aload_n 0, 1, 0, 0, 0, []), (61, .iconst 0, 1, 0, 0, 0, []), (62, .putfield 110, 3, 12, 9, 0, [1492])],
  [(65, .goto 245, 3, 0, 0, 0, []), (68, .iload_n 1, 1, 0, 0, 0, []), (69, .invokestatic 113, 3, 214, 1, 0, [1622, 1624, 123, 1623]), (72, .ifCond .eq 79, 3, 0, 0, 0, []), (75, .aload_n 0, 1, 0, 0, 0, []), (76, .iconst 1, 1, 0, 0, 0, []), (77, .putfield 110, 3, 12, 9, 0, [1492]), (80, .aload_n 0, 1, 0, 0, 0, []), (81, .iconst 0, 1, 0, 0, 0, []), (82, .putfield 116, 3, 12, 10, 0, [1493]), (85, .aload_n 0, 1, 0, 0, 0, []), (86, .aload_n 0, 1, 0, 0, 0, []), (87, .getfield 101, 3, 12, 7, 0, [1490]), (90, .invokevirtual 104, 3, 212, 2, 0, [1618, 1621, 123, 1620, 48, 12]), (93, .invokestatic 113, 3, 214, 1, 0, [1622, 1624, 123, 1623])],
  [(96, .ifCond .eq 214, 3, 0, 0, 0, []), (99, .aload_n 0, 1, 0, 0, 0, []), (100, .aload_n 0, 1, 0, 0, 0, []), (101, .getfield 116, 3, 12, 10, 0, [1493]), (104, .ldc 119, 2, 0, 0, 99999, [1625]), (106, .if_icmp .le 10, 3, 0, 0, 0, []), (109, .aload_n 0, 1, 0, 0, 0, []), (110, .getfield 116, 3, 12, 10, 0, [1493]), (113, .goto 22, 3, 0, 0, 0, []), (116, .bipush 10, 2, 0, 0, 0, []), (118, .aload_n 0, 1, 0, 0, 0, []), (119, .getfield 116, 3, 12, 10, 0, [1493]), (122, .imul, 1, 0, 0, 0, []), (123, .aload_n 0, 1, 0, 0, 0, []), (124, .aload_n 0, 1, 0, 0, 0, []), (125, .getfield 101, 3, 12, 7, 0, [1490])],
  [(128, .invokevirtual 104, 3, 212, 2, 0, [1618, 1621, 123, 1620, 48, 12]), (131, .iadd, 1, 0, 0, 0, []), (132, .bipush 48, 2, 0, 0, 0, []), (134, .isub, 1, 0, 0, 0, []), (135, .putfield 116, 3, 12, 10, 0, [1493]), (138, .aload_n 0, 1, 0, 0, 0, []), (139, .dup, 1, 0, 0, 0, []), (140, .getfield 101, 3, 12, 7, 0, [1490]), (143, .iconst 1, 1, 0, 0, 0, []), (144, .iadd, 1, 0, 0, 0, []), (145, .putfield 101, 3, 12, 7, 0, [1490]), (148, .goto (-63), 3, 0, 0, 0, []), (151, .iload_n 1, 1, 0, 0, 0, []), (152, .invokestatic 120, 3, 213, 1, 0, [1626, 1628, 123, 1627]), (155, .ifCond .eq 79, 3, 0, 0, 0, []), (158, .aload_n 0, 1, 0, 0, 0, []), (159, .iconst 2, 1, 0, 0, 0, [])],
  [(160, .putfield 110, 3, 12, 9, 0, [1492]), (163, .aload_n 0, 1, 0, 0, 0, []), (164, .lconst 0, 1, 0, 0, 0, []), (165, .putfield 123, 3, 12, 11, 1, [1494]), (168, .aload_n 0, 1, 0, 0, 0, []), (169, .aload_n 0, 1, 0, 0, 0, []), (170, .getfield 101, 3, 12, 7, 0, [1490]), (173, .invokevirtual 104, 3, 212, 2, 0, [1618, 1621, 123, 1620, 48, 12]), (176, .invokestatic 120, 3, 213, 1, 0, [1626, 1628, 123, 1627]), (179, .ifCond .eq 131, 3, 0, 0, 0, []), (182, .aload_n 0, 1, 0, 0, 0, []), (183, .aload_n 0, 1, 0, 0, 0, []), (184, .getfield 123, 3, 12, 11, 0, [1494]), (187, .bipush 48, 2, 0, 0, 0, []), (189, .lshr, 1, 0, 0, 0, []), (190, .lconst 0, 1, 0, 0, 0, []), (191, .lcmp, 1, 0, 0, 0, [])],
  [(192, .ifCond .eq 9, 3, 0, 0, 0, []), (195, .ldc2_w 127, 3, 0, 0, 1152921504606846976, [1629]), (198, .goto 20, 3, 0, 0, 0, []), (201, .aload_n 0, 1, 0, 0, 0, []), (202, .getfield 123, 3, 12, 11, 0, [1494]), (205, .bipush 8, 2, 0, 0, 0, []), (207, .lshl, 1, 0, 0, 0, []), (208, .aload_n 0, 1, 0, 0, 0, []), (209, .aload_n 0, 1, 0, 0, 0, []), (210, .getfield 101, 3, 12, 7, 0, [1490]), (213, .invokevirtual 104, 3, 212, 2, 0, [1618, 1621, 123, 1620, 48, 12]), (216, .i2l, 1, 0, 0, 0, []), (217, .lor, 1, 0, 0, 0, []), (218, .putfield 123, 3, 12, 11, 1, [1494]), (221, .aload_n 0, 1, 0, 0, 0, []), (222, .dup, 1, 0, 0, 0, []), (223, .getfield 101, 3, 12, 7, 0, [1490])],
  [(226, .iconst 1, 1, 0, 0, 0, []), (227, .iadd, 1, 0, 0, 0, []), (228, .putfield 101, 3, 12, 7, 0, [1490]), (231, .goto (-63), 3, 0, 0, 0, []), (234, .aload_n 0, 1, 0, 0, 0, []), (235, .iload_n 1, 1, 0, 0, 0, []), (236, .invokestatic 129, 3, 215, 1, 0, [1630, 1632, 123, 1631]), (239, .ifCond .eq 7, 3, 0, 0, 0, []), (242, .iload_n 1, 1, 0, 0, 0, []), (243, .goto 4, 3, 0, 0, 0, []), (246, .iconst 3, 1, 0, 0, 0, []), (247, .putfield 110, 3, 12, 9, 0, [1492]), (250, .aload_n 0, 1, 0, 0, 0, []), (251, .dup, 1, 0, 0, 0, []), (252, .getfield 101, 3, 12, 7, 0, [1490]), (255, .iconst 1, 1, 0, 0, 0, [])],
  [(256, .iadd, 1, 0, 0, 0, []), (257, .putfield 101, 3, 12, 7, 0, [1490]), (260, .iload_n 1, 1, 0, 0, 0, []), (261, .bipush 60, 2, 0, 0, 0, []), (263, .if_icmp .eq 9, 3, 0, 0, 0, []), (266, .iload_n 1, 1, 0, 0, 0, []), (267, .bipush 62, 2, 0, 0, 0, []), (269, .if_icmp .ne 41, 3, 0, 0, 0, []), (272, .aload_n 0, 1, 0, 0, 0, []), (273, .aload_n 0, 1, 0, 0, 0, []), (274, .getfield 101, 3, 12, 7, 0, [1490]), (277, .invokevirtual 104, 3, 212, 2, 0, [1618, 1621, 123, 1620, 48, 12]), (280, .bipush 61, 2, 0, 0, 0, []), (282, .if_icmp .ne 28, 3, 0, 0, 0, []), (285, .aload_n 0, 1, 0, 0, 0, []), (286, .iload_n 1, 1, 0, 0, 0, []), (287, .bipush 60, 2, 0, 0, 0, [])],
  [(289, .if_icmp .ne 7, 3, 0, 0, 0, []), (292, .iconst 4, 1, 0, 0, 0, []), (293, .goto 4, 3, 0, 0, 0, []), (296, .iconst 5, 1, 0, 0, 0, []), (297, .putfield 110, 3, 12, 9, 0, [1492]), (300, .aload_n 0, 1, 0, 0, 0, []), (301, .dup, 1, 0, 0, 0, []), (302, .getfield 101, 3, 12, 7, 0, [1490]), (305, .iconst 1, 1, 0, 0, 0, []), (306, .iadd, 1, 0, 0, 0, []), (307, .putfield 101, 3, 12, 7, 0, [1490]), (310, .return_, 1, 0, 0, 0, [])]]
def mX12_nextToken : xMeth := (yX12_nextToken, cX12_nextToken, 2, none, kX12_nextToken)
def kX12_w2 : xC := [[(0, .iload_n 0, 1, 0, 0, 0, []), (1, .i2l, 1, 0, 0, 0, []), (2, .bipush 8, 2, 0, 0, 0, []), (4, .lshl, 1, 0, 0, 0, []), (5, .iload_n 1, 1, 0, 0, 0, []), (6, .i2l, 1, 0, 0, 0, []), (7, .lor, 1, 0, 0, 0, []), (8, .lreturn, 1, 0, 0, 0, [])]]
def mX12_w2 : xMeth := (yX12_w2, cX12_w2, 2, (some FieldType.long), kX12_w2)
def kX12_w3 : xC := [[(0, .iload_n 0, 1, 0, 0, 0, []), (1, .iload_n 1, 1, 0, 0, 0, []), (2, .invokestatic 132, 3, 217, 2, 0, [1653, 1655, 123, 1654]), (5, .bipush 8, 2, 0, 0, 0, []), (7, .lshl, 1, 0, 0, 0, []), (8, .iload_n 2, 1, 0, 0, 0, []), (9, .i2l, 1, 0, 0, 0, []), (10, .lor, 1, 0, 0, 0, []), (11, .lreturn, 1, 0, 0, 0, [])]]
def mX12_w3 : xMeth := (yX12_w3, cX12_w3, 3, (some FieldType.long), kX12_w3)
def kX12_w4 : xC := [[(0, .iload_n 0, 1, 0, 0, 0, []), (1, .iload_n 1, 1, 0, 0, 0, []), (2, .iload_n 2, 1, 0, 0, 0, []), (3, .invokestatic 136, 3, 218, 3, 0, [1650, 1652, 123, 1651]), (6, .bipush 8, 2, 0, 0, 0, []), (8, .lshl, 1, 0, 0, 0, []), (9, .iload_n 3, 1, 0, 0, 0, []), (10, .i2l, 1, 0, 0, 0, []), (11, .lor, 1, 0, 0, 0, []), (12, .lreturn, 1, 0, 0, 0, [])]]
def mX12_w4 : xMeth := (yX12_w4, cX12_w4, 4, (some FieldType.long), kX12_w4)
def kX12_w5 : xC := [[(0, .iload_n 0, 1, 0, 0, 0, []), (1, .iload_n 1, 1, 0, 0, 0, []), (2, .iload_n 2, 1, 0, 0, 0, []), (3, .iload_n 3, 1, 0, 0, 0, []), (4, .invokestatic 140, 3, 219, 4, 0, [1647, 1649, 123, 1648]), (7, .bipush 8, 2, 0, 0, 0, []), (9, .lshl, 1, 0, 0, 0, []), (10, .iload 4, 2, 0, 0, 0, []), (12, .i2l, 1, 0, 0, 0, []), (13, .lor, 1, 0, 0, 0, []), (14, .lreturn, 1, 0, 0, 0, [])]]
def mX12_w5 : xMeth := (yX12_w5, cX12_w5, 5, (some FieldType.long), kX12_w5)
def kX12_w6 : xC := [[(0, .iload_n 0, 1, 0, 0, 0, []), (1, .iload_n 1, 1, 0, 0, 0, []), (2, .iload_n 2, 1, 0, 0, 0, []), (3, .iload_n 3, 1, 0, 0, 0, []), (4, .iload 4, 2, 0, 0, 0, []), (6, .invokestatic 144, 3, 220, 5, 0, [1644, 1646, 123, 1645]), (9, .bipush 8, 2, 0, 0, 0, []), (11, .lshl, 1, 0, 0, 0, []), (12, .iload 5, 2, 0, 0, 0, []), (14, .i2l, 1, 0, 0, 0, []), (15, .lor, 1, 0, 0, 0, []), (16, .lreturn, 1, 0, 0, 0, [])]]
def mX12_w6 : xMeth := (yX12_w6, cX12_w6, 6, (some FieldType.long), kX12_w6)
def kX12_isWord : xC := [[(0, .aload_n 0, 1, 0, 0, 0, []), (1, .getfield 110, 3, 12, 9, 0, [1492]), (4, .iconst 2, 1, 0, 0, 0, []), (5, .if_icmp .ne 16, 3, 0, 0, 0, []), (8, .aload_n 0, 1, 0, 0, 0, []), (9, .getfield 123, 3, 12, 11, 0, [1494]), (12, .lload_n 1, 1, 0, 0, 0, []), (13, .lcmp, 1, 0, 0, 0, []), (14, .ifCond .ne 7, 3, 0, 0, 0, []), (17, .iconst 1, 1, 0, 0, 0, []), (18, .goto 4, 3, 0, 0, 0, []), (21, .iconst 0, 1, 0, 0, 0, []), (22, .ireturn, 1, 0, 0, 0, [])]]
def mX12_isWord : xMeth := (yX12_isWord, cX12_isWord, 3, (some FieldType.boolean), kX12_isWord)
def kX12_emit : xC := [[(0, .aload_n 0, 1, 0, 0, 0, []), (1, .getfield 16, 3, 12, 2, 0, [1485]), (4, .aload_n 0, 1, 0, 0, 0, []), (5, .getfield 148, 3, 12, 12, 0, [1495]), (8, .bipush 73, 2, 0, 0, 0, []), (10, .iadd, 1, 0, 0, 0, []), (11, .iconst 2, 1, 0, 0, 0, []), (12, .aload_n 0, 1, 0, 0, 0, []), (13, .getfield 151, 3, 12, 13, 0, [1496]), (16, .imul, 1, 0, 0, 0, []), (17, .iadd, 1, 0, 0, 0, []), (18, .iload_n 1, 1, 0, 0, 0, []), (19, .iastore, 1, 0, 0, 0, []), (20, .aload_n 0, 1, 0, 0, 0, []), (21, .getfield 16, 3, 12, 2, 0, [1485]), (24, .aload_n 0, 1, 0, 0, 0, []), (25, .getfield 148, 3, 12, 12, 0, [1495]), (28, .bipush 73, 2, 0, 0, 0, []), (30, .iadd, 1, 0, 0, 0, []), (31, .iconst 2, 1, 0, 0, 0, [])],
  [(32, .aload_n 0, 1, 0, 0, 0, []), (33, .getfield 151, 3, 12, 13, 0, [1496]), (36, .imul, 1, 0, 0, 0, []), (37, .iadd, 1, 0, 0, 0, []), (38, .iconst 1, 1, 0, 0, 0, []), (39, .iadd, 1, 0, 0, 0, []), (40, .iload_n 2, 1, 0, 0, 0, []), (41, .iastore, 1, 0, 0, 0, []), (42, .aload_n 0, 1, 0, 0, 0, []), (43, .dup, 1, 0, 0, 0, []), (44, .getfield 151, 3, 12, 13, 0, [1496]), (47, .iconst 1, 1, 0, 0, 0, []), (48, .iadd, 1, 0, 0, 0, []), (49, .putfield 151, 3, 12, 13, 0, [1496]), (52, .return_, 1, 0, 0, 0, [])]]
def mX12_emit : xMeth := (yX12_emit, cX12_emit, 3, none, kX12_emit)
def kX12_nameOf : xC := [[(0, .aload_n 0, 1, 0, 0, 0, []), (1, .getfield 110, 3, 12, 9, 0, [1492]), (4, .iconst 2, 1, 0, 0, 0, []), (5, .if_icmp .eq 5, 3, 0, 0, 0, []), (8, .iconst (-1), 1, 0, 0, 0, []), (9, .ireturn, 1, 0, 0, 0, []), (10, .aload_n 0, 1, 0, 0, 0, []), (11, .getfield 123, 3, 12, 11, 0, [1494]), (14, .bipush 100, 2, 0, 0, 0, []), (16, .bipush 97, 2, 0, 0, 0, []), (18, .bipush 121, 2, 0, 0, 0, []), (20, .invokestatic 136, 3, 218, 3, 0, [1650, 1652, 123, 1651]), (23, .lcmp, 1, 0, 0, 0, []), (24, .ifCond .ne 5, 3, 0, 0, 0, []), (27, .iconst 0, 1, 0, 0, 0, []), (28, .ireturn, 1, 0, 0, 0, []), (29, .aload_n 0, 1, 0, 0, 0, []), (30, .getfield 123, 3, 12, 11, 0, [1494])],
  [(33, .bipush 102, 2, 0, 0, 0, []), (35, .bipush 117, 2, 0, 0, 0, []), (37, .bipush 110, 2, 0, 0, 0, []), (39, .bipush 100, 2, 0, 0, 0, []), (41, .invokestatic 140, 3, 219, 4, 0, [1647, 1649, 123, 1648]), (44, .lcmp, 1, 0, 0, 0, []), (45, .ifCond .ne 5, 3, 0, 0, 0, []), (48, .iconst 1, 1, 0, 0, 0, []), (49, .ireturn, 1, 0, 0, 0, []), (50, .aload_n 0, 1, 0, 0, 0, []), (51, .getfield 123, 3, 12, 11, 0, [1494]), (54, .bipush 108, 2, 0, 0, 0, []), (56, .bipush 97, 2, 0, 0, 0, []), (58, .bipush 115, 2, 0, 0, 0, []), (60, .bipush 116, 2, 0, 0, 0, []), (62, .invokestatic 140, 3, 219, 4, 0, [1647, 1649, 123, 1648])],
  [(65, .lcmp, 1, 0, 0, 0, []), (66, .ifCond .ne 5, 3, 0, 0, 0, []), (69, .iconst 2, 1, 0, 0, 0, []), (70, .ireturn, 1, 0, 0, 0, []), (71, .aload_n 0, 1, 0, 0, 0, []), (72, .getfield 123, 3, 12, 11, 0, [1494]), (75, .bipush 103, 2, 0, 0, 0, []), (77, .bipush 111, 2, 0, 0, 0, []), (79, .bipush 110, 2, 0, 0, 0, []), (81, .bipush 101, 2, 0, 0, 0, []), (83, .invokestatic 140, 3, 219, 4, 0, [1647, 1649, 123, 1648]), (86, .lcmp, 1, 0, 0, 0, []), (87, .ifCond .ne 5, 3, 0, 0, 0, []), (90, .iconst 3, 1, 0, 0, 0, []), (91, .ireturn, 1, 0, 0, 0, []), (92, .aload_n 0, 1, 0, 0, 0, []), (93, .getfield 123, 3, 12, 11, 0, [1494])],
  [(96, .bipush 110, 2, 0, 0, 0, []), (98, .bipush 117, 2, 0, 0, 0, []), (100, .bipush 109, 2, 0, 0, 0, []), (102, .bipush 98, 2, 0, 0, 0, []), (104, .bipush 101, 2, 0, 0, 0, []), (106, .bipush 114, 2, 0, 0, 0, []), (108, .invokestatic 154, 3, 221, 6, 0, [1641, 1643, 123, 1642]), (111, .lcmp, 1, 0, 0, 0, []), (112, .ifCond .ne 5, 3, 0, 0, 0, []), (115, .iconst 4, 1, 0, 0, 0, []), (116, .ireturn, 1, 0, 0, 0, []), (117, .aload_n 0, 1, 0, 0, 0, []), (118, .getfield 123, 3, 12, 11, 0, [1494]), (121, .bipush 111, 2, 0, 0, 0, []), (123, .bipush 100, 2, 0, 0, 0, []), (125, .bipush 100, 2, 0, 0, 0, []), (127, .bipush 115, 2, 0, 0, 0, [])],
  [(129, .invokestatic 140, 3, 219, 4, 0, [1647, 1649, 123, 1648]), (132, .lcmp, 1, 0, 0, 0, []), (133, .ifCond .ne 5, 3, 0, 0, 0, []), (136, .iconst 5, 1, 0, 0, 0, []), (137, .ireturn, 1, 0, 0, 0, []), (138, .aload_n 0, 1, 0, 0, 0, []), (139, .getfield 123, 3, 12, 11, 0, [1494]), (142, .bipush 112, 2, 0, 0, 0, []), (144, .bipush 101, 2, 0, 0, 0, []), (146, .bipush 114, 2, 0, 0, 0, []), (148, .bipush 105, 2, 0, 0, 0, []), (150, .bipush 111, 2, 0, 0, 0, []), (152, .bipush 100, 2, 0, 0, 0, []), (154, .invokestatic 154, 3, 221, 6, 0, [1641, 1643, 123, 1642]), (157, .lcmp, 1, 0, 0, 0, []), (158, .ifCond .ne 6, 3, 0, 0, 0, [])],
  [(161, .bipush 6, 2, 0, 0, 0, []), (163, .ireturn, 1, 0, 0, 0, []), (164, .aload_n 0, 1, 0, 0, 0, []), (165, .getfield 123, 3, 12, 11, 0, [1494]), (168, .bipush 99, 2, 0, 0, 0, []), (170, .bipush 111, 2, 0, 0, 0, []), (172, .bipush 117, 2, 0, 0, 0, []), (174, .bipush 110, 2, 0, 0, 0, []), (176, .bipush 116, 2, 0, 0, 0, []), (178, .invokestatic 144, 3, 220, 5, 0, [1644, 1646, 123, 1645]), (181, .lcmp, 1, 0, 0, 0, []), (182, .ifCond .ne 8, 3, 0, 0, 0, []), (185, .bipush 7, 2, 0, 0, 0, []), (187, .goto 30, 3, 0, 0, 0, []), (190, .aload_n 0, 1, 0, 0, 0, []), (191, .getfield 123, 3, 12, 11, 0, [1494])],
  [(194, .bipush 116, 2, 0, 0, 0, []), (196, .bipush 104, 2, 0, 0, 0, []), (198, .bipush 105, 2, 0, 0, 0, []), (200, .bipush 110, 2, 0, 0, 0, []), (202, .bipush 103, 2, 0, 0, 0, []), (204, .invokestatic 144, 3, 220, 5, 0, [1644, 1646, 123, 1645]), (207, .lcmp, 1, 0, 0, 0, []), (208, .ifCond .ne 8, 3, 0, 0, 0, []), (211, .bipush 8, 2, 0, 0, 0, []), (213, .goto 4, 3, 0, 0, 0, []), (216, .iconst (-1), 1, 0, 0, 0, []), (217, .ireturn, 1, 0, 0, 0, [])]]
def mX12_nameOf : xMeth := (yX12_nameOf, cX12_nameOf, 1, (some FieldType.int), kX12_nameOf)
def kX12_isOf : xC := [[(0, .iload_n 1, 1, 0, 0, 0, []), (1, .iconst 4, 1, 0, 0, 0, []), (2, .if_icmp .lt 27, 3, 0, 0, 0, []), (5, .iload_n 1, 1, 0, 0, 0, []), (6, .bipush 7, 2, 0, 0, 0, []), (8, .if_icmp .ge 13, 3, 0, 0, 0, []), (11, .aload_n 0, 1, 0, 0, 0, []), (12, .getfield 158, 3, 12, 14, 0, [1497]), (15, .ifCond .ne 18, 3, 0, 0, 0, []), (18, .goto 11, 3, 0, 0, 0, []), (21, .aload_n 0, 1, 0, 0, 0, []), (22, .getfield 158, 3, 12, 14, 0, [1497]), (25, .iconst 1, 1, 0, 0, 0, []), (26, .if_icmp .ne 7, 3, 0, 0, 0, []), (29, .iconst 1, 1, 0, 0, 0, []), (30, .goto 4, 3, 0, 0, 0, [])],
  [(33, .iconst 0, 1, 0, 0, 0, []), (34, .ireturn, 1, 0, 0, 0, [])]]
def mX12_isOf : xMeth := (yX12_isOf, cX12_isOf, 2, (some FieldType.boolean), kX12_isOf)
def kX12_rank : xC := [[(0, .iload_n 0, 1, 0, 0, 0, []), (1, .bipush 40, 2, 0, 0, 0, []), (3, .if_icmp .lt 7, 3, 0, 0, 0, []), (6, .iconst 0, 1, 0, 0, 0, []), (7, .goto 66, 3, 0, 0, 0, []), (10, .iload_n 0, 1, 0, 0, 0, []), (11, .bipush 22, 2, 0, 0, 0, []), (13, .if_icmp .ne 7, 3, 0, 0, 0, []), (16, .iconst 1, 1, 0, 0, 0, []), (17, .goto 56, 3, 0, 0, 0, []), (20, .iload_n 0, 1, 0, 0, 0, []), (21, .bipush 21, 2, 0, 0, 0, []), (23, .if_icmp .ne 7, 3, 0, 0, 0, []), (26, .iconst 2, 1, 0, 0, 0, []), (27, .goto 46, 3, 0, 0, 0, []), (30, .iload_n 0, 1, 0, 0, 0, []), (31, .bipush 20, 2, 0, 0, 0, [])],
  [(33, .if_icmp .ne 7, 3, 0, 0, 0, []), (36, .iconst 3, 1, 0, 0, 0, []), (37, .goto 36, 3, 0, 0, 0, []), (40, .iload_n 0, 1, 0, 0, 0, []), (41, .bipush 10, 2, 0, 0, 0, []), (43, .if_icmp .lt 7, 3, 0, 0, 0, []), (46, .iconst 4, 1, 0, 0, 0, []), (47, .goto 26, 3, 0, 0, 0, []), (50, .iload_n 0, 1, 0, 0, 0, []), (51, .bipush 8, 2, 0, 0, 0, []), (53, .if_icmp .lt 8, 3, 0, 0, 0, []), (56, .bipush 6, 2, 0, 0, 0, []), (58, .goto 15, 3, 0, 0, 0, []), (61, .iload_n 0, 1, 0, 0, 0, []), (62, .bipush 6, 2, 0, 0, 0, [])],
  [(64, .if_icmp .lt 7, 3, 0, 0, 0, []), (67, .iconst 5, 1, 0, 0, 0, []), (68, .goto 5, 3, 0, 0, 0, []), (71, .bipush 7, 2, 0, 0, 0, []), (73, .ireturn, 1, 0, 0, 0, [])]]
def mX12_rank : xMeth := (yX12_rank, cX12_rank, 1, (some FieldType.int), kX12_rank)
def kX12_settle : xC := [[(0, .aload_n 0, 1, 0, 0, 0, []), (1, .getfield 161, 3, 12, 16, 0, [1499]), (4, .ifCond .le 89, 3, 0, 0, 0, []), (7, .aload_n 0, 1, 0, 0, 0, []), (8, .getfield 29, 3, 12, 15, 0, [1498]), (11, .aload_n 0, 1, 0, 0, 0, []), (12, .getfield 161, 3, 12, 16, 0, [1499]), (15, .iconst 1, 1, 0, 0, 0, []), (16, .isub, 1, 0, 0, 0, []), (17, .iaload, 1, 0, 0, 0, []), (18, .invokestatic 164, 3, 226, 1, 0, [1703, 1705, 123, 1704]), (21, .iload_n 1, 1, 0, 0, 0, []), (22, .if_icmp .lt 71, 3, 0, 0, 0, []), (25, .aload_n 0, 1, 0, 0, 0, []), (26, .dup, 1, 0, 0, 0, []), (27, .getfield 161, 3, 12, 16, 0, [1499]), (30, .iconst 1, 1, 0, 0, 0, []), (31, .isub, 1, 0, 0, 0, [])],
  [(32, .putfield 161, 3, 12, 16, 0, [1499]), (35, .aload_n 0, 1, 0, 0, 0, []), (36, .aload_n 0, 1, 0, 0, 0, []), (37, .getfield 29, 3, 12, 15, 0, [1498]), (40, .aload_n 0, 1, 0, 0, 0, []), (41, .getfield 161, 3, 12, 16, 0, [1499]), (44, .iaload, 1, 0, 0, 0, []), (45, .iconst 0, 1, 0, 0, 0, []), (46, .invokevirtual 167, 3, 223, 3, 0, [1714, 1717, 123, 1716, 64, 12]), (49, .aload_n 0, 1, 0, 0, 0, []), (50, .getfield 29, 3, 12, 15, 0, [1498]), (53, .aload_n 0, 1, 0, 0, 0, []), (54, .getfield 161, 3, 12, 16, 0, [1499]), (57, .iaload, 1, 0, 0, 0, []), (58, .invokestatic 164, 3, 226, 1, 0, [1703, 1705, 123, 1704]), (61, .bipush 7, 2, 0, 0, 0, []), (63, .if_icmp .eq 17, 3, 0, 0, 0, [])],
  [(66, .aload_n 0, 1, 0, 0, 0, []), (67, .getfield 29, 3, 12, 15, 0, [1498]), (70, .aload_n 0, 1, 0, 0, 0, []), (71, .getfield 161, 3, 12, 16, 0, [1499]), (74, .iaload, 1, 0, 0, 0, []), (75, .bipush 20, 2, 0, 0, 0, []), (77, .if_icmp .ne (-77), 3, 0, 0, 0, []), (80, .aload_n 0, 1, 0, 0, 0, []), (81, .dup, 1, 0, 0, 0, []), (82, .getfield 171, 3, 12, 17, 0, [1500]), (85, .iconst 1, 1, 0, 0, 0, []), (86, .isub, 1, 0, 0, 0, []), (87, .putfield 171, 3, 12, 17, 0, [1500]), (90, .goto (-90), 3, 0, 0, 0, []), (93, .return_, 1, 0, 0, 0, [])]]
def mX12_settle : xMeth := (yX12_settle, cX12_settle, 2, none, kX12_settle)
def kX12_openAt : xC := [[(0, .aload_n 0, 1, 0, 0, 0, []), (1, .getfield 161, 3, 12, 16, 0, [1499]), (4, .iconst 1, 1, 0, 0, 0, []), (5, .isub, 1, 0, 0, 0, []), (6, .istore_n 1, 1, 0, 0, 0, []), (7, .iload_n 1, 1, 0, 0, 0, []), (8, .ifCond .lt 20, 3, 0, 0, 0, []), (11, .aload_n 0, 1, 0, 0, 0, []), (12, .getfield 29, 3, 12, 15, 0, [1498]), (15, .iload_n 1, 1, 0, 0, 0, []), (16, .iaload, 1, 0, 0, 0, []), (17, .bipush 40, 2, 0, 0, 0, []), (19, .if_icmp .ge 9, 3, 0, 0, 0, []), (22, .iinc 1 (-1), 3, 0, 0, 0, []), (25, .goto (-18), 3, 0, 0, 0, []), (28, .iload_n 1, 1, 0, 0, 0, []), (29, .ireturn, 1, 0, 0, 0, [])]]
def mX12_openAt : xMeth := (yX12_openAt, cX12_openAt, 2, (some FieldType.int), kX12_openAt)
def kX12_openNow : xC := [[(0, .aload_n 0, 1, 0, 0, 0, []), (1, .invokevirtual 174, 3, 228, 1, 0, [1695, 1698, 123, 1697, 60, 12]), (4, .ifCond .ge 7, 3, 0, 0, 0, []), (7, .iconst (-1), 1, 0, 0, 0, []), (8, .goto 12, 3, 0, 0, 0, []), (11, .aload_n 0, 1, 0, 0, 0, []), (12, .getfield 29, 3, 12, 15, 0, [1498]), (15, .aload_n 0, 1, 0, 0, 0, []), (16, .invokevirtual 174, 3, 228, 1, 0, [1695, 1698, 123, 1697, 60, 12]), (19, .iaload, 1, 0, 0, 0, []), (20, .ireturn, 1, 0, 0, 0, [])]]
def mX12_openNow : xMeth := (yX12_openNow, cX12_openNow, 1, (some FieldType.int), kX12_openNow)
def kX12_isCompared : xC := [[(0, .aload_n 0, 1, 0, 0, 0, []), (1, .getfield 161, 3, 12, 16, 0, [1499]), (4, .iconst 1, 1, 0, 0, 0, []), (5, .isub, 1, 0, 0, 0, []), (6, .istore_n 1, 1, 0, 0, 0, []), (7, .iload_n 1, 1, 0, 0, 0, []), (8, .ifCond .lt 22, 3, 0, 0, 0, []), (11, .aload_n 0, 1, 0, 0, 0, []), (12, .getfield 29, 3, 12, 15, 0, [1498]), (15, .iload_n 1, 1, 0, 0, 0, []), (16, .iaload, 1, 0, 0, 0, []), (17, .invokestatic 164, 3, 226, 1, 0, [1703, 1705, 123, 1704]), (20, .iconst 4, 1, 0, 0, 0, []), (21, .if_icmp .le 9, 3, 0, 0, 0, []), (24, .iinc 1 (-1), 3, 0, 0, 0, []), (27, .goto (-20), 3, 0, 0, 0, []), (30, .iload_n 1, 1, 0, 0, 0, []), (31, .ifCond .lt 20, 3, 0, 0, 0, [])],
  [(34, .aload_n 0, 1, 0, 0, 0, []), (35, .getfield 29, 3, 12, 15, 0, [1498]), (38, .iload_n 1, 1, 0, 0, 0, []), (39, .iaload, 1, 0, 0, 0, []), (40, .invokestatic 164, 3, 226, 1, 0, [1703, 1705, 123, 1704]), (43, .iconst 4, 1, 0, 0, 0, []), (44, .if_icmp .ne 7, 3, 0, 0, 0, []), (47, .iconst 1, 1, 0, 0, 0, []), (48, .goto 4, 3, 0, 0, 0, []), (51, .iconst 0, 1, 0, 0, 0, []), (52, .ireturn, 1, 0, 0, 0, [])]]
def mX12_isCompared : xMeth := (yX12_isCompared, cX12_isCompared, 2, (some FieldType.boolean), kX12_isCompared)
def kX12_isAskAhead : xC := [[(0, .aload_n 0, 1, 0, 0, 0, []), (1, .invokevirtual 178, 3, 229, 1, 0, [1691, 1694, 123, 1693, 59, 12]), (4, .bipush 41, 2, 0, 0, 0, []), (6, .if_icmp .ne 45, 3, 0, 0, 0, []), (9, .aload_n 0, 1, 0, 0, 0, []), (10, .getfield 29, 3, 12, 15, 0, [1498]), (13, .aload_n 0, 1, 0, 0, 0, []), (14, .getfield 161, 3, 12, 16, 0, [1499]), (17, .iconst 1, 1, 0, 0, 0, []), (18, .isub, 1, 0, 0, 0, []), (19, .iaload, 1, 0, 0, 0, []), (20, .bipush 40, 2, 0, 0, 0, []), (22, .if_icmp .ge 25, 3, 0, 0, 0, []), (25, .aload_n 0, 1, 0, 0, 0, []), (26, .getfield 29, 3, 12, 15, 0, [1498]), (29, .aload_n 0, 1, 0, 0, 0, []), (30, .getfield 161, 3, 12, 16, 0, [1499])],
  [(33, .iconst 1, 1, 0, 0, 0, []), (34, .isub, 1, 0, 0, 0, []), (35, .iaload, 1, 0, 0, 0, []), (36, .invokestatic 164, 3, 226, 1, 0, [1703, 1705, 123, 1704]), (39, .iconst 1, 1, 0, 0, 0, []), (40, .iconst 3, 1, 0, 0, 0, []), (41, .invokestatic 72, 3, 197, 3, 0, [1584, 1586, 123, 1585]), (44, .ifCond .eq 7, 3, 0, 0, 0, []), (47, .iconst 1, 1, 0, 0, 0, []), (48, .goto 4, 3, 0, 0, 0, []), (51, .iconst 0, 1, 0, 0, 0, []), (52, .ireturn, 1, 0, 0, 0, [])]]
def mX12_isAskAhead : xMeth := (yX12_isAskAhead, cX12_isAskAhead, 1, (some FieldType.boolean), kX12_isAskAhead)
def kX12_opened : xC := [[(0, .aload_n 0, 1, 0, 0, 0, []), (1, .getfield 171, 3, 12, 17, 0, [1500]), (4, .bipush 8, 2, 0, 0, 0, []), (6, .if_icmp .ne 5, 3, 0, 0, 0, []), (9, .iconst 3, 1, 0, 0, 0, []), (10, .ireturn, 1, 0, 0, 0, []), (11, .aload_n 0, 1, 0, 0, 0, []), (12, .dup, 1, 0, 0, 0, []), (13, .getfield 171, 3, 12, 17, 0, [1500]), (16, .iconst 1, 1, 0, 0, 0, []), (17, .iadd, 1, 0, 0, 0, []), (18, .putfield 171, 3, 12, 17, 0, [1500]), (21, .aload_n 0, 1, 0, 0, 0, []), (22, .getfield 29, 3, 12, 15, 0, [1498]), (25, .aload_n 0, 1, 0, 0, 0, []), (26, .getfield 161, 3, 12, 16, 0, [1499]), (29, .iload_n 1, 1, 0, 0, 0, []), (30, .iastore, 1, 0, 0, 0, []), (31, .aload_n 0, 1, 0, 0, 0, [])],
  [(32, .dup, 1, 0, 0, 0, []), (33, .getfield 161, 3, 12, 16, 0, [1499]), (36, .iconst 1, 1, 0, 0, 0, []), (37, .iadd, 1, 0, 0, 0, []), (38, .putfield 161, 3, 12, 16, 0, [1499]), (41, .aload_n 0, 1, 0, 0, 0, []), (42, .invokevirtual 181, 3, 216, 1, 0, [1614, 1617, 123, 1616, 47, 12]), (45, .iconst 0, 1, 0, 0, 0, []), (46, .ireturn, 1, 0, 0, 0, [])]]
def mX12_opened : xMeth := (yX12_opened, cX12_opened, 2, (some FieldType.int), kX12_opened)
def kX12_beginOne : xC := [[(0, .aload_n 0, 1, 0, 0, 0, []), (1, .getfield 110, 3, 12, 9, 0, [1492]), (4, .iconst 1, 1, 0, 0, 0, []), (5, .if_icmp .ne 15, 3, 0, 0, 0, []), (8, .aload_n 0, 1, 0, 0, 0, []), (9, .getfield 116, 3, 12, 10, 0, [1493]), (12, .sipush 9999, 3, 0, 0, 0, []), (15, .if_icmp .le 5, 3, 0, 0, 0, []), (18, .iconst 2, 1, 0, 0, 0, []), (19, .ireturn, 1, 0, 0, 0, []), (20, .aload_n 0, 1, 0, 0, 0, []), (21, .invokevirtual 184, 3, 224, 1, 0, [1726, 1729, 123, 1728, 67, 12]), (24, .istore_n 1, 1, 0, 0, 0, []), (25, .iload_n 1, 1, 0, 0, 0, []), (26, .ifCond .lt 13, 3, 0, 0, 0, []), (29, .aload_n 0, 1, 0, 0, 0, []), (30, .iload_n 1, 1, 0, 0, 0, []), (31, .invokevirtual 187, 3, 225, 2, 0, [1730, 1733, 123, 1732, 68, 12])],
  [(34, .ifCond .ne 5, 3, 0, 0, 0, []), (37, .iconst 5, 1, 0, 0, 0, []), (38, .ireturn, 1, 0, 0, 0, []), (39, .aload_n 0, 1, 0, 0, 0, []), (40, .getfield 110, 3, 12, 9, 0, [1492]), (43, .iconst 1, 1, 0, 0, 0, []), (44, .if_icmp .eq 7, 3, 0, 0, 0, []), (47, .iload_n 1, 1, 0, 0, 0, []), (48, .ifCond .lt 53, 3, 0, 0, 0, []), (51, .aload_n 0, 1, 0, 0, 0, []), (52, .aload_n 0, 1, 0, 0, 0, []), (53, .getfield 110, 3, 12, 9, 0, [1492]), (56, .iconst 1, 1, 0, 0, 0, []), (57, .if_icmp .ne 7, 3, 0, 0, 0, []), (60, .iconst 0, 1, 0, 0, 0, []), (61, .goto 4, 3, 0, 0, 0, [])],
  [(64, .iconst 1, 1, 0, 0, 0, []), (65, .aload_n 0, 1, 0, 0, 0, []), (66, .getfield 110, 3, 12, 9, 0, [1492]), (69, .iconst 1, 1, 0, 0, 0, []), (70, .if_icmp .ne 10, 3, 0, 0, 0, []), (73, .aload_n 0, 1, 0, 0, 0, []), (74, .getfield 116, 3, 12, 10, 0, [1493]), (77, .goto 4, 3, 0, 0, 0, []), (80, .iload_n 1, 1, 0, 0, 0, []), (81, .invokevirtual 167, 3, 223, 3, 0, [1714, 1717, 123, 1716, 64, 12]), (84, .aload_n 0, 1, 0, 0, 0, []), (85, .invokevirtual 181, 3, 216, 1, 0, [1614, 1617, 123, 1616, 47, 12]), (88, .aload_n 0, 1, 0, 0, 0, []), (89, .iconst 1, 1, 0, 0, 0, []), (90, .putfield 190, 3, 12, 18, 3, [1501]), (93, .aload_n 0, 1, 0, 0, 0, []), (94, .bipush 7, 2, 0, 0, 0, [])],
  [(96, .invokevirtual 193, 3, 227, 2, 0, [1710, 1713, 123, 1712, 63, 12]), (99, .iconst 0, 1, 0, 0, 0, []), (100, .ireturn, 1, 0, 0, 0, []), (101, .aload_n 0, 1, 0, 0, 0, []), (102, .getfield 110, 3, 12, 9, 0, [1492]), (105, .bipush 40, 2, 0, 0, 0, []), (107, .if_icmp .ne 10, 3, 0, 0, 0, []), (110, .aload_n 0, 1, 0, 0, 0, []), (111, .bipush 40, 2, 0, 0, 0, []), (113, .invokevirtual 196, 3, 232, 2, 0, [1734, 1737, 123, 1736, 69, 12]), (116, .ireturn, 1, 0, 0, 0, []), (117, .aload_n 0, 1, 0, 0, 0, []), (118, .getfield 110, 3, 12, 9, 0, [1492]), (121, .bipush 45, 2, 0, 0, 0, []), (123, .if_icmp .ne 9, 3, 0, 0, 0, []), (126, .aload_n 0, 1, 0, 0, 0, []), (127, .iconst 5, 1, 0, 0, 0, [])],
  [(128, .invokevirtual 196, 3, 232, 2, 0, [1734, 1737, 123, 1736, 69, 12]), (131, .ireturn, 1, 0, 0, 0, []), (132, .aload_n 0, 1, 0, 0, 0, []), (133, .bipush 114, 2, 0, 0, 0, []), (135, .bipush 104, 2, 0, 0, 0, []), (137, .bipush 121, 2, 0, 0, 0, []), (139, .bipush 109, 2, 0, 0, 0, []), (141, .bipush 101, 2, 0, 0, 0, []), (143, .invokestatic 144, 3, 220, 5, 0, [1644, 1646, 123, 1645]), (146, .invokevirtual 199, 3, 222, 2, 0, [1656, 1659, 123, 1658, 51, 12]), (149, .ifCond .eq 9, 3, 0, 0, 0, []), (152, .aload_n 0, 1, 0, 0, 0, []), (153, .iconst 2, 1, 0, 0, 0, []), (154, .invokevirtual 196, 3, 232, 2, 0, [1734, 1737, 123, 1736, 69, 12]), (157, .ireturn, 1, 0, 0, 0, []), (158, .aload_n 0, 1, 0, 0, 0, []), (159, .bipush 99, 2, 0, 0, 0, [])],
  [(161, .bipush 97, 2, 0, 0, 0, []), (163, .bipush 109, 2, 0, 0, 0, []), (165, .bipush 101, 2, 0, 0, 0, []), (167, .invokestatic 140, 3, 219, 4, 0, [1647, 1649, 123, 1648]), (170, .invokevirtual 199, 3, 222, 2, 0, [1656, 1659, 123, 1658, 51, 12]), (173, .ifCond .eq 9, 3, 0, 0, 0, []), (176, .aload_n 0, 1, 0, 0, 0, []), (177, .iconst 4, 1, 0, 0, 0, []), (178, .invokevirtual 196, 3, 232, 2, 0, [1734, 1737, 123, 1736, 69, 12]), (181, .ireturn, 1, 0, 0, 0, []), (182, .aload_n 0, 1, 0, 0, 0, []), (183, .bipush 105, 2, 0, 0, 0, []), (185, .bipush 102, 2, 0, 0, 0, []), (187, .invokestatic 132, 3, 217, 2, 0, [1653, 1655, 123, 1654]), (190, .invokevirtual 199, 3, 222, 2, 0, [1656, 1659, 123, 1658, 51, 12])],
  [(193, .ifCond .eq 10, 3, 0, 0, 0, []), (196, .aload_n 0, 1, 0, 0, 0, []), (197, .bipush 41, 2, 0, 0, 0, []), (199, .invokevirtual 196, 3, 232, 2, 0, [1734, 1737, 123, 1736, 69, 12]), (202, .ireturn, 1, 0, 0, 0, []), (203, .aload_n 0, 1, 0, 0, 0, []), (204, .bipush 110, 2, 0, 0, 0, []), (206, .bipush 111, 2, 0, 0, 0, []), (208, .bipush 116, 2, 0, 0, 0, []), (210, .invokestatic 136, 3, 218, 3, 0, [1650, 1652, 123, 1651]), (213, .invokevirtual 199, 3, 222, 2, 0, [1656, 1659, 123, 1658, 51, 12]), (216, .ifCond .eq 19, 3, 0, 0, 0, []), (219, .aload_n 0, 1, 0, 0, 0, []), (220, .invokevirtual 203, 3, 231, 1, 0, [1738, 1741, 123, 1740, 70, 12]), (223, .ifCond .eq 12, 3, 0, 0, 0, [])],
  [(226, .aload_n 0, 1, 0, 0, 0, []), (227, .bipush 20, 2, 0, 0, 0, []), (229, .invokevirtual 196, 3, 232, 2, 0, [1734, 1737, 123, 1736, 69, 12]), (232, .goto 4, 3, 0, 0, 0, []), (235, .iconst 1, 1, 0, 0, 0, []), (236, .ireturn, 1, 0, 0, 0, [])]]
def mX12_beginOne : xMeth := (yX12_beginOne, cX12_beginOne, 2, (some FieldType.int), kX12_beginOne)
def kX12_compareOf : xC := [[(0, .aload_n 0, 1, 0, 0, 0, []), (1, .getfield 110, 3, 12, 9, 0, [1492]), (4, .bipush 60, 2, 0, 0, 0, []), (6, .if_icmp .ne 8, 3, 0, 0, 0, []), (9, .bipush 10, 2, 0, 0, 0, []), (11, .goto 72, 3, 0, 0, 0, []), (14, .aload_n 0, 1, 0, 0, 0, []), (15, .getfield 110, 3, 12, 9, 0, [1492]), (18, .iconst 4, 1, 0, 0, 0, []), (19, .if_icmp .ne 8, 3, 0, 0, 0, []), (22, .bipush 11, 2, 0, 0, 0, []), (24, .goto 59, 3, 0, 0, 0, []), (27, .aload_n 0, 1, 0, 0, 0, []), (28, .getfield 110, 3, 12, 9, 0, [1492]), (31, .bipush 62, 2, 0, 0, 0, [])],
  [(33, .if_icmp .ne 8, 3, 0, 0, 0, []), (36, .bipush 12, 2, 0, 0, 0, []), (38, .goto 45, 3, 0, 0, 0, []), (41, .aload_n 0, 1, 0, 0, 0, []), (42, .getfield 110, 3, 12, 9, 0, [1492]), (45, .iconst 5, 1, 0, 0, 0, []), (46, .if_icmp .ne 8, 3, 0, 0, 0, []), (49, .bipush 13, 2, 0, 0, 0, []), (51, .goto 32, 3, 0, 0, 0, []), (54, .aload_n 0, 1, 0, 0, 0, []), (55, .getfield 110, 3, 12, 9, 0, [1492]), (58, .bipush 61, 2, 0, 0, 0, []), (60, .if_icmp .ne 8, 3, 0, 0, 0, []), (63, .bipush 14, 2, 0, 0, 0, [])],
  [(65, .goto 18, 3, 0, 0, 0, []), (68, .aload_n 0, 1, 0, 0, 0, []), (69, .getfield 110, 3, 12, 9, 0, [1492]), (72, .bipush 35, 2, 0, 0, 0, []), (74, .if_icmp .ne 8, 3, 0, 0, 0, []), (77, .bipush 15, 2, 0, 0, 0, []), (79, .goto 4, 3, 0, 0, 0, []), (82, .iconst (-1), 1, 0, 0, 0, []), (83, .ireturn, 1, 0, 0, 0, [])]]
def mX12_compareOf : xMeth := (yX12_compareOf, cX12_compareOf, 1, (some FieldType.int), kX12_compareOf)
def kX12_betweenOf : xC := [[(0, .aload_n 0, 1, 0, 0, 0, []), (1, .getfield 110, 3, 12, 9, 0, [1492]), (4, .bipush 43, 2, 0, 0, 0, []), (6, .if_icmp .ne 6, 3, 0, 0, 0, []), (9, .bipush 6, 2, 0, 0, 0, []), (11, .ireturn, 1, 0, 0, 0, []), (12, .aload_n 0, 1, 0, 0, 0, []), (13, .getfield 110, 3, 12, 9, 0, [1492]), (16, .bipush 45, 2, 0, 0, 0, []), (18, .if_icmp .ne 6, 3, 0, 0, 0, []), (21, .bipush 7, 2, 0, 0, 0, []), (23, .ireturn, 1, 0, 0, 0, []), (24, .aload_n 0, 1, 0, 0, 0, []), (25, .getfield 110, 3, 12, 9, 0, [1492]), (28, .bipush 42, 2, 0, 0, 0, []), (30, .if_icmp .ne 6, 3, 0, 0, 0, [])],
  [(33, .bipush 8, 2, 0, 0, 0, []), (35, .ireturn, 1, 0, 0, 0, []), (36, .aload_n 0, 1, 0, 0, 0, []), (37, .getfield 110, 3, 12, 9, 0, [1492]), (40, .bipush 47, 2, 0, 0, 0, []), (42, .if_icmp .ne 6, 3, 0, 0, 0, []), (45, .bipush 9, 2, 0, 0, 0, []), (47, .ireturn, 1, 0, 0, 0, []), (48, .aload_n 0, 1, 0, 0, 0, []), (49, .invokevirtual 178, 3, 229, 1, 0, [1691, 1694, 123, 1693, 59, 12]), (52, .bipush 41, 2, 0, 0, 0, []), (54, .if_icmp .eq 5, 3, 0, 0, 0, []), (57, .iconst (-1), 1, 0, 0, 0, []), (58, .ireturn, 1, 0, 0, 0, []), (59, .aload_n 0, 1, 0, 0, 0, []), (60, .invokevirtual 207, 3, 230, 1, 0, [1699, 1702, 123, 1701, 61, 12]), (63, .ifCond .ne 8, 3, 0, 0, 0, [])],
  [(66, .aload_n 0, 1, 0, 0, 0, []), (67, .invokevirtual 210, 3, 234, 1, 0, [1706, 1709, 123, 1708, 62, 12]), (70, .ireturn, 1, 0, 0, 0, []), (71, .aload_n 0, 1, 0, 0, 0, []), (72, .bipush 97, 2, 0, 0, 0, []), (74, .bipush 110, 2, 0, 0, 0, []), (76, .bipush 100, 2, 0, 0, 0, []), (78, .invokestatic 136, 3, 218, 3, 0, [1650, 1652, 123, 1651]), (81, .invokevirtual 199, 3, 222, 2, 0, [1656, 1659, 123, 1658, 51, 12]), (84, .ifCond .eq 8, 3, 0, 0, 0, []), (87, .bipush 21, 2, 0, 0, 0, []), (89, .goto 23, 3, 0, 0, 0, []), (92, .aload_n 0, 1, 0, 0, 0, []), (93, .bipush 111, 2, 0, 0, 0, []), (95, .bipush 114, 2, 0, 0, 0, [])],
  [(97, .invokestatic 132, 3, 217, 2, 0, [1653, 1655, 123, 1654]), (100, .invokevirtual 199, 3, 222, 2, 0, [1656, 1659, 123, 1658, 51, 12]), (103, .ifCond .eq 8, 3, 0, 0, 0, []), (106, .bipush 22, 2, 0, 0, 0, []), (108, .goto 4, 3, 0, 0, 0, []), (111, .iconst (-1), 1, 0, 0, 0, []), (112, .ireturn, 1, 0, 0, 0, [])]]
def mX12_betweenOf : xMeth := (yX12_betweenOf, cX12_betweenOf, 1, (some FieldType.int), kX12_betweenOf)
def kX12_partOf : xC := [[(0, .iload_n 1, 1, 0, 0, 0, []), (1, .tableswitch 125 40 43 #[31, 46, 78, 103], 31, 0, 0, 0, [])],
  [(32, .aload_n 0, 1, 0, 0, 0, []), (33, .getfield 110, 3, 12, 9, 0, [1492]), (36, .bipush 41, 2, 0, 0, 0, []), (38, .if_icmp .ne 7, 3, 0, 0, 0, []), (41, .iconst 0, 1, 0, 0, 0, []), (42, .goto 4, 3, 0, 0, 0, []), (45, .iconst (-1), 1, 0, 0, 0, []), (46, .ireturn, 1, 0, 0, 0, []), (47, .aload_n 0, 1, 0, 0, 0, []), (48, .bipush 116, 2, 0, 0, 0, []), (50, .bipush 104, 2, 0, 0, 0, []), (52, .bipush 101, 2, 0, 0, 0, []), (54, .bipush 110, 2, 0, 0, 0, []), (56, .invokestatic 140, 3, 219, 4, 0, [1647, 1649, 123, 1648]), (59, .invokevirtual 199, 3, 222, 2, 0, [1656, 1659, 123, 1658, 51, 12]), (62, .ifCond .eq 15, 3, 0, 0, 0, [])],
  [(65, .aload_n 0, 1, 0, 0, 0, []), (66, .invokevirtual 207, 3, 230, 1, 0, [1699, 1702, 123, 1701, 61, 12]), (69, .ifCond .eq 8, 3, 0, 0, 0, []), (72, .bipush 42, 2, 0, 0, 0, []), (74, .goto 4, 3, 0, 0, 0, []), (77, .iconst (-1), 1, 0, 0, 0, []), (78, .ireturn, 1, 0, 0, 0, []), (79, .aload_n 0, 1, 0, 0, 0, []), (80, .bipush 101, 2, 0, 0, 0, []), (82, .bipush 108, 2, 0, 0, 0, []), (84, .bipush 115, 2, 0, 0, 0, []), (86, .bipush 101, 2, 0, 0, 0, []), (88, .invokestatic 140, 3, 219, 4, 0, [1647, 1649, 123, 1648]), (91, .invokevirtual 199, 3, 222, 2, 0, [1656, 1659, 123, 1658, 51, 12]), (94, .ifCond .eq 8, 3, 0, 0, 0, [])],
  [(97, .bipush 43, 2, 0, 0, 0, []), (99, .goto 4, 3, 0, 0, 0, []), (102, .iconst (-1), 1, 0, 0, 0, []), (103, .ireturn, 1, 0, 0, 0, []), (104, .aload_n 0, 1, 0, 0, 0, []), (105, .bipush 101, 2, 0, 0, 0, []), (107, .bipush 110, 2, 0, 0, 0, []), (109, .bipush 100, 2, 0, 0, 0, []), (111, .invokestatic 136, 3, 218, 3, 0, [1650, 1652, 123, 1651]), (114, .invokevirtual 199, 3, 222, 2, 0, [1656, 1659, 123, 1658, 51, 12]), (117, .ifCond .eq 7, 3, 0, 0, 0, []), (120, .iconst 0, 1, 0, 0, 0, []), (121, .goto 4, 3, 0, 0, 0, []), (124, .iconst (-1), 1, 0, 0, 0, []), (125, .ireturn, 1, 0, 0, 0, []), (126, .iconst (-1), 1, 0, 0, 0, []), (127, .ireturn, 1, 0, 0, 0, [])]]
def mX12_partOf : xMeth := (yX12_partOf, cX12_partOf, 2, (some FieldType.int), kX12_partOf)
def kX12_behindOne : xC := [[(0, .aload_n 0, 1, 0, 0, 0, []), (1, .invokevirtual 213, 3, 235, 1, 0, [1687, 1690, 123, 1689, 58, 12]), (4, .istore_n 1, 1, 0, 0, 0, []), (5, .iload_n 1, 1, 0, 0, 0, []), (6, .ifCond .lt 54, 3, 0, 0, 0, []), (9, .aload_n 0, 1, 0, 0, 0, []), (10, .iload_n 1, 1, 0, 0, 0, []), (11, .invokestatic 164, 3, 226, 1, 0, [1703, 1705, 123, 1704]), (14, .iconst 4, 1, 0, 0, 0, []), (15, .if_icmp .ne 7, 3, 0, 0, 0, []), (18, .iconst 5, 1, 0, 0, 0, []), (19, .goto 7, 3, 0, 0, 0, []), (22, .iload_n 1, 1, 0, 0, 0, []), (23, .invokestatic 164, 3, 226, 1, 0, [1703, 1705, 123, 1704]), (26, .invokevirtual 193, 3, 227, 2, 0, [1710, 1713, 123, 1712, 63, 12]), (29, .aload_n 0, 1, 0, 0, 0, []), (30, .getfield 29, 3, 12, 15, 0, [1498])],
  [(33, .aload_n 0, 1, 0, 0, 0, []), (34, .getfield 161, 3, 12, 16, 0, [1499]), (37, .iload_n 1, 1, 0, 0, 0, []), (38, .iastore, 1, 0, 0, 0, []), (39, .aload_n 0, 1, 0, 0, 0, []), (40, .dup, 1, 0, 0, 0, []), (41, .getfield 161, 3, 12, 16, 0, [1499]), (44, .iconst 1, 1, 0, 0, 0, []), (45, .iadd, 1, 0, 0, 0, []), (46, .putfield 161, 3, 12, 16, 0, [1499]), (49, .aload_n 0, 1, 0, 0, 0, []), (50, .iconst 0, 1, 0, 0, 0, []), (51, .putfield 190, 3, 12, 18, 3, [1501]), (54, .aload_n 0, 1, 0, 0, 0, []), (55, .invokevirtual 181, 3, 216, 1, 0, [1614, 1617, 123, 1616, 47, 12]), (58, .iconst 1, 1, 0, 0, 0, []), (59, .ireturn, 1, 0, 0, 0, []), (60, .aload_n 0, 1, 0, 0, 0, []), (61, .invokevirtual 178, 3, 229, 1, 0, [1691, 1694, 123, 1693, 59, 12])],
  [(64, .istore_n 2, 1, 0, 0, 0, []), (65, .aload_n 0, 1, 0, 0, 0, []), (66, .iload_n 2, 1, 0, 0, 0, []), (67, .invokevirtual 216, 3, 236, 2, 0, [1718, 1721, 123, 1720, 65, 12]), (70, .istore_n 3, 1, 0, 0, 0, []), (71, .iload_n 3, 1, 0, 0, 0, []), (72, .ifCond .ge 5, 3, 0, 0, 0, []), (75, .iconst 0, 1, 0, 0, 0, []), (76, .ireturn, 1, 0, 0, 0, []), (77, .aload_n 0, 1, 0, 0, 0, []), (78, .iconst 1, 1, 0, 0, 0, []), (79, .invokevirtual 193, 3, 227, 2, 0, [1710, 1713, 123, 1712, 63, 12]), (82, .aload_n 0, 1, 0, 0, 0, []), (83, .invokevirtual 181, 3, 216, 1, 0, [1614, 1617, 123, 1616, 47, 12]), (86, .iload_n 3, 1, 0, 0, 0, []), (87, .ifCond .le 20, 3, 0, 0, 0, []), (90, .aload_n 0, 1, 0, 0, 0, []), (91, .getfield 29, 3, 12, 15, 0, [1498]), (94, .aload_n 0, 1, 0, 0, 0, []), (95, .invokevirtual 174, 3, 228, 1, 0, [1695, 1698, 123, 1697, 60, 12])],
  [(98, .iload_n 3, 1, 0, 0, 0, []), (99, .iastore, 1, 0, 0, 0, []), (100, .aload_n 0, 1, 0, 0, 0, []), (101, .iconst 0, 1, 0, 0, 0, []), (102, .putfield 190, 3, 12, 18, 3, [1501]), (105, .iconst 1, 1, 0, 0, 0, []), (106, .ireturn, 1, 0, 0, 0, []), (107, .aload_n 0, 1, 0, 0, 0, []), (108, .dup, 1, 0, 0, 0, []), (109, .getfield 171, 3, 12, 17, 0, [1500]), (112, .iconst 1, 1, 0, 0, 0, []), (113, .isub, 1, 0, 0, 0, []), (114, .putfield 171, 3, 12, 17, 0, [1500]), (117, .aload_n 0, 1, 0, 0, 0, []), (118, .dup, 1, 0, 0, 0, []), (119, .getfield 161, 3, 12, 16, 0, [1499]), (122, .iconst 1, 1, 0, 0, 0, []), (123, .isub, 1, 0, 0, 0, []), (124, .putfield 161, 3, 12, 16, 0, [1499]), (127, .iload_n 2, 1, 0, 0, 0, [])],
  [(128, .bipush 43, 2, 0, 0, 0, []), (130, .if_icmp .ne 9, 3, 0, 0, 0, []), (133, .aload_n 0, 1, 0, 0, 0, []), (134, .iconst 3, 1, 0, 0, 0, []), (135, .iconst 0, 1, 0, 0, 0, []), (136, .invokevirtual 167, 3, 223, 3, 0, [1714, 1717, 123, 1716, 64, 12]), (139, .aload_n 0, 1, 0, 0, 0, []), (140, .bipush 7, 2, 0, 0, 0, []), (142, .invokevirtual 193, 3, 227, 2, 0, [1710, 1713, 123, 1712, 63, 12]), (145, .iconst 1, 1, 0, 0, 0, []), (146, .ireturn, 1, 0, 0, 0, [])]]
def mX12_behindOne : xMeth := (yX12_behindOne, cX12_behindOne, 4, (some FieldType.boolean), kX12_behindOne)
def kX12_summed : xC := [[(0, .aload_n 0, 1, 0, 0, 0, []), (1, .iconst 0, 1, 0, 0, 0, []), (2, .putfield 161, 3, 12, 16, 0, [1499]), (5, .aload_n 0, 1, 0, 0, 0, []), (6, .iconst 0, 1, 0, 0, 0, []), (7, .putfield 171, 3, 12, 17, 0, [1500]), (10, .aload_n 0, 1, 0, 0, 0, []), (11, .iconst 0, 1, 0, 0, 0, []), (12, .putfield 190, 3, 12, 18, 3, [1501]), (15, .aload_n 0, 1, 0, 0, 0, []), (16, .getfield 190, 3, 12, 18, 0, [1501]), (19, .ifCond .eq 29, 3, 0, 0, 0, []), (22, .aload_n 0, 1, 0, 0, 0, []), (23, .invokevirtual 219, 3, 237, 1, 0, [1683, 1686, 123, 1685, 57, 12]), (26, .ifCond .eq 6, 3, 0, 0, 0, []), (29, .goto (-14), 3, 0, 0, 0, [])],
  [(32, .aload_n 0, 1, 0, 0, 0, []), (33, .invokevirtual 178, 3, 229, 1, 0, [1691, 1694, 123, 1693, 59, 12]), (36, .ifCond .lt 5, 3, 0, 0, 0, []), (39, .iconst 1, 1, 0, 0, 0, []), (40, .ireturn, 1, 0, 0, 0, []), (41, .aload_n 0, 1, 0, 0, 0, []), (42, .iconst 1, 1, 0, 0, 0, []), (43, .invokevirtual 193, 3, 227, 2, 0, [1710, 1713, 123, 1712, 63, 12]), (46, .iconst 0, 1, 0, 0, 0, []), (47, .ireturn, 1, 0, 0, 0, []), (48, .aload_n 0, 1, 0, 0, 0, []), (49, .invokevirtual 222, 3, 233, 1, 0, [1722, 1725, 123, 1724, 66, 12]), (52, .istore_n 1, 1, 0, 0, 0, []), (53, .iload_n 1, 1, 0, 0, 0, []), (54, .ifCond .eq 5, 3, 0, 0, 0, []), (57, .iload_n 1, 1, 0, 0, 0, []), (58, .ireturn, 1, 0, 0, 0, []), (59, .goto (-44), 3, 0, 0, 0, [])]]
def mX12_summed : xMeth := (yX12_summed, cX12_summed, 2, (some FieldType.int), kX12_summed)
def kX12_figure : xC := [[(0, .aload_n 0, 1, 0, 0, 0, []), (1, .getfield 110, 3, 12, 9, 0, [1492]), (4, .iconst 1, 1, 0, 0, 0, []), (5, .if_icmp .eq 5, 3, 0, 0, 0, []), (8, .iconst 1, 1, 0, 0, 0, []), (9, .ireturn, 1, 0, 0, 0, []), (10, .aload_n 0, 1, 0, 0, 0, []), (11, .getfield 116, 3, 12, 10, 0, [1493]), (14, .iload_n 2, 1, 0, 0, 0, []), (15, .iload_n 3, 1, 0, 0, 0, []), (16, .invokestatic 72, 3, 197, 3, 0, [1584, 1586, 123, 1585]), (19, .ifCond .ne 5, 3, 0, 0, 0, []), (22, .iconst 2, 1, 0, 0, 0, []), (23, .ireturn, 1, 0, 0, 0, []), (24, .aload_n 0, 1, 0, 0, 0, []), (25, .getfield 16, 3, 12, 2, 0, [1485]), (28, .iload_n 1, 1, 0, 0, 0, []), (29, .aload_n 0, 1, 0, 0, 0, []), (30, .getfield 116, 3, 12, 10, 0, [1493])],
  [(33, .iastore, 1, 0, 0, 0, []), (34, .aload_n 0, 1, 0, 0, 0, []), (35, .invokevirtual 181, 3, 216, 1, 0, [1614, 1617, 123, 1616, 47, 12]), (38, .iconst 0, 1, 0, 0, 0, []), (39, .ireturn, 1, 0, 0, 0, [])]]
def mX12_figure : xMeth := (yX12_figure, cX12_figure, 4, (some FieldType.int), kX12_figure)
def kX12_lawClause : xC := [[(0, .aload_n 0, 1, 0, 0, 0, []), (1, .getfield 16, 3, 12, 2, 0, [1485]), (4, .iload_n 1, 1, 0, 0, 0, []), (5, .iconst 1, 1, 0, 0, 0, []), (6, .iadd, 1, 0, 0, 0, []), (7, .aload_n 0, 1, 0, 0, 0, []), (8, .getfield 151, 3, 12, 13, 0, [1496]), (11, .iastore, 1, 0, 0, 0, []), (12, .aload_n 0, 1, 0, 0, 0, []), (13, .invokevirtual 225, 3, 238, 1, 0, [1679, 1682, 123, 1681, 56, 12]), (16, .istore_n 2, 1, 0, 0, 0, []), (17, .aload_n 0, 1, 0, 0, 0, []), (18, .getfield 16, 3, 12, 2, 0, [1485]), (21, .iload_n 1, 1, 0, 0, 0, []), (22, .iconst 2, 1, 0, 0, 0, []), (23, .iadd, 1, 0, 0, 0, []), (24, .aload_n 0, 1, 0, 0, 0, []), (25, .getfield 151, 3, 12, 13, 0, [1496]), (28, .iastore, 1, 0, 0, 0, []), (29, .iload_n 2, 1, 0, 0, 0, []), (30, .ireturn, 1, 0, 0, 0, [])]]
def mX12_lawClause : xMeth := (yX12_lawClause, cX12_lawClause, 3, (some FieldType.int), kX12_lawClause)
def kX12_pair : xC := [[(0, .aload_n 0, 1, 0, 0, 0, []), (1, .iload_n 1, 1, 0, 0, 0, []), (2, .iconst 1, 1, 0, 0, 0, []), (3, .iadd, 1, 0, 0, 0, []), (4, .iload_n 2, 1, 0, 0, 0, []), (5, .iload_n 3, 1, 0, 0, 0, []), (6, .invokevirtual 228, 3, 239, 4, 0, [1671, 1674, 123, 1673, 54, 12]), (9, .istore 7, 2, 0, 0, 0, []), (11, .iload 7, 2, 0, 0, 0, []), (13, .ifCond .eq 6, 3, 0, 0, 0, []), (16, .iload 7, 2, 0, 0, 0, []), (18, .ireturn, 1, 0, 0, 0, []), (19, .aload_n 0, 1, 0, 0, 0, []), (20, .lload 4, 2, 0, 0, 0, []), (22, .invokevirtual 199, 3, 222, 2, 0, [1656, 1659, 123, 1658, 51, 12]), (25, .ifCond .ne 5, 3, 0, 0, 0, []), (28, .iconst 1, 1, 0, 0, 0, []), (29, .ireturn, 1, 0, 0, 0, []), (30, .aload_n 0, 1, 0, 0, 0, []), (31, .invokevirtual 181, 3, 216, 1, 0, [1614, 1617, 123, 1616, 47, 12])],
  [(34, .aload_n 0, 1, 0, 0, 0, []), (35, .iload_n 1, 1, 0, 0, 0, []), (36, .iconst 2, 1, 0, 0, 0, []), (37, .iadd, 1, 0, 0, 0, []), (38, .iconst 0, 1, 0, 0, 0, []), (39, .iload 6, 2, 0, 0, 0, []), (41, .invokevirtual 228, 3, 239, 4, 0, [1671, 1674, 123, 1673, 54, 12]), (44, .ireturn, 1, 0, 0, 0, [])]]
def mX12_pair : xMeth := (yX12_pair, cX12_pair, 8, (some FieldType.int), kX12_pair)
def kX12_body : xC := [[(0, .iload_n 1, 1, 0, 0, 0, []), (1, .tableswitch 124 2 7 #[39, 61, 79, 90, 101, 113], 39, 0, 0, 0, [])],
  [(40, .aload_n 0, 1, 0, 0, 0, []), (41, .iload_n 2, 1, 0, 0, 0, []), (42, .iconst 1, 1, 0, 0, 0, []), (43, .bipush 12, 2, 0, 0, 0, []), (45, .bipush 111, 2, 0, 0, 0, []), (47, .bipush 100, 2, 0, 0, 0, []), (49, .bipush 100, 2, 0, 0, 0, []), (51, .bipush 115, 2, 0, 0, 0, []), (53, .invokestatic 140, 3, 219, 4, 0, [1647, 1649, 123, 1648]), (56, .bipush 10, 2, 0, 0, 0, []), (58, .invokevirtual 232, 3, 241, 6, 0, [1667, 1670, 123, 1669, 53, 12]), (61, .ireturn, 1, 0, 0, 0, []), (62, .aload_n 0, 1, 0, 0, 0, []), (63, .iload_n 2, 1, 0, 0, 0, [])],
  [(64, .iconst 0, 1, 0, 0, 0, []), (65, .bipush 8, 2, 0, 0, 0, []), (67, .bipush 98, 2, 0, 0, 0, []), (69, .bipush 121, 2, 0, 0, 0, []), (71, .invokestatic 132, 3, 217, 2, 0, [1653, 1655, 123, 1654]), (74, .bipush 9, 2, 0, 0, 0, []), (76, .invokevirtual 232, 3, 241, 6, 0, [1667, 1670, 123, 1669, 53, 12]), (79, .ireturn, 1, 0, 0, 0, []), (80, .aload_n 0, 1, 0, 0, 0, []), (81, .iload_n 2, 1, 0, 0, 0, []), (82, .iconst 1, 1, 0, 0, 0, []), (83, .iadd, 1, 0, 0, 0, []), (84, .iconst 0, 1, 0, 0, 0, []), (85, .bipush 7, 2, 0, 0, 0, []), (87, .invokevirtual 228, 3, 239, 4, 0, [1671, 1674, 123, 1673, 54, 12]), (90, .ireturn, 1, 0, 0, 0, []), (91, .aload_n 0, 1, 0, 0, 0, []), (92, .iload_n 2, 1, 0, 0, 0, []), (93, .iconst 1, 1, 0, 0, 0, []), (94, .iadd, 1, 0, 0, 0, []), (95, .iconst 0, 1, 0, 0, 0, [])],
  [(96, .bipush 7, 2, 0, 0, 0, []), (98, .invokevirtual 228, 3, 239, 4, 0, [1671, 1674, 123, 1673, 54, 12]), (101, .ireturn, 1, 0, 0, 0, []), (102, .aload_n 0, 1, 0, 0, 0, []), (103, .iload_n 2, 1, 0, 0, 0, []), (104, .iconst 1, 1, 0, 0, 0, []), (105, .iadd, 1, 0, 0, 0, []), (106, .iconst 1, 1, 0, 0, 0, []), (107, .sipush 999, 3, 0, 0, 0, []), (110, .invokevirtual 228, 3, 239, 4, 0, [1671, 1674, 123, 1673, 54, 12]), (113, .ireturn, 1, 0, 0, 0, []), (114, .aload_n 0, 1, 0, 0, 0, []), (115, .iload_n 2, 1, 0, 0, 0, []), (116, .iconst 1, 1, 0, 0, 0, []), (117, .iadd, 1, 0, 0, 0, []), (118, .iconst 1, 1, 0, 0, 0, []), (119, .bipush 60, 2, 0, 0, 0, []), (121, .invokevirtual 228, 3, 239, 4, 0, [1671, 1674, 123, 1673, 54, 12]), (124, .ireturn, 1, 0, 0, 0, []), (125, .aload_n 0, 1, 0, 0, 0, []), (126, .iload_n 2, 1, 0, 0, 0, []), (127, .invokevirtual 236, 3, 240, 2, 0, [1675, 1678, 123, 1677, 55, 12])],
  [(130, .ireturn, 1, 0, 0, 0, [])]]
def mX12_body : xMeth := (yX12_body, cX12_body, 3, (some FieldType.int), kX12_body)
def kX12_sortOf : xC := [[(0, .aload_n 0, 1, 0, 0, 0, []), (1, .bipush 99, 2, 0, 0, 0, []), (3, .bipush 104, 2, 0, 0, 0, []), (5, .bipush 97, 2, 0, 0, 0, []), (7, .bipush 110, 2, 0, 0, 0, []), (9, .bipush 99, 2, 0, 0, 0, []), (11, .bipush 101, 2, 0, 0, 0, []), (13, .invokestatic 154, 3, 221, 6, 0, [1641, 1643, 123, 1642]), (16, .invokevirtual 199, 3, 222, 2, 0, [1656, 1659, 123, 1658, 51, 12]), (19, .ifCond .eq 5, 3, 0, 0, 0, []), (22, .iconst 0, 1, 0, 0, 0, []), (23, .ireturn, 1, 0, 0, 0, []), (24, .aload_n 0, 1, 0, 0, 0, []), (25, .bipush 98, 2, 0, 0, 0, []), (27, .bipush 114, 2, 0, 0, 0, []), (29, .bipush 105, 2, 0, 0, 0, []), (31, .bipush 110, 2, 0, 0, 0, [])],
  [(33, .bipush 103, 2, 0, 0, 0, []), (35, .bipush 115, 2, 0, 0, 0, []), (37, .invokestatic 154, 3, 221, 6, 0, [1641, 1643, 123, 1642]), (40, .invokevirtual 199, 3, 222, 2, 0, [1656, 1659, 123, 1658, 51, 12]), (43, .ifCond .eq 5, 3, 0, 0, 0, []), (46, .iconst 1, 1, 0, 0, 0, []), (47, .ireturn, 1, 0, 0, 0, []), (48, .aload_n 0, 1, 0, 0, 0, []), (49, .bipush 98, 2, 0, 0, 0, []), (51, .bipush 105, 2, 0, 0, 0, []), (53, .bipush 114, 2, 0, 0, 0, []), (55, .bipush 100, 2, 0, 0, 0, []), (57, .invokestatic 140, 3, 219, 4, 0, [1647, 1649, 123, 1648]), (60, .invokevirtual 199, 3, 222, 2, 0, [1656, 1659, 123, 1658, 51, 12]), (63, .ifCond .eq 5, 3, 0, 0, 0, [])],
  [(66, .iconst 2, 1, 0, 0, 0, []), (67, .ireturn, 1, 0, 0, 0, []), (68, .aload_n 0, 1, 0, 0, 0, []), (69, .bipush 114, 2, 0, 0, 0, []), (71, .bipush 104, 2, 0, 0, 0, []), (73, .bipush 121, 2, 0, 0, 0, []), (75, .bipush 109, 2, 0, 0, 0, []), (77, .bipush 101, 2, 0, 0, 0, []), (79, .invokestatic 144, 3, 220, 5, 0, [1644, 1646, 123, 1645]), (82, .invokevirtual 199, 3, 222, 2, 0, [1656, 1659, 123, 1658, 51, 12]), (85, .ifCond .eq 5, 3, 0, 0, 0, []), (88, .iconst 3, 1, 0, 0, 0, []), (89, .ireturn, 1, 0, 0, 0, []), (90, .aload_n 0, 1, 0, 0, 0, []), (91, .bipush 116, 2, 0, 0, 0, []), (93, .bipush 104, 2, 0, 0, 0, []), (95, .bipush 105, 2, 0, 0, 0, [])],
  [(97, .bipush 110, 2, 0, 0, 0, []), (99, .invokestatic 140, 3, 219, 4, 0, [1647, 1649, 123, 1648]), (102, .invokevirtual 199, 3, 222, 2, 0, [1656, 1659, 123, 1658, 51, 12]), (105, .ifCond .eq 5, 3, 0, 0, 0, []), (108, .iconst 4, 1, 0, 0, 0, []), (109, .ireturn, 1, 0, 0, 0, []), (110, .aload_n 0, 1, 0, 0, 0, []), (111, .bipush 99, 2, 0, 0, 0, []), (113, .bipush 97, 2, 0, 0, 0, []), (115, .bipush 108, 2, 0, 0, 0, []), (117, .bipush 108, 2, 0, 0, 0, []), (119, .invokestatic 140, 3, 219, 4, 0, [1647, 1649, 123, 1648]), (122, .invokevirtual 199, 3, 222, 2, 0, [1656, 1659, 123, 1658, 51, 12]), (125, .ifCond .eq 5, 3, 0, 0, 0, [])],
  [(128, .iconst 5, 1, 0, 0, 0, []), (129, .ireturn, 1, 0, 0, 0, []), (130, .aload_n 0, 1, 0, 0, 0, []), (131, .bipush 103, 2, 0, 0, 0, []), (133, .bipush 114, 2, 0, 0, 0, []), (135, .bipush 97, 2, 0, 0, 0, []), (137, .bipush 110, 2, 0, 0, 0, []), (139, .bipush 116, 2, 0, 0, 0, []), (141, .invokestatic 144, 3, 220, 5, 0, [1644, 1646, 123, 1645]), (144, .invokevirtual 199, 3, 222, 2, 0, [1656, 1659, 123, 1658, 51, 12]), (147, .ifCond .eq 8, 3, 0, 0, 0, []), (150, .bipush 6, 2, 0, 0, 0, []), (152, .goto 25, 3, 0, 0, 0, []), (155, .aload_n 0, 1, 0, 0, 0, []), (156, .bipush 100, 2, 0, 0, 0, []), (158, .bipush 97, 2, 0, 0, 0, [])],
  [(160, .bipush 121, 2, 0, 0, 0, []), (162, .invokestatic 136, 3, 218, 3, 0, [1650, 1652, 123, 1651]), (165, .invokevirtual 199, 3, 222, 2, 0, [1656, 1659, 123, 1658, 51, 12]), (168, .ifCond .eq 8, 3, 0, 0, 0, []), (171, .bipush 7, 2, 0, 0, 0, []), (173, .goto 4, 3, 0, 0, 0, []), (176, .iconst (-1), 1, 0, 0, 0, []), (177, .ireturn, 1, 0, 0, 0, [])]]
def mX12_sortOf : xMeth := (yX12_sortOf, cX12_sortOf, 1, (some FieldType.int), kX12_sortOf)
def kX12_clause : xC := [[(0, .aload_n 0, 1, 0, 0, 0, []), (1, .invokevirtual 239, 3, 243, 1, 0, [1637, 1640, 123, 1639, 50, 12]), (4, .istore_n 1, 1, 0, 0, 0, []), (5, .iload_n 1, 1, 0, 0, 0, []), (6, .ifCond .ge 5, 3, 0, 0, 0, []), (9, .iconst 1, 1, 0, 0, 0, []), (10, .ireturn, 1, 0, 0, 0, []), (11, .iload_n 1, 1, 0, 0, 0, []), (12, .iconst 1, 1, 0, 0, 0, []), (13, .if_icmp .gt 16, 3, 0, 0, 0, []), (16, .aload_n 0, 1, 0, 0, 0, []), (17, .getfield 242, 3, 12, 19, 0, [1502]), (20, .iload_n 1, 1, 0, 0, 0, []), (21, .invokestatic 76, 3, 199, 2, 0, [1660, 1662, 123, 1661]), (24, .ifCond .eq 5, 3, 0, 0, 0, []), (27, .iconst 4, 1, 0, 0, 0, []), (28, .ireturn, 1, 0, 0, 0, []), (29, .aload_n 0, 1, 0, 0, 0, []), (30, .getfield 16, 3, 12, 2, 0, [1485])],
  [(33, .aload_n 0, 1, 0, 0, 0, []), (34, .getfield 148, 3, 12, 12, 0, [1495]), (37, .iaload, 1, 0, 0, 0, []), (38, .istore_n 2, 1, 0, 0, 0, []), (39, .iload_n 2, 1, 0, 0, 0, []), (40, .bipush 24, 2, 0, 0, 0, []), (42, .if_icmp .ne 6, 3, 0, 0, 0, []), (45, .bipush 6, 2, 0, 0, 0, []), (47, .ireturn, 1, 0, 0, 0, []), (48, .iload_n 1, 1, 0, 0, 0, []), (49, .iconst 1, 1, 0, 0, 0, []), (50, .if_icmp .gt 15, 3, 0, 0, 0, []), (53, .aload_n 0, 1, 0, 0, 0, []), (54, .dup, 1, 0, 0, 0, []), (55, .getfield 242, 3, 12, 19, 0, [1502]), (58, .iconst 1, 1, 0, 0, 0, []), (59, .iload_n 1, 1, 0, 0, 0, []), (60, .ishl, 1, 0, 0, 0, []), (61, .ior, 1, 0, 0, 0, []), (62, .putfield 242, 3, 12, 19, 0, [1502])],
  [(65, .aload_n 0, 1, 0, 0, 0, []), (66, .iload_n 1, 1, 0, 0, 0, []), (67, .putfield 158, 3, 12, 14, 0, [1497]), (70, .aload_n 0, 1, 0, 0, 0, []), (71, .invokevirtual 181, 3, 216, 1, 0, [1614, 1617, 123, 1616, 47, 12]), (74, .aload_n 0, 1, 0, 0, 0, []), (75, .getfield 148, 3, 12, 12, 0, [1495]), (78, .iconst 1, 1, 0, 0, 0, []), (79, .iadd, 1, 0, 0, 0, []), (80, .iconst 3, 1, 0, 0, 0, []), (81, .iload_n 2, 1, 0, 0, 0, []), (82, .imul, 1, 0, 0, 0, []), (83, .iadd, 1, 0, 0, 0, []), (84, .istore_n 3, 1, 0, 0, 0, []), (85, .aload_n 0, 1, 0, 0, 0, []), (86, .getfield 16, 3, 12, 2, 0, [1485]), (89, .iload_n 3, 1, 0, 0, 0, []), (90, .iload_n 1, 1, 0, 0, 0, []), (91, .iastore, 1, 0, 0, 0, []), (92, .aload_n 0, 1, 0, 0, 0, []), (93, .iload_n 1, 1, 0, 0, 0, []), (94, .iload_n 3, 1, 0, 0, 0, []), (95, .invokevirtual 245, 3, 242, 3, 0, [1663, 1666, 123, 1665, 52, 12])],
  [(98, .istore 4, 2, 0, 0, 0, []), (100, .iload 4, 2, 0, 0, 0, []), (102, .ifCond .eq 6, 3, 0, 0, 0, []), (105, .iload 4, 2, 0, 0, 0, []), (107, .ireturn, 1, 0, 0, 0, []), (108, .aload_n 0, 1, 0, 0, 0, []), (109, .getfield 16, 3, 12, 2, 0, [1485]), (112, .aload_n 0, 1, 0, 0, 0, []), (113, .getfield 148, 3, 12, 12, 0, [1495]), (116, .dup2, 1, 0, 0, 0, []), (117, .iaload, 1, 0, 0, 0, []), (118, .iconst 1, 1, 0, 0, 0, []), (119, .iadd, 1, 0, 0, 0, []), (120, .iastore, 1, 0, 0, 0, []), (121, .aload_n 0, 1, 0, 0, 0, []), (122, .getfield 110, 3, 12, 9, 0, [1492]), (125, .bipush 59, 2, 0, 0, 0, []), (127, .if_icmp .eq 5, 3, 0, 0, 0, [])],
  [(130, .iconst 1, 1, 0, 0, 0, []), (131, .ireturn, 1, 0, 0, 0, []), (132, .aload_n 0, 1, 0, 0, 0, []), (133, .invokevirtual 181, 3, 216, 1, 0, [1614, 1617, 123, 1616, 47, 12]), (136, .iconst 0, 1, 0, 0, 0, []), (137, .ireturn, 1, 0, 0, 0, [])]]
def mX12_clause : xMeth := (yX12_clause, cX12_clause, 5, (some FieldType.int), kX12_clause)
def kX12_readText : xC := [[(0, .aload_n 0, 1, 0, 0, 0, []), (1, .sipush 681, 3, 0, 0, 0, []), (4, .aload_n 0, 1, 0, 0, 0, []), (5, .getfield 7, 3, 12, 0, 0, [1483]), (8, .iconst 1, 1, 0, 0, 0, []), (9, .iaload, 1, 0, 0, 0, []), (10, .imul, 1, 0, 0, 0, []), (11, .putfield 148, 3, 12, 12, 0, [1495]), (14, .aload_n 0, 1, 0, 0, 0, []), (15, .getfield 16, 3, 12, 2, 0, [1485]), (18, .aload_n 0, 1, 0, 0, 0, []), (19, .getfield 148, 3, 12, 12, 0, [1495]), (22, .iconst 0, 1, 0, 0, 0, []), (23, .iastore, 1, 0, 0, 0, []), (24, .aload_n 0, 1, 0, 0, 0, []), (25, .iconst 0, 1, 0, 0, 0, []), (26, .putfield 151, 3, 12, 13, 0, [1496]), (29, .aload_n 0, 1, 0, 0, 0, []), (30, .iconst 0, 1, 0, 0, 0, []), (31, .putfield 242, 3, 12, 19, 0, [1502])],
  [(34, .aload_n 0, 1, 0, 0, 0, []), (35, .iconst 0, 1, 0, 0, 0, []), (36, .putfield 101, 3, 12, 7, 0, [1490]), (39, .aload_n 0, 1, 0, 0, 0, []), (40, .invokevirtual 181, 3, 216, 1, 0, [1614, 1617, 123, 1616, 47, 12]), (43, .aload_n 0, 1, 0, 0, 0, []), (44, .getfield 110, 3, 12, 9, 0, [1492]), (47, .ifCond .eq 17, 3, 0, 0, 0, []), (50, .aload_n 0, 1, 0, 0, 0, []), (51, .invokevirtual 249, 3, 244, 1, 0, [1633, 1636, 123, 1635, 49, 12]), (54, .istore_n 1, 1, 0, 0, 0, []), (55, .iload_n 1, 1, 0, 0, 0, []), (56, .ifCond .eq 5, 3, 0, 0, 0, []), (59, .iload_n 1, 1, 0, 0, 0, []), (60, .ireturn, 1, 0, 0, 0, []), (61, .goto (-18), 3, 0, 0, 0, [])],
  [(64, .iconst 0, 1, 0, 0, 0, []), (65, .ireturn, 1, 0, 0, 0, [])]]
def mX12_readText : xMeth := (yX12_readText, cX12_readText, 2, (some FieldType.int), kX12_readText)
def kX12_text : xC := [[(0, .aload_n 0, 1, 0, 0, 0, []), (1, .getfield 7, 3, 12, 0, 0, [1483]), (4, .iconst 1, 1, 0, 0, 0, []), (5, .iaload, 1, 0, 0, 0, []), (6, .iconst 4, 1, 0, 0, 0, []), (7, .if_icmp .ne 5, 3, 0, 0, 0, []), (10, .iconst (-1), 1, 0, 0, 0, []), (11, .ireturn, 1, 0, 0, 0, []), (12, .aload_n 0, 1, 0, 0, 0, []), (13, .aload_n 0, 1, 0, 0, 0, []), (14, .invokevirtual 252, 3, 245, 1, 0, [1610, 1613, 123, 1612, 46, 12]), (17, .putfield 22, 3, 12, 5, 0, [1488]), (20, .aload_n 0, 1, 0, 0, 0, []), (21, .aload_n 0, 1, 0, 0, 0, []), (22, .getfield 22, 3, 12, 5, 0, [1488]), (25, .ifCond .ne 7, 3, 0, 0, 0, []), (28, .iconst (-1), 1, 0, 0, 0, []), (29, .goto 7, 3, 0, 0, 0, [])],
  [(32, .aload_n 0, 1, 0, 0, 0, []), (33, .getfield 107, 3, 12, 8, 0, [1491]), (36, .putfield 26, 3, 12, 6, 0, [1489]), (39, .aload_n 0, 1, 0, 0, 0, []), (40, .iconst 0, 1, 0, 0, 0, []), (41, .putfield 94, 3, 12, 4, 0, [1487]), (44, .aload_n 0, 1, 0, 0, 0, []), (45, .getfield 22, 3, 12, 5, 0, [1488]), (48, .ifCond .eq 5, 3, 0, 0, 0, []), (51, .iconst (-1), 1, 0, 0, 0, []), (52, .ireturn, 1, 0, 0, 0, []), (53, .aload_n 0, 1, 0, 0, 0, []), (54, .getfield 7, 3, 12, 0, 0, [1483]), (57, .iconst 1, 1, 0, 0, 0, []), (58, .dup2, 1, 0, 0, 0, []), (59, .iaload, 1, 0, 0, 0, []), (60, .iconst 1, 1, 0, 0, 0, []), (61, .iadd, 1, 0, 0, 0, []), (62, .iastore, 1, 0, 0, 0, []), (63, .aload_n 0, 1, 0, 0, 0, [])],
  [(64, .getfield 7, 3, 12, 0, 0, [1483]), (67, .iconst 1, 1, 0, 0, 0, []), (68, .iaload, 1, 0, 0, 0, []), (69, .iconst 1, 1, 0, 0, 0, []), (70, .isub, 1, 0, 0, 0, []), (71, .ireturn, 1, 0, 0, 0, [])]]
def mX12_text : xMeth := (yX12_text, cX12_text, 1, (some FieldType.int), kX12_text)
def kX12_fault : xC := [[(0, .iload_n 1, 1, 0, 0, 0, []), (1, .ifCond .ne 10, 3, 0, 0, 0, []), (4, .aload_n 0, 1, 0, 0, 0, []), (5, .getfield 22, 3, 12, 5, 0, [1488]), (8, .goto 16, 3, 0, 0, 0, []), (11, .iload_n 1, 1, 0, 0, 0, []), (12, .iconst 1, 1, 0, 0, 0, []), (13, .if_icmp .ne 10, 3, 0, 0, 0, []), (16, .aload_n 0, 1, 0, 0, 0, []), (17, .getfield 26, 3, 12, 6, 0, [1489]), (20, .goto 4, 3, 0, 0, 0, []), (23, .iconst (-1), 1, 0, 0, 0, []), (24, .ireturn, 1, 0, 0, 0, [])]]
def mX12_fault : xMeth := (yX12_fault, cX12_fault, 2, (some FieldType.int), kX12_fault)
def kX12_by : xC := [[(0, .iload_n 1, 1, 0, 0, 0, []), (1, .iconst (-1), 1, 0, 0, 0, []), (2, .aload_n 0, 1, 0, 0, 0, []), (3, .getfield 7, 3, 12, 0, 0, [1483]), (6, .iconst 1, 1, 0, 0, 0, []), (7, .iaload, 1, 0, 0, 0, []), (8, .iconst 1, 1, 0, 0, 0, []), (9, .isub, 1, 0, 0, 0, []), (10, .invokestatic 72, 3, 197, 3, 0, [1584, 1586, 123, 1585]), (13, .ifCond .ne 5, 3, 0, 0, 0, []), (16, .iconst 0, 1, 0, 0, 0, []), (17, .ireturn, 1, 0, 0, 0, []), (18, .aload_n 0, 1, 0, 0, 0, []), (19, .getfield 7, 3, 12, 0, 0, [1483]), (22, .iconst 2, 1, 0, 0, 0, []), (23, .iload_n 1, 1, 0, 0, 0, []), (24, .iastore, 1, 0, 0, 0, []), (25, .iconst 1, 1, 0, 0, 0, []), (26, .ireturn, 1, 0, 0, 0, [])]]
def mX12_by : xMeth := (yX12_by, cX12_by, 2, (some FieldType.boolean), kX12_by)
def kX12_clip : xC := [[(0, .lload_n 0, 1, 0, 0, 0, []), (1, .ldc2_w 255, 3, 0, 0, 1000000, [1847]), (4, .lcmp, 1, 0, 0, 0, []), (5, .ifCond .le 9, 3, 0, 0, 0, []), (8, .ldc2_w 255, 3, 0, 0, 1000000, [1847]), (11, .goto 18, 3, 0, 0, 0, []), (14, .lload_n 0, 1, 0, 0, 0, []), (15, .ldc2_w 257, 3, 0, 0, (-1000000), [1848]), (18, .lcmp, 1, 0, 0, 0, []), (19, .ifCond .ge 9, 3, 0, 0, 0, []), (22, .ldc2_w 257, 3, 0, 0, (-1000000), [1848]), (25, .goto 4, 3, 0, 0, 0, []), (28, .lload_n 0, 1, 0, 0, 0, []), (29, .lreturn, 1, 0, 0, 0, [])]]
def mX12_clip : xMeth := (yX12_clip, cX12_clip, 2, (some FieldType.long), kX12_clip)
def kX12_two : xC := [[(0, .iload_n 0, 1, 0, 0, 0, []), (1, .tableswitch 48 6 8 #[27, 34, 41], 27, 0, 0, 0, []), (28, .lload_n 1, 1, 0, 0, 0, []), (29, .lload_n 3, 1, 0, 0, 0, []), (30, .ladd, 1, 0, 0, 0, []), (31, .invokestatic 259, 3, 249, 1, 0, [1844, 1846, 123, 1845])],
  [(34, .lreturn, 1, 0, 0, 0, []), (35, .lload_n 1, 1, 0, 0, 0, []), (36, .lload_n 3, 1, 0, 0, 0, []), (37, .lsub, 1, 0, 0, 0, []), (38, .invokestatic 259, 3, 249, 1, 0, [1844, 1846, 123, 1845]), (41, .lreturn, 1, 0, 0, 0, []), (42, .lload_n 1, 1, 0, 0, 0, []), (43, .lload_n 3, 1, 0, 0, 0, []), (44, .lmul, 1, 0, 0, 0, []), (45, .invokestatic 259, 3, 249, 1, 0, [1844, 1846, 123, 1845]), (48, .lreturn, 1, 0, 0, 0, []), (49, .lload_n 3, 1, 0, 0, 0, []), (50, .lconst 0, 1, 0, 0, 0, []), (51, .lcmp, 1, 0, 0, 0, []), (52, .ifCond .ne 7, 3, 0, 0, 0, []), (55, .lconst 0, 1, 0, 0, 0, []), (56, .goto 9, 3, 0, 0, 0, []), (59, .lload_n 1, 1, 0, 0, 0, []), (60, .lload_n 3, 1, 0, 0, 0, []), (61, .ldiv, 1, 0, 0, 0, []), (62, .invokestatic 259, 3, 249, 1, 0, [1844, 1846, 123, 1845])],
  [(65, .lreturn, 1, 0, 0, 0, [])]]
def mX12_two : xMeth := (yX12_two, cX12_two, 5, (some FieldType.long), kX12_two)
def kX12_isAsked : xC := [[(0, .iload_n 0, 1, 0, 0, 0, []), (1, .bipush 10, 2, 0, 0, 0, []), (3, .if_icmp .ne 17, 3, 0, 0, 0, []), (6, .lload_n 1, 1, 0, 0, 0, []), (7, .lload_n 3, 1, 0, 0, 0, []), (8, .lcmp, 1, 0, 0, 0, []), (9, .ifCond .ge 7, 3, 0, 0, 0, []), (12, .iconst 1, 1, 0, 0, 0, []), (13, .goto 98, 3, 0, 0, 0, []), (16, .iconst 0, 1, 0, 0, 0, []), (17, .goto 94, 3, 0, 0, 0, []), (20, .iload_n 0, 1, 0, 0, 0, []), (21, .bipush 11, 2, 0, 0, 0, []), (23, .if_icmp .ne 17, 3, 0, 0, 0, []), (26, .lload_n 1, 1, 0, 0, 0, []), (27, .lload_n 3, 1, 0, 0, 0, []), (28, .lcmp, 1, 0, 0, 0, []), (29, .ifCond .gt 7, 3, 0, 0, 0, [])],
  [(32, .iconst 1, 1, 0, 0, 0, []), (33, .goto 78, 3, 0, 0, 0, []), (36, .iconst 0, 1, 0, 0, 0, []), (37, .goto 74, 3, 0, 0, 0, []), (40, .iload_n 0, 1, 0, 0, 0, []), (41, .bipush 12, 2, 0, 0, 0, []), (43, .if_icmp .ne 17, 3, 0, 0, 0, []), (46, .lload_n 1, 1, 0, 0, 0, []), (47, .lload_n 3, 1, 0, 0, 0, []), (48, .lcmp, 1, 0, 0, 0, []), (49, .ifCond .le 7, 3, 0, 0, 0, []), (52, .iconst 1, 1, 0, 0, 0, []), (53, .goto 58, 3, 0, 0, 0, []), (56, .iconst 0, 1, 0, 0, 0, []), (57, .goto 54, 3, 0, 0, 0, []), (60, .iload_n 0, 1, 0, 0, 0, []), (61, .bipush 13, 2, 0, 0, 0, []), (63, .if_icmp .ne 17, 3, 0, 0, 0, [])],
  [(66, .lload_n 1, 1, 0, 0, 0, []), (67, .lload_n 3, 1, 0, 0, 0, []), (68, .lcmp, 1, 0, 0, 0, []), (69, .ifCond .lt 7, 3, 0, 0, 0, []), (72, .iconst 1, 1, 0, 0, 0, []), (73, .goto 38, 3, 0, 0, 0, []), (76, .iconst 0, 1, 0, 0, 0, []), (77, .goto 34, 3, 0, 0, 0, []), (80, .iload_n 0, 1, 0, 0, 0, []), (81, .bipush 14, 2, 0, 0, 0, []), (83, .if_icmp .ne 17, 3, 0, 0, 0, []), (86, .lload_n 1, 1, 0, 0, 0, []), (87, .lload_n 3, 1, 0, 0, 0, []), (88, .lcmp, 1, 0, 0, 0, []), (89, .ifCond .ne 7, 3, 0, 0, 0, []), (92, .iconst 1, 1, 0, 0, 0, []), (93, .goto 18, 3, 0, 0, 0, [])],
  [(96, .iconst 0, 1, 0, 0, 0, []), (97, .goto 14, 3, 0, 0, 0, []), (100, .lload_n 1, 1, 0, 0, 0, []), (101, .lload_n 3, 1, 0, 0, 0, []), (102, .lcmp, 1, 0, 0, 0, []), (103, .ifCond .eq 7, 3, 0, 0, 0, []), (106, .iconst 1, 1, 0, 0, 0, []), (107, .goto 4, 3, 0, 0, 0, []), (110, .iconst 0, 1, 0, 0, 0, []), (111, .ireturn, 1, 0, 0, 0, [])]]
def mX12_isAsked : xMeth := (yX12_isAsked, cX12_isAsked, 5, (some FieldType.boolean), kX12_isAsked)
def kX12_ofOne : xC := [[(0, .iload_n 1, 1, 0, 0, 0, []), (1, .iconst 5, 1, 0, 0, 0, []), (2, .if_icmp .ne 6, 3, 0, 0, 0, []), (5, .lload_n 2, 1, 0, 0, 0, []), (6, .lneg, 1, 0, 0, 0, []), (7, .lreturn, 1, 0, 0, 0, []), (8, .iload_n 1, 1, 0, 0, 0, []), (9, .iconst 2, 1, 0, 0, 0, []), (10, .if_icmp .ne 33, 3, 0, 0, 0, []), (13, .lload_n 2, 1, 0, 0, 0, []), (14, .lconst 0, 1, 0, 0, 0, []), (15, .lcmp, 1, 0, 0, 0, []), (16, .ifCond .lt 25, 3, 0, 0, 0, []), (19, .lload_n 2, 1, 0, 0, 0, []), (20, .ldc2_w 263, 3, 0, 0, 9, [1840]), (23, .lcmp, 1, 0, 0, 0, []), (24, .ifCond .ge 17, 3, 0, 0, 0, []), (27, .aload_n 0, 1, 0, 0, 0, []), (28, .getfield 7, 3, 12, 0, 0, [1483]), (31, .bipush 45, 2, 0, 0, 0, [])],
  [(33, .lload_n 2, 1, 0, 0, 0, []), (34, .l2i, 1, 0, 0, 0, []), (35, .iadd, 1, 0, 0, 0, []), (36, .iaload, 1, 0, 0, 0, []), (37, .i2l, 1, 0, 0, 0, []), (38, .goto 4, 3, 0, 0, 0, []), (41, .lconst 0, 1, 0, 0, 0, []), (42, .lreturn, 1, 0, 0, 0, []), (43, .lload_n 2, 1, 0, 0, 0, []), (44, .lconst 0, 1, 0, 0, 0, []), (45, .lcmp, 1, 0, 0, 0, []), (46, .ifCond .lt 29, 3, 0, 0, 0, []), (49, .lload_n 2, 1, 0, 0, 0, []), (50, .aload_n 0, 1, 0, 0, 0, []), (51, .getfield 7, 3, 12, 0, 0, [1483]), (54, .iconst 0, 1, 0, 0, 0, []), (55, .iaload, 1, 0, 0, 0, []), (56, .i2l, 1, 0, 0, 0, []), (57, .lcmp, 1, 0, 0, 0, []), (58, .ifCond .ge 17, 3, 0, 0, 0, []), (61, .aload_n 0, 1, 0, 0, 0, []), (62, .getfield 7, 3, 12, 0, 0, [1483])],
  [(65, .bipush 13, 2, 0, 0, 0, []), (67, .lload_n 2, 1, 0, 0, 0, []), (68, .l2i, 1, 0, 0, 0, []), (69, .iadd, 1, 0, 0, 0, []), (70, .iaload, 1, 0, 0, 0, []), (71, .i2l, 1, 0, 0, 0, []), (72, .goto 4, 3, 0, 0, 0, []), (75, .lconst 0, 1, 0, 0, 0, []), (76, .lreturn, 1, 0, 0, 0, [])]]
def mX12_ofOne : xMeth := (yX12_ofOne, cX12_ofOne, 4, (some FieldType.long), kX12_ofOne)
def kX12_joined : xC := [[(0, .iload_n 0, 1, 0, 0, 0, []), (1, .bipush 21, 2, 0, 0, 0, []), (3, .if_icmp .ne 19, 3, 0, 0, 0, []), (6, .iload_n 1, 1, 0, 0, 0, []), (7, .ifCond .eq 11, 3, 0, 0, 0, []), (10, .iload_n 2, 1, 0, 0, 0, []), (11, .ifCond .eq 7, 3, 0, 0, 0, []), (14, .iconst 1, 1, 0, 0, 0, []), (15, .goto 20, 3, 0, 0, 0, []), (18, .iconst 0, 1, 0, 0, 0, []), (19, .goto 16, 3, 0, 0, 0, []), (22, .iload_n 1, 1, 0, 0, 0, []), (23, .ifCond .ne 7, 3, 0, 0, 0, []), (26, .iload_n 2, 1, 0, 0, 0, []), (27, .ifCond .eq 7, 3, 0, 0, 0, []), (30, .iconst 1, 1, 0, 0, 0, []), (31, .goto 4, 3, 0, 0, 0, [])],
  [(34, .iconst 0, 1, 0, 0, 0, []), (35, .ireturn, 1, 0, 0, 0, [])]]
def mX12_joined : xMeth := (yX12_joined, cX12_joined, 3, (some FieldType.boolean), kX12_joined)
def kX12_summedUp : xC := [[(0, .sipush 681, 3, 0, 0, 0, []), (3, .iload_n 1, 1, 0, 0, 0, []), (4, .imul, 1, 0, 0, 0, []), (5, .iconst 1, 1, 0, 0, 0, []), (6, .iadd, 1, 0, 0, 0, []), (7, .iconst 3, 1, 0, 0, 0, []), (8, .iload_n 2, 1, 0, 0, 0, []), (9, .imul, 1, 0, 0, 0, []), (10, .iadd, 1, 0, 0, 0, []), (11, .istore_n 3, 1, 0, 0, 0, []), (12, .sipush 681, 3, 0, 0, 0, []), (15, .iload_n 1, 1, 0, 0, 0, []), (16, .imul, 1, 0, 0, 0, []), (17, .bipush 73, 2, 0, 0, 0, []), (19, .iadd, 1, 0, 0, 0, []), (20, .istore 4, 2, 0, 0, 0, []), (22, .iconst 0, 1, 0, 0, 0, []), (23, .istore 5, 2, 0, 0, 0, []), (25, .iconst 0, 1, 0, 0, 0, []), (26, .istore 6, 2, 0, 0, 0, []), (28, .aload_n 0, 1, 0, 0, 0, []), (29, .getfield 16, 3, 12, 2, 0, [1485])],
  [(32, .iload_n 3, 1, 0, 0, 0, []), (33, .iconst 1, 1, 0, 0, 0, []), (34, .iadd, 1, 0, 0, 0, []), (35, .iaload, 1, 0, 0, 0, []), (36, .istore 7, 2, 0, 0, 0, []), (38, .iload 7, 2, 0, 0, 0, []), (40, .aload_n 0, 1, 0, 0, 0, []), (41, .getfield 16, 3, 12, 2, 0, [1485]), (44, .iload_n 3, 1, 0, 0, 0, []), (45, .iconst 2, 1, 0, 0, 0, []), (46, .iadd, 1, 0, 0, 0, []), (47, .iaload, 1, 0, 0, 0, []), (48, .if_icmp .ge 307, 3, 0, 0, 0, []), (51, .aload_n 0, 1, 0, 0, 0, []), (52, .getfield 16, 3, 12, 2, 0, [1485]), (55, .iload 4, 2, 0, 0, 0, []), (57, .iconst 2, 1, 0, 0, 0, []), (58, .iload 7, 2, 0, 0, 0, []), (60, .imul, 1, 0, 0, 0, []), (61, .iadd, 1, 0, 0, 0, []), (62, .iaload, 1, 0, 0, 0, []), (63, .istore 8, 2, 0, 0, 0, [])],
  [(65, .aload_n 0, 1, 0, 0, 0, []), (66, .getfield 16, 3, 12, 2, 0, [1485]), (69, .iload 4, 2, 0, 0, 0, []), (71, .iconst 2, 1, 0, 0, 0, []), (72, .iload 7, 2, 0, 0, 0, []), (74, .imul, 1, 0, 0, 0, []), (75, .iadd, 1, 0, 0, 0, []), (76, .iconst 1, 1, 0, 0, 0, []), (77, .iadd, 1, 0, 0, 0, []), (78, .iaload, 1, 0, 0, 0, []), (79, .istore 9, 2, 0, 0, 0, []), (81, .iload 8, 2, 0, 0, 0, []), (83, .iconst 1, 1, 0, 0, 0, []), (84, .if_icmp .gt 35, 3, 0, 0, 0, []), (87, .aload_n 0, 1, 0, 0, 0, []), (88, .getfield 35, 3, 12, 21, 0, [1504]), (91, .iload 5, 2, 0, 0, 0, []), (93, .iload 8, 2, 0, 0, 0, []), (95, .ifCond .ne 9, 3, 0, 0, 0, [])],
  [(98, .iload 9, 2, 0, 0, 0, []), (100, .i2l, 1, 0, 0, 0, []), (101, .goto 11, 3, 0, 0, 0, []), (104, .aload_n 0, 1, 0, 0, 0, []), (105, .getfield 32, 3, 12, 20, 0, [1503]), (108, .iload 9, 2, 0, 0, 0, []), (110, .iaload, 1, 0, 0, 0, []), (111, .i2l, 1, 0, 0, 0, []), (112, .lastore, 1, 0, 0, 0, []), (113, .iinc 5 1, 3, 0, 0, 0, []), (116, .goto 233, 3, 0, 0, 0, []), (119, .iload 8, 2, 0, 0, 0, []), (121, .iconst 3, 1, 0, 0, 0, []), (122, .if_icmp .ne 38, 3, 0, 0, 0, []), (125, .iinc 5 (-1), 3, 0, 0, 0, [])],
  [(128, .iinc 6 (-1), 3, 0, 0, 0, []), (131, .aload_n 0, 1, 0, 0, 0, []), (132, .getfield 39, 3, 12, 22, 0, [1505]), (135, .iload 6, 2, 0, 0, 0, []), (137, .baload, 1, 0, 0, 0, []), (138, .ifCond .ne 211, 3, 0, 0, 0, []), (141, .aload_n 0, 1, 0, 0, 0, []), (142, .getfield 35, 3, 12, 21, 0, [1504]), (145, .iload 5, 2, 0, 0, 0, []), (147, .iconst 1, 1, 0, 0, 0, []), (148, .isub, 1, 0, 0, 0, []), (149, .aload_n 0, 1, 0, 0, 0, []), (150, .getfield 35, 3, 12, 21, 0, [1504]), (153, .iload 5, 2, 0, 0, 0, []), (155, .laload, 1, 0, 0, 0, []), (156, .lastore, 1, 0, 0, 0, []), (157, .goto 192, 3, 0, 0, 0, [])],
  [(160, .iload 8, 2, 0, 0, 0, []), (162, .iconst 5, 1, 0, 0, 0, []), (163, .if_icmp .gt 30, 3, 0, 0, 0, []), (166, .aload_n 0, 1, 0, 0, 0, []), (167, .getfield 35, 3, 12, 21, 0, [1504]), (170, .iload 5, 2, 0, 0, 0, []), (172, .iconst 1, 1, 0, 0, 0, []), (173, .isub, 1, 0, 0, 0, []), (174, .aload_n 0, 1, 0, 0, 0, []), (175, .iload 8, 2, 0, 0, 0, []), (177, .aload_n 0, 1, 0, 0, 0, []), (178, .getfield 35, 3, 12, 21, 0, [1504]), (181, .iload 5, 2, 0, 0, 0, []), (183, .iconst 1, 1, 0, 0, 0, []), (184, .isub, 1, 0, 0, 0, []), (185, .laload, 1, 0, 0, 0, []), (186, .invokevirtual 265, 3, 252, 3, 0, [1836, 1839, 123, 1838, 86, 12]), (189, .lastore, 1, 0, 0, 0, []), (190, .goto 159, 3, 0, 0, 0, [])],
  [(193, .iload 8, 2, 0, 0, 0, []), (195, .bipush 10, 2, 0, 0, 0, []), (197, .if_icmp .ge 39, 3, 0, 0, 0, []), (200, .iinc 5 (-1), 3, 0, 0, 0, []), (203, .aload_n 0, 1, 0, 0, 0, []), (204, .getfield 35, 3, 12, 21, 0, [1504]), (207, .iload 5, 2, 0, 0, 0, []), (209, .iconst 1, 1, 0, 0, 0, []), (210, .isub, 1, 0, 0, 0, []), (211, .iload 8, 2, 0, 0, 0, []), (213, .aload_n 0, 1, 0, 0, 0, []), (214, .getfield 35, 3, 12, 21, 0, [1504]), (217, .iload 5, 2, 0, 0, 0, []), (219, .iconst 1, 1, 0, 0, 0, []), (220, .isub, 1, 0, 0, 0, []), (221, .laload, 1, 0, 0, 0, []), (222, .aload_n 0, 1, 0, 0, 0, []), (223, .getfield 35, 3, 12, 21, 0, [1504])],
  [(226, .iload 5, 2, 0, 0, 0, []), (228, .laload, 1, 0, 0, 0, []), (229, .invokestatic 269, 3, 250, 3, 0, [1841, 1843, 123, 1842]), (232, .lastore, 1, 0, 0, 0, []), (233, .goto 116, 3, 0, 0, 0, []), (236, .iload 8, 2, 0, 0, 0, []), (238, .bipush 20, 2, 0, 0, 0, []), (240, .if_icmp .ge 40, 3, 0, 0, 0, []), (243, .iinc 5 (-2), 3, 0, 0, 0, []), (246, .aload_n 0, 1, 0, 0, 0, []), (247, .getfield 39, 3, 12, 22, 0, [1505]), (250, .iload 6, 2, 0, 0, 0, []), (252, .iload 8, 2, 0, 0, 0, []), (254, .aload_n 0, 1, 0, 0, 0, []), (255, .getfield 35, 3, 12, 21, 0, [1504])],
  [(258, .iload 5, 2, 0, 0, 0, []), (260, .laload, 1, 0, 0, 0, []), (261, .aload_n 0, 1, 0, 0, 0, []), (262, .getfield 35, 3, 12, 21, 0, [1504]), (265, .iload 5, 2, 0, 0, 0, []), (267, .iconst 1, 1, 0, 0, 0, []), (268, .iadd, 1, 0, 0, 0, []), (269, .laload, 1, 0, 0, 0, []), (270, .invokestatic 273, 3, 251, 3, 0, [1849, 1851, 123, 1850]), (273, .bastore, 1, 0, 0, 0, []), (274, .iinc 6 1, 3, 0, 0, 0, []), (277, .goto 72, 3, 0, 0, 0, []), (280, .iload 8, 2, 0, 0, 0, []), (282, .bipush 20, 2, 0, 0, 0, []), (284, .if_icmp .ne 32, 3, 0, 0, 0, []), (287, .aload_n 0, 1, 0, 0, 0, [])],
  [(288, .getfield 39, 3, 12, 22, 0, [1505]), (291, .iload 6, 2, 0, 0, 0, []), (293, .iconst 1, 1, 0, 0, 0, []), (294, .isub, 1, 0, 0, 0, []), (295, .aload_n 0, 1, 0, 0, 0, []), (296, .getfield 39, 3, 12, 22, 0, [1505]), (299, .iload 6, 2, 0, 0, 0, []), (301, .iconst 1, 1, 0, 0, 0, []), (302, .isub, 1, 0, 0, 0, []), (303, .baload, 1, 0, 0, 0, []), (304, .ifCond .ne 7, 3, 0, 0, 0, []), (307, .iconst 1, 1, 0, 0, 0, []), (308, .goto 4, 3, 0, 0, 0, []), (311, .iconst 0, 1, 0, 0, 0, []), (312, .bastore, 1, 0, 0, 0, []), (313, .goto 36, 3, 0, 0, 0, []), (316, .iinc 6 (-1), 3, 0, 0, 0, []), (319, .aload_n 0, 1, 0, 0, 0, [])],
  [(320, .getfield 39, 3, 12, 22, 0, [1505]), (323, .iload 6, 2, 0, 0, 0, []), (325, .iconst 1, 1, 0, 0, 0, []), (326, .isub, 1, 0, 0, 0, []), (327, .iload 8, 2, 0, 0, 0, []), (329, .aload_n 0, 1, 0, 0, 0, []), (330, .getfield 39, 3, 12, 22, 0, [1505]), (333, .iload 6, 2, 0, 0, 0, []), (335, .iconst 1, 1, 0, 0, 0, []), (336, .isub, 1, 0, 0, 0, []), (337, .baload, 1, 0, 0, 0, []), (338, .aload_n 0, 1, 0, 0, 0, []), (339, .getfield 39, 3, 12, 22, 0, [1505]), (342, .iload 6, 2, 0, 0, 0, []), (344, .baload, 1, 0, 0, 0, []), (345, .invokestatic 277, 3, 253, 3, 0, [1852, 1854, 123, 1853]), (348, .bastore, 1, 0, 0, 0, []), (349, .iinc 7 1, 3, 0, 0, 0, [])],
  [(352, .goto (-314), 3, 0, 0, 0, []), (355, .aload_n 0, 1, 0, 0, 0, []), (356, .getfield 35, 3, 12, 21, 0, [1504]), (359, .iconst 0, 1, 0, 0, 0, []), (360, .laload, 1, 0, 0, 0, []), (361, .lreturn, 1, 0, 0, 0, [])]]
def mX12_summedUp : xMeth := (yX12_summedUp, cX12_summedUp, 10, (some FieldType.long), kX12_summedUp)
def kX12_says : xC := [[(0, .iconst 0, 1, 0, 0, 0, []), (1, .istore 6, 2, 0, 0, 0, []), (3, .iload_n 1, 1, 0, 0, 0, []), (4, .ifCond .lt 60, 3, 0, 0, 0, []), (7, .iload 6, 2, 0, 0, 0, []), (9, .aload_n 0, 1, 0, 0, 0, []), (10, .getfield 16, 3, 12, 2, 0, [1485]), (13, .sipush 681, 3, 0, 0, 0, []), (16, .iload_n 1, 1, 0, 0, 0, []), (17, .imul, 1, 0, 0, 0, []), (18, .iaload, 1, 0, 0, 0, []), (19, .if_icmp .ge 45, 3, 0, 0, 0, []), (22, .aload_n 0, 1, 0, 0, 0, []), (23, .getfield 16, 3, 12, 2, 0, [1485]), (26, .sipush 681, 3, 0, 0, 0, []), (29, .iload_n 1, 1, 0, 0, 0, []), (30, .imul, 1, 0, 0, 0, []), (31, .iconst 1, 1, 0, 0, 0, [])],
  [(32, .iadd, 1, 0, 0, 0, []), (33, .iconst 3, 1, 0, 0, 0, []), (34, .iload 6, 2, 0, 0, 0, []), (36, .imul, 1, 0, 0, 0, []), (37, .iadd, 1, 0, 0, 0, []), (38, .iaload, 1, 0, 0, 0, []), (39, .iload_n 2, 1, 0, 0, 0, []), (40, .if_icmp .ne 18, 3, 0, 0, 0, []), (43, .aload_n 0, 1, 0, 0, 0, []), (44, .iload_n 1, 1, 0, 0, 0, []), (45, .iload 6, 2, 0, 0, 0, []), (47, .invokevirtual 281, 3, 254, 3, 0, [1832, 1835, 123, 1834, 85, 12]), (50, .iload 4, 2, 0, 0, 0, []), (52, .iload 5, 2, 0, 0, 0, []), (54, .invokestatic 284, 3, 198, 3, 0, [1855, 1857, 123, 1856]), (57, .ireturn, 1, 0, 0, 0, []), (58, .iinc 6 1, 3, 0, 0, 0, []), (61, .goto (-58), 3, 0, 0, 0, [])],
  [(64, .iload_n 3, 1, 0, 0, 0, []), (65, .ireturn, 1, 0, 0, 0, [])]]
def mX12_says : xMeth := (yX12_says, cX12_says, 7, (some FieldType.int), kX12_says)
def kX12_name : xC := [[(0, .aload_n 0, 1, 0, 0, 0, []), (1, .getfield 32, 3, 12, 20, 0, [1503]), (4, .iconst 0, 1, 0, 0, 0, []), (5, .aload_n 0, 1, 0, 0, 0, []), (6, .getfield 7, 3, 12, 0, 0, [1483]), (9, .bipush 6, 2, 0, 0, 0, []), (11, .iaload, 1, 0, 0, 0, []), (12, .iastore, 1, 0, 0, 0, []), (13, .aload_n 0, 1, 0, 0, 0, []), (14, .getfield 32, 3, 12, 20, 0, [1503]), (17, .iconst 1, 1, 0, 0, 0, []), (18, .aload_n 0, 1, 0, 0, 0, []), (19, .getfield 7, 3, 12, 0, 0, [1483]), (22, .bipush 8, 2, 0, 0, 0, []), (24, .iaload, 1, 0, 0, 0, []), (25, .iastore, 1, 0, 0, 0, []), (26, .aload_n 0, 1, 0, 0, 0, []), (27, .getfield 32, 3, 12, 20, 0, [1503]), (30, .iconst 2, 1, 0, 0, 0, []), (31, .aload_n 0, 1, 0, 0, 0, [])],
  [(32, .getfield 7, 3, 12, 0, 0, [1483]), (35, .bipush 9, 2, 0, 0, 0, []), (37, .iaload, 1, 0, 0, 0, []), (38, .iastore, 1, 0, 0, 0, []), (39, .aload_n 0, 1, 0, 0, 0, []), (40, .getfield 32, 3, 12, 20, 0, [1503]), (43, .iconst 3, 1, 0, 0, 0, []), (44, .aload_n 0, 1, 0, 0, 0, []), (45, .getfield 7, 3, 12, 0, 0, [1483]), (48, .bipush 12, 2, 0, 0, 0, []), (50, .iaload, 1, 0, 0, 0, []), (51, .invokestatic 288, 3, 200, 1, 0, [1825, 1827, 123, 1826]), (54, .iastore, 1, 0, 0, 0, []), (55, .return_, 1, 0, 0, 0, [])]]
def mX12_name : xMeth := (yX12_name, cX12_name, 1, none, kX12_name)
def kX12_chanceOf : xC := [[(0, .aload_n 0, 1, 0, 0, 0, []), (1, .invokevirtual 291, 3, 256, 1, 0, [1821, 1824, 123, 1823, 83, 12]), (4, .aload_n 0, 1, 0, 0, 0, []), (5, .getfield 32, 3, 12, 20, 0, [1503]), (8, .iconst 4, 1, 0, 0, 0, []), (9, .iload_n 1, 1, 0, 0, 0, []), (10, .iastore, 1, 0, 0, 0, []), (11, .aload_n 0, 1, 0, 0, 0, []), (12, .getfield 32, 3, 12, 20, 0, [1503]), (15, .iconst 5, 1, 0, 0, 0, []), (16, .aload_n 0, 1, 0, 0, 0, []), (17, .getfield 7, 3, 12, 0, 0, [1483]), (20, .bipush 37, 2, 0, 0, 0, []), (22, .iload_n 1, 1, 0, 0, 0, []), (23, .iadd, 1, 0, 0, 0, []), (24, .iaload, 1, 0, 0, 0, []), (25, .iastore, 1, 0, 0, 0, []), (26, .aload_n 0, 1, 0, 0, 0, []), (27, .getfield 32, 3, 12, 20, 0, [1503]), (30, .bipush 6, 2, 0, 0, 0, [])],
  [(32, .aload_n 0, 1, 0, 0, 0, []), (33, .getfield 7, 3, 12, 0, 0, [1483]), (36, .bipush 21, 2, 0, 0, 0, []), (38, .iload_n 1, 1, 0, 0, 0, []), (39, .iadd, 1, 0, 0, 0, []), (40, .iaload, 1, 0, 0, 0, []), (41, .iastore, 1, 0, 0, 0, []), (42, .aload_n 0, 1, 0, 0, 0, []), (43, .aload_n 0, 1, 0, 0, 0, []), (44, .getfield 7, 3, 12, 0, 0, [1483]), (47, .iconst 2, 1, 0, 0, 0, []), (48, .iaload, 1, 0, 0, 0, []), (49, .iconst 0, 1, 0, 0, 0, []), (50, .aload_n 0, 1, 0, 0, 0, []), (51, .getfield 7, 3, 12, 0, 0, [1483]), (54, .bipush 37, 2, 0, 0, 0, []), (56, .iload_n 1, 1, 0, 0, 0, []), (57, .iadd, 1, 0, 0, 0, []), (58, .iaload, 1, 0, 0, 0, []), (59, .iconst 0, 1, 0, 0, 0, []), (60, .bipush 10, 2, 0, 0, 0, []), (62, .invokevirtual 294, 3, 255, 6, 0, [1828, 1831, 123, 1830, 84, 12])],
  [(65, .ireturn, 1, 0, 0, 0, [])]]
def mX12_chanceOf : xMeth := (yX12_chanceOf, cX12_chanceOf, 2, (some FieldType.int), kX12_chanceOf)
def kX12_bringsOf : xC := [[(0, .aload_n 0, 1, 0, 0, 0, []), (1, .invokevirtual 291, 3, 256, 1, 0, [1821, 1824, 123, 1823, 83, 12]), (4, .aload_n 0, 1, 0, 0, 0, []), (5, .getfield 32, 3, 12, 20, 0, [1503]), (8, .bipush 7, 2, 0, 0, 0, []), (10, .iload_n 2, 1, 0, 0, 0, []), (11, .iastore, 1, 0, 0, 0, []), (12, .aload_n 0, 1, 0, 0, 0, []), (13, .getfield 32, 3, 12, 20, 0, [1503]), (16, .bipush 8, 2, 0, 0, 0, []), (18, .aload_n 0, 1, 0, 0, 0, []), (19, .getfield 7, 3, 12, 0, 0, [1483]), (22, .bipush 45, 2, 0, 0, 0, []), (24, .iload_n 2, 1, 0, 0, 0, []), (25, .iadd, 1, 0, 0, 0, []), (26, .iaload, 1, 0, 0, 0, []), (27, .iastore, 1, 0, 0, 0, []), (28, .aload_n 0, 1, 0, 0, 0, []), (29, .iload_n 1, 1, 0, 0, 0, []), (30, .iconst 1, 1, 0, 0, 0, []), (31, .aload_n 0, 1, 0, 0, 0, [])],
  [(32, .getfield 7, 3, 12, 0, 0, [1483]), (35, .bipush 45, 2, 0, 0, 0, []), (37, .iload_n 2, 1, 0, 0, 0, []), (38, .iadd, 1, 0, 0, 0, []), (39, .iaload, 1, 0, 0, 0, []), (40, .iconst 2, 1, 0, 0, 0, []), (41, .isub, 1, 0, 0, 0, []), (42, .bipush (-99), 2, 0, 0, 0, []), (44, .bipush 99, 2, 0, 0, 0, []), (46, .invokevirtual 294, 3, 255, 6, 0, [1828, 1831, 123, 1830, 84, 12]), (49, .ireturn, 1, 0, 0, 0, [])]]
def mX12_bringsOf : xMeth := (yX12_bringsOf, cX12_bringsOf, 3, (some FieldType.int), kX12_bringsOf)
def kX12_write : xC := [[(0, .aload_n 0, 1, 0, 0, 0, []), (1, .getfield 43, 3, 12, 23, 0, [1506]), (4, .ifCond .ne 4, 3, 0, 0, 0, []), (7, .return_, 1, 0, 0, 0, []), (8, .aload_n 0, 1, 0, 0, 0, []), (9, .getfield 7, 3, 12, 0, 0, [1483]), (12, .bipush 11, 2, 0, 0, 0, []), (14, .iaload, 1, 0, 0, 0, []), (15, .bipush 25, 2, 0, 0, 0, []), (17, .if_icmp .ne 50, 3, 0, 0, 0, []), (20, .iconst 1, 1, 0, 0, 0, []), (21, .istore_n 3, 1, 0, 0, 0, []), (22, .iload_n 3, 1, 0, 0, 0, []), (23, .bipush 25, 2, 0, 0, 0, []), (25, .if_icmp .ge 31, 3, 0, 0, 0, []), (28, .aload_n 0, 1, 0, 0, 0, []), (29, .getfield 7, 3, 12, 0, 0, [1483])],
  [(32, .sipush 1313, 3, 0, 0, 0, []), (35, .iload_n 3, 1, 0, 0, 0, []), (36, .iadd, 1, 0, 0, 0, []), (37, .iconst 1, 1, 0, 0, 0, []), (38, .isub, 1, 0, 0, 0, []), (39, .aload_n 0, 1, 0, 0, 0, []), (40, .getfield 7, 3, 12, 0, 0, [1483]), (43, .sipush 1313, 3, 0, 0, 0, []), (46, .iload_n 3, 1, 0, 0, 0, []), (47, .iadd, 1, 0, 0, 0, []), (48, .iaload, 1, 0, 0, 0, []), (49, .iastore, 1, 0, 0, 0, []), (50, .iinc 3 1, 3, 0, 0, 0, []), (53, .goto (-31), 3, 0, 0, 0, []), (56, .aload_n 0, 1, 0, 0, 0, []), (57, .getfield 7, 3, 12, 0, 0, [1483]), (60, .bipush 11, 2, 0, 0, 0, []), (62, .dup2, 1, 0, 0, 0, []), (63, .iaload, 1, 0, 0, 0, [])],
  [(64, .iconst 1, 1, 0, 0, 0, []), (65, .isub, 1, 0, 0, 0, []), (66, .iastore, 1, 0, 0, 0, []), (67, .aload_n 0, 1, 0, 0, 0, []), (68, .getfield 7, 3, 12, 0, 0, [1483]), (71, .sipush 1313, 3, 0, 0, 0, []), (74, .aload_n 0, 1, 0, 0, 0, []), (75, .getfield 7, 3, 12, 0, 0, [1483]), (78, .bipush 11, 2, 0, 0, 0, []), (80, .iaload, 1, 0, 0, 0, []), (81, .iadd, 1, 0, 0, 0, []), (82, .aload_n 0, 1, 0, 0, 0, []), (83, .getfield 7, 3, 12, 0, 0, [1483]), (86, .bipush 6, 2, 0, 0, 0, []), (88, .iaload, 1, 0, 0, 0, []), (89, .bipush 9, 2, 0, 0, 0, []), (91, .imul, 1, 0, 0, 0, []), (92, .iload_n 1, 1, 0, 0, 0, []), (93, .iadd, 1, 0, 0, 0, []), (94, .bipush 10, 2, 0, 0, 0, [])],
  [(96, .imul, 1, 0, 0, 0, []), (97, .aload_n 0, 1, 0, 0, 0, []), (98, .getfield 7, 3, 12, 0, 0, [1483]), (101, .bipush 45, 2, 0, 0, 0, []), (103, .iload_n 1, 1, 0, 0, 0, []), (104, .iadd, 1, 0, 0, 0, []), (105, .iaload, 1, 0, 0, 0, []), (106, .iadd, 1, 0, 0, 0, []), (107, .sipush 200, 3, 0, 0, 0, []), (110, .imul, 1, 0, 0, 0, []), (111, .iload_n 2, 1, 0, 0, 0, []), (112, .iadd, 1, 0, 0, 0, []), (113, .bipush 100, 2, 0, 0, 0, []), (115, .iadd, 1, 0, 0, 0, []), (116, .iastore, 1, 0, 0, 0, []), (117, .aload_n 0, 1, 0, 0, 0, []), (118, .getfield 7, 3, 12, 0, 0, [1483]), (121, .bipush 11, 2, 0, 0, 0, []), (123, .dup2, 1, 0, 0, 0, []), (124, .iaload, 1, 0, 0, 0, []), (125, .iconst 1, 1, 0, 0, 0, []), (126, .iadd, 1, 0, 0, 0, []), (127, .iastore, 1, 0, 0, 0, [])],
  [(128, .return_, 1, 0, 0, 0, [])]]
def mX12_write : xMeth := (yX12_write, cX12_write, 4, none, kX12_write)
def kX12_drawnBy : xC := [[(0, .aload_n 0, 1, 0, 0, 0, []), (1, .getfield 7, 3, 12, 0, 0, [1483]), (4, .bipush 7, 2, 0, 0, 0, []), (6, .iaload, 1, 0, 0, 0, []), (7, .iload_n 1, 1, 0, 0, 0, []), (8, .irem, 1, 0, 0, 0, []), (9, .istore_n 2, 1, 0, 0, 0, []), (10, .aload_n 0, 1, 0, 0, 0, []), (11, .invokevirtual 298, 3, 261, 1, 0, [1810, 1813, 123, 1812, 81, 12]), (14, .iload_n 2, 1, 0, 0, 0, []), (15, .ireturn, 1, 0, 0, 0, [])]]
def mX12_drawnBy : xMeth := (yX12_drawnBy, cX12_drawnBy, 3, (some FieldType.int), kX12_drawnBy)
def kX12_anew : xC := [[(0, .aload_n 0, 1, 0, 0, 0, []), (1, .getfield 7, 3, 12, 0, 0, [1483]), (4, .bipush 7, 2, 0, 0, 0, []), (6, .aload_n 0, 1, 0, 0, 0, []), (7, .getfield 7, 3, 12, 0, 0, [1483]), (10, .bipush 7, 2, 0, 0, 0, []), (12, .iaload, 1, 0, 0, 0, []), (13, .i2l, 1, 0, 0, 0, []), (14, .ldc2_w 301, 3, 0, 0, 661, [1814]), (17, .lmul, 1, 0, 0, 0, []), (18, .ldc2_w 303, 3, 0, 0, 541, [1815]), (21, .ladd, 1, 0, 0, 0, []), (22, .ldc2_w 305, 3, 0, 0, 30949, [1816]), (25, .lrem, 1, 0, 0, 0, []), (26, .l2i, 1, 0, 0, 0, []), (27, .iastore, 1, 0, 0, 0, []), (28, .return_, 1, 0, 0, 0, [])]]
def mX12_anew : xMeth := (yX12_anew, cX12_anew, 1, none, kX12_anew)
def kX12_canGrant : xC := [[(0, .iload_n 1, 1, 0, 0, 0, []), (1, .sipush (-999), 3, 0, 0, 0, []), (4, .sipush 999, 3, 0, 0, 0, []), (7, .invokestatic 72, 3, 197, 3, 0, [1584, 1586, 123, 1585]), (10, .ifCond .eq 32, 3, 0, 0, 0, []), (13, .iload_n 1, 1, 0, 0, 0, []), (14, .ifCond .eq 28, 3, 0, 0, 0, []), (17, .aload_n 0, 1, 0, 0, 0, []), (18, .getfield 7, 3, 12, 0, 0, [1483]), (21, .bipush 8, 2, 0, 0, 0, []), (23, .iaload, 1, 0, 0, 0, []), (24, .iload_n 1, 1, 0, 0, 0, []), (25, .iadd, 1, 0, 0, 0, []), (26, .sipush (-9999), 3, 0, 0, 0, []), (29, .sipush 9999, 3, 0, 0, 0, [])],
  [(32, .invokestatic 72, 3, 197, 3, 0, [1584, 1586, 123, 1585]), (35, .ifCond .eq 7, 3, 0, 0, 0, []), (38, .iconst 1, 1, 0, 0, 0, []), (39, .goto 4, 3, 0, 0, 0, []), (42, .iconst 0, 1, 0, 0, 0, []), (43, .ireturn, 1, 0, 0, 0, [])]]
def mX12_canGrant : xMeth := (yX12_canGrant, cX12_canGrant, 2, (some FieldType.boolean), kX12_canGrant)
def kX12_pass : xC := [[(0, .aload_n 0, 1, 0, 0, 0, []), (1, .invokevirtual 307, 3, 206, 1, 0, [1794, 1797, 123, 1796, 77, 12]), (4, .istore_n 1, 1, 0, 0, 0, []), (5, .iconst 0, 1, 0, 0, 0, []), (6, .istore_n 2, 1, 0, 0, 0, []), (7, .iconst 0, 1, 0, 0, 0, []), (8, .istore_n 3, 1, 0, 0, 0, []), (9, .iload_n 3, 1, 0, 0, 0, []), (10, .aload_n 0, 1, 0, 0, 0, []), (11, .getfield 7, 3, 12, 0, 0, [1483]), (14, .iconst 0, 1, 0, 0, 0, []), (15, .iaload, 1, 0, 0, 0, []), (16, .if_icmp .ge 65, 3, 0, 0, 0, []), (19, .iload_n 1, 1, 0, 0, 0, []), (20, .iload_n 3, 1, 0, 0, 0, []), (21, .invokestatic 76, 3, 199, 2, 0, [1660, 1662, 123, 1661]), (24, .ifCond .eq 51, 3, 0, 0, 0, []), (27, .aload_n 0, 1, 0, 0, 0, []), (28, .bipush 10, 2, 0, 0, 0, []), (30, .invokevirtual 310, 3, 260, 2, 0, [1806, 1809, 123, 1808, 80, 12])],
  [(33, .aload_n 0, 1, 0, 0, 0, []), (34, .iload_n 3, 1, 0, 0, 0, []), (35, .invokevirtual 313, 3, 257, 2, 0, [1817, 1820, 123, 1819, 82, 12]), (38, .if_icmp .lt 6, 3, 0, 0, 0, []), (41, .goto 34, 3, 0, 0, 0, []), (44, .aload_n 0, 1, 0, 0, 0, []), (45, .getfield 7, 3, 12, 0, 0, [1483]), (48, .bipush 13, 2, 0, 0, 0, []), (50, .iload_n 3, 1, 0, 0, 0, []), (51, .iadd, 1, 0, 0, 0, []), (52, .aload_n 0, 1, 0, 0, 0, []), (53, .getfield 7, 3, 12, 0, 0, [1483]), (56, .bipush 13, 2, 0, 0, 0, []), (58, .iload_n 3, 1, 0, 0, 0, []), (59, .iadd, 1, 0, 0, 0, []), (60, .iaload, 1, 0, 0, 0, []), (61, .iconst 1, 1, 0, 0, 0, []), (62, .iadd, 1, 0, 0, 0, []), (63, .i2l, 1, 0, 0, 0, [])],
  [(64, .iconst 0, 1, 0, 0, 0, []), (65, .sipush 9999, 3, 0, 0, 0, []), (68, .invokestatic 284, 3, 198, 3, 0, [1855, 1857, 123, 1856]), (71, .iastore, 1, 0, 0, 0, []), (72, .iinc 2 1, 3, 0, 0, 0, []), (75, .iinc 3 1, 3, 0, 0, 0, []), (78, .goto (-69), 3, 0, 0, 0, []), (81, .aload_n 0, 1, 0, 0, 0, []), (82, .dup, 1, 0, 0, 0, []), (83, .getfield 316, 3, 12, 24, 0, [1507]), (86, .iload_n 2, 1, 0, 0, 0, []), (87, .iadd, 1, 0, 0, 0, []), (88, .putfield 316, 3, 12, 24, 0, [1507]), (91, .aload_n 0, 1, 0, 0, 0, []), (92, .aload_n 0, 1, 0, 0, 0, []), (93, .getfield 7, 3, 12, 0, 0, [1483])],
  [(96, .iconst 2, 1, 0, 0, 0, []), (97, .iaload, 1, 0, 0, 0, []), (98, .iload_n 2, 1, 0, 0, 0, []), (99, .invokevirtual 319, 3, 258, 3, 0, [1858, 1861, 123, 1860, 87, 12]), (102, .istore_n 3, 1, 0, 0, 0, []), (103, .aload_n 0, 1, 0, 0, 0, []), (104, .getfield 7, 3, 12, 0, 0, [1483]), (107, .bipush 8, 2, 0, 0, 0, []), (109, .aload_n 0, 1, 0, 0, 0, []), (110, .getfield 7, 3, 12, 0, 0, [1483]), (113, .bipush 8, 2, 0, 0, 0, []), (115, .iaload, 1, 0, 0, 0, []), (116, .iload_n 3, 1, 0, 0, 0, []), (117, .iadd, 1, 0, 0, 0, []), (118, .i2l, 1, 0, 0, 0, []), (119, .sipush (-9999), 3, 0, 0, 0, []), (122, .sipush 9999, 3, 0, 0, 0, []), (125, .invokestatic 284, 3, 198, 3, 0, [1855, 1857, 123, 1856])],
  [(128, .iastore, 1, 0, 0, 0, []), (129, .aload_n 0, 1, 0, 0, 0, []), (130, .getfield 7, 3, 12, 0, 0, [1483]), (133, .bipush 9, 2, 0, 0, 0, []), (135, .iload_n 2, 1, 0, 0, 0, []), (136, .iastore, 1, 0, 0, 0, []), (137, .aload_n 0, 1, 0, 0, 0, []), (138, .getfield 7, 3, 12, 0, 0, [1483]), (141, .bipush 10, 2, 0, 0, 0, []), (143, .aload_n 0, 1, 0, 0, 0, []), (144, .getfield 7, 3, 12, 0, 0, [1483]), (147, .bipush 45, 2, 0, 0, 0, []), (149, .iload_n 2, 1, 0, 0, 0, []), (150, .iadd, 1, 0, 0, 0, []), (151, .iaload, 1, 0, 0, 0, []), (152, .iastore, 1, 0, 0, 0, []), (153, .aload_n 0, 1, 0, 0, 0, []), (154, .iload_n 2, 1, 0, 0, 0, []), (155, .iload_n 3, 1, 0, 0, 0, []), (156, .invokevirtual 322, 3, 259, 3, 0, [1862, 1865, 123, 1864, 88, 12]), (159, .aload_n 0, 1, 0, 0, 0, [])],
  [(160, .getfield 7, 3, 12, 0, 0, [1483]), (163, .bipush 6, 2, 0, 0, 0, []), (165, .dup2, 1, 0, 0, 0, []), (166, .iaload, 1, 0, 0, 0, []), (167, .iconst 1, 1, 0, 0, 0, []), (168, .iadd, 1, 0, 0, 0, []), (169, .iastore, 1, 0, 0, 0, []), (170, .return_, 1, 0, 0, 0, [])]]
def mX12_pass : xMeth := (yX12_pass, cX12_pass, 4, none, kX12_pass)
def kX12_keep : xC := [[(0, .aload_n 0, 1, 0, 0, 0, []), (1, .getfield 7, 3, 12, 0, 0, [1483]), (4, .iconst 3, 1, 0, 0, 0, []), (5, .iaload, 1, 0, 0, 0, []), (6, .bipush 30, 2, 0, 0, 0, []), (8, .if_icmp .ne 47, 3, 0, 0, 0, []), (11, .iconst 0, 1, 0, 0, 0, []), (12, .istore_n 1, 1, 0, 0, 0, []), (13, .iload_n 1, 1, 0, 0, 0, []), (14, .sipush 1160, 3, 0, 0, 0, []), (17, .if_icmp .ge 28, 3, 0, 0, 0, []), (20, .aload_n 0, 1, 0, 0, 0, []), (21, .getfield 7, 3, 12, 0, 0, [1483]), (24, .bipush 113, 2, 0, 0, 0, []), (26, .iload_n 1, 1, 0, 0, 0, []), (27, .iadd, 1, 0, 0, 0, []), (28, .aload_n 0, 1, 0, 0, 0, []), (29, .getfield 7, 3, 12, 0, 0, [1483])],
  [(32, .sipush 153, 3, 0, 0, 0, []), (35, .iload_n 1, 1, 0, 0, 0, []), (36, .iadd, 1, 0, 0, 0, []), (37, .iaload, 1, 0, 0, 0, []), (38, .iastore, 1, 0, 0, 0, []), (39, .iinc 1 1, 3, 0, 0, 0, []), (42, .goto (-29), 3, 0, 0, 0, []), (45, .aload_n 0, 1, 0, 0, 0, []), (46, .getfield 7, 3, 12, 0, 0, [1483]), (49, .iconst 3, 1, 0, 0, 0, []), (50, .dup2, 1, 0, 0, 0, []), (51, .iaload, 1, 0, 0, 0, []), (52, .iconst 1, 1, 0, 0, 0, []), (53, .isub, 1, 0, 0, 0, []), (54, .iastore, 1, 0, 0, 0, []), (55, .bipush 113, 2, 0, 0, 0, []), (57, .bipush 40, 2, 0, 0, 0, []), (59, .aload_n 0, 1, 0, 0, 0, []), (60, .getfield 7, 3, 12, 0, 0, [1483]), (63, .iconst 3, 1, 0, 0, 0, [])],
  [(64, .iaload, 1, 0, 0, 0, []), (65, .imul, 1, 0, 0, 0, []), (66, .iadd, 1, 0, 0, 0, []), (67, .istore_n 1, 1, 0, 0, 0, []), (68, .iconst 0, 1, 0, 0, 0, []), (69, .istore_n 2, 1, 0, 0, 0, []), (70, .iload_n 2, 1, 0, 0, 0, []), (71, .bipush 15, 2, 0, 0, 0, []), (73, .if_icmp .ge 26, 3, 0, 0, 0, []), (76, .aload_n 0, 1, 0, 0, 0, []), (77, .getfield 7, 3, 12, 0, 0, [1483]), (80, .iload_n 1, 1, 0, 0, 0, []), (81, .iload_n 2, 1, 0, 0, 0, []), (82, .iadd, 1, 0, 0, 0, []), (83, .aload_n 0, 1, 0, 0, 0, []), (84, .getfield 7, 3, 12, 0, 0, [1483]), (87, .bipush 6, 2, 0, 0, 0, []), (89, .iload_n 2, 1, 0, 0, 0, []), (90, .iadd, 1, 0, 0, 0, []), (91, .iaload, 1, 0, 0, 0, []), (92, .iastore, 1, 0, 0, 0, []), (93, .iinc 2 1, 3, 0, 0, 0, [])],
  [(96, .goto (-26), 3, 0, 0, 0, []), (99, .iconst 0, 1, 0, 0, 0, []), (100, .istore_n 2, 1, 0, 0, 0, []), (101, .iload_n 2, 1, 0, 0, 0, []), (102, .bipush 25, 2, 0, 0, 0, []), (104, .if_icmp .ge 30, 3, 0, 0, 0, []), (107, .aload_n 0, 1, 0, 0, 0, []), (108, .getfield 7, 3, 12, 0, 0, [1483]), (111, .iload_n 1, 1, 0, 0, 0, []), (112, .bipush 15, 2, 0, 0, 0, []), (114, .iadd, 1, 0, 0, 0, []), (115, .iload_n 2, 1, 0, 0, 0, []), (116, .iadd, 1, 0, 0, 0, []), (117, .aload_n 0, 1, 0, 0, 0, []), (118, .getfield 7, 3, 12, 0, 0, [1483]), (121, .sipush 1313, 3, 0, 0, 0, []), (124, .iload_n 2, 1, 0, 0, 0, []), (125, .iadd, 1, 0, 0, 0, []), (126, .iaload, 1, 0, 0, 0, []), (127, .iastore, 1, 0, 0, 0, [])],
  [(128, .iinc 2 1, 3, 0, 0, 0, []), (131, .goto (-30), 3, 0, 0, 0, []), (134, .aload_n 0, 1, 0, 0, 0, []), (135, .getfield 7, 3, 12, 0, 0, [1483]), (138, .iconst 3, 1, 0, 0, 0, []), (139, .dup2, 1, 0, 0, 0, []), (140, .iaload, 1, 0, 0, 0, []), (141, .iconst 1, 1, 0, 0, 0, []), (142, .iadd, 1, 0, 0, 0, []), (143, .iastore, 1, 0, 0, 0, []), (144, .return_, 1, 0, 0, 0, [])]]
def mX12_keep : xMeth := (yX12_keep, cX12_keep, 3, none, kX12_keep)
def kX12_undo : xC := [[(0, .aload_n 0, 1, 0, 0, 0, []), (1, .getfield 7, 3, 12, 0, 0, [1483]), (4, .iconst 3, 1, 0, 0, 0, []), (5, .iaload, 1, 0, 0, 0, []), (6, .ifCond .ne 5, 3, 0, 0, 0, []), (9, .iconst (-1), 1, 0, 0, 0, []), (10, .ireturn, 1, 0, 0, 0, []), (11, .aload_n 0, 1, 0, 0, 0, []), (12, .getfield 7, 3, 12, 0, 0, [1483]), (15, .iconst 3, 1, 0, 0, 0, []), (16, .dup2, 1, 0, 0, 0, []), (17, .iaload, 1, 0, 0, 0, []), (18, .iconst 1, 1, 0, 0, 0, []), (19, .isub, 1, 0, 0, 0, []), (20, .iastore, 1, 0, 0, 0, []), (21, .bipush 113, 2, 0, 0, 0, []), (23, .bipush 40, 2, 0, 0, 0, []), (25, .aload_n 0, 1, 0, 0, 0, []), (26, .getfield 7, 3, 12, 0, 0, [1483]), (29, .iconst 3, 1, 0, 0, 0, []), (30, .iaload, 1, 0, 0, 0, []), (31, .imul, 1, 0, 0, 0, [])],
  [(32, .iadd, 1, 0, 0, 0, []), (33, .istore_n 1, 1, 0, 0, 0, []), (34, .iconst 0, 1, 0, 0, 0, []), (35, .istore_n 2, 1, 0, 0, 0, []), (36, .iload_n 2, 1, 0, 0, 0, []), (37, .bipush 15, 2, 0, 0, 0, []), (39, .if_icmp .ge 26, 3, 0, 0, 0, []), (42, .aload_n 0, 1, 0, 0, 0, []), (43, .getfield 7, 3, 12, 0, 0, [1483]), (46, .bipush 6, 2, 0, 0, 0, []), (48, .iload_n 2, 1, 0, 0, 0, []), (49, .iadd, 1, 0, 0, 0, []), (50, .aload_n 0, 1, 0, 0, 0, []), (51, .getfield 7, 3, 12, 0, 0, [1483]), (54, .iload_n 1, 1, 0, 0, 0, []), (55, .iload_n 2, 1, 0, 0, 0, []), (56, .iadd, 1, 0, 0, 0, []), (57, .iaload, 1, 0, 0, 0, []), (58, .iastore, 1, 0, 0, 0, []), (59, .iinc 2 1, 3, 0, 0, 0, []), (62, .goto (-26), 3, 0, 0, 0, [])],
  [(65, .iconst 0, 1, 0, 0, 0, []), (66, .istore_n 2, 1, 0, 0, 0, []), (67, .iload_n 2, 1, 0, 0, 0, []), (68, .bipush 25, 2, 0, 0, 0, []), (70, .if_icmp .ge 30, 3, 0, 0, 0, []), (73, .aload_n 0, 1, 0, 0, 0, []), (74, .getfield 7, 3, 12, 0, 0, [1483]), (77, .sipush 1313, 3, 0, 0, 0, []), (80, .iload_n 2, 1, 0, 0, 0, []), (81, .iadd, 1, 0, 0, 0, []), (82, .aload_n 0, 1, 0, 0, 0, []), (83, .getfield 7, 3, 12, 0, 0, [1483]), (86, .iload_n 1, 1, 0, 0, 0, []), (87, .bipush 15, 2, 0, 0, 0, []), (89, .iadd, 1, 0, 0, 0, []), (90, .iload_n 2, 1, 0, 0, 0, []), (91, .iadd, 1, 0, 0, 0, []), (92, .iaload, 1, 0, 0, 0, []), (93, .iastore, 1, 0, 0, 0, []), (94, .iinc 2 1, 3, 0, 0, 0, [])],
  [(97, .goto (-30), 3, 0, 0, 0, []), (100, .aload_n 0, 1, 0, 0, 0, []), (101, .getfield 7, 3, 12, 0, 0, [1483]), (104, .iconst 3, 1, 0, 0, 0, []), (105, .iaload, 1, 0, 0, 0, []), (106, .ireturn, 1, 0, 0, 0, [])]]
def mX12_undo : xMeth := (yX12_undo, cX12_undo, 3, (some FieldType.int), kX12_undo)
def kX12_thin : xC := [[(0, .aload_n 0, 1, 0, 0, 0, []), (1, .iload_n 1, 1, 0, 0, 0, []), (2, .invokevirtual 325, 3, 201, 2, 0, [1758, 1761, 123, 1760, 71, 12]), (5, .ifCond .eq 11, 3, 0, 0, 0, []), (8, .aload_n 0, 1, 0, 0, 0, []), (9, .iload_n 1, 1, 0, 0, 0, []), (10, .invokevirtual 80, 3, 203, 2, 0, [1762, 1765, 123, 1764, 72, 12]), (13, .ifCond .eq 5, 3, 0, 0, 0, []), (16, .iconst 0, 1, 0, 0, 0, []), (17, .ireturn, 1, 0, 0, 0, []), (18, .aload_n 0, 1, 0, 0, 0, []), (19, .invokevirtual 328, 3, 264, 1, 0, [1766, 1769, 123, 1768, 73, 12]), (22, .aload_n 0, 1, 0, 0, 0, []), (23, .getfield 7, 3, 12, 0, 0, [1483]), (26, .bipush 12, 2, 0, 0, 0, []), (28, .dup2, 1, 0, 0, 0, []), (29, .iaload, 1, 0, 0, 0, []), (30, .iconst 1, 1, 0, 0, 0, []), (31, .iload_n 1, 1, 0, 0, 0, [])],
  [(32, .ishl, 1, 0, 0, 0, []), (33, .ior, 1, 0, 0, 0, []), (34, .iastore, 1, 0, 0, 0, []), (35, .iconst 1, 1, 0, 0, 0, []), (36, .ireturn, 1, 0, 0, 0, [])]]
def mX12_thin : xMeth := (yX12_thin, cX12_thin, 2, (some FieldType.boolean), kX12_thin)
def kX12_call : xC := [[(0, .aload_n 0, 1, 0, 0, 0, []), (1, .iload_n 1, 1, 0, 0, 0, []), (2, .invokevirtual 325, 3, 201, 2, 0, [1758, 1761, 123, 1760, 71, 12]), (5, .ifCond .eq 11, 3, 0, 0, 0, []), (8, .aload_n 0, 1, 0, 0, 0, []), (9, .iload_n 1, 1, 0, 0, 0, []), (10, .invokevirtual 80, 3, 203, 2, 0, [1762, 1765, 123, 1764, 72, 12]), (13, .ifCond .ne 5, 3, 0, 0, 0, []), (16, .iconst 0, 1, 0, 0, 0, []), (17, .ireturn, 1, 0, 0, 0, []), (18, .aload_n 0, 1, 0, 0, 0, []), (19, .invokevirtual 328, 3, 264, 1, 0, [1766, 1769, 123, 1768, 73, 12]), (22, .aload_n 0, 1, 0, 0, 0, []), (23, .getfield 7, 3, 12, 0, 0, [1483]), (26, .bipush 12, 2, 0, 0, 0, []), (28, .dup2, 1, 0, 0, 0, []), (29, .iaload, 1, 0, 0, 0, []), (30, .iconst 1, 1, 0, 0, 0, []), (31, .iload_n 1, 1, 0, 0, 0, [])],
  [(32, .ishl, 1, 0, 0, 0, []), (33, .ixor, 1, 0, 0, 0, []), (34, .iastore, 1, 0, 0, 0, []), (35, .iconst 1, 1, 0, 0, 0, []), (36, .ireturn, 1, 0, 0, 0, [])]]
def mX12_call : xMeth := (yX12_call, cX12_call, 2, (some FieldType.boolean), kX12_call)
def kX12_grant : xC := [[(0, .aload_n 0, 1, 0, 0, 0, []), (1, .iload_n 1, 1, 0, 0, 0, []), (2, .invokevirtual 331, 3, 262, 2, 0, [1778, 1781, 123, 1780, 74, 12]), (5, .ifCond .ne 5, 3, 0, 0, 0, []), (8, .iconst 0, 1, 0, 0, 0, []), (9, .ireturn, 1, 0, 0, 0, []), (10, .aload_n 0, 1, 0, 0, 0, []), (11, .invokevirtual 328, 3, 264, 1, 0, [1766, 1769, 123, 1768, 73, 12]), (14, .aload_n 0, 1, 0, 0, 0, []), (15, .getfield 7, 3, 12, 0, 0, [1483]), (18, .bipush 8, 2, 0, 0, 0, []), (20, .dup2, 1, 0, 0, 0, []), (21, .iaload, 1, 0, 0, 0, []), (22, .iload_n 1, 1, 0, 0, 0, []), (23, .iadd, 1, 0, 0, 0, []), (24, .iastore, 1, 0, 0, 0, []), (25, .iconst 1, 1, 0, 0, 0, []), (26, .ireturn, 1, 0, 0, 0, [])]]
def mX12_grant : xMeth := (yX12_grant, cX12_grant, 2, (some FieldType.boolean), kX12_grant)
def kX12_arePassed : xC := [[(0, .aload_n 0, 1, 0, 0, 0, []), (1, .iconst 0, 1, 0, 0, 0, []), (2, .putfield 316, 3, 12, 24, 0, [1507]), (5, .iconst 0, 1, 0, 0, 0, []), (6, .istore_n 2, 1, 0, 0, 0, []), (7, .iload_n 2, 1, 0, 0, 0, []), (8, .iload_n 1, 1, 0, 0, 0, []), (9, .if_icmp .ge 32, 3, 0, 0, 0, []), (12, .aload_n 0, 1, 0, 0, 0, []), (13, .getfield 7, 3, 12, 0, 0, [1483]), (16, .bipush 6, 2, 0, 0, 0, []), (18, .iaload, 1, 0, 0, 0, []), (19, .sipush 9999, 3, 0, 0, 0, []), (22, .if_icmp .ne 5, 3, 0, 0, 0, []), (25, .iconst 0, 1, 0, 0, 0, []), (26, .ireturn, 1, 0, 0, 0, []), (27, .aload_n 0, 1, 0, 0, 0, []), (28, .invokevirtual 328, 3, 264, 1, 0, [1766, 1769, 123, 1768, 73, 12]), (31, .aload_n 0, 1, 0, 0, 0, [])],
  [(32, .invokevirtual 334, 3, 263, 1, 0, [1790, 1793, 123, 1792, 76, 12]), (35, .iinc 2 1, 3, 0, 0, 0, []), (38, .goto (-31), 3, 0, 0, 0, []), (41, .iconst 1, 1, 0, 0, 0, []), (42, .ireturn, 1, 0, 0, 0, [])]]
def mX12_arePassed : xMeth := (yX12_arePassed, cX12_arePassed, 3, (some FieldType.boolean), kX12_arePassed)
def kX12_day : xC := [[(0, .iload_n 1, 1, 0, 0, 0, []), (1, .iconst 1, 1, 0, 0, 0, []), (2, .bipush 60, 2, 0, 0, 0, []), (4, .invokestatic 72, 3, 197, 3, 0, [1584, 1586, 123, 1585]), (7, .ifCond .eq 33, 3, 0, 0, 0, []), (10, .aload_n 0, 1, 0, 0, 0, []), (11, .getfield 7, 3, 12, 0, 0, [1483]), (14, .bipush 6, 2, 0, 0, 0, []), (16, .iaload, 1, 0, 0, 0, []), (17, .iload_n 1, 1, 0, 0, 0, []), (18, .iadd, 1, 0, 0, 0, []), (19, .sipush 9999, 3, 0, 0, 0, []), (22, .if_icmp .gt 18, 3, 0, 0, 0, []), (25, .aload_n 0, 1, 0, 0, 0, []), (26, .iload_n 1, 1, 0, 0, 0, []), (27, .invokevirtual 337, 3, 269, 2, 0, [1786, 1789, 123, 1788, 75, 12]), (30, .ifCond .eq 10, 3, 0, 0, 0, [])],
  [(33, .aload_n 0, 1, 0, 0, 0, []), (34, .getfield 316, 3, 12, 24, 0, [1507]), (37, .goto 4, 3, 0, 0, 0, []), (40, .iconst (-1), 1, 0, 0, 0, []), (41, .ireturn, 1, 0, 0, 0, [])]]
def mX12_day : xMeth := (yX12_day, cX12_day, 2, (some FieldType.int), kX12_day)
def kX12_isPlayed : xC := [[(0, .aload_n 0, 1, 0, 0, 0, []), (1, .getfield 16, 3, 12, 2, 0, [1485]), (4, .iload_n 1, 1, 0, 0, 0, []), (5, .iconst 1, 1, 0, 0, 0, []), (6, .iadd, 1, 0, 0, 0, []), (7, .iaload, 1, 0, 0, 0, []), (8, .istore_n 2, 1, 0, 0, 0, []), (9, .aload_n 0, 1, 0, 0, 0, []), (10, .getfield 16, 3, 12, 2, 0, [1485]), (13, .iload_n 1, 1, 0, 0, 0, []), (14, .iconst 2, 1, 0, 0, 0, []), (15, .iadd, 1, 0, 0, 0, []), (16, .iaload, 1, 0, 0, 0, []), (17, .istore_n 3, 1, 0, 0, 0, []), (18, .aload_n 0, 1, 0, 0, 0, []), (19, .getfield 16, 3, 12, 2, 0, [1485]), (22, .iload_n 1, 1, 0, 0, 0, []), (23, .iaload, 1, 0, 0, 0, []), (24, .tableswitch 87 2 7 #[40, 56, 63, 69, 75, 81], 40, 0, 0, 0, [])],
  [],
  [(64, .aload_n 0, 1, 0, 0, 0, []), (65, .iload_n 2, 1, 0, 0, 0, []), (66, .iconst 0, 1, 0, 0, 0, []), (67, .iload_n 3, 1, 0, 0, 0, []), (68, .invokevirtual 340, 3, 207, 4, 0, [1874, 1583, 123, 1581, 1582, 12]), (71, .ifCond .lt 7, 3, 0, 0, 0, []), (74, .iconst 1, 1, 0, 0, 0, []), (75, .goto 4, 3, 0, 0, 0, []), (78, .iconst 0, 1, 0, 0, 0, []), (79, .ireturn, 1, 0, 0, 0, []), (80, .aload_n 0, 1, 0, 0, 0, []), (81, .iload_n 2, 1, 0, 0, 0, []), (82, .iload_n 3, 1, 0, 0, 0, []), (83, .invokevirtual 343, 3, 208, 3, 0, [1875, 1590, 123, 1588, 1589, 12]), (86, .ireturn, 1, 0, 0, 0, []), (87, .aload_n 0, 1, 0, 0, 0, []), (88, .iload_n 2, 1, 0, 0, 0, []), (89, .invokevirtual 346, 3, 266, 2, 0, [1876, 1757, 123, 1755, 1756, 12]), (92, .ireturn, 1, 0, 0, 0, []), (93, .aload_n 0, 1, 0, 0, 0, []), (94, .iload_n 2, 1, 0, 0, 0, []), (95, .invokevirtual 349, 3, 267, 2, 0, [1877, 1773, 123, 1771, 1772, 12])],
  [(98, .ireturn, 1, 0, 0, 0, []), (99, .aload_n 0, 1, 0, 0, 0, []), (100, .iload_n 2, 1, 0, 0, 0, []), (101, .invokevirtual 352, 3, 268, 2, 0, [1878, 1777, 123, 1775, 1776, 12]), (104, .ireturn, 1, 0, 0, 0, []), (105, .aload_n 0, 1, 0, 0, 0, []), (106, .iload_n 2, 1, 0, 0, 0, []), (107, .invokevirtual 337, 3, 269, 2, 0, [1786, 1789, 123, 1788, 75, 12]), (110, .ireturn, 1, 0, 0, 0, []), (111, .iconst 1, 1, 0, 0, 0, []), (112, .ireturn, 1, 0, 0, 0, [])]]
def mX12_isPlayed : xMeth := (yX12_isPlayed, cX12_isPlayed, 4, (some FieldType.boolean), kX12_isPlayed)
def kX12_played : xC := [[(0, .iload_n 1, 1, 0, 0, 0, []), (1, .iconst 0, 1, 0, 0, 0, []), (2, .aload_n 0, 1, 0, 0, 0, []), (3, .getfield 7, 3, 12, 0, 0, [1483]), (6, .iconst 1, 1, 0, 0, 0, []), (7, .iaload, 1, 0, 0, 0, []), (8, .iconst 1, 1, 0, 0, 0, []), (9, .isub, 1, 0, 0, 0, []), (10, .invokestatic 72, 3, 197, 3, 0, [1584, 1586, 123, 1585]), (13, .ifCond .ne 6, 3, 0, 0, 0, []), (16, .bipush (-2), 2, 0, 0, 0, []), (18, .ireturn, 1, 0, 0, 0, []), (19, .iconst 0, 1, 0, 0, 0, []), (20, .istore_n 2, 1, 0, 0, 0, []), (21, .iload_n 2, 1, 0, 0, 0, []), (22, .aload_n 0, 1, 0, 0, 0, []), (23, .getfield 16, 3, 12, 2, 0, [1485]), (26, .sipush 681, 3, 0, 0, 0, []), (29, .iload_n 1, 1, 0, 0, 0, []), (30, .imul, 1, 0, 0, 0, []), (31, .iaload, 1, 0, 0, 0, [])],
  [(32, .if_icmp .ge 29, 3, 0, 0, 0, []), (35, .aload_n 0, 1, 0, 0, 0, []), (36, .sipush 681, 3, 0, 0, 0, []), (39, .iload_n 1, 1, 0, 0, 0, []), (40, .imul, 1, 0, 0, 0, []), (41, .iconst 1, 1, 0, 0, 0, []), (42, .iadd, 1, 0, 0, 0, []), (43, .iconst 3, 1, 0, 0, 0, []), (44, .iload_n 2, 1, 0, 0, 0, []), (45, .imul, 1, 0, 0, 0, []), (46, .iadd, 1, 0, 0, 0, []), (47, .invokevirtual 355, 3, 271, 2, 0, [1870, 1873, 123, 1872, 89, 12]), (50, .ifCond .ne 5, 3, 0, 0, 0, []), (53, .iload_n 2, 1, 0, 0, 0, []), (54, .ireturn, 1, 0, 0, 0, []), (55, .iinc 2 1, 3, 0, 0, 0, []), (58, .goto (-37), 3, 0, 0, 0, []), (61, .iconst (-1), 1, 0, 0, 0, []), (62, .ireturn, 1, 0, 0, 0, [])]]
def mX12_played : xMeth := (yX12_played, cX12_played, 3, (some FieldType.int), kX12_played)
def kX12_happens : xC := [[(0, .iload_n 1, 1, 0, 0, 0, []), (1, .bipush 6, 2, 0, 0, 0, []), (3, .idiv, 1, 0, 0, 0, []), (4, .bipush 8, 2, 0, 0, 0, []), (6, .irem, 1, 0, 0, 0, []), (7, .istore_n 2, 1, 0, 0, 0, []), (8, .iconst 1, 1, 0, 0, 0, []), (9, .iload_n 1, 1, 0, 0, 0, []), (10, .bipush 6, 2, 0, 0, 0, []), (12, .idiv, 1, 0, 0, 0, []), (13, .bipush 50, 2, 0, 0, 0, []), (15, .irem, 1, 0, 0, 0, []), (16, .iadd, 1, 0, 0, 0, []), (17, .istore_n 3, 1, 0, 0, 0, []), (18, .iload_n 1, 1, 0, 0, 0, []), (19, .bipush 6, 2, 0, 0, 0, []), (21, .irem, 1, 0, 0, 0, []), (22, .tableswitch 103 0 2 #[26, 57, 75], 26, 0, 0, 0, [])],
  [(48, .iload_n 1, 1, 0, 0, 0, []), (49, .iconst 4, 1, 0, 0, 0, []), (50, .irem, 1, 0, 0, 0, []), (51, .iconst 2, 1, 0, 0, 0, []), (52, .if_icmp .ne 90, 3, 0, 0, 0, []), (55, .aload_n 0, 1, 0, 0, 0, []), (56, .iload_n 2, 1, 0, 0, 0, []), (57, .invokevirtual 325, 3, 201, 2, 0, [1758, 1761, 123, 1760, 71, 12]), (60, .ifCond .eq 82, 3, 0, 0, 0, []), (63, .aload_n 0, 1, 0, 0, 0, [])],
  [(64, .getfield 7, 3, 12, 0, 0, [1483]), (67, .bipush 12, 2, 0, 0, 0, []), (69, .dup2, 1, 0, 0, 0, []), (70, .iaload, 1, 0, 0, 0, []), (71, .iconst 1, 1, 0, 0, 0, []), (72, .iload_n 2, 1, 0, 0, 0, []), (73, .ishl, 1, 0, 0, 0, []), (74, .ior, 1, 0, 0, 0, []), (75, .iastore, 1, 0, 0, 0, []), (76, .goto 66, 3, 0, 0, 0, []), (79, .aload_n 0, 1, 0, 0, 0, []), (80, .getfield 7, 3, 12, 0, 0, [1483]), (83, .bipush 12, 2, 0, 0, 0, []), (85, .dup2, 1, 0, 0, 0, []), (86, .iaload, 1, 0, 0, 0, []), (87, .iconst 1, 1, 0, 0, 0, []), (88, .iload_n 2, 1, 0, 0, 0, []), (89, .ishl, 1, 0, 0, 0, []), (90, .iconst (-1), 1, 0, 0, 0, []), (91, .ixor, 1, 0, 0, 0, []), (92, .iand, 1, 0, 0, 0, []), (93, .iastore, 1, 0, 0, 0, []), (94, .goto 48, 3, 0, 0, 0, [])],
  [(97, .iload_n 1, 1, 0, 0, 0, []), (98, .iconst 4, 1, 0, 0, 0, []), (99, .irem, 1, 0, 0, 0, []), (100, .ifCond .ne 42, 3, 0, 0, 0, []), (103, .aload_n 0, 1, 0, 0, 0, []), (104, .iload_n 3, 1, 0, 0, 0, []), (105, .invokevirtual 331, 3, 262, 2, 0, [1778, 1781, 123, 1780, 74, 12]), (108, .ifCond .eq 34, 3, 0, 0, 0, []), (111, .aload_n 0, 1, 0, 0, 0, []), (112, .getfield 7, 3, 12, 0, 0, [1483]), (115, .bipush 8, 2, 0, 0, 0, []), (117, .dup2, 1, 0, 0, 0, []), (118, .iaload, 1, 0, 0, 0, []), (119, .iload_n 3, 1, 0, 0, 0, []), (120, .iadd, 1, 0, 0, 0, []), (121, .iastore, 1, 0, 0, 0, []), (122, .goto 20, 3, 0, 0, 0, []), (125, .aload_n 0, 1, 0, 0, 0, []), (126, .getfield 7, 3, 12, 0, 0, [1483])],
  [(129, .bipush 6, 2, 0, 0, 0, []), (131, .iaload, 1, 0, 0, 0, []), (132, .sipush 9999, 3, 0, 0, 0, []), (135, .if_icmp .ge 7, 3, 0, 0, 0, []), (138, .aload_n 0, 1, 0, 0, 0, []), (139, .invokevirtual 334, 3, 263, 1, 0, [1790, 1793, 123, 1792, 76, 12]), (142, .return_, 1, 0, 0, 0, [])]]
def mX12_happens : xMeth := (yX12_happens, cX12_happens, 4, none, kX12_happens)
def kX12_years : xC := [[(0, .iload_n 1, 1, 0, 0, 0, []), (1, .iconst 0, 1, 0, 0, 0, []), (2, .sipush 9999, 3, 0, 0, 0, []), (5, .invokestatic 72, 3, 197, 3, 0, [1584, 1586, 123, 1585]), (8, .ifCond .eq 13, 3, 0, 0, 0, []), (11, .iload_n 2, 1, 0, 0, 0, []), (12, .iconst 1, 1, 0, 0, 0, []), (13, .bipush 40, 2, 0, 0, 0, []), (15, .invokestatic 72, 3, 197, 3, 0, [1584, 1586, 123, 1585]), (18, .ifCond .ne 5, 3, 0, 0, 0, []), (21, .iconst (-1), 1, 0, 0, 0, []), (22, .ireturn, 1, 0, 0, 0, []), (23, .aload_n 0, 1, 0, 0, 0, []), (24, .invokevirtual 328, 3, 264, 1, 0, [1766, 1769, 123, 1768, 73, 12]), (27, .aload_n 0, 1, 0, 0, 0, []), (28, .getfield 7, 3, 12, 0, 0, [1483]), (31, .bipush 7, 2, 0, 0, 0, [])],
  [(33, .iload_n 1, 1, 0, 0, 0, []), (34, .iconst 2, 1, 0, 0, 0, []), (35, .imul, 1, 0, 0, 0, []), (36, .sipush 419, 3, 0, 0, 0, []), (39, .iadd, 1, 0, 0, 0, []), (40, .iastore, 1, 0, 0, 0, []), (41, .iconst 0, 1, 0, 0, 0, []), (42, .istore_n 3, 1, 0, 0, 0, []), (43, .iload_n 3, 1, 0, 0, 0, []), (44, .iload_n 2, 1, 0, 0, 0, []), (45, .if_icmp .ge 28, 3, 0, 0, 0, []), (48, .aload_n 0, 1, 0, 0, 0, []), (49, .getfield 7, 3, 12, 0, 0, [1483]), (52, .bipush 7, 2, 0, 0, 0, []), (54, .iaload, 1, 0, 0, 0, []), (55, .istore 4, 2, 0, 0, 0, []), (57, .aload_n 0, 1, 0, 0, 0, []), (58, .invokevirtual 298, 3, 261, 1, 0, [1810, 1813, 123, 1812, 81, 12]), (61, .aload_n 0, 1, 0, 0, 0, []), (62, .iload 4, 2, 0, 0, 0, [])],
  [(64, .invokevirtual 358, 3, 273, 2, 0, [1883, 1886, 123, 1885, 90, 12]), (67, .iinc 3 1, 3, 0, 0, 0, []), (70, .goto (-27), 3, 0, 0, 0, []), (73, .aload_n 0, 1, 0, 0, 0, []), (74, .getfield 7, 3, 12, 0, 0, [1483]), (77, .bipush 6, 2, 0, 0, 0, []), (79, .iaload, 1, 0, 0, 0, []), (80, .ireturn, 1, 0, 0, 0, [])]]
def mX12_years : xMeth := (yX12_years, cX12_years, 5, (some FieldType.int), kX12_years)
def kX12_of : xC := [[(0, .aload_n 0, 1, 0, 0, 0, []), (1, .iload_n 1, 1, 0, 0, 0, []), (2, .invokevirtual 325, 3, 201, 2, 0, [1758, 1761, 123, 1760, 71, 12]), (5, .ifCond .ne 5, 3, 0, 0, 0, []), (8, .iconst (-1), 1, 0, 0, 0, []), (9, .ireturn, 1, 0, 0, 0, []), (10, .iload_n 2, 1, 0, 0, 0, []), (11, .tableswitch 97 0 5 #[37, 47, 57, 67, 81, 91], 37, 0, 0, 0, [])],
  [(48, .aload_n 0, 1, 0, 0, 0, []), (49, .getfield 7, 3, 12, 0, 0, [1483]), (52, .bipush 21, 2, 0, 0, 0, []), (54, .iload_n 1, 1, 0, 0, 0, []), (55, .iadd, 1, 0, 0, 0, []), (56, .iaload, 1, 0, 0, 0, []), (57, .ireturn, 1, 0, 0, 0, []), (58, .aload_n 0, 1, 0, 0, 0, []), (59, .getfield 7, 3, 12, 0, 0, [1483]), (62, .bipush 29, 2, 0, 0, 0, [])],
  [(64, .iload_n 1, 1, 0, 0, 0, []), (65, .iadd, 1, 0, 0, 0, []), (66, .iaload, 1, 0, 0, 0, []), (67, .ireturn, 1, 0, 0, 0, []), (68, .aload_n 0, 1, 0, 0, 0, []), (69, .getfield 7, 3, 12, 0, 0, [1483]), (72, .bipush 37, 2, 0, 0, 0, []), (74, .iload_n 1, 1, 0, 0, 0, []), (75, .iadd, 1, 0, 0, 0, []), (76, .iaload, 1, 0, 0, 0, []), (77, .ireturn, 1, 0, 0, 0, []), (78, .aload_n 0, 1, 0, 0, 0, []), (79, .iload_n 1, 1, 0, 0, 0, []), (80, .invokevirtual 80, 3, 203, 2, 0, [1762, 1765, 123, 1764, 72, 12]), (83, .ifCond .eq 7, 3, 0, 0, 0, []), (86, .iconst 1, 1, 0, 0, 0, []), (87, .goto 4, 3, 0, 0, 0, []), (90, .iconst 0, 1, 0, 0, 0, []), (91, .ireturn, 1, 0, 0, 0, []), (92, .aload_n 0, 1, 0, 0, 0, []), (93, .getfield 7, 3, 12, 0, 0, [1483])],
  [(96, .bipush 13, 2, 0, 0, 0, []), (98, .iload_n 1, 1, 0, 0, 0, []), (99, .iadd, 1, 0, 0, 0, []), (100, .iaload, 1, 0, 0, 0, []), (101, .ireturn, 1, 0, 0, 0, []), (102, .aload_n 0, 1, 0, 0, 0, []), (103, .iload_n 1, 1, 0, 0, 0, []), (104, .invokevirtual 313, 3, 257, 2, 0, [1817, 1820, 123, 1819, 82, 12]), (107, .ireturn, 1, 0, 0, 0, []), (108, .iconst (-1), 1, 0, 0, 0, []), (109, .ireturn, 1, 0, 0, 0, [])]]
def mX12_of : xMeth := (yX12_of, cX12_of, 3, (some FieldType.int), kX12_of)
def kX12_is : xC := [[(0, .iload_n 1, 1, 0, 0, 0, []), (1, .iconst 0, 1, 0, 0, 0, []), (2, .iconst 4, 1, 0, 0, 0, []), (3, .invokestatic 72, 3, 197, 3, 0, [1584, 1586, 123, 1585]), (6, .ifCond .eq 15, 3, 0, 0, 0, []), (9, .aload_n 0, 1, 0, 0, 0, []), (10, .getfield 7, 3, 12, 0, 0, [1483]), (13, .bipush 6, 2, 0, 0, 0, []), (15, .iload_n 1, 1, 0, 0, 0, []), (16, .iadd, 1, 0, 0, 0, []), (17, .iaload, 1, 0, 0, 0, []), (18, .goto 6, 3, 0, 0, 0, []), (21, .ldc_w 361, 3, 0, 0, (-100000), [1895]), (24, .ireturn, 1, 0, 0, 0, [])]]
def mX12_is : xMeth := (yX12_is, cX12_is, 2, (some FieldType.int), kX12_is)
def kX12_things : xC := [[(0, .iload_n 1, 1, 0, 0, 0, []), (1, .invokestatic 91, 3, 202, 1, 0, [1591, 1593, 123, 1592]), (4, .ifCond .eq 15, 3, 0, 0, 0, []), (7, .aload_n 0, 1, 0, 0, 0, []), (8, .getfield 7, 3, 12, 0, 0, [1483]), (11, .bipush 45, 2, 0, 0, 0, []), (13, .iload_n 1, 1, 0, 0, 0, []), (14, .iadd, 1, 0, 0, 0, []), (15, .iaload, 1, 0, 0, 0, []), (16, .goto 4, 3, 0, 0, 0, []), (19, .iconst (-1), 1, 0, 0, 0, []), (20, .ireturn, 1, 0, 0, 0, [])]]
def mX12_things : xMeth := (yX12_things, cX12_things, 2, (some FieldType.int), kX12_things)
def kX12_brings : xC := [[(0, .iload_n 1, 1, 0, 0, 0, []), (1, .invokestatic 91, 3, 202, 1, 0, [1591, 1593, 123, 1592]), (4, .ifCond .eq 17, 3, 0, 0, 0, []), (7, .aload_n 0, 1, 0, 0, 0, []), (8, .aload_n 0, 1, 0, 0, 0, []), (9, .getfield 7, 3, 12, 0, 0, [1483]), (12, .iconst 2, 1, 0, 0, 0, []), (13, .iaload, 1, 0, 0, 0, []), (14, .iload_n 1, 1, 0, 0, 0, []), (15, .invokevirtual 319, 3, 258, 3, 0, [1858, 1861, 123, 1860, 87, 12]), (18, .goto 6, 3, 0, 0, 0, []), (21, .sipush (-1000), 3, 0, 0, 0, []), (24, .ireturn, 1, 0, 0, 0, [])]]
def mX12_brings : xMeth := (yX12_brings, cX12_brings, 2, (some FieldType.int), kX12_brings)
def kX12_lineOf : xC := [[(0, .aload_n 0, 1, 0, 0, 0, []), (1, .getfield 7, 3, 12, 0, 0, [1483]), (4, .sipush 1313, 3, 0, 0, 0, []), (7, .iload_n 1, 1, 0, 0, 0, []), (8, .iadd, 1, 0, 0, 0, []), (9, .iaload, 1, 0, 0, 0, []), (10, .istore_n 3, 1, 0, 0, 0, []), (11, .iload_n 2, 1, 0, 0, 0, []), (12, .ifCond .ne 11, 3, 0, 0, 0, []), (15, .iload_n 3, 1, 0, 0, 0, []), (16, .sipush 18000, 3, 0, 0, 0, []), (19, .idiv, 1, 0, 0, 0, []), (20, .goto 43, 3, 0, 0, 0, []), (23, .iload_n 2, 1, 0, 0, 0, []), (24, .iconst 1, 1, 0, 0, 0, []), (25, .if_icmp .ne 14, 3, 0, 0, 0, []), (28, .iload_n 3, 1, 0, 0, 0, []), (29, .sipush 2000, 3, 0, 0, 0, [])],
  [(32, .idiv, 1, 0, 0, 0, []), (33, .bipush 9, 2, 0, 0, 0, []), (35, .irem, 1, 0, 0, 0, []), (36, .goto 27, 3, 0, 0, 0, []), (39, .iload_n 2, 1, 0, 0, 0, []), (40, .iconst 2, 1, 0, 0, 0, []), (41, .if_icmp .ne 14, 3, 0, 0, 0, []), (44, .iload_n 3, 1, 0, 0, 0, []), (45, .sipush 200, 3, 0, 0, 0, []), (48, .idiv, 1, 0, 0, 0, []), (49, .bipush 10, 2, 0, 0, 0, []), (51, .irem, 1, 0, 0, 0, []), (52, .goto 11, 3, 0, 0, 0, []), (55, .iload_n 3, 1, 0, 0, 0, []), (56, .sipush 200, 3, 0, 0, 0, []), (59, .irem, 1, 0, 0, 0, []), (60, .bipush 100, 2, 0, 0, 0, []), (62, .isub, 1, 0, 0, 0, []), (63, .ireturn, 1, 0, 0, 0, [])]]
def mX12_lineOf : xMeth := (yX12_lineOf, cX12_lineOf, 4, (some FieldType.int), kX12_lineOf)
def kX12_book : xC := [[(0, .iload_n 1, 1, 0, 0, 0, []), (1, .iconst (-1), 1, 0, 0, 0, []), (2, .if_icmp .ne 11, 3, 0, 0, 0, []), (5, .aload_n 0, 1, 0, 0, 0, []), (6, .getfield 7, 3, 12, 0, 0, [1483]), (9, .bipush 11, 2, 0, 0, 0, []), (11, .iaload, 1, 0, 0, 0, []), (12, .ireturn, 1, 0, 0, 0, []), (13, .iload_n 1, 1, 0, 0, 0, []), (14, .iconst 0, 1, 0, 0, 0, []), (15, .aload_n 0, 1, 0, 0, 0, []), (16, .getfield 7, 3, 12, 0, 0, [1483]), (19, .bipush 11, 2, 0, 0, 0, []), (21, .iaload, 1, 0, 0, 0, []), (22, .iconst 1, 1, 0, 0, 0, []), (23, .isub, 1, 0, 0, 0, []), (24, .invokestatic 72, 3, 197, 3, 0, [1584, 1586, 123, 1585]), (27, .ifCond .eq 21, 3, 0, 0, 0, []), (30, .iload_n 2, 1, 0, 0, 0, []), (31, .iconst 0, 1, 0, 0, 0, [])],
  [(32, .iconst 3, 1, 0, 0, 0, []), (33, .invokestatic 72, 3, 197, 3, 0, [1584, 1586, 123, 1585]), (36, .ifCond .eq 12, 3, 0, 0, 0, []), (39, .aload_n 0, 1, 0, 0, 0, []), (40, .iload_n 1, 1, 0, 0, 0, []), (41, .iload_n 2, 1, 0, 0, 0, []), (42, .invokevirtual 362, 3, 279, 3, 0, [1908, 1911, 123, 1910, 91, 12]), (45, .goto 6, 3, 0, 0, 0, []), (48, .sipush (-1000), 3, 0, 0, 0, []), (51, .ireturn, 1, 0, 0, 0, [])]]
def mX12_book : xMeth := (yX12_book, cX12_book, 3, (some FieldType.int), kX12_book)
def kX12_ledger : xC := [[(0, .iload_n 1, 1, 0, 0, 0, []), (1, .iconst 0, 1, 0, 0, 0, []), (2, .bipush 9, 2, 0, 0, 0, []), (4, .invokestatic 72, 3, 197, 3, 0, [1584, 1586, 123, 1585]), (7, .ifCond .ne 6, 3, 0, 0, 0, []), (10, .bipush (-2), 2, 0, 0, 0, []), (12, .ireturn, 1, 0, 0, 0, []), (13, .iconst 0, 1, 0, 0, 0, []), (14, .istore_n 2, 1, 0, 0, 0, []), (15, .iconst 0, 1, 0, 0, 0, []), (16, .istore_n 3, 1, 0, 0, 0, []), (17, .iload_n 3, 1, 0, 0, 0, []), (18, .aload_n 0, 1, 0, 0, 0, []), (19, .getfield 7, 3, 12, 0, 0, [1483]), (22, .bipush 11, 2, 0, 0, 0, []), (24, .iaload, 1, 0, 0, 0, []), (25, .if_icmp .ge 27, 3, 0, 0, 0, []), (28, .iload_n 2, 1, 0, 0, 0, []), (29, .aload_n 0, 1, 0, 0, 0, []), (30, .iload_n 3, 1, 0, 0, 0, []), (31, .iconst 2, 1, 0, 0, 0, [])],
  [(32, .invokevirtual 362, 3, 279, 3, 0, [1908, 1911, 123, 1910, 91, 12]), (35, .iload_n 1, 1, 0, 0, 0, []), (36, .if_icmp .ne 7, 3, 0, 0, 0, []), (39, .iconst 1, 1, 0, 0, 0, []), (40, .goto 4, 3, 0, 0, 0, []), (43, .iconst 0, 1, 0, 0, 0, []), (44, .iadd, 1, 0, 0, 0, []), (45, .istore_n 2, 1, 0, 0, 0, []), (46, .iinc 3 1, 3, 0, 0, 0, []), (49, .goto (-32), 3, 0, 0, 0, []), (52, .iload_n 2, 1, 0, 0, 0, []), (53, .ireturn, 1, 0, 0, 0, [])]]
def mX12_ledger : xMeth := (yX12_ledger, cX12_ledger, 4, (some FieldType.int), kX12_ledger)
def kX12_eldest : xC := [[(0, .iconst (-1), 1, 0, 0, 0, []), (1, .istore_n 1, 1, 0, 0, 0, []), (2, .iconst 0, 1, 0, 0, 0, []), (3, .istore_n 2, 1, 0, 0, 0, []), (4, .iload_n 2, 1, 0, 0, 0, []), (5, .aload_n 0, 1, 0, 0, 0, []), (6, .getfield 7, 3, 12, 0, 0, [1483]), (9, .iconst 0, 1, 0, 0, 0, []), (10, .iaload, 1, 0, 0, 0, []), (11, .if_icmp .ge 41, 3, 0, 0, 0, []), (14, .aload_n 0, 1, 0, 0, 0, []), (15, .getfield 7, 3, 12, 0, 0, [1483]), (18, .bipush 13, 2, 0, 0, 0, []), (20, .iload_n 2, 1, 0, 0, 0, []), (21, .iadd, 1, 0, 0, 0, []), (22, .iaload, 1, 0, 0, 0, []), (23, .iload_n 1, 1, 0, 0, 0, []), (24, .iconst (-1), 1, 0, 0, 0, []), (25, .if_icmp .ne 7, 3, 0, 0, 0, []), (28, .iconst 0, 1, 0, 0, 0, []), (29, .goto 12, 3, 0, 0, 0, [])],
  [(32, .aload_n 0, 1, 0, 0, 0, []), (33, .getfield 7, 3, 12, 0, 0, [1483]), (36, .bipush 13, 2, 0, 0, 0, []), (38, .iload_n 1, 1, 0, 0, 0, []), (39, .iadd, 1, 0, 0, 0, []), (40, .iaload, 1, 0, 0, 0, []), (41, .if_icmp .le 5, 3, 0, 0, 0, []), (44, .iload_n 2, 1, 0, 0, 0, []), (45, .istore_n 1, 1, 0, 0, 0, []), (46, .iinc 2 1, 3, 0, 0, 0, []), (49, .goto (-45), 3, 0, 0, 0, []), (52, .iload_n 1, 1, 0, 0, 0, []), (53, .ireturn, 1, 0, 0, 0, [])]]
def mX12_eldest : xMeth := (yX12_eldest, cX12_eldest, 3, (some FieldType.int), kX12_eldest)
def kX12_due : xC := [[(0, .aload_n 0, 1, 0, 0, 0, []), (1, .invokevirtual 307, 3, 206, 1, 0, [1794, 1797, 123, 1796, 77, 12]), (4, .ireturn, 1, 0, 0, 0, [])]]
def mX12_due : xMeth := (yX12_due, cX12_due, 1, (some FieldType.int), kX12_due)
def kX12_foretold : xC := [[(0, .iload_n 1, 1, 0, 0, 0, []), (1, .iconst 1, 1, 0, 0, 0, []), (2, .bipush 60, 2, 0, 0, 0, []), (4, .invokestatic 72, 3, 197, 3, 0, [1584, 1586, 123, 1585]), (7, .ifCond .eq 12, 3, 0, 0, 0, []), (10, .iload_n 2, 1, 0, 0, 0, []), (11, .iconst 0, 1, 0, 0, 0, []), (12, .iconst 1, 1, 0, 0, 0, []), (13, .invokestatic 72, 3, 197, 3, 0, [1584, 1586, 123, 1585]), (16, .ifCond .ne 7, 3, 0, 0, 0, []), (19, .ldc_w 361, 3, 0, 0, (-100000), [1895]), (22, .ireturn, 1, 0, 0, 0, []), (23, .bipush 6, 2, 0, 0, 0, []), (25, .istore_n 3, 1, 0, 0, 0, []), (26, .iload_n 3, 1, 0, 0, 0, []), (27, .bipush 21, 2, 0, 0, 0, []), (29, .if_icmp .ge 21, 3, 0, 0, 0, [])],
  [(32, .aload_n 0, 1, 0, 0, 0, []), (33, .getfield 47, 3, 12, 25, 0, [1508]), (36, .iload_n 3, 1, 0, 0, 0, []), (37, .aload_n 0, 1, 0, 0, 0, []), (38, .getfield 7, 3, 12, 0, 0, [1483]), (41, .iload_n 3, 1, 0, 0, 0, []), (42, .iaload, 1, 0, 0, 0, []), (43, .iastore, 1, 0, 0, 0, []), (44, .iinc 3 1, 3, 0, 0, 0, []), (47, .goto (-21), 3, 0, 0, 0, []), (50, .aload_n 0, 1, 0, 0, 0, []), (51, .iconst 0, 1, 0, 0, 0, []), (52, .putfield 43, 3, 12, 23, 3, [1506]), (55, .iconst 0, 1, 0, 0, 0, []), (56, .istore_n 3, 1, 0, 0, 0, []), (57, .iload_n 3, 1, 0, 0, 0, []), (58, .iload_n 1, 1, 0, 0, 0, []), (59, .if_icmp .ge 26, 3, 0, 0, 0, []), (62, .aload_n 0, 1, 0, 0, 0, []), (63, .getfield 7, 3, 12, 0, 0, [1483])],
  [(66, .bipush 6, 2, 0, 0, 0, []), (68, .iaload, 1, 0, 0, 0, []), (69, .sipush 9999, 3, 0, 0, 0, []), (72, .if_icmp .ge 7, 3, 0, 0, 0, []), (75, .aload_n 0, 1, 0, 0, 0, []), (76, .invokevirtual 334, 3, 263, 1, 0, [1790, 1793, 123, 1792, 76, 12]), (79, .iinc 3 1, 3, 0, 0, 0, []), (82, .goto (-25), 3, 0, 0, 0, []), (85, .aload_n 0, 1, 0, 0, 0, []), (86, .getfield 7, 3, 12, 0, 0, [1483]), (89, .bipush 8, 2, 0, 0, 0, []), (91, .iload_n 2, 1, 0, 0, 0, []), (92, .iadd, 1, 0, 0, 0, []), (93, .iaload, 1, 0, 0, 0, []), (94, .istore_n 3, 1, 0, 0, 0, []), (95, .bipush 6, 2, 0, 0, 0, [])],
  [(97, .istore 4, 2, 0, 0, 0, []), (99, .iload 4, 2, 0, 0, 0, []), (101, .bipush 21, 2, 0, 0, 0, []), (103, .if_icmp .ge 23, 3, 0, 0, 0, []), (106, .aload_n 0, 1, 0, 0, 0, []), (107, .getfield 7, 3, 12, 0, 0, [1483]), (110, .iload 4, 2, 0, 0, 0, []), (112, .aload_n 0, 1, 0, 0, 0, []), (113, .getfield 47, 3, 12, 25, 0, [1508]), (116, .iload 4, 2, 0, 0, 0, []), (118, .iaload, 1, 0, 0, 0, []), (119, .iastore, 1, 0, 0, 0, []), (120, .iinc 4 1, 3, 0, 0, 0, []), (123, .goto (-24), 3, 0, 0, 0, []), (126, .aload_n 0, 1, 0, 0, 0, []), (127, .iconst 1, 1, 0, 0, 0, [])],
  [(128, .putfield 43, 3, 12, 23, 3, [1506]), (131, .iload_n 3, 1, 0, 0, 0, []), (132, .ireturn, 1, 0, 0, 0, [])]]
def mX12_foretold : xMeth := (yX12_foretold, cX12_foretold, 5, (some FieldType.int), kX12_foretold)
def kX12_divisor : xC := [[(0, .lload_n 0, 1, 0, 0, 0, []), (1, .lstore 4, 2, 0, 0, 0, []), (3, .lload_n 2, 1, 0, 0, 0, []), (4, .lstore 6, 2, 0, 0, 0, []), (6, .lload 6, 2, 0, 0, 0, []), (8, .lconst 0, 1, 0, 0, 0, []), (9, .lcmp, 1, 0, 0, 0, []), (10, .ifCond .eq 21, 3, 0, 0, 0, []), (13, .lload 4, 2, 0, 0, 0, []), (15, .lload 6, 2, 0, 0, 0, []), (17, .lrem, 1, 0, 0, 0, []), (18, .lstore 8, 2, 0, 0, 0, []), (20, .lload 6, 2, 0, 0, 0, []), (22, .lstore 4, 2, 0, 0, 0, []), (24, .lload 8, 2, 0, 0, 0, []), (26, .lstore 6, 2, 0, 0, 0, []), (28, .goto (-22), 3, 0, 0, 0, []), (31, .lload 4, 2, 0, 0, 0, [])],
  [(33, .lreturn, 1, 0, 0, 0, [])]]
def mX12_divisor : xMeth := (yX12_divisor, cX12_divisor, 10, (some FieldType.long), kX12_divisor)
def kX12_part : xC := [[(0, .iload 4, 2, 0, 0, 0, []), (2, .ifCond .eq 7, 3, 0, 0, 0, []), (5, .lload_n 2, 1, 0, 0, 0, []), (6, .goto 4, 3, 0, 0, 0, []), (9, .lload_n 0, 1, 0, 0, 0, []), (10, .lload_n 0, 1, 0, 0, 0, []), (11, .lload_n 2, 1, 0, 0, 0, []), (12, .invokestatic 365, 3, 285, 2, 0, [1949, 1951, 123, 1950]), (15, .ldiv, 1, 0, 0, 0, []), (16, .lreturn, 1, 0, 0, 0, [])]]
def mX12_part : xMeth := (yX12_part, cX12_part, 5, (some FieldType.long), kX12_part)
def kX12_noRows : xC := [[(0, .iconst 0, 1, 0, 0, 0, []), (1, .istore_n 1, 1, 0, 0, 0, []), (2, .iload_n 1, 1, 0, 0, 0, []), (3, .bipush 13, 2, 0, 0, 0, []), (5, .if_icmp .ge 24, 3, 0, 0, 0, []), (8, .aload_n 0, 1, 0, 0, 0, []), (9, .getfield 50, 3, 12, 26, 0, [1509]), (12, .iload_n 1, 1, 0, 0, 0, []), (13, .iload_n 1, 1, 0, 0, 0, []), (14, .ifCond .ne 7, 3, 0, 0, 0, []), (17, .lconst 1, 1, 0, 0, 0, []), (18, .goto 4, 3, 0, 0, 0, []), (21, .lconst 0, 1, 0, 0, 0, []), (22, .lastore, 1, 0, 0, 0, []), (23, .iinc 1 1, 3, 0, 0, 0, []), (26, .goto (-24), 3, 0, 0, 0, []), (29, .return_, 1, 0, 0, 0, [])]]
def mX12_noRows : xMeth := (yX12_noRows, cX12_noRows, 2, none, kX12_noRows)
def kX12_oneMore : xC := [[(0, .bipush 12, 2, 0, 0, 0, []), (2, .istore_n 2, 1, 0, 0, 0, []), (3, .iload_n 2, 1, 0, 0, 0, []), (4, .ifCond .lt 47, 3, 0, 0, 0, []), (7, .aload_n 0, 1, 0, 0, 0, []), (8, .getfield 50, 3, 12, 26, 0, [1509]), (11, .iload_n 2, 1, 0, 0, 0, []), (12, .aload_n 0, 1, 0, 0, 0, []), (13, .getfield 50, 3, 12, 26, 0, [1509]), (16, .iload_n 2, 1, 0, 0, 0, []), (17, .laload, 1, 0, 0, 0, []), (18, .bipush 10, 2, 0, 0, 0, []), (20, .iload_n 1, 1, 0, 0, 0, []), (21, .isub, 1, 0, 0, 0, []), (22, .i2l, 1, 0, 0, 0, []), (23, .lmul, 1, 0, 0, 0, []), (24, .iload_n 2, 1, 0, 0, 0, []), (25, .ifCond .le 17, 3, 0, 0, 0, []), (28, .aload_n 0, 1, 0, 0, 0, []), (29, .getfield 50, 3, 12, 26, 0, [1509])],
  [(32, .iload_n 2, 1, 0, 0, 0, []), (33, .iconst 1, 1, 0, 0, 0, []), (34, .isub, 1, 0, 0, 0, []), (35, .laload, 1, 0, 0, 0, []), (36, .iload_n 1, 1, 0, 0, 0, []), (37, .i2l, 1, 0, 0, 0, []), (38, .lmul, 1, 0, 0, 0, []), (39, .goto 4, 3, 0, 0, 0, []), (42, .lconst 0, 1, 0, 0, 0, []), (43, .ladd, 1, 0, 0, 0, []), (44, .lastore, 1, 0, 0, 0, []), (45, .iinc 2 (-1), 3, 0, 0, 0, []), (48, .goto (-45), 3, 0, 0, 0, []), (51, .return_, 1, 0, 0, 0, [])]]
def mX12_oneMore : xMeth := (yX12_oneMore, cX12_oneMore, 3, none, kX12_oneMore)
def kX12_layRows : xC := [[(0, .aload_n 0, 1, 0, 0, 0, []), (1, .invokevirtual 369, 3, 287, 1, 0, [1937, 1940, 123, 1939, 93, 12]), (4, .lconst 1, 1, 0, 0, 0, []), (5, .lstore_n 2, 1, 0, 0, 0, []), (6, .iconst 0, 1, 0, 0, 0, []), (7, .istore 4, 2, 0, 0, 0, []), (9, .iload 4, 2, 0, 0, 0, []), (11, .aload_n 0, 1, 0, 0, 0, []), (12, .getfield 7, 3, 12, 0, 0, [1483]), (15, .iconst 0, 1, 0, 0, 0, []), (16, .iaload, 1, 0, 0, 0, []), (17, .if_icmp .ge 37, 3, 0, 0, 0, []), (20, .iload_n 1, 1, 0, 0, 0, []), (21, .iload 4, 2, 0, 0, 0, []), (23, .invokestatic 76, 3, 199, 2, 0, [1660, 1662, 123, 1661]), (26, .ifCond .ne 6, 3, 0, 0, 0, []), (29, .goto 19, 3, 0, 0, 0, [])],
  [(32, .aload_n 0, 1, 0, 0, 0, []), (33, .aload_n 0, 1, 0, 0, 0, []), (34, .iload 4, 2, 0, 0, 0, []), (36, .invokevirtual 313, 3, 257, 2, 0, [1817, 1820, 123, 1819, 82, 12]), (39, .invokevirtual 372, 3, 288, 2, 0, [1941, 1944, 123, 1943, 94, 12]), (42, .lload_n 2, 1, 0, 0, 0, []), (43, .ldc2_w 375, 3, 0, 0, 10, [1945]), (46, .lmul, 1, 0, 0, 0, []), (47, .lstore_n 2, 1, 0, 0, 0, []), (48, .iinc 4 1, 3, 0, 0, 0, []), (51, .goto (-42), 3, 0, 0, 0, []), (54, .lload_n 2, 1, 0, 0, 0, []), (55, .lreturn, 1, 0, 0, 0, [])]]
def mX12_layRows : xMeth := (yX12_layRows, cX12_layRows, 5, (some FieldType.long), kX12_layRows)
def kX12_likely : xC := [[(0, .iload_n 1, 1, 0, 0, 0, []), (1, .invokestatic 91, 3, 202, 1, 0, [1591, 1593, 123, 1592]), (4, .ifCond .ne 7, 3, 0, 0, 0, []), (7, .ldc2_w 377, 3, 0, 0, (-1), [1932]), (10, .lreturn, 1, 0, 0, 0, []), (11, .aload_n 0, 1, 0, 0, 0, []), (12, .aload_n 0, 1, 0, 0, 0, []), (13, .invokevirtual 307, 3, 206, 1, 0, [1794, 1797, 123, 1796, 77, 12]), (16, .invokevirtual 379, 3, 289, 2, 0, [1933, 1936, 123, 1935, 92, 12]), (19, .lstore_n 3, 1, 0, 0, 0, []), (20, .aload_n 0, 1, 0, 0, 0, []), (21, .getfield 50, 3, 12, 26, 0, [1509]), (24, .iload_n 1, 1, 0, 0, 0, []), (25, .laload, 1, 0, 0, 0, []), (26, .lload_n 3, 1, 0, 0, 0, []), (27, .iload_n 2, 1, 0, 0, 0, []), (28, .invokestatic 383, 3, 286, 3, 0, [1946, 1948, 123, 1947]), (31, .lreturn, 1, 0, 0, 0, [])]]
def mX12_likely : xMeth := (yX12_likely, cX12_likely, 5, (some FieldType.long), kX12_likely)
def kX12_mean : xC := [[(0, .lconst 0, 1, 0, 0, 0, []), (1, .lstore_n 2, 1, 0, 0, 0, []), (2, .iconst 0, 1, 0, 0, 0, []), (3, .istore 4, 2, 0, 0, 0, []), (5, .iload 4, 2, 0, 0, 0, []), (7, .aload_n 0, 1, 0, 0, 0, []), (8, .getfield 7, 3, 12, 0, 0, [1483]), (11, .iconst 0, 1, 0, 0, 0, []), (12, .iaload, 1, 0, 0, 0, []), (13, .if_icmp .ge 33, 3, 0, 0, 0, []), (16, .lload_n 2, 1, 0, 0, 0, []), (17, .aload_n 0, 1, 0, 0, 0, []), (18, .iload 4, 2, 0, 0, 0, []), (20, .iconst 0, 1, 0, 0, 0, []), (21, .invokevirtual 84, 3, 204, 3, 0, [1802, 1805, 123, 1804, 79, 12]), (24, .ifCond .eq 13, 3, 0, 0, 0, []), (27, .aload_n 0, 1, 0, 0, 0, []), (28, .iload 4, 2, 0, 0, 0, []), (30, .invokevirtual 313, 3, 257, 2, 0, [1817, 1820, 123, 1819, 82, 12])],
  [(33, .i2l, 1, 0, 0, 0, []), (34, .goto 4, 3, 0, 0, 0, []), (37, .lconst 0, 1, 0, 0, 0, []), (38, .ladd, 1, 0, 0, 0, []), (39, .lstore_n 2, 1, 0, 0, 0, []), (40, .iinc 4 1, 3, 0, 0, 0, []), (43, .goto (-38), 3, 0, 0, 0, []), (46, .lload_n 2, 1, 0, 0, 0, []), (47, .ldc2_w 375, 3, 0, 0, 10, [1945]), (50, .iload_n 1, 1, 0, 0, 0, []), (51, .invokestatic 383, 3, 286, 3, 0, [1946, 1948, 123, 1947]), (54, .lreturn, 1, 0, 0, 0, [])]]
def mX12_mean : xMeth := (yX12_mean, cX12_mean, 5, (some FieldType.long), kX12_mean)
def kX12_best : xC := [[(0, .iload_n 1, 1, 0, 0, 0, []), (1, .invokestatic 91, 3, 202, 1, 0, [1591, 1593, 123, 1592]), (4, .ifCond .ne 5, 3, 0, 0, 0, []), (7, .iconst (-1), 1, 0, 0, 0, []), (8, .ireturn, 1, 0, 0, 0, []), (9, .aload_n 0, 1, 0, 0, 0, []), (10, .invokevirtual 307, 3, 206, 1, 0, [1794, 1797, 123, 1796, 77, 12]), (13, .istore_n 3, 1, 0, 0, 0, []), (14, .iconst 0, 1, 0, 0, 0, []), (15, .istore 4, 2, 0, 0, 0, []), (17, .ldc2_w 377, 3, 0, 0, (-1), [1932]), (20, .lstore 5, 2, 0, 0, 0, []), (22, .iconst 0, 1, 0, 0, 0, []), (23, .istore 7, 2, 0, 0, 0, []), (25, .iload 7, 2, 0, 0, 0, []), (27, .sipush 256, 3, 0, 0, 0, []), (30, .if_icmp .ge 84, 3, 0, 0, 0, [])],
  [(33, .iload 7, 2, 0, 0, 0, []), (35, .iload_n 3, 1, 0, 0, 0, []), (36, .iconst (-1), 1, 0, 0, 0, []), (37, .ixor, 1, 0, 0, 0, []), (38, .iand, 1, 0, 0, 0, []), (39, .ifCond .eq 6, 3, 0, 0, 0, []), (42, .goto 66, 3, 0, 0, 0, []), (45, .ldc2_w 387, 3, 0, 0, 100000000, [1960]), (48, .aload_n 0, 1, 0, 0, 0, []), (49, .iload_n 3, 1, 0, 0, 0, []), (50, .iload 7, 2, 0, 0, 0, []), (52, .iconst (-1), 1, 0, 0, 0, []), (53, .ixor, 1, 0, 0, 0, []), (54, .iand, 1, 0, 0, 0, []), (55, .invokevirtual 379, 3, 289, 2, 0, [1933, 1936, 123, 1935, 92, 12]), (58, .ldiv, 1, 0, 0, 0, []), (59, .aload_n 0, 1, 0, 0, 0, []), (60, .getfield 50, 3, 12, 26, 0, [1509]), (63, .iload_n 1, 1, 0, 0, 0, [])],
  [(64, .laload, 1, 0, 0, 0, []), (65, .lmul, 1, 0, 0, 0, []), (66, .lstore 8, 2, 0, 0, 0, []), (68, .lload 8, 2, 0, 0, 0, []), (70, .lload 5, 2, 0, 0, 0, []), (72, .lcmp, 1, 0, 0, 0, []), (73, .ifCond .lt 35, 3, 0, 0, 0, []), (76, .lload 8, 2, 0, 0, 0, []), (78, .lload 5, 2, 0, 0, 0, []), (80, .lcmp, 1, 0, 0, 0, []), (81, .ifCond .ne 19, 3, 0, 0, 0, []), (84, .iload 7, 2, 0, 0, 0, []), (86, .invokestatic 288, 3, 200, 1, 0, [1825, 1827, 123, 1826]), (89, .iload 4, 2, 0, 0, 0, []), (91, .invokestatic 288, 3, 200, 1, 0, [1825, 1827, 123, 1826]), (94, .if_icmp .lt 6, 3, 0, 0, 0, [])],
  [(97, .goto 11, 3, 0, 0, 0, []), (100, .lload 8, 2, 0, 0, 0, []), (102, .lstore 5, 2, 0, 0, 0, []), (104, .iload 7, 2, 0, 0, 0, []), (106, .istore 4, 2, 0, 0, 0, []), (108, .iinc 7 1, 3, 0, 0, 0, []), (111, .goto (-86), 3, 0, 0, 0, []), (114, .iload_n 2, 1, 0, 0, 0, []), (115, .ifCond .eq 11, 3, 0, 0, 0, []), (118, .iload 4, 2, 0, 0, 0, []), (120, .invokestatic 288, 3, 200, 1, 0, [1825, 1827, 123, 1826]), (123, .goto 5, 3, 0, 0, 0, []), (126, .iload 4, 2, 0, 0, 0, [])],
  [(128, .ireturn, 1, 0, 0, 0, [])]]
def mX12_best : xMeth := (yX12_best, cX12_best, 10, (some FieldType.int), kX12_best)
def kX12_morning : xC := [[(0, .iload_n 1, 1, 0, 0, 0, []), (1, .iconst (-1), 1, 0, 0, 0, []), (2, .if_icmp .ne 12, 3, 0, 0, 0, []), (5, .aload_n 0, 1, 0, 0, 0, []), (6, .getfield 7, 3, 12, 0, 0, [1483]), (9, .iconst 4, 1, 0, 0, 0, []), (10, .iconst 0, 1, 0, 0, 0, []), (11, .iastore, 1, 0, 0, 0, []), (12, .iconst 0, 1, 0, 0, 0, []), (13, .ireturn, 1, 0, 0, 0, []), (14, .iload_n 1, 1, 0, 0, 0, []), (15, .iconst 0, 1, 0, 0, 0, []), (16, .bipush 99, 2, 0, 0, 0, []), (18, .invokestatic 72, 3, 197, 3, 0, [1584, 1586, 123, 1585]), (21, .ifCond .eq 14, 3, 0, 0, 0, []), (24, .aload_n 0, 1, 0, 0, 0, []), (25, .getfield 7, 3, 12, 0, 0, [1483]), (28, .iconst 4, 1, 0, 0, 0, []), (29, .iaload, 1, 0, 0, 0, []), (30, .bipush 12, 2, 0, 0, 0, [])],
  [(32, .if_icmp .ne 6, 3, 0, 0, 0, []), (35, .bipush (-2), 2, 0, 0, 0, []), (37, .ireturn, 1, 0, 0, 0, []), (38, .aload_n 0, 1, 0, 0, 0, []), (39, .getfield 7, 3, 12, 0, 0, [1483]), (42, .bipush 54, 2, 0, 0, 0, []), (44, .iconst 2, 1, 0, 0, 0, []), (45, .aload_n 0, 1, 0, 0, 0, []), (46, .getfield 7, 3, 12, 0, 0, [1483]), (49, .iconst 4, 1, 0, 0, 0, []), (50, .iaload, 1, 0, 0, 0, []), (51, .imul, 1, 0, 0, 0, []), (52, .iadd, 1, 0, 0, 0, []), (53, .iload_n 1, 1, 0, 0, 0, []), (54, .iastore, 1, 0, 0, 0, []), (55, .aload_n 0, 1, 0, 0, 0, []), (56, .getfield 7, 3, 12, 0, 0, [1483]), (59, .bipush 54, 2, 0, 0, 0, []), (61, .iconst 2, 1, 0, 0, 0, []), (62, .aload_n 0, 1, 0, 0, 0, []), (63, .getfield 7, 3, 12, 0, 0, [1483])],
  [(66, .iconst 4, 1, 0, 0, 0, []), (67, .iaload, 1, 0, 0, 0, []), (68, .imul, 1, 0, 0, 0, []), (69, .iadd, 1, 0, 0, 0, []), (70, .iconst 1, 1, 0, 0, 0, []), (71, .iadd, 1, 0, 0, 0, []), (72, .iload_n 2, 1, 0, 0, 0, []), (73, .ifCond .eq 7, 3, 0, 0, 0, []), (76, .iconst 1, 1, 0, 0, 0, []), (77, .goto 4, 3, 0, 0, 0, []), (80, .iconst 0, 1, 0, 0, 0, []), (81, .iastore, 1, 0, 0, 0, []), (82, .aload_n 0, 1, 0, 0, 0, []), (83, .getfield 7, 3, 12, 0, 0, [1483]), (86, .iconst 4, 1, 0, 0, 0, []), (87, .dup2, 1, 0, 0, 0, []), (88, .iaload, 1, 0, 0, 0, []), (89, .iconst 1, 1, 0, 0, 0, []), (90, .iadd, 1, 0, 0, 0, []), (91, .iastore, 1, 0, 0, 0, []), (92, .aload_n 0, 1, 0, 0, 0, []), (93, .getfield 7, 3, 12, 0, 0, [1483])],
  [(96, .iconst 4, 1, 0, 0, 0, []), (97, .iaload, 1, 0, 0, 0, []), (98, .ireturn, 1, 0, 0, 0, [])]]
def mX12_morning : xMeth := (yX12_morning, cX12_morning, 3, (some FieldType.int), kX12_morning)
def kX12_isHabit : xC := [[(0, .bipush 54, 2, 0, 0, 0, []), (2, .istore_n 3, 1, 0, 0, 0, []), (3, .iload_n 3, 1, 0, 0, 0, []), (4, .bipush 54, 2, 0, 0, 0, []), (6, .iconst 2, 1, 0, 0, 0, []), (7, .aload_n 0, 1, 0, 0, 0, []), (8, .getfield 7, 3, 12, 0, 0, [1483]), (11, .iconst 4, 1, 0, 0, 0, []), (12, .iaload, 1, 0, 0, 0, []), (13, .imul, 1, 0, 0, 0, []), (14, .iadd, 1, 0, 0, 0, []), (15, .if_icmp .ge 39, 3, 0, 0, 0, []), (18, .aload_n 0, 1, 0, 0, 0, []), (19, .getfield 7, 3, 12, 0, 0, [1483]), (22, .iload_n 3, 1, 0, 0, 0, []), (23, .iaload, 1, 0, 0, 0, []), (24, .iload_n 1, 1, 0, 0, 0, []), (25, .irem, 1, 0, 0, 0, []), (26, .iload_n 2, 1, 0, 0, 0, []), (27, .if_icmp .ne 7, 3, 0, 0, 0, []), (30, .iconst 1, 1, 0, 0, 0, []), (31, .goto 4, 3, 0, 0, 0, [])],
  [(34, .iconst 0, 1, 0, 0, 0, []), (35, .aload_n 0, 1, 0, 0, 0, []), (36, .getfield 7, 3, 12, 0, 0, [1483]), (39, .iload_n 3, 1, 0, 0, 0, []), (40, .iconst 1, 1, 0, 0, 0, []), (41, .iadd, 1, 0, 0, 0, []), (42, .iaload, 1, 0, 0, 0, []), (43, .if_icmp .eq 5, 3, 0, 0, 0, []), (46, .iconst 0, 1, 0, 0, 0, []), (47, .ireturn, 1, 0, 0, 0, []), (48, .iinc 3 2, 3, 0, 0, 0, []), (51, .goto (-48), 3, 0, 0, 0, []), (54, .iconst 1, 1, 0, 0, 0, []), (55, .ireturn, 1, 0, 0, 0, [])]]
def mX12_isHabit : xMeth := (yX12_isHabit, cX12_isHabit, 4, (some FieldType.boolean), kX12_isHabit)
def kX12_habits : xC := [[(0, .iconst 0, 1, 0, 0, 0, []), (1, .istore_n 1, 1, 0, 0, 0, []), (2, .iconst 1, 1, 0, 0, 0, []), (3, .istore_n 2, 1, 0, 0, 0, []), (4, .iload_n 2, 1, 0, 0, 0, []), (5, .bipush 12, 2, 0, 0, 0, []), (7, .if_icmp .gt 39, 3, 0, 0, 0, []), (10, .iconst 0, 1, 0, 0, 0, []), (11, .istore_n 3, 1, 0, 0, 0, []), (12, .iload_n 3, 1, 0, 0, 0, []), (13, .iload_n 2, 1, 0, 0, 0, []), (14, .if_icmp .ge 26, 3, 0, 0, 0, []), (17, .iload_n 1, 1, 0, 0, 0, []), (18, .aload_n 0, 1, 0, 0, 0, []), (19, .iload_n 2, 1, 0, 0, 0, []), (20, .iload_n 3, 1, 0, 0, 0, []), (21, .invokevirtual 389, 3, 294, 3, 0, [1969, 1972, 123, 1971, 95, 12]), (24, .ifCond .eq 7, 3, 0, 0, 0, []), (27, .iconst 1, 1, 0, 0, 0, []), (28, .goto 4, 3, 0, 0, 0, []), (31, .iconst 0, 1, 0, 0, 0, [])],
  [(32, .iadd, 1, 0, 0, 0, []), (33, .istore_n 1, 1, 0, 0, 0, []), (34, .iinc 3 1, 3, 0, 0, 0, []), (37, .goto (-25), 3, 0, 0, 0, []), (40, .iinc 2 1, 3, 0, 0, 0, []), (43, .goto (-39), 3, 0, 0, 0, []), (46, .iload_n 1, 1, 0, 0, 0, []), (47, .ireturn, 1, 0, 0, 0, [])]]
def mX12_habits : xMeth := (yX12_habits, cX12_habits, 4, (some FieldType.int), kX12_habits)
def kX12_firstHabit : xC := [[(0, .iconst 1, 1, 0, 0, 0, []), (1, .istore_n 1, 1, 0, 0, 0, []), (2, .iload_n 1, 1, 0, 0, 0, []), (3, .bipush 12, 2, 0, 0, 0, []), (5, .if_icmp .gt 38, 3, 0, 0, 0, []), (8, .iconst 0, 1, 0, 0, 0, []), (9, .istore_n 2, 1, 0, 0, 0, []), (10, .iload_n 2, 1, 0, 0, 0, []), (11, .iload_n 1, 1, 0, 0, 0, []), (12, .if_icmp .ge 25, 3, 0, 0, 0, []), (15, .aload_n 0, 1, 0, 0, 0, []), (16, .iload_n 1, 1, 0, 0, 0, []), (17, .iload_n 2, 1, 0, 0, 0, []), (18, .invokevirtual 389, 3, 294, 3, 0, [1969, 1972, 123, 1971, 95, 12]), (21, .ifCond .eq 10, 3, 0, 0, 0, []), (24, .bipush 100, 2, 0, 0, 0, []), (26, .iload_n 1, 1, 0, 0, 0, []), (27, .imul, 1, 0, 0, 0, []), (28, .iload_n 2, 1, 0, 0, 0, []), (29, .iadd, 1, 0, 0, 0, []), (30, .ireturn, 1, 0, 0, 0, []), (31, .iinc 2 1, 3, 0, 0, 0, [])],
  [(34, .goto (-24), 3, 0, 0, 0, []), (37, .iinc 1 1, 3, 0, 0, 0, []), (40, .goto (-38), 3, 0, 0, 0, []), (43, .iconst (-1), 1, 0, 0, 0, []), (44, .ireturn, 1, 0, 0, 0, [])]]
def mX12_firstHabit : xMeth := (yX12_firstHabit, cX12_firstHabit, 3, (some FieldType.int), kX12_firstHabit)
def kX12_habit : xC := [[(0, .aload_n 0, 1, 0, 0, 0, []), (1, .invokevirtual 392, 3, 296, 1, 0, [1977, 1980, 123, 1979, 96, 12]), (4, .istore_n 2, 1, 0, 0, 0, []), (5, .iload_n 2, 1, 0, 0, 0, []), (6, .iconst (-1), 1, 0, 0, 0, []), (7, .if_icmp .eq 12, 3, 0, 0, 0, []), (10, .iload_n 1, 1, 0, 0, 0, []), (11, .iconst 0, 1, 0, 0, 0, []), (12, .iconst 2, 1, 0, 0, 0, []), (13, .invokestatic 72, 3, 197, 3, 0, [1584, 1586, 123, 1585]), (16, .ifCond .ne 5, 3, 0, 0, 0, []), (19, .iconst (-1), 1, 0, 0, 0, []), (20, .ireturn, 1, 0, 0, 0, []), (21, .iload_n 1, 1, 0, 0, 0, []), (22, .iconst 2, 1, 0, 0, 0, []), (23, .if_icmp .ge 19, 3, 0, 0, 0, []), (26, .iload_n 1, 1, 0, 0, 0, []), (27, .ifCond .ne 10, 3, 0, 0, 0, []), (30, .iload_n 2, 1, 0, 0, 0, []), (31, .bipush 100, 2, 0, 0, 0, [])],
  [(33, .idiv, 1, 0, 0, 0, []), (34, .goto 7, 3, 0, 0, 0, []), (37, .iload_n 2, 1, 0, 0, 0, []), (38, .bipush 100, 2, 0, 0, 0, []), (40, .irem, 1, 0, 0, 0, []), (41, .ireturn, 1, 0, 0, 0, []), (42, .iconst 0, 1, 0, 0, 0, []), (43, .istore_n 3, 1, 0, 0, 0, []), (44, .bipush 54, 2, 0, 0, 0, []), (46, .istore 4, 2, 0, 0, 0, []), (48, .iload 4, 2, 0, 0, 0, []), (50, .bipush 54, 2, 0, 0, 0, []), (52, .iconst 2, 1, 0, 0, 0, []), (53, .aload_n 0, 1, 0, 0, 0, []), (54, .getfield 7, 3, 12, 0, 0, [1483]), (57, .iconst 4, 1, 0, 0, 0, []), (58, .iaload, 1, 0, 0, 0, []), (59, .imul, 1, 0, 0, 0, []), (60, .iadd, 1, 0, 0, 0, []), (61, .if_icmp .ge 34, 3, 0, 0, 0, [])],
  [(64, .aload_n 0, 1, 0, 0, 0, []), (65, .getfield 7, 3, 12, 0, 0, [1483]), (68, .iload 4, 2, 0, 0, 0, []), (70, .iaload, 1, 0, 0, 0, []), (71, .iload_n 3, 1, 0, 0, 0, []), (72, .if_icmp .lt 15, 3, 0, 0, 0, []), (75, .aload_n 0, 1, 0, 0, 0, []), (76, .getfield 7, 3, 12, 0, 0, [1483]), (79, .iload 4, 2, 0, 0, 0, []), (81, .iaload, 1, 0, 0, 0, []), (82, .iconst 1, 1, 0, 0, 0, []), (83, .iadd, 1, 0, 0, 0, []), (84, .goto 4, 3, 0, 0, 0, []), (87, .iload_n 3, 1, 0, 0, 0, []), (88, .istore_n 3, 1, 0, 0, 0, []), (89, .iinc 4 2, 3, 0, 0, 0, []), (92, .goto (-44), 3, 0, 0, 0, []), (95, .iload_n 3, 1, 0, 0, 0, [])],
  [(96, .iload_n 2, 1, 0, 0, 0, []), (97, .bipush 100, 2, 0, 0, 0, []), (99, .idiv, 1, 0, 0, 0, []), (100, .irem, 1, 0, 0, 0, []), (101, .iload_n 2, 1, 0, 0, 0, []), (102, .bipush 100, 2, 0, 0, 0, []), (104, .irem, 1, 0, 0, 0, []), (105, .if_icmp .eq 9, 3, 0, 0, 0, []), (108, .iinc 3 1, 3, 0, 0, 0, []), (111, .goto (-16), 3, 0, 0, 0, []), (114, .iload_n 3, 1, 0, 0, 0, []), (115, .ireturn, 1, 0, 0, 0, [])]]
def mX12_habit : xMeth := (yX12_habit, cX12_habit, 5, (some FieldType.int), kX12_habit)
def kX12_whom : xC := [[(0, .iconst 0, 1, 0, 0, 0, []), (1, .istore_n 1, 1, 0, 0, 0, []), (2, .iconst 0, 1, 0, 0, 0, []), (3, .istore_n 2, 1, 0, 0, 0, []), (4, .iload_n 2, 1, 0, 0, 0, []), (5, .aload_n 0, 1, 0, 0, 0, []), (6, .getfield 7, 3, 12, 0, 0, [1483]), (9, .iconst 0, 1, 0, 0, 0, []), (10, .iaload, 1, 0, 0, 0, []), (11, .if_icmp .ge 44, 3, 0, 0, 0, []), (14, .iload_n 1, 1, 0, 0, 0, []), (15, .aload_n 0, 1, 0, 0, 0, []), (16, .aload_n 0, 1, 0, 0, 0, []), (17, .getfield 7, 3, 12, 0, 0, [1483]), (20, .bipush 21, 2, 0, 0, 0, []), (22, .iload_n 2, 1, 0, 0, 0, []), (23, .iadd, 1, 0, 0, 0, []), (24, .iaload, 1, 0, 0, 0, []), (25, .aload_n 0, 1, 0, 0, 0, []), (26, .getfield 7, 3, 12, 0, 0, [1483]), (29, .bipush 29, 2, 0, 0, 0, []), (31, .iload_n 2, 1, 0, 0, 0, [])],
  [(32, .iadd, 1, 0, 0, 0, []), (33, .iaload, 1, 0, 0, 0, []), (34, .invokevirtual 389, 3, 294, 3, 0, [1969, 1972, 123, 1971, 95, 12]), (37, .ifCond .eq 9, 3, 0, 0, 0, []), (40, .iconst 1, 1, 0, 0, 0, []), (41, .iload_n 2, 1, 0, 0, 0, []), (42, .ishl, 1, 0, 0, 0, []), (43, .goto 4, 3, 0, 0, 0, []), (46, .iconst 0, 1, 0, 0, 0, []), (47, .ior, 1, 0, 0, 0, []), (48, .istore_n 1, 1, 0, 0, 0, []), (49, .iinc 2 1, 3, 0, 0, 0, []), (52, .goto (-48), 3, 0, 0, 0, []), (55, .iload_n 1, 1, 0, 0, 0, []), (56, .ireturn, 1, 0, 0, 0, [])]]
def mX12_whom : xMeth := (yX12_whom, cX12_whom, 3, (some FieldType.int), kX12_whom)
def kX12_rota : xC := [[(0, .iload_n 1, 1, 0, 0, 0, []), (1, .iconst 0, 1, 0, 0, 0, []), (2, .sipush 999, 3, 0, 0, 0, []), (5, .invokestatic 72, 3, 197, 3, 0, [1584, 1586, 123, 1585]), (8, .ifCond .eq 11, 3, 0, 0, 0, []), (11, .aload_n 0, 1, 0, 0, 0, []), (12, .iload_n 1, 1, 0, 0, 0, []), (13, .invokevirtual 87, 3, 205, 2, 0, [1798, 1801, 123, 1800, 78, 12]), (16, .goto 4, 3, 0, 0, 0, []), (19, .iconst (-1), 1, 0, 0, 0, []), (20, .ireturn, 1, 0, 0, 0, [])]]
def mX12_rota : xMeth := (yX12_rota, cX12_rota, 2, (some FieldType.int), kX12_rota)
def kX12_gather : xC := [[(0, .iconst 1, 1, 0, 0, 0, []), (1, .aload_n 0, 1, 0, 0, 0, []), (2, .getfield 7, 3, 12, 0, 0, [1483]), (5, .iconst 0, 1, 0, 0, 0, []), (6, .iaload, 1, 0, 0, 0, []), (7, .ishl, 1, 0, 0, 0, []), (8, .iconst 1, 1, 0, 0, 0, []), (9, .isub, 1, 0, 0, 0, []), (10, .aload_n 0, 1, 0, 0, 0, []), (11, .getfield 7, 3, 12, 0, 0, [1483]), (14, .bipush 12, 2, 0, 0, 0, []), (16, .iaload, 1, 0, 0, 0, []), (17, .iconst (-1), 1, 0, 0, 0, []), (18, .ixor, 1, 0, 0, 0, []), (19, .iand, 1, 0, 0, 0, []), (20, .istore_n 1, 1, 0, 0, 0, []), (21, .iconst 0, 1, 0, 0, 0, []), (22, .istore_n 2, 1, 0, 0, 0, []), (23, .iload_n 2, 1, 0, 0, 0, []), (24, .sipush 27720, 3, 0, 0, 0, []), (27, .if_icmp .ge 32, 3, 0, 0, 0, []), (30, .iload_n 1, 1, 0, 0, 0, []), (31, .ifCond .eq 28, 3, 0, 0, 0, [])],
  [(34, .aload_n 0, 1, 0, 0, 0, []), (35, .iload_n 2, 1, 0, 0, 0, []), (36, .invokevirtual 87, 3, 205, 2, 0, [1798, 1801, 123, 1800, 78, 12]), (39, .iload_n 1, 1, 0, 0, 0, []), (40, .if_icmp .ne 13, 3, 0, 0, 0, []), (43, .aload_n 0, 1, 0, 0, 0, []), (44, .getfield 7, 3, 12, 0, 0, [1483]), (47, .bipush 6, 2, 0, 0, 0, []), (49, .iaload, 1, 0, 0, 0, []), (50, .iload_n 2, 1, 0, 0, 0, []), (51, .iadd, 1, 0, 0, 0, []), (52, .ireturn, 1, 0, 0, 0, []), (53, .iinc 2 1, 3, 0, 0, 0, []), (56, .goto (-33), 3, 0, 0, 0, []), (59, .iconst (-1), 1, 0, 0, 0, []), (60, .ireturn, 1, 0, 0, 0, [])]]
def mX12_gather : xMeth := (yX12_gather, cX12_gather, 3, (some FieldType.int), kX12_gather)
def kX12_comes : xC := [[(0, .iload_n 1, 1, 0, 0, 0, []), (1, .invokestatic 91, 3, 202, 1, 0, [1591, 1593, 123, 1592]), (4, .ifCond .ne 5, 3, 0, 0, 0, []), (7, .iconst (-1), 1, 0, 0, 0, []), (8, .ireturn, 1, 0, 0, 0, []), (9, .iconst 0, 1, 0, 0, 0, []), (10, .istore_n 2, 1, 0, 0, 0, []), (11, .iload_n 2, 1, 0, 0, 0, []), (12, .bipush 60, 2, 0, 0, 0, []), (14, .if_icmp .gt 97, 3, 0, 0, 0, []), (17, .iconst 0, 1, 0, 0, 0, []), (18, .istore_n 3, 1, 0, 0, 0, []), (19, .iconst 0, 1, 0, 0, 0, []), (20, .istore 4, 2, 0, 0, 0, []), (22, .iconst 0, 1, 0, 0, 0, []), (23, .istore 5, 2, 0, 0, 0, []), (25, .iload 5, 2, 0, 0, 0, []), (27, .aload_n 0, 1, 0, 0, 0, []), (28, .getfield 7, 3, 12, 0, 0, [1483]), (31, .iconst 0, 1, 0, 0, 0, [])],
  [(32, .iaload, 1, 0, 0, 0, []), (33, .if_icmp .ge 60, 3, 0, 0, 0, []), (36, .aload_n 0, 1, 0, 0, 0, []), (37, .iload 5, 2, 0, 0, 0, []), (39, .iload_n 2, 1, 0, 0, 0, []), (40, .invokevirtual 84, 3, 204, 3, 0, [1802, 1805, 123, 1804, 79, 12]), (43, .ifCond .ne 6, 3, 0, 0, 0, []), (46, .goto 41, 3, 0, 0, 0, []), (49, .iload_n 3, 1, 0, 0, 0, []), (50, .aload_n 0, 1, 0, 0, 0, []), (51, .iload 5, 2, 0, 0, 0, []), (53, .invokevirtual 313, 3, 257, 2, 0, [1817, 1820, 123, 1819, 82, 12]), (56, .bipush 10, 2, 0, 0, 0, []), (58, .if_icmp .ne 7, 3, 0, 0, 0, []), (61, .iconst 1, 1, 0, 0, 0, []), (62, .goto 4, 3, 0, 0, 0, [])],
  [(65, .iconst 0, 1, 0, 0, 0, []), (66, .iadd, 1, 0, 0, 0, []), (67, .istore_n 3, 1, 0, 0, 0, []), (68, .iload 4, 2, 0, 0, 0, []), (70, .aload_n 0, 1, 0, 0, 0, []), (71, .iload 5, 2, 0, 0, 0, []), (73, .invokevirtual 313, 3, 257, 2, 0, [1817, 1820, 123, 1819, 82, 12]), (76, .ifCond .le 7, 3, 0, 0, 0, []), (79, .iconst 1, 1, 0, 0, 0, []), (80, .goto 4, 3, 0, 0, 0, []), (83, .iconst 0, 1, 0, 0, 0, []), (84, .iadd, 1, 0, 0, 0, []), (85, .istore 4, 2, 0, 0, 0, []), (87, .iinc 5 1, 3, 0, 0, 0, []), (90, .goto (-65), 3, 0, 0, 0, []), (93, .iload_n 1, 1, 0, 0, 0, []), (94, .iload_n 3, 1, 0, 0, 0, []), (95, .iload 4, 2, 0, 0, 0, [])],
  [(97, .invokestatic 72, 3, 197, 3, 0, [1584, 1586, 123, 1585]), (100, .ifCond .eq 5, 3, 0, 0, 0, []), (103, .iload_n 2, 1, 0, 0, 0, []), (104, .ireturn, 1, 0, 0, 0, []), (105, .iinc 2 1, 3, 0, 0, 0, []), (108, .goto (-97), 3, 0, 0, 0, []), (111, .iconst (-1), 1, 0, 0, 0, []), (112, .ireturn, 1, 0, 0, 0, [])]]
def mX12_comes : xMeth := (yX12_comes, cX12_comes, 6, (some FieldType.int), kX12_comes)
def kX12_follows : xC := [[(0, .iload_n 1, 1, 0, 0, 0, []), (1, .invokestatic 91, 3, 202, 1, 0, [1591, 1593, 123, 1592]), (4, .ifCond .eq 10, 3, 0, 0, 0, []), (7, .iload_n 2, 1, 0, 0, 0, []), (8, .invokestatic 91, 3, 202, 1, 0, [1591, 1593, 123, 1592]), (11, .ifCond .ne 5, 3, 0, 0, 0, []), (14, .iconst 0, 1, 0, 0, 0, []), (15, .ireturn, 1, 0, 0, 0, []), (16, .aload_n 0, 1, 0, 0, 0, []), (17, .getfield 7, 3, 12, 0, 0, [1483]), (20, .bipush 78, 2, 0, 0, 0, []), (22, .iload_n 1, 1, 0, 0, 0, []), (23, .iadd, 1, 0, 0, 0, []), (24, .iload_n 2, 1, 0, 0, 0, []), (25, .iastore, 1, 0, 0, 0, []), (26, .iconst 1, 1, 0, 0, 0, []), (27, .ireturn, 1, 0, 0, 0, [])]]
def mX12_follows : xMeth := (yX12_follows, cX12_follows, 3, (some FieldType.boolean), kX12_follows)
def kX12_afterOf : xC := [[(0, .iload_n 1, 1, 0, 0, 0, []), (1, .istore_n 3, 1, 0, 0, 0, []), (2, .iconst 0, 1, 0, 0, 0, []), (3, .istore 4, 2, 0, 0, 0, []), (5, .iload 4, 2, 0, 0, 0, []), (7, .iload_n 2, 1, 0, 0, 0, []), (8, .if_icmp .ge 19, 3, 0, 0, 0, []), (11, .aload_n 0, 1, 0, 0, 0, []), (12, .getfield 7, 3, 12, 0, 0, [1483]), (15, .bipush 78, 2, 0, 0, 0, []), (17, .iload_n 3, 1, 0, 0, 0, []), (18, .iadd, 1, 0, 0, 0, []), (19, .iaload, 1, 0, 0, 0, []), (20, .istore_n 3, 1, 0, 0, 0, []), (21, .iinc 4 1, 3, 0, 0, 0, []), (24, .goto (-19), 3, 0, 0, 0, []), (27, .iload_n 3, 1, 0, 0, 0, []), (28, .ireturn, 1, 0, 0, 0, [])]]
def mX12_afterOf : xMeth := (yX12_afterOf, cX12_afterOf, 5, (some FieldType.int), kX12_afterOf)
def kX12_agree : xC := [[(0, .iconst 0, 1, 0, 0, 0, []), (1, .istore_n 1, 1, 0, 0, 0, []), (2, .iconst 0, 1, 0, 0, 0, []), (3, .istore_n 2, 1, 0, 0, 0, []), (4, .iload_n 2, 1, 0, 0, 0, []), (5, .bipush 9, 2, 0, 0, 0, []), (7, .if_icmp .ge 32, 3, 0, 0, 0, []), (10, .iload_n 1, 1, 0, 0, 0, []), (11, .aload_n 0, 1, 0, 0, 0, []), (12, .getfield 7, 3, 12, 0, 0, [1483]), (15, .bipush 78, 2, 0, 0, 0, []), (17, .iload_n 2, 1, 0, 0, 0, []), (18, .iadd, 1, 0, 0, 0, []), (19, .iaload, 1, 0, 0, 0, []), (20, .iload_n 2, 1, 0, 0, 0, []), (21, .if_icmp .ne 9, 3, 0, 0, 0, []), (24, .iconst 1, 1, 0, 0, 0, []), (25, .iload_n 2, 1, 0, 0, 0, []), (26, .ishl, 1, 0, 0, 0, []), (27, .goto 4, 3, 0, 0, 0, []), (30, .iconst 0, 1, 0, 0, 0, []), (31, .ior, 1, 0, 0, 0, [])],
  [(32, .istore_n 1, 1, 0, 0, 0, []), (33, .iinc 2 1, 3, 0, 0, 0, []), (36, .goto (-32), 3, 0, 0, 0, []), (39, .iload_n 1, 1, 0, 0, 0, []), (40, .ireturn, 1, 0, 0, 0, [])]]
def mX12_agree : xMeth := (yX12_agree, cX12_agree, 3, (some FieldType.int), kX12_agree)
def kX12_ringOf : xC := [[(0, .iconst 1, 1, 0, 0, 0, []), (1, .istore_n 2, 1, 0, 0, 0, []), (2, .iload_n 2, 1, 0, 0, 0, []), (3, .bipush 9, 2, 0, 0, 0, []), (5, .if_icmp .gt 21, 3, 0, 0, 0, []), (8, .aload_n 0, 1, 0, 0, 0, []), (9, .iload_n 1, 1, 0, 0, 0, []), (10, .iload_n 2, 1, 0, 0, 0, []), (11, .invokevirtual 395, 3, 303, 3, 0, [2013, 2016, 123, 2015, 98, 12]), (14, .iload_n 1, 1, 0, 0, 0, []), (15, .if_icmp .ne 5, 3, 0, 0, 0, []), (18, .iload_n 2, 1, 0, 0, 0, []), (19, .ireturn, 1, 0, 0, 0, []), (20, .iinc 2 1, 3, 0, 0, 0, []), (23, .goto (-21), 3, 0, 0, 0, []), (26, .iconst (-1), 1, 0, 0, 0, []), (27, .ireturn, 1, 0, 0, 0, [])]]
def mX12_ringOf : xMeth := (yX12_ringOf, cX12_ringOf, 3, (some FieldType.int), kX12_ringOf)
def kX12_ring : xC := [[(0, .iconst (-1), 1, 0, 0, 0, []), (1, .istore_n 2, 1, 0, 0, 0, []), (2, .iconst 0, 1, 0, 0, 0, []), (3, .istore_n 3, 1, 0, 0, 0, []), (4, .iload_n 3, 1, 0, 0, 0, []), (5, .bipush 9, 2, 0, 0, 0, []), (7, .if_icmp .ge 38, 3, 0, 0, 0, []), (10, .aload_n 0, 1, 0, 0, 0, []), (11, .iload_n 3, 1, 0, 0, 0, []), (12, .invokevirtual 398, 3, 305, 2, 0, [2009, 2012, 123, 2011, 97, 12]), (15, .iconst (-1), 1, 0, 0, 0, []), (16, .if_icmp .eq 23, 3, 0, 0, 0, []), (19, .iload_n 2, 1, 0, 0, 0, []), (20, .iconst (-1), 1, 0, 0, 0, []), (21, .if_icmp .eq 16, 3, 0, 0, 0, []), (24, .aload_n 0, 1, 0, 0, 0, []), (25, .iload_n 3, 1, 0, 0, 0, []), (26, .invokevirtual 398, 3, 305, 2, 0, [2009, 2012, 123, 2011, 97, 12]), (29, .aload_n 0, 1, 0, 0, 0, []), (30, .iload_n 2, 1, 0, 0, 0, []), (31, .invokevirtual 398, 3, 305, 2, 0, [2009, 2012, 123, 2011, 97, 12])],
  [(34, .if_icmp .ge 5, 3, 0, 0, 0, []), (37, .iload_n 3, 1, 0, 0, 0, []), (38, .istore_n 2, 1, 0, 0, 0, []), (39, .iinc 3 1, 3, 0, 0, 0, []), (42, .goto (-38), 3, 0, 0, 0, []), (45, .iload_n 1, 1, 0, 0, 0, []), (46, .ifCond .eq 11, 3, 0, 0, 0, []), (49, .aload_n 0, 1, 0, 0, 0, []), (50, .iload_n 2, 1, 0, 0, 0, []), (51, .invokevirtual 398, 3, 305, 2, 0, [2009, 2012, 123, 2011, 97, 12]), (54, .goto 4, 3, 0, 0, 0, []), (57, .iload_n 2, 1, 0, 0, 0, []), (58, .ireturn, 1, 0, 0, 0, [])]]
def mX12_ring : xMeth := (yX12_ring, cX12_ring, 4, (some FieldType.int), kX12_ring)
def kX12_till : xC := [[(0, .iload_n 1, 1, 0, 0, 0, []), (1, .invokestatic 91, 3, 202, 1, 0, [1591, 1593, 123, 1592]), (4, .ifCond .ne 5, 3, 0, 0, 0, []), (7, .iconst (-1), 1, 0, 0, 0, []), (8, .ireturn, 1, 0, 0, 0, []), (9, .iconst 0, 1, 0, 0, 0, []), (10, .istore_n 2, 1, 0, 0, 0, []), (11, .aload_n 0, 1, 0, 0, 0, []), (12, .aload_n 0, 1, 0, 0, 0, []), (13, .iload_n 1, 1, 0, 0, 0, []), (14, .iload_n 2, 1, 0, 0, 0, []), (15, .invokevirtual 395, 3, 303, 3, 0, [2013, 2016, 123, 2015, 98, 12]), (18, .invokevirtual 398, 3, 305, 2, 0, [2009, 2012, 123, 2011, 97, 12]), (21, .iconst (-1), 1, 0, 0, 0, []), (22, .if_icmp .ne 9, 3, 0, 0, 0, []), (25, .iinc 2 1, 3, 0, 0, 0, []), (28, .goto (-17), 3, 0, 0, 0, []), (31, .iload_n 2, 1, 0, 0, 0, [])],
  [(32, .ireturn, 1, 0, 0, 0, [])]]
def mX12_till : xMeth := (yX12_till, cX12_till, 3, (some FieldType.int), kX12_till)
def kX12_after : xC := [[(0, .iload_n 1, 1, 0, 0, 0, []), (1, .invokestatic 91, 3, 202, 1, 0, [1591, 1593, 123, 1592]), (4, .ifCond .eq 23, 3, 0, 0, 0, []), (7, .iload_n 2, 1, 0, 0, 0, []), (8, .iconst 0, 1, 0, 0, 0, []), (9, .ldc_w 401, 3, 0, 0, 1000000, [2025]), (12, .invokestatic 72, 3, 197, 3, 0, [1584, 1586, 123, 1585]), (15, .ifCond .eq 12, 3, 0, 0, 0, []), (18, .aload_n 0, 1, 0, 0, 0, []), (19, .iload_n 1, 1, 0, 0, 0, []), (20, .iload_n 2, 1, 0, 0, 0, []), (21, .invokevirtual 395, 3, 303, 3, 0, [2013, 2016, 123, 2015, 98, 12]), (24, .goto 4, 3, 0, 0, 0, []), (27, .iconst (-1), 1, 0, 0, 0, []), (28, .ireturn, 1, 0, 0, 0, [])]]
def mX12_after : xMeth := (yX12_after, cX12_after, 3, (some FieldType.int), kX12_after)
def kX12_areOdds : xC := [[(0, .iload_n 0, 1, 0, 0, 0, []), (1, .iconst 0, 1, 0, 0, 0, []), (2, .bipush 10, 2, 0, 0, 0, []), (4, .invokestatic 72, 3, 197, 3, 0, [1584, 1586, 123, 1585]), (7, .ireturn, 1, 0, 0, 0, [])]]
def mX12_areOdds : xMeth := (yX12_areOdds, cX12_areOdds, 1, (some FieldType.boolean), kX12_areOdds)
def kX12_layTest : xC := [[(0, .aload_n 0, 1, 0, 0, 0, []), (1, .invokevirtual 369, 3, 287, 1, 0, [1937, 1940, 123, 1939, 93, 12]), (4, .lconst 1, 1, 0, 0, 0, []), (5, .lstore_n 3, 1, 0, 0, 0, []), (6, .iconst 0, 1, 0, 0, 0, []), (7, .istore 5, 2, 0, 0, 0, []), (9, .iload 5, 2, 0, 0, 0, []), (11, .iload_n 1, 1, 0, 0, 0, []), (12, .if_icmp .ge 20, 3, 0, 0, 0, []), (15, .aload_n 0, 1, 0, 0, 0, []), (16, .iload_n 2, 1, 0, 0, 0, []), (17, .invokevirtual 372, 3, 288, 2, 0, [1941, 1944, 123, 1943, 94, 12]), (20, .lload_n 3, 1, 0, 0, 0, []), (21, .ldc2_w 375, 3, 0, 0, 10, [1945]), (24, .lmul, 1, 0, 0, 0, []), (25, .lstore_n 3, 1, 0, 0, 0, []), (26, .iinc 5 1, 3, 0, 0, 0, []), (29, .goto (-20), 3, 0, 0, 0, [])],
  [(32, .lload_n 3, 1, 0, 0, 0, []), (33, .lreturn, 1, 0, 0, 0, [])]]
def mX12_layTest : xMeth := (yX12_layTest, cX12_layTest, 6, (some FieldType.long), kX12_layTest)
def kX12_rowsFrom : xC := [[(0, .lconst 0, 1, 0, 0, 0, []), (1, .lstore_n 2, 1, 0, 0, 0, []), (2, .iload_n 1, 1, 0, 0, 0, []), (3, .istore 4, 2, 0, 0, 0, []), (5, .iload 4, 2, 0, 0, 0, []), (7, .bipush 13, 2, 0, 0, 0, []), (9, .if_icmp .ge 19, 3, 0, 0, 0, []), (12, .lload_n 2, 1, 0, 0, 0, []), (13, .aload_n 0, 1, 0, 0, 0, []), (14, .getfield 50, 3, 12, 26, 0, [1509]), (17, .iload 4, 2, 0, 0, 0, []), (19, .laload, 1, 0, 0, 0, []), (20, .ladd, 1, 0, 0, 0, []), (21, .lstore_n 2, 1, 0, 0, 0, []), (22, .iinc 4 1, 3, 0, 0, 0, []), (25, .goto (-20), 3, 0, 0, 0, []), (28, .lload_n 2, 1, 0, 0, 0, []), (29, .lreturn, 1, 0, 0, 0, [])]]
def mX12_rowsFrom : xMeth := (yX12_rowsFrom, cX12_rowsFrom, 5, (some FieldType.long), kX12_rowsFrom)
def kX12_test : xC := [[(0, .iload_n 1, 1, 0, 0, 0, []), (1, .iconst 0, 1, 0, 0, 0, []), (2, .bipush 12, 2, 0, 0, 0, []), (4, .invokestatic 72, 3, 197, 3, 0, [1584, 1586, 123, 1585]), (7, .ifCond .eq 19, 3, 0, 0, 0, []), (10, .iload_n 2, 1, 0, 0, 0, []), (11, .iconst 0, 1, 0, 0, 0, []), (12, .iload_n 1, 1, 0, 0, 0, []), (13, .invokestatic 72, 3, 197, 3, 0, [1584, 1586, 123, 1585]), (16, .ifCond .eq 10, 3, 0, 0, 0, []), (19, .iload_n 3, 1, 0, 0, 0, []), (20, .invokestatic 402, 3, 309, 1, 0, [2030, 2032, 123, 2031]), (23, .ifCond .ne 7, 3, 0, 0, 0, []), (26, .ldc2_w 377, 3, 0, 0, (-1), [1932]), (29, .lreturn, 1, 0, 0, 0, []), (30, .aload_n 0, 1, 0, 0, 0, []), (31, .iload_n 1, 1, 0, 0, 0, [])],
  [(32, .iload_n 3, 1, 0, 0, 0, []), (33, .invokevirtual 405, 3, 310, 3, 0, [2033, 2036, 123, 2035, 99, 12]), (36, .lstore 5, 2, 0, 0, 0, []), (38, .aload_n 0, 1, 0, 0, 0, []), (39, .iload_n 2, 1, 0, 0, 0, []), (40, .invokevirtual 408, 3, 311, 2, 0, [2037, 2040, 123, 2039, 100, 12]), (43, .lload 5, 2, 0, 0, 0, []), (45, .iload 4, 2, 0, 0, 0, []), (47, .invokestatic 383, 3, 286, 3, 0, [1946, 1948, 123, 1947]), (50, .lreturn, 1, 0, 0, 0, [])]]
def mX12_test : xMeth := (yX12_test, cX12_test, 7, (some FieldType.long), kX12_test)
def kX12_bound : xC := [[(0, .iload_n 1, 1, 0, 0, 0, []), (1, .iconst 1, 1, 0, 0, 0, []), (2, .bipush 12, 2, 0, 0, 0, []), (4, .invokestatic 72, 3, 197, 3, 0, [1584, 1586, 123, 1585]), (7, .ifCond .eq 10, 3, 0, 0, 0, []), (10, .iload_n 2, 1, 0, 0, 0, []), (11, .invokestatic 402, 3, 309, 1, 0, [2030, 2032, 123, 2031]), (14, .ifCond .ne 5, 3, 0, 0, 0, []), (17, .iconst (-1), 1, 0, 0, 0, []), (18, .ireturn, 1, 0, 0, 0, []), (19, .aload_n 0, 1, 0, 0, 0, []), (20, .iload_n 1, 1, 0, 0, 0, []), (21, .iload_n 2, 1, 0, 0, 0, []), (22, .invokevirtual 405, 3, 310, 3, 0, [2033, 2036, 123, 2035, 99, 12]), (25, .lstore_n 3, 1, 0, 0, 0, []), (26, .iconst 0, 1, 0, 0, 0, []), (27, .istore 5, 2, 0, 0, 0, []), (29, .iload 5, 2, 0, 0, 0, []), (31, .iload_n 1, 1, 0, 0, 0, [])],
  [(32, .if_icmp .gt 27, 3, 0, 0, 0, []), (35, .aload_n 0, 1, 0, 0, 0, []), (36, .iload 5, 2, 0, 0, 0, []), (38, .invokevirtual 408, 3, 311, 2, 0, [2037, 2040, 123, 2039, 100, 12]), (41, .ldc2_w 411, 3, 0, 0, 20, [2045]), (44, .lmul, 1, 0, 0, 0, []), (45, .lload_n 3, 1, 0, 0, 0, []), (46, .lcmp, 1, 0, 0, 0, []), (47, .ifCond .gt 6, 3, 0, 0, 0, []), (50, .iload 5, 2, 0, 0, 0, []), (52, .ireturn, 1, 0, 0, 0, []), (53, .iinc 5 1, 3, 0, 0, 0, []), (56, .goto (-27), 3, 0, 0, 0, []), (59, .iconst (-1), 1, 0, 0, 0, []), (60, .ireturn, 1, 0, 0, 0, [])]]
def mX12_bound : xMeth := (yX12_bound, cX12_bound, 6, (some FieldType.int), kX12_bound)
def kX12_sure : xC := [[(0, .aload_n 0, 1, 0, 0, 0, []), (1, .iload_n 1, 1, 0, 0, 0, []), (2, .iload_n 2, 1, 0, 0, 0, []), (3, .invokevirtual 413, 3, 313, 3, 0, [2050, 2044, 123, 2042, 2043, 12]), (6, .istore 5, 2, 0, 0, 0, []), (8, .iload 5, 2, 0, 0, 0, []), (10, .iconst (-1), 1, 0, 0, 0, []), (11, .if_icmp .eq 10, 3, 0, 0, 0, []), (14, .iload_n 3, 1, 0, 0, 0, []), (15, .invokestatic 402, 3, 309, 1, 0, [2030, 2032, 123, 2031]), (18, .ifCond .ne 9, 3, 0, 0, 0, []), (21, .ldc2_w 377, 3, 0, 0, (-1), [1932]), (24, .goto 13, 3, 0, 0, 0, []), (27, .aload_n 0, 1, 0, 0, 0, []), (28, .iload_n 1, 1, 0, 0, 0, []), (29, .iload 5, 2, 0, 0, 0, []), (31, .iload_n 3, 1, 0, 0, 0, [])],
  [(32, .iload 4, 2, 0, 0, 0, []), (34, .invokevirtual 416, 3, 312, 5, 0, [2051, 2029, 123, 2027, 2028, 12]), (37, .lreturn, 1, 0, 0, 0, [])]]
def mX12_sure : xMeth := (yX12_sure, cX12_sure, 6, (some FieldType.long), kX12_sure)
def kX12_votes : xC := [[(0, .iload_n 1, 1, 0, 0, 0, []), (1, .iconst 0, 1, 0, 0, 0, []), (2, .iconst 4, 1, 0, 0, 0, []), (3, .invokestatic 72, 3, 197, 3, 0, [1584, 1586, 123, 1585]), (6, .ifCond .eq 14, 3, 0, 0, 0, []), (9, .iload_n 2, 1, 0, 0, 0, []), (10, .iconst 0, 1, 0, 0, 0, []), (11, .sipush 999, 3, 0, 0, 0, []), (14, .invokestatic 72, 3, 197, 3, 0, [1584, 1586, 123, 1585]), (17, .ifCond .ne 5, 3, 0, 0, 0, []), (20, .iconst 0, 1, 0, 0, 0, []), (21, .ireturn, 1, 0, 0, 0, []), (22, .aload_n 0, 1, 0, 0, 0, []), (23, .getfield 7, 3, 12, 0, 0, [1483]), (26, .bipush 87, 2, 0, 0, 0, []), (28, .iload_n 1, 1, 0, 0, 0, []), (29, .iadd, 1, 0, 0, 0, []), (30, .iload_n 2, 1, 0, 0, 0, []), (31, .iastore, 1, 0, 0, 0, [])],
  [(32, .iconst 1, 1, 0, 0, 0, []), (33, .ireturn, 1, 0, 0, 0, [])]]
def mX12_votes : xMeth := (yX12_votes, cX12_votes, 3, (some FieldType.boolean), kX12_votes)
def kX12_allVotes : xC := [[(0, .iconst 0, 1, 0, 0, 0, []), (1, .istore_n 1, 1, 0, 0, 0, []), (2, .iconst 0, 1, 0, 0, 0, []), (3, .istore_n 2, 1, 0, 0, 0, []), (4, .iload_n 2, 1, 0, 0, 0, []), (5, .iconst 5, 1, 0, 0, 0, []), (6, .if_icmp .ge 21, 3, 0, 0, 0, []), (9, .iload_n 1, 1, 0, 0, 0, []), (10, .aload_n 0, 1, 0, 0, 0, []), (11, .getfield 7, 3, 12, 0, 0, [1483]), (14, .bipush 87, 2, 0, 0, 0, []), (16, .iload_n 2, 1, 0, 0, 0, []), (17, .iadd, 1, 0, 0, 0, []), (18, .iaload, 1, 0, 0, 0, []), (19, .iadd, 1, 0, 0, 0, []), (20, .istore_n 1, 1, 0, 0, 0, []), (21, .iinc 2 1, 3, 0, 0, 0, []), (24, .goto (-20), 3, 0, 0, 0, []), (27, .iload_n 1, 1, 0, 0, 0, []), (28, .ireturn, 1, 0, 0, 0, [])]]
def mX12_allVotes : xMeth := (yX12_allVotes, cX12_allVotes, 3, (some FieldType.int), kX12_allVotes)
def kX12_isAhead : xC := [[(0, .aload_n 0, 1, 0, 0, 0, []), (1, .getfield 7, 3, 12, 0, 0, [1483]), (4, .bipush 87, 2, 0, 0, 0, []), (6, .iload_n 1, 1, 0, 0, 0, []), (7, .iadd, 1, 0, 0, 0, []), (8, .iaload, 1, 0, 0, 0, []), (9, .aload_n 0, 1, 0, 0, 0, []), (10, .getfield 53, 3, 12, 27, 0, [1510]), (13, .iload_n 2, 1, 0, 0, 0, []), (14, .iaload, 1, 0, 0, 0, []), (15, .iconst 1, 1, 0, 0, 0, []), (16, .iadd, 1, 0, 0, 0, []), (17, .imul, 1, 0, 0, 0, []), (18, .aload_n 0, 1, 0, 0, 0, []), (19, .getfield 7, 3, 12, 0, 0, [1483]), (22, .bipush 87, 2, 0, 0, 0, []), (24, .iload_n 2, 1, 0, 0, 0, []), (25, .iadd, 1, 0, 0, 0, []), (26, .iaload, 1, 0, 0, 0, []), (27, .aload_n 0, 1, 0, 0, 0, []), (28, .getfield 53, 3, 12, 27, 0, [1510]), (31, .iload_n 1, 1, 0, 0, 0, [])],
  [(32, .iaload, 1, 0, 0, 0, []), (33, .iconst 1, 1, 0, 0, 0, []), (34, .iadd, 1, 0, 0, 0, []), (35, .imul, 1, 0, 0, 0, []), (36, .if_icmp .le 7, 3, 0, 0, 0, []), (39, .iconst 1, 1, 0, 0, 0, []), (40, .goto 4, 3, 0, 0, 0, []), (43, .iconst 0, 1, 0, 0, 0, []), (44, .ireturn, 1, 0, 0, 0, [])]]
def mX12_isAhead : xMeth := (yX12_isAhead, cX12_isAhead, 3, (some FieldType.boolean), kX12_isAhead)
def kX12_laySeats : xC := [[(0, .aload_n 0, 1, 0, 0, 0, []), (1, .invokevirtual 420, 3, 316, 1, 0, [2064, 2067, 123, 2066, 102, 12]), (4, .istore_n 2, 1, 0, 0, 0, []), (5, .iconst 0, 1, 0, 0, 0, []), (6, .istore_n 3, 1, 0, 0, 0, []), (7, .iconst 0, 1, 0, 0, 0, []), (8, .istore 4, 2, 0, 0, 0, []), (10, .iload 4, 2, 0, 0, 0, []), (12, .iconst 5, 1, 0, 0, 0, []), (13, .if_icmp .ge 69, 3, 0, 0, 0, []), (16, .aload_n 0, 1, 0, 0, 0, []), (17, .getfield 53, 3, 12, 27, 0, [1510]), (20, .iload 4, 2, 0, 0, 0, []), (22, .iconst 0, 1, 0, 0, 0, []), (23, .iastore, 1, 0, 0, 0, []), (24, .aload_n 0, 1, 0, 0, 0, []), (25, .getfield 56, 3, 12, 28, 0, [1511]), (28, .iload 4, 2, 0, 0, 0, []), (30, .aload_n 0, 1, 0, 0, 0, []), (31, .getfield 7, 3, 12, 0, 0, [1483])],
  [(34, .bipush 87, 2, 0, 0, 0, []), (36, .iload 4, 2, 0, 0, 0, []), (38, .iadd, 1, 0, 0, 0, []), (39, .iaload, 1, 0, 0, 0, []), (40, .iload_n 1, 1, 0, 0, 0, []), (41, .imul, 1, 0, 0, 0, []), (42, .iload_n 2, 1, 0, 0, 0, []), (43, .idiv, 1, 0, 0, 0, []), (44, .iastore, 1, 0, 0, 0, []), (45, .aload_n 0, 1, 0, 0, 0, []), (46, .getfield 59, 3, 12, 29, 0, [1512]), (49, .iload 4, 2, 0, 0, 0, []), (51, .aload_n 0, 1, 0, 0, 0, []), (52, .getfield 7, 3, 12, 0, 0, [1483]), (55, .bipush 87, 2, 0, 0, 0, []), (57, .iload 4, 2, 0, 0, 0, []), (59, .iadd, 1, 0, 0, 0, []), (60, .iaload, 1, 0, 0, 0, []), (61, .iload_n 1, 1, 0, 0, 0, []), (62, .imul, 1, 0, 0, 0, []), (63, .iload_n 2, 1, 0, 0, 0, [])],
  [(64, .irem, 1, 0, 0, 0, []), (65, .iastore, 1, 0, 0, 0, []), (66, .iload_n 3, 1, 0, 0, 0, []), (67, .aload_n 0, 1, 0, 0, 0, []), (68, .getfield 56, 3, 12, 28, 0, [1511]), (71, .iload 4, 2, 0, 0, 0, []), (73, .iaload, 1, 0, 0, 0, []), (74, .iadd, 1, 0, 0, 0, []), (75, .istore_n 3, 1, 0, 0, 0, []), (76, .iinc 4 1, 3, 0, 0, 0, []), (79, .goto (-69), 3, 0, 0, 0, []), (82, .iconst 0, 1, 0, 0, 0, []), (83, .istore 4, 2, 0, 0, 0, []), (85, .iload 4, 2, 0, 0, 0, []), (87, .iload_n 1, 1, 0, 0, 0, []), (88, .if_icmp .ge 53, 3, 0, 0, 0, []), (91, .iconst 0, 1, 0, 0, 0, []), (92, .istore 5, 2, 0, 0, 0, []), (94, .iconst 1, 1, 0, 0, 0, []), (95, .istore 6, 2, 0, 0, 0, [])],
  [(97, .iload 6, 2, 0, 0, 0, []), (99, .iconst 5, 1, 0, 0, 0, []), (100, .if_icmp .ge 24, 3, 0, 0, 0, []), (103, .aload_n 0, 1, 0, 0, 0, []), (104, .iload 6, 2, 0, 0, 0, []), (106, .iload 5, 2, 0, 0, 0, []), (108, .invokevirtual 423, 3, 317, 3, 0, [2072, 2075, 123, 2074, 104, 12]), (111, .ifCond .eq 7, 3, 0, 0, 0, []), (114, .iload 6, 2, 0, 0, 0, []), (116, .istore 5, 2, 0, 0, 0, []), (118, .iinc 6 1, 3, 0, 0, 0, []), (121, .goto (-24), 3, 0, 0, 0, []), (124, .aload_n 0, 1, 0, 0, 0, []), (125, .getfield 53, 3, 12, 27, 0, [1510])],
  [(128, .iload 5, 2, 0, 0, 0, []), (130, .dup2, 1, 0, 0, 0, []), (131, .iaload, 1, 0, 0, 0, []), (132, .iconst 1, 1, 0, 0, 0, []), (133, .iadd, 1, 0, 0, 0, []), (134, .iastore, 1, 0, 0, 0, []), (135, .iinc 4 1, 3, 0, 0, 0, []), (138, .goto (-53), 3, 0, 0, 0, []), (141, .iload_n 3, 1, 0, 0, 0, []), (142, .istore 4, 2, 0, 0, 0, []), (144, .iload 4, 2, 0, 0, 0, []), (146, .iload_n 1, 1, 0, 0, 0, []), (147, .if_icmp .ge 67, 3, 0, 0, 0, []), (150, .iconst 0, 1, 0, 0, 0, []), (151, .istore 5, 2, 0, 0, 0, []), (153, .iconst 1, 1, 0, 0, 0, []), (154, .istore 6, 2, 0, 0, 0, []), (156, .iload 6, 2, 0, 0, 0, []), (158, .iconst 5, 1, 0, 0, 0, []), (159, .if_icmp .ge 30, 3, 0, 0, 0, [])],
  [(162, .aload_n 0, 1, 0, 0, 0, []), (163, .getfield 59, 3, 12, 29, 0, [1512]), (166, .iload 6, 2, 0, 0, 0, []), (168, .iaload, 1, 0, 0, 0, []), (169, .aload_n 0, 1, 0, 0, 0, []), (170, .getfield 59, 3, 12, 29, 0, [1512]), (173, .iload 5, 2, 0, 0, 0, []), (175, .iaload, 1, 0, 0, 0, []), (176, .if_icmp .le 7, 3, 0, 0, 0, []), (179, .iload 6, 2, 0, 0, 0, []), (181, .istore 5, 2, 0, 0, 0, []), (183, .iinc 6 1, 3, 0, 0, 0, []), (186, .goto (-30), 3, 0, 0, 0, []), (189, .aload_n 0, 1, 0, 0, 0, []), (190, .getfield 56, 3, 12, 28, 0, [1511])],
  [(193, .iload 5, 2, 0, 0, 0, []), (195, .dup2, 1, 0, 0, 0, []), (196, .iaload, 1, 0, 0, 0, []), (197, .iconst 1, 1, 0, 0, 0, []), (198, .iadd, 1, 0, 0, 0, []), (199, .iastore, 1, 0, 0, 0, []), (200, .aload_n 0, 1, 0, 0, 0, []), (201, .getfield 59, 3, 12, 29, 0, [1512]), (204, .iload 5, 2, 0, 0, 0, []), (206, .iconst (-1), 1, 0, 0, 0, []), (207, .iastore, 1, 0, 0, 0, []), (208, .iinc 4 1, 3, 0, 0, 0, []), (211, .goto (-67), 3, 0, 0, 0, []), (214, .return_, 1, 0, 0, 0, [])]]
def mX12_laySeats : xMeth := (yX12_laySeats, cX12_laySeats, 7, none, kX12_laySeats)
def kX12_areSeats : xC := [[(0, .iload_n 1, 1, 0, 0, 0, []), (1, .iconst 0, 1, 0, 0, 0, []), (2, .bipush 30, 2, 0, 0, 0, []), (4, .invokestatic 72, 3, 197, 3, 0, [1584, 1586, 123, 1585]), (7, .ifCond .eq 14, 3, 0, 0, 0, []), (10, .aload_n 0, 1, 0, 0, 0, []), (11, .invokevirtual 420, 3, 316, 1, 0, [2064, 2067, 123, 2066, 102, 12]), (14, .ifCond .le 7, 3, 0, 0, 0, []), (17, .iconst 1, 1, 0, 0, 0, []), (18, .goto 4, 3, 0, 0, 0, []), (21, .iconst 0, 1, 0, 0, 0, []), (22, .ireturn, 1, 0, 0, 0, [])]]
def mX12_areSeats : xMeth := (yX12_areSeats, cX12_areSeats, 2, (some FieldType.boolean), kX12_areSeats)
def kX12_seats : xC := [[(0, .iload_n 1, 1, 0, 0, 0, []), (1, .iconst 0, 1, 0, 0, 0, []), (2, .iconst 4, 1, 0, 0, 0, []), (3, .invokestatic 72, 3, 197, 3, 0, [1584, 1586, 123, 1585]), (6, .ifCond .eq 11, 3, 0, 0, 0, []), (9, .aload_n 0, 1, 0, 0, 0, []), (10, .iload_n 2, 1, 0, 0, 0, []), (11, .invokevirtual 426, 3, 319, 2, 0, [2060, 2063, 123, 2062, 101, 12]), (14, .ifCond .ne 5, 3, 0, 0, 0, []), (17, .iconst (-1), 1, 0, 0, 0, []), (18, .ireturn, 1, 0, 0, 0, []), (19, .aload_n 0, 1, 0, 0, 0, []), (20, .iload_n 2, 1, 0, 0, 0, []), (21, .invokevirtual 429, 3, 318, 2, 0, [2068, 2071, 123, 2070, 103, 12]), (24, .iload_n 3, 1, 0, 0, 0, []), (25, .ifCond .eq 12, 3, 0, 0, 0, []), (28, .aload_n 0, 1, 0, 0, 0, []), (29, .getfield 56, 3, 12, 28, 0, [1511])],
  [(32, .iload_n 1, 1, 0, 0, 0, []), (33, .iaload, 1, 0, 0, 0, []), (34, .goto 9, 3, 0, 0, 0, []), (37, .aload_n 0, 1, 0, 0, 0, []), (38, .getfield 53, 3, 12, 27, 0, [1510]), (41, .iload_n 1, 1, 0, 0, 0, []), (42, .iaload, 1, 0, 0, 0, []), (43, .ireturn, 1, 0, 0, 0, [])]]
def mX12_seats : xMeth := (yX12_seats, cX12_seats, 4, (some FieldType.int), kX12_seats)
def kX12_unlike : xC := [[(0, .aload_n 0, 1, 0, 0, 0, []), (1, .iload_n 1, 1, 0, 0, 0, []), (2, .invokevirtual 426, 3, 319, 2, 0, [2060, 2063, 123, 2062, 101, 12]), (5, .ifCond .ne 5, 3, 0, 0, 0, []), (8, .iconst (-1), 1, 0, 0, 0, []), (9, .ireturn, 1, 0, 0, 0, []), (10, .aload_n 0, 1, 0, 0, 0, []), (11, .iload_n 1, 1, 0, 0, 0, []), (12, .invokevirtual 429, 3, 318, 2, 0, [2068, 2071, 123, 2070, 103, 12]), (15, .iconst 0, 1, 0, 0, 0, []), (16, .istore_n 2, 1, 0, 0, 0, []), (17, .iconst 0, 1, 0, 0, 0, []), (18, .istore_n 3, 1, 0, 0, 0, []), (19, .iload_n 3, 1, 0, 0, 0, []), (20, .iconst 5, 1, 0, 0, 0, []), (21, .if_icmp .ge 34, 3, 0, 0, 0, []), (24, .iload_n 2, 1, 0, 0, 0, []), (25, .aload_n 0, 1, 0, 0, 0, []), (26, .getfield 53, 3, 12, 27, 0, [1510]), (29, .iload_n 3, 1, 0, 0, 0, []), (30, .iaload, 1, 0, 0, 0, []), (31, .aload_n 0, 1, 0, 0, 0, [])],
  [(32, .getfield 56, 3, 12, 28, 0, [1511]), (35, .iload_n 3, 1, 0, 0, 0, []), (36, .iaload, 1, 0, 0, 0, []), (37, .if_icmp .eq 9, 3, 0, 0, 0, []), (40, .iconst 1, 1, 0, 0, 0, []), (41, .iload_n 3, 1, 0, 0, 0, []), (42, .ishl, 1, 0, 0, 0, []), (43, .goto 4, 3, 0, 0, 0, []), (46, .iconst 0, 1, 0, 0, 0, []), (47, .ior, 1, 0, 0, 0, []), (48, .istore_n 2, 1, 0, 0, 0, []), (49, .iinc 3 1, 3, 0, 0, 0, []), (52, .goto (-33), 3, 0, 0, 0, []), (55, .iload_n 2, 1, 0, 0, 0, []), (56, .ireturn, 1, 0, 0, 0, [])]]
def mX12_unlike : xMeth := (yX12_unlike, cX12_unlike, 4, (some FieldType.int), kX12_unlike)
def kX12_ranks : xC := [[(0, .iload_n 1, 1, 0, 0, 0, []), (1, .iconst 0, 1, 0, 0, 0, []), (2, .iconst 4, 1, 0, 0, 0, []), (3, .invokestatic 72, 3, 197, 3, 0, [1584, 1586, 123, 1585]), (6, .ifCond .eq 13, 3, 0, 0, 0, []), (9, .iload_n 2, 1, 0, 0, 0, []), (10, .iconst 0, 1, 0, 0, 0, []), (11, .bipush 23, 2, 0, 0, 0, []), (13, .invokestatic 72, 3, 197, 3, 0, [1584, 1586, 123, 1585]), (16, .ifCond .ne 5, 3, 0, 0, 0, []), (19, .iconst 0, 1, 0, 0, 0, []), (20, .ireturn, 1, 0, 0, 0, []), (21, .aload_n 0, 1, 0, 0, 0, []), (22, .getfield 7, 3, 12, 0, 0, [1483]), (25, .bipush 108, 2, 0, 0, 0, []), (27, .iload_n 1, 1, 0, 0, 0, []), (28, .iadd, 1, 0, 0, 0, []), (29, .iload_n 2, 1, 0, 0, 0, []), (30, .iastore, 1, 0, 0, 0, []), (31, .iconst 1, 1, 0, 0, 0, [])],
  [(32, .ireturn, 1, 0, 0, 0, [])]]
def mX12_ranks : xMeth := (yX12_ranks, cX12_ranks, 3, (some FieldType.boolean), kX12_ranks)
def kX12_isCause : xC := [[(0, .iload_n 0, 1, 0, 0, 0, []), (1, .iconst 0, 1, 0, 0, 0, []), (2, .iconst 3, 1, 0, 0, 0, []), (3, .invokestatic 72, 3, 197, 3, 0, [1584, 1586, 123, 1585]), (6, .ireturn, 1, 0, 0, 0, [])]]
def mX12_isCause : xMeth := (yX12_isCause, cX12_isCause, 1, (some FieldType.boolean), kX12_isCause)
def kX12_factorial : xC := [[(0, .iconst 1, 1, 0, 0, 0, []), (1, .istore_n 1, 1, 0, 0, 0, []), (2, .iconst 2, 1, 0, 0, 0, []), (3, .istore_n 2, 1, 0, 0, 0, []), (4, .iload_n 2, 1, 0, 0, 0, []), (5, .iload_n 0, 1, 0, 0, 0, []), (6, .if_icmp .gt 13, 3, 0, 0, 0, []), (9, .iload_n 1, 1, 0, 0, 0, []), (10, .iload_n 2, 1, 0, 0, 0, []), (11, .imul, 1, 0, 0, 0, []), (12, .istore_n 1, 1, 0, 0, 0, []), (13, .iinc 2 1, 3, 0, 0, 0, []), (16, .goto (-12), 3, 0, 0, 0, []), (19, .iload_n 1, 1, 0, 0, 0, []), (20, .ireturn, 1, 0, 0, 0, [])]]
def mX12_factorial : xMeth := (yX12_factorial, cX12_factorial, 3, (some FieldType.int), kX12_factorial)
def kX12_causeAt : xC := [[(0, .iload_n 0, 1, 0, 0, 0, []), (1, .istore_n 2, 1, 0, 0, 0, []), (2, .iconst 0, 1, 0, 0, 0, []), (3, .istore_n 3, 1, 0, 0, 0, []), (4, .iconst 0, 1, 0, 0, 0, []), (5, .istore 4, 2, 0, 0, 0, []), (7, .iconst 0, 1, 0, 0, 0, []), (8, .istore 5, 2, 0, 0, 0, []), (10, .iload 5, 2, 0, 0, 0, []), (12, .iload_n 1, 1, 0, 0, 0, []), (13, .if_icmp .gt 79, 3, 0, 0, 0, []), (16, .iload_n 2, 1, 0, 0, 0, []), (17, .iconst 3, 1, 0, 0, 0, []), (18, .iload 5, 2, 0, 0, 0, []), (20, .isub, 1, 0, 0, 0, []), (21, .invokestatic 432, 3, 324, 1, 0, [2102, 2104, 123, 2103]), (24, .idiv, 1, 0, 0, 0, []), (25, .istore 6, 2, 0, 0, 0, []), (27, .iload_n 2, 1, 0, 0, 0, []), (28, .iconst 3, 1, 0, 0, 0, []), (29, .iload 5, 2, 0, 0, 0, []), (31, .isub, 1, 0, 0, 0, [])],
  [(32, .invokestatic 432, 3, 324, 1, 0, [2102, 2104, 123, 2103]), (35, .irem, 1, 0, 0, 0, []), (36, .istore_n 2, 1, 0, 0, 0, []), (37, .iconst 0, 1, 0, 0, 0, []), (38, .istore 4, 2, 0, 0, 0, []), (40, .iload_n 3, 1, 0, 0, 0, []), (41, .iload 4, 2, 0, 0, 0, []), (43, .invokestatic 76, 3, 199, 2, 0, [1660, 1662, 123, 1661]), (46, .ifCond .ne 8, 3, 0, 0, 0, []), (49, .iload 6, 2, 0, 0, 0, []), (51, .ifCond .le 28, 3, 0, 0, 0, []), (54, .iload 6, 2, 0, 0, 0, []), (56, .iload_n 3, 1, 0, 0, 0, []), (57, .iload 4, 2, 0, 0, 0, []), (59, .invokestatic 76, 3, 199, 2, 0, [1660, 1662, 123, 1661]), (62, .ifCond .eq 7, 3, 0, 0, 0, [])],
  [(65, .iconst 0, 1, 0, 0, 0, []), (66, .goto 4, 3, 0, 0, 0, []), (69, .iconst 1, 1, 0, 0, 0, []), (70, .isub, 1, 0, 0, 0, []), (71, .istore 6, 2, 0, 0, 0, []), (73, .iinc 4 1, 3, 0, 0, 0, []), (76, .goto (-36), 3, 0, 0, 0, []), (79, .iload_n 3, 1, 0, 0, 0, []), (80, .iconst 1, 1, 0, 0, 0, []), (81, .iload 4, 2, 0, 0, 0, []), (83, .ishl, 1, 0, 0, 0, []), (84, .ior, 1, 0, 0, 0, []), (85, .istore_n 3, 1, 0, 0, 0, []), (86, .iinc 5 1, 3, 0, 0, 0, []), (89, .goto (-79), 3, 0, 0, 0, []), (92, .iload 4, 2, 0, 0, 0, []), (94, .ireturn, 1, 0, 0, 0, [])]]
def mX12_causeAt : xMeth := (yX12_causeAt, cX12_causeAt, 7, (some FieldType.int), kX12_causeAt)
def kX12_placeBy : xC := [[(0, .iconst 0, 1, 0, 0, 0, []), (1, .istore_n 3, 1, 0, 0, 0, []), (2, .aload_n 0, 1, 0, 0, 0, []), (3, .getfield 7, 3, 12, 0, 0, [1483]), (6, .bipush 108, 2, 0, 0, 0, []), (8, .iload_n 1, 1, 0, 0, 0, []), (9, .iadd, 1, 0, 0, 0, []), (10, .iaload, 1, 0, 0, 0, []), (11, .iload_n 3, 1, 0, 0, 0, []), (12, .invokestatic 435, 3, 325, 2, 0, [2099, 2101, 123, 2100]), (15, .iload_n 2, 1, 0, 0, 0, []), (16, .if_icmp .eq 9, 3, 0, 0, 0, []), (19, .iinc 3 1, 3, 0, 0, 0, []), (22, .goto (-20), 3, 0, 0, 0, []), (25, .iload_n 3, 1, 0, 0, 0, []), (26, .ireturn, 1, 0, 0, 0, [])]]
def mX12_placeBy : xMeth := (yX12_placeBy, cX12_placeBy, 4, (some FieldType.int), kX12_placeBy)
def kX12_doesBeat : xC := [[(0, .iconst 0, 1, 0, 0, 0, []), (1, .istore_n 3, 1, 0, 0, 0, []), (2, .iconst 0, 1, 0, 0, 0, []), (3, .istore 4, 2, 0, 0, 0, []), (5, .iload 4, 2, 0, 0, 0, []), (7, .iconst 5, 1, 0, 0, 0, []), (8, .if_icmp .ge 53, 3, 0, 0, 0, []), (11, .iload_n 3, 1, 0, 0, 0, []), (12, .aload_n 0, 1, 0, 0, 0, []), (13, .iload 4, 2, 0, 0, 0, []), (15, .iload_n 1, 1, 0, 0, 0, []), (16, .invokevirtual 438, 3, 326, 3, 0, [2095, 2098, 123, 2097, 106, 12]), (19, .aload_n 0, 1, 0, 0, 0, []), (20, .iload 4, 2, 0, 0, 0, []), (22, .iload_n 2, 1, 0, 0, 0, []), (23, .invokevirtual 438, 3, 326, 3, 0, [2095, 2098, 123, 2097, 106, 12]), (26, .if_icmp .ge 16, 3, 0, 0, 0, []), (29, .aload_n 0, 1, 0, 0, 0, []), (30, .getfield 7, 3, 12, 0, 0, [1483])],
  [(33, .bipush 87, 2, 0, 0, 0, []), (35, .iload 4, 2, 0, 0, 0, []), (37, .iadd, 1, 0, 0, 0, []), (38, .iaload, 1, 0, 0, 0, []), (39, .goto 14, 3, 0, 0, 0, []), (42, .aload_n 0, 1, 0, 0, 0, []), (43, .getfield 7, 3, 12, 0, 0, [1483]), (46, .bipush 87, 2, 0, 0, 0, []), (48, .iload 4, 2, 0, 0, 0, []), (50, .iadd, 1, 0, 0, 0, []), (51, .iaload, 1, 0, 0, 0, []), (52, .ineg, 1, 0, 0, 0, []), (53, .iadd, 1, 0, 0, 0, []), (54, .istore_n 3, 1, 0, 0, 0, []), (55, .iinc 4 1, 3, 0, 0, 0, []), (58, .goto (-53), 3, 0, 0, 0, []), (61, .iload_n 3, 1, 0, 0, 0, []), (62, .ifCond .le 7, 3, 0, 0, 0, [])],
  [(65, .iconst 1, 1, 0, 0, 0, []), (66, .goto 4, 3, 0, 0, 0, []), (69, .iconst 0, 1, 0, 0, 0, []), (70, .ireturn, 1, 0, 0, 0, [])]]
def mX12_doesBeat : xMeth := (yX12_doesBeat, cX12_doesBeat, 5, (some FieldType.boolean), kX12_doesBeat)
def kX12_beats : xC := [[(0, .iload_n 1, 1, 0, 0, 0, []), (1, .invokestatic 441, 3, 323, 1, 0, [2088, 2090, 123, 2089]), (4, .ifCond .eq 28, 3, 0, 0, 0, []), (7, .iload_n 2, 1, 0, 0, 0, []), (8, .invokestatic 441, 3, 323, 1, 0, [2088, 2090, 123, 2089]), (11, .ifCond .eq 21, 3, 0, 0, 0, []), (14, .iload_n 1, 1, 0, 0, 0, []), (15, .iload_n 2, 1, 0, 0, 0, []), (16, .if_icmp .eq 16, 3, 0, 0, 0, []), (19, .aload_n 0, 1, 0, 0, 0, []), (20, .iload_n 1, 1, 0, 0, 0, []), (21, .iload_n 2, 1, 0, 0, 0, []), (22, .invokevirtual 444, 3, 327, 3, 0, [2091, 2094, 123, 2093, 105, 12]), (25, .ifCond .eq 7, 3, 0, 0, 0, []), (28, .iconst 1, 1, 0, 0, 0, []), (29, .goto 4, 3, 0, 0, 0, [])],
  [(32, .iconst 0, 1, 0, 0, 0, []), (33, .ireturn, 1, 0, 0, 0, [])]]
def mX12_beats : xMeth := (yX12_beats, cX12_beats, 3, (some FieldType.boolean), kX12_beats)
def kX12_winner : xC := [[(0, .iconst 0, 1, 0, 0, 0, []), (1, .istore_n 1, 1, 0, 0, 0, []), (2, .iload_n 1, 1, 0, 0, 0, []), (3, .iconst 4, 1, 0, 0, 0, []), (4, .if_icmp .ge 54, 3, 0, 0, 0, []), (7, .iconst 1, 1, 0, 0, 0, []), (8, .istore_n 2, 1, 0, 0, 0, []), (9, .iconst 0, 1, 0, 0, 0, []), (10, .istore_n 3, 1, 0, 0, 0, []), (11, .iload_n 3, 1, 0, 0, 0, []), (12, .iconst 4, 1, 0, 0, 0, []), (13, .if_icmp .ge 33, 3, 0, 0, 0, []), (16, .iload_n 2, 1, 0, 0, 0, []), (17, .ifCond .eq 21, 3, 0, 0, 0, []), (20, .iload_n 1, 1, 0, 0, 0, []), (21, .iload_n 3, 1, 0, 0, 0, []), (22, .if_icmp .eq 12, 3, 0, 0, 0, []), (25, .aload_n 0, 1, 0, 0, 0, []), (26, .iload_n 1, 1, 0, 0, 0, []), (27, .iload_n 3, 1, 0, 0, 0, []), (28, .invokevirtual 444, 3, 327, 3, 0, [2091, 2094, 123, 2093, 105, 12]), (31, .ifCond .eq 7, 3, 0, 0, 0, [])],
  [(34, .iconst 1, 1, 0, 0, 0, []), (35, .goto 4, 3, 0, 0, 0, []), (38, .iconst 0, 1, 0, 0, 0, []), (39, .istore_n 2, 1, 0, 0, 0, []), (40, .iinc 3 1, 3, 0, 0, 0, []), (43, .goto (-32), 3, 0, 0, 0, []), (46, .iload_n 2, 1, 0, 0, 0, []), (47, .ifCond .eq 5, 3, 0, 0, 0, []), (50, .iload_n 1, 1, 0, 0, 0, []), (51, .ireturn, 1, 0, 0, 0, []), (52, .iinc 1 1, 3, 0, 0, 0, []), (55, .goto (-53), 3, 0, 0, 0, []), (58, .iconst (-1), 1, 0, 0, 0, []), (59, .ireturn, 1, 0, 0, 0, [])]]
def mX12_winner : xMeth := (yX12_winner, cX12_winner, 4, (some FieldType.int), kX12_winner)
def kX12_points : xC := [[(0, .iload_n 1, 1, 0, 0, 0, []), (1, .invokestatic 441, 3, 323, 1, 0, [2088, 2090, 123, 2089]), (4, .ifCond .ne 5, 3, 0, 0, 0, []), (7, .iconst (-1), 1, 0, 0, 0, []), (8, .ireturn, 1, 0, 0, 0, []), (9, .iconst 0, 1, 0, 0, 0, []), (10, .istore_n 2, 1, 0, 0, 0, []), (11, .iconst 0, 1, 0, 0, 0, []), (12, .istore_n 3, 1, 0, 0, 0, []), (13, .iload_n 3, 1, 0, 0, 0, []), (14, .iconst 5, 1, 0, 0, 0, []), (15, .if_icmp .ge 30, 3, 0, 0, 0, []), (18, .iload_n 2, 1, 0, 0, 0, []), (19, .aload_n 0, 1, 0, 0, 0, []), (20, .getfield 7, 3, 12, 0, 0, [1483]), (23, .bipush 87, 2, 0, 0, 0, []), (25, .iload_n 3, 1, 0, 0, 0, []), (26, .iadd, 1, 0, 0, 0, []), (27, .iaload, 1, 0, 0, 0, []), (28, .iconst 3, 1, 0, 0, 0, []), (29, .aload_n 0, 1, 0, 0, 0, []), (30, .iload_n 3, 1, 0, 0, 0, []), (31, .iload_n 1, 1, 0, 0, 0, [])],
  [(32, .invokevirtual 438, 3, 326, 3, 0, [2095, 2098, 123, 2097, 106, 12]), (35, .isub, 1, 0, 0, 0, []), (36, .imul, 1, 0, 0, 0, []), (37, .iadd, 1, 0, 0, 0, []), (38, .istore_n 2, 1, 0, 0, 0, []), (39, .iinc 3 1, 3, 0, 0, 0, []), (42, .goto (-29), 3, 0, 0, 0, []), (45, .iload_n 2, 1, 0, 0, 0, []), (46, .ireturn, 1, 0, 0, 0, [])]]
def mX12_points : xMeth := (yX12_points, cX12_points, 4, (some FieldType.int), kX12_points)
def kX12_firstVotes : xC := [[(0, .iconst 0, 1, 0, 0, 0, []), (1, .istore_n 3, 1, 0, 0, 0, []), (2, .iconst 0, 1, 0, 0, 0, []), (3, .istore 4, 2, 0, 0, 0, []), (5, .iload 4, 2, 0, 0, 0, []), (7, .iconst 5, 1, 0, 0, 0, []), (8, .if_icmp .ge 88, 3, 0, 0, 0, []), (11, .iconst 1, 1, 0, 0, 0, []), (12, .istore 5, 2, 0, 0, 0, []), (14, .iconst 0, 1, 0, 0, 0, []), (15, .istore 6, 2, 0, 0, 0, []), (17, .iload 6, 2, 0, 0, 0, []), (19, .iconst 4, 1, 0, 0, 0, []), (20, .if_icmp .ge 48, 3, 0, 0, 0, []), (23, .iload 5, 2, 0, 0, 0, []), (25, .ifCond .eq 34, 3, 0, 0, 0, []), (28, .iload_n 2, 1, 0, 0, 0, []), (29, .iload 6, 2, 0, 0, 0, []), (31, .invokestatic 76, 3, 199, 2, 0, [1660, 1662, 123, 1661])],
  [(34, .ifCond .eq 21, 3, 0, 0, 0, []), (37, .aload_n 0, 1, 0, 0, 0, []), (38, .iload 4, 2, 0, 0, 0, []), (40, .iload_n 1, 1, 0, 0, 0, []), (41, .invokevirtual 438, 3, 326, 3, 0, [2095, 2098, 123, 2097, 106, 12]), (44, .aload_n 0, 1, 0, 0, 0, []), (45, .iload 4, 2, 0, 0, 0, []), (47, .iload 6, 2, 0, 0, 0, []), (49, .invokevirtual 438, 3, 326, 3, 0, [2095, 2098, 123, 2097, 106, 12]), (52, .if_icmp .gt 7, 3, 0, 0, 0, []), (55, .iconst 1, 1, 0, 0, 0, []), (56, .goto 4, 3, 0, 0, 0, []), (59, .iconst 0, 1, 0, 0, 0, []), (60, .istore 5, 2, 0, 0, 0, []), (62, .iinc 6 1, 3, 0, 0, 0, [])],
  [(65, .goto (-48), 3, 0, 0, 0, []), (68, .iload_n 3, 1, 0, 0, 0, []), (69, .iload 5, 2, 0, 0, 0, []), (71, .ifCond .eq 16, 3, 0, 0, 0, []), (74, .aload_n 0, 1, 0, 0, 0, []), (75, .getfield 7, 3, 12, 0, 0, [1483]), (78, .bipush 87, 2, 0, 0, 0, []), (80, .iload 4, 2, 0, 0, 0, []), (82, .iadd, 1, 0, 0, 0, []), (83, .iaload, 1, 0, 0, 0, []), (84, .goto 4, 3, 0, 0, 0, []), (87, .iconst 0, 1, 0, 0, 0, []), (88, .iadd, 1, 0, 0, 0, []), (89, .istore_n 3, 1, 0, 0, 0, []), (90, .iinc 4 1, 3, 0, 0, 0, []), (93, .goto (-88), 3, 0, 0, 0, [])],
  [(96, .iload_n 3, 1, 0, 0, 0, []), (97, .ireturn, 1, 0, 0, 0, [])]]
def mX12_firstVotes : xMeth := (yX12_firstVotes, cX12_firstVotes, 7, (some FieldType.int), kX12_firstVotes)
def kX12_runoff : xC := [[(0, .bipush 15, 2, 0, 0, 0, []), (2, .istore_n 1, 1, 0, 0, 0, []), (3, .iload_n 1, 1, 0, 0, 0, []), (4, .invokestatic 288, 3, 200, 1, 0, [1825, 1827, 123, 1826]), (7, .iconst 1, 1, 0, 0, 0, []), (8, .if_icmp .le 58, 3, 0, 0, 0, []), (11, .iconst (-1), 1, 0, 0, 0, []), (12, .istore_n 2, 1, 0, 0, 0, []), (13, .iconst 3, 1, 0, 0, 0, []), (14, .istore_n 3, 1, 0, 0, 0, []), (15, .iload_n 3, 1, 0, 0, 0, []), (16, .ifCond .lt 39, 3, 0, 0, 0, []), (19, .iload_n 1, 1, 0, 0, 0, []), (20, .iload_n 3, 1, 0, 0, 0, []), (21, .invokestatic 76, 3, 199, 2, 0, [1660, 1662, 123, 1661]), (24, .ifCond .eq 25, 3, 0, 0, 0, []), (27, .iload_n 2, 1, 0, 0, 0, []), (28, .iconst (-1), 1, 0, 0, 0, []), (29, .if_icmp .eq 18, 3, 0, 0, 0, [])],
  [(32, .aload_n 0, 1, 0, 0, 0, []), (33, .iload_n 3, 1, 0, 0, 0, []), (34, .iload_n 1, 1, 0, 0, 0, []), (35, .invokevirtual 447, 3, 331, 3, 0, [2117, 2120, 123, 2119, 107, 12]), (38, .aload_n 0, 1, 0, 0, 0, []), (39, .iload_n 2, 1, 0, 0, 0, []), (40, .iload_n 1, 1, 0, 0, 0, []), (41, .invokevirtual 447, 3, 331, 3, 0, [2117, 2120, 123, 2119, 107, 12]), (44, .if_icmp .ge 5, 3, 0, 0, 0, []), (47, .iload_n 3, 1, 0, 0, 0, []), (48, .istore_n 2, 1, 0, 0, 0, []), (49, .iinc 3 (-1), 3, 0, 0, 0, []), (52, .goto (-37), 3, 0, 0, 0, []), (55, .iload_n 1, 1, 0, 0, 0, []), (56, .iconst 1, 1, 0, 0, 0, []), (57, .iload_n 2, 1, 0, 0, 0, []), (58, .ishl, 1, 0, 0, 0, []), (59, .iconst (-1), 1, 0, 0, 0, []), (60, .ixor, 1, 0, 0, 0, []), (61, .iand, 1, 0, 0, 0, []), (62, .istore_n 1, 1, 0, 0, 0, []), (63, .goto (-60), 3, 0, 0, 0, [])],
  [(66, .iconst 0, 1, 0, 0, 0, []), (67, .istore_n 2, 1, 0, 0, 0, []), (68, .iload_n 1, 1, 0, 0, 0, []), (69, .iload_n 2, 1, 0, 0, 0, []), (70, .invokestatic 76, 3, 199, 2, 0, [1660, 1662, 123, 1661]), (73, .ifCond .ne 9, 3, 0, 0, 0, []), (76, .iinc 2 1, 3, 0, 0, 0, []), (79, .goto (-11), 3, 0, 0, 0, []), (82, .iload_n 2, 1, 0, 0, 0, []), (83, .ireturn, 1, 0, 0, 0, [])]]
def mX12_runoff : xMeth := (yX12_runoff, cX12_runoff, 4, (some FieldType.int), kX12_runoff)
def kX12_layFigures : xC := [[(0, .iconst 1, 1, 0, 0, 0, []), (1, .istore_n 3, 1, 0, 0, 0, []), (2, .aload_n 0, 1, 0, 0, 0, []), (3, .getfield 62, 3, 12, 30, 0, [1513]), (6, .iconst 0, 1, 0, 0, 0, []), (7, .iconst 1, 1, 0, 0, 0, []), (8, .iastore, 1, 0, 0, 0, []), (9, .iconst 0, 1, 0, 0, 0, []), (10, .istore 4, 2, 0, 0, 0, []), (12, .iload 4, 2, 0, 0, 0, []), (14, .iload_n 2, 1, 0, 0, 0, []), (15, .if_icmp .ge 89, 3, 0, 0, 0, []), (18, .iconst 0, 1, 0, 0, 0, []), (19, .istore 5, 2, 0, 0, 0, []), (21, .iconst 0, 1, 0, 0, 0, []), (22, .istore 6, 2, 0, 0, 0, []), (24, .iload 6, 2, 0, 0, 0, []), (26, .iload_n 3, 1, 0, 0, 0, []), (27, .if_icmp .ge 42, 3, 0, 0, 0, []), (30, .iload 5, 2, 0, 0, 0, [])],
  [(32, .aload_n 0, 1, 0, 0, 0, []), (33, .getfield 62, 3, 12, 30, 0, [1513]), (36, .iload 6, 2, 0, 0, 0, []), (38, .iaload, 1, 0, 0, 0, []), (39, .iload_n 1, 1, 0, 0, 0, []), (40, .imul, 1, 0, 0, 0, []), (41, .iadd, 1, 0, 0, 0, []), (42, .istore 5, 2, 0, 0, 0, []), (44, .aload_n 0, 1, 0, 0, 0, []), (45, .getfield 62, 3, 12, 30, 0, [1513]), (48, .iload 6, 2, 0, 0, 0, []), (50, .iload 5, 2, 0, 0, 0, []), (52, .bipush 10, 2, 0, 0, 0, []), (54, .irem, 1, 0, 0, 0, []), (55, .iastore, 1, 0, 0, 0, []), (56, .iload 5, 2, 0, 0, 0, []), (58, .bipush 10, 2, 0, 0, 0, []), (60, .idiv, 1, 0, 0, 0, []), (61, .istore 5, 2, 0, 0, 0, []), (63, .iinc 6 1, 3, 0, 0, 0, [])],
  [(66, .goto (-42), 3, 0, 0, 0, []), (69, .iload 5, 2, 0, 0, 0, []), (71, .ifCond .le 27, 3, 0, 0, 0, []), (74, .aload_n 0, 1, 0, 0, 0, []), (75, .getfield 62, 3, 12, 30, 0, [1513]), (78, .iload_n 3, 1, 0, 0, 0, []), (79, .iload 5, 2, 0, 0, 0, []), (81, .bipush 10, 2, 0, 0, 0, []), (83, .irem, 1, 0, 0, 0, []), (84, .iastore, 1, 0, 0, 0, []), (85, .iload 5, 2, 0, 0, 0, []), (87, .bipush 10, 2, 0, 0, 0, []), (89, .idiv, 1, 0, 0, 0, []), (90, .istore 5, 2, 0, 0, 0, []), (92, .iinc 3 1, 3, 0, 0, 0, []), (95, .goto (-26), 3, 0, 0, 0, [])],
  [(98, .iinc 4 1, 3, 0, 0, 0, []), (101, .goto (-89), 3, 0, 0, 0, []), (104, .iload_n 3, 1, 0, 0, 0, []), (105, .iconst 1, 1, 0, 0, 0, []), (106, .if_icmp .le 20, 3, 0, 0, 0, []), (109, .aload_n 0, 1, 0, 0, 0, []), (110, .getfield 62, 3, 12, 30, 0, [1513]), (113, .iload_n 3, 1, 0, 0, 0, []), (114, .iconst 1, 1, 0, 0, 0, []), (115, .isub, 1, 0, 0, 0, []), (116, .iaload, 1, 0, 0, 0, []), (117, .ifCond .ne 9, 3, 0, 0, 0, []), (120, .iinc 3 (-1), 3, 0, 0, 0, []), (123, .goto (-19), 3, 0, 0, 0, []), (126, .iload_n 3, 1, 0, 0, 0, []), (127, .ireturn, 1, 0, 0, 0, [])]]
def mX12_layFigures : xMeth := (yX12_layFigures, cX12_layFigures, 7, (some FieldType.int), kX12_layFigures)
def kX12_areTimes : xC := [[(0, .iload_n 0, 1, 0, 0, 0, []), (1, .iconst 0, 1, 0, 0, 0, []), (2, .bipush 99, 2, 0, 0, 0, []), (4, .invokestatic 72, 3, 197, 3, 0, [1584, 1586, 123, 1585]), (7, .ifCond .eq 17, 3, 0, 0, 0, []), (10, .iload_n 1, 1, 0, 0, 0, []), (11, .iconst 0, 1, 0, 0, 0, []), (12, .bipush 50, 2, 0, 0, 0, []), (14, .invokestatic 72, 3, 197, 3, 0, [1584, 1586, 123, 1585]), (17, .ifCond .eq 7, 3, 0, 0, 0, []), (20, .iconst 1, 1, 0, 0, 0, []), (21, .goto 4, 3, 0, 0, 0, []), (24, .iconst 0, 1, 0, 0, 0, []), (25, .ireturn, 1, 0, 0, 0, [])]]
def mX12_areTimes : xMeth := (yX12_areTimes, cX12_areTimes, 2, (some FieldType.boolean), kX12_areTimes)
def kX12_digits : xC := [[(0, .iload_n 1, 1, 0, 0, 0, []), (1, .iload_n 2, 1, 0, 0, 0, []), (2, .invokestatic 450, 3, 334, 2, 0, [2125, 2127, 123, 2126]), (5, .ifCond .eq 12, 3, 0, 0, 0, []), (8, .aload_n 0, 1, 0, 0, 0, []), (9, .iload_n 1, 1, 0, 0, 0, []), (10, .iload_n 2, 1, 0, 0, 0, []), (11, .invokevirtual 453, 3, 333, 3, 0, [2128, 2131, 123, 2130, 108, 12]), (14, .goto 4, 3, 0, 0, 0, []), (17, .iconst (-1), 1, 0, 0, 0, []), (18, .ireturn, 1, 0, 0, 0, [])]]
def mX12_digits : xMeth := (yX12_digits, cX12_digits, 3, (some FieldType.int), kX12_digits)
def kX12_digit : xC := [[(0, .iload_n 1, 1, 0, 0, 0, []), (1, .iload_n 2, 1, 0, 0, 0, []), (2, .invokestatic 450, 3, 334, 2, 0, [2125, 2127, 123, 2126]), (5, .ifCond .ne 5, 3, 0, 0, 0, []), (8, .iconst (-1), 1, 0, 0, 0, []), (9, .ireturn, 1, 0, 0, 0, []), (10, .aload_n 0, 1, 0, 0, 0, []), (11, .iload_n 1, 1, 0, 0, 0, []), (12, .iload_n 2, 1, 0, 0, 0, []), (13, .invokevirtual 453, 3, 333, 3, 0, [2128, 2131, 123, 2130, 108, 12]), (16, .istore 4, 2, 0, 0, 0, []), (18, .iload_n 3, 1, 0, 0, 0, []), (19, .iconst 0, 1, 0, 0, 0, []), (20, .iload 4, 2, 0, 0, 0, []), (22, .iconst 1, 1, 0, 0, 0, []), (23, .isub, 1, 0, 0, 0, []), (24, .invokestatic 72, 3, 197, 3, 0, [1584, 1586, 123, 1585]), (27, .ifCond .eq 17, 3, 0, 0, 0, []), (30, .aload_n 0, 1, 0, 0, 0, []), (31, .getfield 62, 3, 12, 30, 0, [1513])],
  [(34, .iload 4, 2, 0, 0, 0, []), (36, .iconst 1, 1, 0, 0, 0, []), (37, .isub, 1, 0, 0, 0, []), (38, .iload_n 3, 1, 0, 0, 0, []), (39, .isub, 1, 0, 0, 0, []), (40, .iaload, 1, 0, 0, 0, []), (41, .goto 4, 3, 0, 0, 0, []), (44, .iconst (-1), 1, 0, 0, 0, []), (45, .ireturn, 1, 0, 0, 0, [])]]
def mX12_digit : xMeth := (yX12_digit, cX12_digit, 5, (some FieldType.int), kX12_digit)
def kX12_isGuess : xC := [[(0, .iload_n 0, 1, 0, 0, 0, []), (1, .iconst 0, 1, 0, 0, 0, []), (2, .sipush 999, 3, 0, 0, 0, []), (5, .invokestatic 72, 3, 197, 3, 0, [1584, 1586, 123, 1585]), (8, .ireturn, 1, 0, 0, 0, [])]]
def mX12_isGuess : xMeth := (yX12_isGuess, cX12_isGuess, 1, (some FieldType.boolean), kX12_isGuess)
def kX12_depth : xC := [[(0, .iload_n 1, 1, 0, 0, 0, []), (1, .invokestatic 456, 3, 337, 1, 0, [2140, 2142, 123, 2141]), (4, .ifCond .eq 13, 3, 0, 0, 0, []), (7, .iload_n 2, 1, 0, 0, 0, []), (8, .iconst 0, 1, 0, 0, 0, []), (9, .bipush 99, 2, 0, 0, 0, []), (11, .invokestatic 72, 3, 197, 3, 0, [1584, 1586, 123, 1585]), (14, .ifCond .ne 5, 3, 0, 0, 0, []), (17, .iconst (-1), 1, 0, 0, 0, []), (18, .ireturn, 1, 0, 0, 0, []), (19, .iload_n 1, 1, 0, 0, 0, []), (20, .istore_n 3, 1, 0, 0, 0, []), (21, .iconst 0, 1, 0, 0, 0, []), (22, .istore 4, 2, 0, 0, 0, []), (24, .iload 4, 2, 0, 0, 0, []), (26, .iload_n 2, 1, 0, 0, 0, []), (27, .if_icmp .ge 15, 3, 0, 0, 0, []), (30, .iload_n 3, 1, 0, 0, 0, []), (31, .iconst 2, 1, 0, 0, 0, [])],
  [(32, .imul, 1, 0, 0, 0, []), (33, .iconst 3, 1, 0, 0, 0, []), (34, .idiv, 1, 0, 0, 0, []), (35, .istore_n 3, 1, 0, 0, 0, []), (36, .iinc 4 1, 3, 0, 0, 0, []), (39, .goto (-15), 3, 0, 0, 0, []), (42, .iload_n 3, 1, 0, 0, 0, []), (43, .ireturn, 1, 0, 0, 0, [])]]
def mX12_depth : xMeth := (yX12_depth, cX12_depth, 5, (some FieldType.int), kX12_depth)
def kX12_rests : xC := [[(0, .iload_n 1, 1, 0, 0, 0, []), (1, .invokestatic 456, 3, 337, 1, 0, [2140, 2142, 123, 2141]), (4, .ifCond .ne 5, 3, 0, 0, 0, []), (7, .iconst (-1), 1, 0, 0, 0, []), (8, .ireturn, 1, 0, 0, 0, []), (9, .iconst 0, 1, 0, 0, 0, []), (10, .istore_n 2, 1, 0, 0, 0, []), (11, .aload_n 0, 1, 0, 0, 0, []), (12, .iload_n 1, 1, 0, 0, 0, []), (13, .iload_n 2, 1, 0, 0, 0, []), (14, .invokevirtual 459, 3, 338, 3, 0, [2147, 2139, 123, 2137, 2138, 12]), (17, .aload_n 0, 1, 0, 0, 0, []), (18, .iload_n 1, 1, 0, 0, 0, []), (19, .iload_n 2, 1, 0, 0, 0, []), (20, .iconst 1, 1, 0, 0, 0, []), (21, .iadd, 1, 0, 0, 0, []), (22, .invokevirtual 459, 3, 338, 3, 0, [2147, 2139, 123, 2137, 2138, 12]), (25, .if_icmp .eq 9, 3, 0, 0, 0, []), (28, .iinc 2 1, 3, 0, 0, 0, []), (31, .goto (-20), 3, 0, 0, 0, [])],
  [(34, .iload_n 2, 1, 0, 0, 0, []), (35, .ireturn, 1, 0, 0, 0, [])]]
def mX12_rests : xMeth := (yX12_rests, cX12_rests, 3, (some FieldType.int), kX12_rests)
def kX12_winAt : xC := [[(0, .bipush 81, 2, 0, 0, 0, []), (2, .iload_n 0, 1, 0, 0, 0, []), (3, .imul, 1, 0, 0, 0, []), (4, .iload_n 1, 1, 0, 0, 0, []), (5, .bipush 80, 2, 0, 0, 0, []), (7, .if_icmp .le 8, 3, 0, 0, 0, []), (10, .bipush 80, 2, 0, 0, 0, []), (12, .goto 4, 3, 0, 0, 0, []), (15, .iload_n 1, 1, 0, 0, 0, []), (16, .iadd, 1, 0, 0, 0, []), (17, .ireturn, 1, 0, 0, 0, [])]]
def mX12_winAt : xMeth := (yX12_winAt, cX12_winAt, 2, (some FieldType.int), kX12_winAt)
def kX12_takeOf : xC := [[(0, .iconst 1, 1, 0, 0, 0, []), (1, .istore_n 3, 1, 0, 0, 0, []), (2, .iload_n 3, 1, 0, 0, 0, []), (3, .iload_n 2, 1, 0, 0, 0, []), (4, .if_icmp .gt 33, 3, 0, 0, 0, []), (7, .iload_n 3, 1, 0, 0, 0, []), (8, .iload_n 1, 1, 0, 0, 0, []), (9, .if_icmp .gt 28, 3, 0, 0, 0, []), (12, .aload_n 0, 1, 0, 0, 0, []), (13, .getfield 65, 3, 12, 31, 0, [1514]), (16, .iload_n 1, 1, 0, 0, 0, []), (17, .iload_n 3, 1, 0, 0, 0, []), (18, .isub, 1, 0, 0, 0, []), (19, .iconst 2, 1, 0, 0, 0, []), (20, .iload_n 3, 1, 0, 0, 0, []), (21, .imul, 1, 0, 0, 0, []), (22, .invokestatic 462, 3, 340, 2, 0, [2156, 2158, 123, 2157]), (25, .baload, 1, 0, 0, 0, []), (26, .ifCond .ne 5, 3, 0, 0, 0, []), (29, .iload_n 3, 1, 0, 0, 0, []), (30, .ireturn, 1, 0, 0, 0, []), (31, .iinc 3 1, 3, 0, 0, 0, [])],
  [(34, .goto (-32), 3, 0, 0, 0, []), (37, .iconst (-1), 1, 0, 0, 0, []), (38, .ireturn, 1, 0, 0, 0, [])]]
def mX12_takeOf : xMeth := (yX12_takeOf, cX12_takeOf, 4, (some FieldType.int), kX12_takeOf)
def kX12_layWins : xC := [[(0, .iconst 0, 1, 0, 0, 0, []), (1, .istore_n 2, 1, 0, 0, 0, []), (2, .iload_n 2, 1, 0, 0, 0, []), (3, .iload_n 1, 1, 0, 0, 0, []), (4, .if_icmp .ge 48, 3, 0, 0, 0, []), (7, .iconst 0, 1, 0, 0, 0, []), (8, .istore_n 3, 1, 0, 0, 0, []), (9, .iload_n 3, 1, 0, 0, 0, []), (10, .bipush 80, 2, 0, 0, 0, []), (12, .if_icmp .gt 34, 3, 0, 0, 0, []), (15, .aload_n 0, 1, 0, 0, 0, []), (16, .getfield 65, 3, 12, 31, 0, [1514]), (19, .iload_n 2, 1, 0, 0, 0, []), (20, .iload_n 3, 1, 0, 0, 0, []), (21, .invokestatic 462, 3, 340, 2, 0, [2156, 2158, 123, 2157]), (24, .aload_n 0, 1, 0, 0, 0, []), (25, .iload_n 2, 1, 0, 0, 0, []), (26, .iload_n 3, 1, 0, 0, 0, []), (27, .invokevirtual 465, 3, 341, 3, 0, [2159, 2162, 123, 2161, 110, 12]), (30, .iconst (-1), 1, 0, 0, 0, []), (31, .if_icmp .eq 7, 3, 0, 0, 0, [])],
  [(34, .iconst 1, 1, 0, 0, 0, []), (35, .goto 4, 3, 0, 0, 0, []), (38, .iconst 0, 1, 0, 0, 0, []), (39, .bastore, 1, 0, 0, 0, []), (40, .iinc 3 1, 3, 0, 0, 0, []), (43, .goto (-34), 3, 0, 0, 0, []), (46, .iinc 2 1, 3, 0, 0, 0, []), (49, .goto (-47), 3, 0, 0, 0, []), (52, .return_, 1, 0, 0, 0, [])]]
def mX12_layWins : xMeth := (yX12_layWins, cX12_layWins, 4, none, kX12_layWins)
def kX12_game : xC := [[(0, .iload_n 1, 1, 0, 0, 0, []), (1, .iconst 0, 1, 0, 0, 0, []), (2, .bipush 40, 2, 0, 0, 0, []), (4, .invokestatic 72, 3, 197, 3, 0, [1584, 1586, 123, 1585]), (7, .ifCond .ne 5, 3, 0, 0, 0, []), (10, .iconst (-1), 1, 0, 0, 0, []), (11, .ireturn, 1, 0, 0, 0, []), (12, .aload_n 0, 1, 0, 0, 0, []), (13, .iload_n 1, 1, 0, 0, 0, []), (14, .invokevirtual 468, 3, 342, 2, 0, [2152, 2155, 123, 2154, 109, 12]), (17, .iload_n 1, 1, 0, 0, 0, []), (18, .iconst 1, 1, 0, 0, 0, []), (19, .if_icmp .eq 15, 3, 0, 0, 0, []), (22, .aload_n 0, 1, 0, 0, 0, []), (23, .iload_n 1, 1, 0, 0, 0, []), (24, .iload_n 1, 1, 0, 0, 0, []), (25, .iconst 1, 1, 0, 0, 0, []), (26, .isub, 1, 0, 0, 0, []), (27, .invokevirtual 465, 3, 341, 3, 0, [2159, 2162, 123, 2161, 110, 12]), (30, .iconst (-1), 1, 0, 0, 0, []), (31, .if_icmp .eq 7, 3, 0, 0, 0, [])],
  [(34, .iconst 1, 1, 0, 0, 0, []), (35, .goto 4, 3, 0, 0, 0, []), (38, .iconst 0, 1, 0, 0, 0, []), (39, .ireturn, 1, 0, 0, 0, [])]]
def mX12_game : xMeth := (yX12_game, cX12_game, 2, (some FieldType.int), kX12_game)
def kX12_take : xC := [[(0, .iload_n 1, 1, 0, 0, 0, []), (1, .iconst 0, 1, 0, 0, 0, []), (2, .bipush 40, 2, 0, 0, 0, []), (4, .invokestatic 72, 3, 197, 3, 0, [1584, 1586, 123, 1585]), (7, .ifCond .eq 13, 3, 0, 0, 0, []), (10, .iload_n 2, 1, 0, 0, 0, []), (11, .iconst 1, 1, 0, 0, 0, []), (12, .bipush 40, 2, 0, 0, 0, []), (14, .invokestatic 72, 3, 197, 3, 0, [1584, 1586, 123, 1585]), (17, .ifCond .ne 5, 3, 0, 0, 0, []), (20, .iconst (-1), 1, 0, 0, 0, []), (21, .ireturn, 1, 0, 0, 0, []), (22, .aload_n 0, 1, 0, 0, 0, []), (23, .iload_n 1, 1, 0, 0, 0, []), (24, .invokevirtual 468, 3, 342, 2, 0, [2152, 2155, 123, 2154, 109, 12]), (27, .aload_n 0, 1, 0, 0, 0, []), (28, .iload_n 1, 1, 0, 0, 0, []), (29, .iload_n 2, 1, 0, 0, 0, []), (30, .invokevirtual 465, 3, 341, 3, 0, [2159, 2162, 123, 2161, 110, 12])],
  [(33, .ireturn, 1, 0, 0, 0, [])]]
def mX12_take : xMeth := (yX12_take, cX12_take, 3, (some FieldType.int), kX12_take)
def kX12_told : xC := [[(0, .iload_n 1, 1, 0, 0, 0, []), (1, .iconst (-1), 1, 0, 0, 0, []), (2, .if_icmp .ne 12, 3, 0, 0, 0, []), (5, .aload_n 0, 1, 0, 0, 0, []), (6, .getfield 7, 3, 12, 0, 0, [1483]), (9, .iconst 5, 1, 0, 0, 0, []), (10, .iconst 0, 1, 0, 0, 0, []), (11, .iastore, 1, 0, 0, 0, []), (12, .iconst 0, 1, 0, 0, 0, []), (13, .ireturn, 1, 0, 0, 0, []), (14, .iload_n 1, 1, 0, 0, 0, []), (15, .invokestatic 91, 3, 202, 1, 0, [1591, 1593, 123, 1592]), (18, .ifCond .eq 25, 3, 0, 0, 0, []), (21, .iload_n 2, 1, 0, 0, 0, []), (22, .bipush (-99), 2, 0, 0, 0, []), (24, .bipush 99, 2, 0, 0, 0, []), (26, .invokestatic 72, 3, 197, 3, 0, [1584, 1586, 123, 1585]), (29, .ifCond .eq 14, 3, 0, 0, 0, [])],
  [(32, .aload_n 0, 1, 0, 0, 0, []), (33, .getfield 7, 3, 12, 0, 0, [1483]), (36, .iconst 5, 1, 0, 0, 0, []), (37, .iaload, 1, 0, 0, 0, []), (38, .bipush 8, 2, 0, 0, 0, []), (40, .if_icmp .ne 6, 3, 0, 0, 0, []), (43, .bipush (-2), 2, 0, 0, 0, []), (45, .ireturn, 1, 0, 0, 0, []), (46, .aload_n 0, 1, 0, 0, 0, []), (47, .getfield 7, 3, 12, 0, 0, [1483]), (50, .bipush 92, 2, 0, 0, 0, []), (52, .iconst 2, 1, 0, 0, 0, []), (53, .aload_n 0, 1, 0, 0, 0, []), (54, .getfield 7, 3, 12, 0, 0, [1483]), (57, .iconst 5, 1, 0, 0, 0, []), (58, .iaload, 1, 0, 0, 0, []), (59, .imul, 1, 0, 0, 0, []), (60, .iadd, 1, 0, 0, 0, []), (61, .iload_n 1, 1, 0, 0, 0, []), (62, .iastore, 1, 0, 0, 0, []), (63, .aload_n 0, 1, 0, 0, 0, [])],
  [(64, .getfield 7, 3, 12, 0, 0, [1483]), (67, .bipush 92, 2, 0, 0, 0, []), (69, .iconst 2, 1, 0, 0, 0, []), (70, .aload_n 0, 1, 0, 0, 0, []), (71, .getfield 7, 3, 12, 0, 0, [1483]), (74, .iconst 5, 1, 0, 0, 0, []), (75, .iaload, 1, 0, 0, 0, []), (76, .imul, 1, 0, 0, 0, []), (77, .iadd, 1, 0, 0, 0, []), (78, .iconst 1, 1, 0, 0, 0, []), (79, .iadd, 1, 0, 0, 0, []), (80, .iload_n 2, 1, 0, 0, 0, []), (81, .iastore, 1, 0, 0, 0, []), (82, .aload_n 0, 1, 0, 0, 0, []), (83, .getfield 7, 3, 12, 0, 0, [1483]), (86, .iconst 5, 1, 0, 0, 0, []), (87, .dup2, 1, 0, 0, 0, []), (88, .iaload, 1, 0, 0, 0, []), (89, .iconst 1, 1, 0, 0, 0, []), (90, .iadd, 1, 0, 0, 0, []), (91, .iastore, 1, 0, 0, 0, []), (92, .aload_n 0, 1, 0, 0, 0, []), (93, .getfield 7, 3, 12, 0, 0, [1483])],
  [(96, .iconst 5, 1, 0, 0, 0, []), (97, .iaload, 1, 0, 0, 0, []), (98, .ireturn, 1, 0, 0, 0, [])]]
def mX12_told : xMeth := (yX12_told, cX12_told, 3, (some FieldType.int), kX12_told)
def kX12_whose : xC := [[(0, .iconst 0, 1, 0, 0, 0, []), (1, .istore_n 1, 1, 0, 0, 0, []), (2, .iconst 0, 1, 0, 0, 0, []), (3, .istore_n 2, 1, 0, 0, 0, []), (4, .iload_n 2, 1, 0, 0, 0, []), (5, .aload_n 0, 1, 0, 0, 0, []), (6, .getfield 7, 3, 12, 0, 0, [1483]), (9, .iconst 1, 1, 0, 0, 0, []), (10, .iaload, 1, 0, 0, 0, []), (11, .if_icmp .ge 85, 3, 0, 0, 0, []), (14, .iconst 1, 1, 0, 0, 0, []), (15, .istore_n 3, 1, 0, 0, 0, []), (16, .bipush 92, 2, 0, 0, 0, []), (18, .istore 4, 2, 0, 0, 0, []), (20, .iload 4, 2, 0, 0, 0, []), (22, .bipush 92, 2, 0, 0, 0, []), (24, .iconst 2, 1, 0, 0, 0, []), (25, .aload_n 0, 1, 0, 0, 0, []), (26, .getfield 7, 3, 12, 0, 0, [1483]), (29, .iconst 5, 1, 0, 0, 0, []), (30, .iaload, 1, 0, 0, 0, []), (31, .imul, 1, 0, 0, 0, [])],
  [(32, .iadd, 1, 0, 0, 0, []), (33, .if_icmp .ge 43, 3, 0, 0, 0, []), (36, .iload_n 3, 1, 0, 0, 0, []), (37, .ifCond .eq 31, 3, 0, 0, 0, []), (40, .aload_n 0, 1, 0, 0, 0, []), (41, .iload_n 2, 1, 0, 0, 0, []), (42, .aload_n 0, 1, 0, 0, 0, []), (43, .getfield 7, 3, 12, 0, 0, [1483]), (46, .iload 4, 2, 0, 0, 0, []), (48, .iaload, 1, 0, 0, 0, []), (49, .invokevirtual 319, 3, 258, 3, 0, [1858, 1861, 123, 1860, 87, 12]), (52, .aload_n 0, 1, 0, 0, 0, []), (53, .getfield 7, 3, 12, 0, 0, [1483]), (56, .iload 4, 2, 0, 0, 0, []), (58, .iconst 1, 1, 0, 0, 0, []), (59, .iadd, 1, 0, 0, 0, []), (60, .iaload, 1, 0, 0, 0, []), (61, .if_icmp .ne 7, 3, 0, 0, 0, [])],
  [(64, .iconst 1, 1, 0, 0, 0, []), (65, .goto 4, 3, 0, 0, 0, []), (68, .iconst 0, 1, 0, 0, 0, []), (69, .istore_n 3, 1, 0, 0, 0, []), (70, .iinc 4 2, 3, 0, 0, 0, []), (73, .goto (-53), 3, 0, 0, 0, []), (76, .iload_n 1, 1, 0, 0, 0, []), (77, .iload_n 3, 1, 0, 0, 0, []), (78, .ifCond .eq 9, 3, 0, 0, 0, []), (81, .iconst 1, 1, 0, 0, 0, []), (82, .iload_n 2, 1, 0, 0, 0, []), (83, .ishl, 1, 0, 0, 0, []), (84, .goto 4, 3, 0, 0, 0, []), (87, .iconst 0, 1, 0, 0, 0, []), (88, .ior, 1, 0, 0, 0, []), (89, .istore_n 1, 1, 0, 0, 0, []), (90, .iinc 2 1, 3, 0, 0, 0, []), (93, .goto (-89), 3, 0, 0, 0, [])],
  [(96, .iload_n 1, 1, 0, 0, 0, []), (97, .ireturn, 1, 0, 0, 0, [])]]
def mX12_whose : xMeth := (yX12_whose, cX12_whose, 5, (some FieldType.int), kX12_whose)
def kX12_image : xC := [[(0, .aload_n 0, 1, 0, 0, 0, []), (1, .getfield 7, 3, 12, 0, 0, [1483]), (4, .aload_n 0, 1, 0, 0, 0, []), (5, .getfield 13, 3, 12, 1, 0, [1484]), (8, .invokestatic 68, 3, 196, 2, 0, [1480, 1482, 123, 1481]), (11, .aload_n 0, 1, 0, 0, 0, []), (12, .getfield 7, 3, 12, 0, 0, [1483]), (15, .bipush 6, 2, 0, 0, 0, []), (17, .iaload, 1, 0, 0, 0, []), (18, .ireturn, 1, 0, 0, 0, [])]]
def mX12_image : xMeth := (yX12_image, cX12_image, 1, (some FieldType.int), kX12_image)
def kX12_back : xC := [[(0, .aload_n 0, 1, 0, 0, 0, []), (1, .getfield 13, 3, 12, 1, 0, [1484]), (4, .aload_n 0, 1, 0, 0, 0, []), (5, .getfield 7, 3, 12, 0, 0, [1483]), (8, .invokestatic 68, 3, 196, 2, 0, [1480, 1482, 123, 1481]), (11, .aload_n 0, 1, 0, 0, 0, []), (12, .getfield 7, 3, 12, 0, 0, [1483]), (15, .bipush 6, 2, 0, 0, 0, []), (17, .iaload, 1, 0, 0, 0, []), (18, .ireturn, 1, 0, 0, 0, [])]]
def mX12_back : xMeth := (yX12_back, cX12_back, 1, (some FieldType.int), kX12_back)
def kX12_about : xC := [[(0, .iload_n 1, 1, 0, 0, 0, []), (1, .iconst 0, 1, 0, 0, 0, []), (2, .iconst 5, 1, 0, 0, 0, []), (3, .invokestatic 72, 3, 197, 3, 0, [1584, 1586, 123, 1585]), (6, .ifCond .eq 12, 3, 0, 0, 0, []), (9, .aload_n 0, 1, 0, 0, 0, []), (10, .getfield 7, 3, 12, 0, 0, [1483]), (13, .iload_n 1, 1, 0, 0, 0, []), (14, .iaload, 1, 0, 0, 0, []), (15, .goto 18, 3, 0, 0, 0, []), (18, .iload_n 1, 1, 0, 0, 0, []), (19, .bipush 6, 2, 0, 0, 0, []), (21, .if_icmp .ne 10, 3, 0, 0, 0, []), (24, .aload_n 0, 1, 0, 0, 0, []), (25, .getfield 94, 3, 12, 4, 0, [1487]), (28, .goto 5, 3, 0, 0, 0, []), (31, .bipush (-2), 2, 0, 0, 0, [])],
  [(33, .ireturn, 1, 0, 0, 0, [])]]
def mX12_about : xMeth := (yX12_about, cX12_about, 2, (some FieldType.int), kX12_about)
def kJ6_bitCount_0f7a4 : xC := [[(0, .iload_n 0, 1, 0, 0, 0, []), (1, .iload_n 0, 1, 0, 0, 0, []), (2, .iconst 1, 1, 0, 0, 0, []), (3, .iushr, 1, 0, 0, 0, []), (4, .ldc_w 265, 3, 0, 0, 1431655765, [985]), (7, .iand, 1, 0, 0, 0, []), (8, .isub, 1, 0, 0, 0, []), (9, .istore_n 0, 1, 0, 0, 0, []), (10, .iload_n 0, 1, 0, 0, 0, []), (11, .ldc_w 266, 3, 0, 0, 858993459, [986]), (14, .iand, 1, 0, 0, 0, []), (15, .iload_n 0, 1, 0, 0, 0, []), (16, .iconst 2, 1, 0, 0, 0, []), (17, .iushr, 1, 0, 0, 0, []), (18, .ldc_w 266, 3, 0, 0, 858993459, [986]), (21, .iand, 1, 0, 0, 0, []), (22, .iadd, 1, 0, 0, 0, []), (23, .istore_n 0, 1, 0, 0, 0, []), (24, .iload_n 0, 1, 0, 0, 0, []), (25, .iload_n 0, 1, 0, 0, 0, []), (26, .iconst 4, 1, 0, 0, 0, []), (27, .iushr, 1, 0, 0, 0, []), (28, .iadd, 1, 0, 0, 0, []), (29, .ldc_w 267, 3, 0, 0, 252645135, [987])],
  [(32, .iand, 1, 0, 0, 0, []), (33, .istore_n 0, 1, 0, 0, 0, []), (34, .iload_n 0, 1, 0, 0, 0, []), (35, .iload_n 0, 1, 0, 0, 0, []), (36, .bipush 8, 2, 0, 0, 0, []), (38, .iushr, 1, 0, 0, 0, []), (39, .iadd, 1, 0, 0, 0, []), (40, .istore_n 0, 1, 0, 0, 0, []), (41, .iload_n 0, 1, 0, 0, 0, []), (42, .iload_n 0, 1, 0, 0, 0, []), (43, .bipush 16, 2, 0, 0, 0, []), (45, .iushr, 1, 0, 0, 0, []), (46, .iadd, 1, 0, 0, 0, []), (47, .istore_n 0, 1, 0, 0, 0, []), (48, .iload_n 0, 1, 0, 0, 0, []), (49, .bipush 63, 2, 0, 0, 0, []), (51, .iand, 1, 0, 0, 0, []), (52, .ireturn, 1, 0, 0, 0, [])]]
def mJ6_bitCount_0f7a4 : xMeth := (yJ6_bitCount_0f7a4, cJ6_bitCount_0f7a4, 1, (some FieldType.int), kJ6_bitCount_0f7a4)
def kJ7_fill_d0a16 : xC := [[(0, .iconst 0, 1, 0, 0, 0, []), (1, .istore_n 3, 1, 0, 0, 0, []), (2, .aload_n 0, 1, 0, 0, 0, []), (3, .arraylength, 1, 0, 0, 0, []), (4, .istore 4, 2, 0, 0, 0, []), (6, .iload_n 3, 1, 0, 0, 0, []), (7, .iload 4, 2, 0, 0, 0, []), (9, .if_icmp .ge 13, 3, 0, 0, 0, []), (12, .aload_n 0, 1, 0, 0, 0, []), (13, .iload_n 3, 1, 0, 0, 0, []), (14, .lload_n 1, 1, 0, 0, 0, []), (15, .lastore, 1, 0, 0, 0, []), (16, .iinc 3 1, 3, 0, 0, 0, []), (19, .goto (-13), 3, 0, 0, 0, []), (22, .return_, 1, 0, 0, 0, [])]]
def mJ7_fill_d0a16 : xMeth := (yJ7_fill_d0a16, cJ7_fill_d0a16, 5, none, kJ7_fill_d0a16)
def kJ7_fill_53178 : xC := [[(0, .iconst 0, 1, 0, 0, 0, []), (1, .istore_n 2, 1, 0, 0, 0, []), (2, .aload_n 0, 1, 0, 0, 0, []), (3, .arraylength, 1, 0, 0, 0, []), (4, .istore_n 3, 1, 0, 0, 0, []), (5, .iload_n 2, 1, 0, 0, 0, []), (6, .iload_n 3, 1, 0, 0, 0, []), (7, .if_icmp .ge 13, 3, 0, 0, 0, []), (10, .aload_n 0, 1, 0, 0, 0, []), (11, .iload_n 2, 1, 0, 0, 0, []), (12, .iload_n 1, 1, 0, 0, 0, []), (13, .iastore, 1, 0, 0, 0, []), (14, .iinc 2 1, 3, 0, 0, 0, []), (17, .goto (-12), 3, 0, 0, 0, []), (20, .return_, 1, 0, 0, 0, [])]]
def mJ7_fill_53178 : xMeth := (yJ7_fill_53178, cJ7_fill_53178, 4, none, kJ7_fill_53178)
def kJ7_copyOf_59c91 : xC := [[(0, .iload_n 1, 1, 0, 0, 0, []), (1, .aload_n 0, 1, 0, 0, 0, []), (2, .arraylength, 1, 0, 0, 0, []), (3, .if_icmp .ne 11, 3, 0, 0, 0, []), (6, .aload_n 0, 1, 0, 0, 0, []), (7, .invokevirtual 316, 3, 0, 0, 8, [789, 790, 791, 792, 793, 794]), (10, .checkcast 317, 3, 0, 0, 0, [795]), (13, .areturn, 1, 0, 0, 0, []), (14, .iload_n 1, 1, 0, 0, 0, []), (15, .newarray .int, 2, 0, 0, 0, [202]), (17, .astore_n 2, 1, 0, 0, 0, []), (18, .aload_n 0, 1, 0, 0, 0, []), (19, .iconst 0, 1, 0, 0, 0, []), (20, .aload_n 2, 1, 0, 0, 0, []), (21, .iconst 0, 1, 0, 0, 0, []), (22, .aload_n 0, 1, 0, 0, 0, []), (23, .arraylength, 1, 0, 0, 0, []), (24, .iload_n 1, 1, 0, 0, 0, []), (25, .invokestatic 304, 3, 0, 0, 11, [796, 626, 128, 627]), (28, .invokestatic 150, 3, 0, 0, 9, [797, 799, 798, 132]), (31, .aload_n 2, 1, 0, 0, 0, [])],
  [(32, .areturn, 1, 0, 0, 0, [])]]
def mJ7_copyOf_59c91 : xMeth := (yJ7_copyOf_59c91, cJ7_copyOf_59c91, 3, (some (FieldType.array FieldType.int)), kJ7_copyOf_59c91)
def kJ0_charAt_5068e : xC := [[(0, .aload_n 0, 1, 0, 0, 0, []), (1, .invokevirtual 492, 3, 359, 1, 0, [578, 581, 124, 579, 580, 99]), (4, .ifCond .eq 12, 3, 0, 0, 0, []), (7, .aload_n 0, 1, 0, 0, 0, []), (8, .getfield 9, 3, 0, 0, 5, [2188]), (11, .iload_n 1, 1, 0, 0, 0, []), (12, .invokestatic 495, 3, 360, 2, 0, [584, 586, 125, 585]), (15, .ireturn, 1, 0, 0, 0, []), (16, .aload_n 0, 1, 0, 0, 0, []), (17, .getfield 9, 3, 0, 0, 5, [2188]), (20, .iload_n 1, 1, 0, 0, 0, []), (24, .ireturn, 1, 0, 0, 0, [])]]
def mJ0_charAt_5068e : xMeth := (yJ0_charAt_5068e, cJ0_charAt_5068e, 2, (some FieldType.char), kJ0_charAt_5068e)
def kJ0_length_8abf5 : xC := [[(0, .aload_n 0, 1, 0, 0, 0, []), (1, .getfield 9, 3, 0, 0, 5, [2188]), (4, .arraylength, 1, 0, 0, 0, []), (5, .aload_n 0, 1, 0, 0, 0, []), (6, .invokevirtual 335, 3, 358, 1, 0, [645, 648, 124, 646, 647, 99]), (9, .ishr, 1, 0, 0, 0, []), (10, .ireturn, 1, 0, 0, 0, [])]]
def mJ0_length_8abf5 : xMeth := (yJ0_length_8abf5, cJ0_length_8abf5, 1, (some FieldType.int), kJ0_length_8abf5)
def kJ0_indexOf_0f7a4 : xC := [[(0, .aload_n 0, 1, 0, 0, 0, []), (1, .iload_n 1, 1, 0, 0, 0, []), (2, .iconst 0, 1, 0, 0, 0, []), (3, .invokevirtual 633, 3, 357, 3, 0, [637, 640, 124, 638, 639, 99]), (6, .ireturn, 1, 0, 0, 0, [])]]
def mJ0_indexOf_0f7a4 : xMeth := (yJ0_indexOf_0f7a4, cJ0_indexOf_0f7a4, 2, (some FieldType.int), kJ0_indexOf_0f7a4)
def kJ0_indexOf_7cf53 : xC := [[(0, .aload_n 0, 1, 0, 0, 0, []), (1, .invokevirtual 492, 3, 359, 1, 0, [578, 581, 124, 579, 580, 99]), (4, .ifCond .eq 19, 3, 0, 0, 0, []), (7, .aload_n 0, 1, 0, 0, 0, []), (8, .getfield 9, 3, 0, 0, 5, [2188]), (11, .iload_n 1, 1, 0, 0, 0, []), (12, .iload_n 2, 1, 0, 0, 0, []), (13, .aload_n 0, 1, 0, 0, 0, []), (14, .invokevirtual 505, 3, 355, 1, 0, [641, 644, 124, 642, 643, 99]), (17, .invokestatic 637, 3, 362, 4, 0, [649, 651, 125, 650]), (20, .goto 16, 3, 0, 0, 0, []), (23, .aload_n 0, 1, 0, 0, 0, []), (24, .getfield 9, 3, 0, 0, 5, [2188]), (27, .iload_n 1, 1, 0, 0, 0, []), (28, .iload_n 2, 1, 0, 0, 0, []), (29, .aload_n 0, 1, 0, 0, 0, []), (30, .invokevirtual 505, 3, 355, 1, 0, [641, 644, 124, 642, 643, 99])],
  [(36, .ireturn, 1, 0, 0, 0, [])]]
def mJ0_indexOf_7cf53 : xMeth := (yJ0_indexOf_7cf53, cJ0_indexOf_7cf53, 3, (some FieldType.int), kJ0_indexOf_7cf53)
def kJ0_coder_7d493 : xC := [[(0, .getstatic 38, 3, 0, 0, 1, [582]), (3, .ifCond .eq 10, 3, 0, 0, 0, []), (6, .aload_n 0, 1, 0, 0, 0, []), (7, .getfield 15, 3, 0, 0, 6, [2187]), (10, .goto 4, 3, 0, 0, 0, []), (13, .iconst 1, 1, 0, 0, 0, []), (14, .ireturn, 1, 0, 0, 0, [])]]
def mJ0_coder_7d493 : xMeth := (yJ0_coder_7d493, cJ0_coder_7d493, 1, (some FieldType.byte), kJ0_coder_7d493)
def kJ0_isLatin1_aae02 : xC := [[(0, .getstatic 38, 3, 0, 0, 1, [582]), (3, .ifCond .eq 14, 3, 0, 0, 0, []), (6, .aload_n 0, 1, 0, 0, 0, []), (7, .getfield 15, 3, 0, 0, 6, [2187]), (10, .ifCond .ne 7, 3, 0, 0, 0, []), (13, .iconst 1, 1, 0, 0, 0, []), (14, .goto 4, 3, 0, 0, 0, []), (17, .iconst 0, 1, 0, 0, 0, []), (18, .ireturn, 1, 0, 0, 0, [])]]
def mJ0_isLatin1_aae02 : xMeth := (yJ0_isLatin1_aae02, cJ0_isLatin1_aae02, 1, (some FieldType.boolean), kJ0_isLatin1_aae02)
def kJ1_charAt_3b067 : xC := [[(0, .iload_n 1, 1, 0, 0, 0, []), (1, .aload_n 0, 1, 0, 0, 0, []), (2, .arraylength, 1, 0, 0, 0, []), (3, .invokestatic 9, 3, 364, 2, 0, [587, 589, 124, 588]), (6, .aload_n 0, 1, 0, 0, 0, []), (7, .iload_n 1, 1, 0, 0, 0, []), (8, .baload, 1, 0, 0, 0, []), (9, .sipush 255, 3, 0, 0, 0, []), (12, .iand, 1, 0, 0, 0, []), (13, .i2c, 1, 0, 0, 0, []), (14, .ireturn, 1, 0, 0, 0, [])]]
def mJ1_charAt_3b067 : xMeth := (yJ1_charAt_3b067, cJ1_charAt_3b067, 2, (some FieldType.char), kJ1_charAt_3b067)
def kJ1_canEncode_9a6ad : xC := [[(0, .iload_n 0, 1, 0, 0, 0, []), (1, .ifCond .lt 14, 3, 0, 0, 0, []), (4, .iload_n 0, 1, 0, 0, 0, []), (5, .sipush 255, 3, 0, 0, 0, []), (8, .if_icmp .gt 7, 3, 0, 0, 0, []), (11, .iconst 1, 1, 0, 0, 0, []), (12, .goto 4, 3, 0, 0, 0, []), (15, .iconst 0, 1, 0, 0, 0, []), (16, .ireturn, 1, 0, 0, 0, [])]]
def mJ1_canEncode_9a6ad : xMeth := (yJ1_canEncode_9a6ad, cJ1_canEncode_9a6ad, 1, (some FieldType.boolean), kJ1_canEncode_9a6ad)
def kJ1_indexOf_4cfef : xC := [[(0, .iload_n 1, 1, 0, 0, 0, []), (1, .invokestatic 88, 3, 361, 1, 0, [652, 654, 125, 653]), (4, .ifCond .ne 5, 3, 0, 0, 0, []), (7, .iconst (-1), 1, 0, 0, 0, []), (8, .ireturn, 1, 0, 0, 0, []), (9, .iload_n 2, 1, 0, 0, 0, []), (10, .iconst 0, 1, 0, 0, 0, []), (11, .invokestatic 92, 3, 0, 0, 10, [655, 656, 128, 657]), (14, .istore_n 2, 1, 0, 0, 0, []), (15, .iload_n 3, 1, 0, 0, 0, []), (16, .aload_n 0, 1, 0, 0, 0, []), (17, .arraylength, 1, 0, 0, 0, []), (18, .invokestatic 38, 3, 0, 0, 11, [658, 626, 128, 627]), (21, .istore_n 3, 1, 0, 0, 0, []), (22, .iload_n 2, 1, 0, 0, 0, []), (23, .iload_n 3, 1, 0, 0, 0, []), (24, .if_icmp .lt 5, 3, 0, 0, 0, []), (27, .iconst (-1), 1, 0, 0, 0, []), (28, .ireturn, 1, 0, 0, 0, []), (29, .aload_n 0, 1, 0, 0, 0, []), (30, .iload_n 1, 1, 0, 0, 0, []), (31, .iload_n 2, 1, 0, 0, 0, [])],
  [(32, .iload_n 3, 1, 0, 0, 0, []), (33, .invokestatic 95, 3, 363, 4, 0, [659, 661, 125, 660]), (36, .ireturn, 1, 0, 0, 0, [])]]
def mJ1_indexOf_4cfef : xMeth := (yJ1_indexOf_4cfef, cJ1_indexOf_4cfef, 4, (some FieldType.int), kJ1_indexOf_4cfef)
def kJ1_indexOfChar_4cfef : xC := [[(0, .iload_n 1, 1, 0, 0, 0, []), (1, .i2b, 1, 0, 0, 0, []), (2, .istore 4, 2, 0, 0, 0, []), (4, .iload_n 2, 1, 0, 0, 0, []), (5, .istore 5, 2, 0, 0, 0, []), (7, .iload 5, 2, 0, 0, 0, []), (9, .iload_n 3, 1, 0, 0, 0, []), (10, .if_icmp .ge 21, 3, 0, 0, 0, []), (13, .aload_n 0, 1, 0, 0, 0, []), (14, .iload 5, 2, 0, 0, 0, []), (16, .baload, 1, 0, 0, 0, []), (17, .iload 4, 2, 0, 0, 0, []), (19, .if_icmp .ne 6, 3, 0, 0, 0, []), (22, .iload 5, 2, 0, 0, 0, []), (24, .ireturn, 1, 0, 0, 0, []), (25, .iinc 5 1, 3, 0, 0, 0, []), (28, .goto (-21), 3, 0, 0, 0, []), (31, .iconst (-1), 1, 0, 0, 0, [])],
  [(32, .ireturn, 1, 0, 0, 0, [])]]
def mJ1_indexOfChar_4cfef : xMeth := (yJ1_indexOfChar_4cfef, cJ1_indexOfChar_4cfef, 6, (some FieldType.int), kJ1_indexOfChar_4cfef)
def kJ0_checkIndex_df160 : xC := [[(0, .iload_n 0, 1, 0, 0, 0, []), (1, .iload_n 1, 1, 0, 0, 0, []), (2, .getstatic 1053, 3, 0, 0, 2, [590]), (5, .invokestatic 1059, 3, 365, 3, 0, [592, 594, 126, 593]), (8, .pop, 1, 0, 0, 0, []), (9, .return_, 1, 0, 0, 0, [])]]
def mJ0_checkIndex_df160 : xMeth := (yJ0_checkIndex_df160, cJ0_checkIndex_df160, 2, none, kJ0_checkIndex_df160)
def kJ3_checkIndex_8e157 : xC := [[(0, .iload_n 0, 1, 0, 0, 0, []), (1, .ifCond .lt 8, 3, 0, 0, 0, []), (4, .iload_n 0, 1, 0, 0, 0, []), (5, .iload_n 1, 1, 0, 0, 0, []), (6, .if_icmp .lt 10, 3, 0, 0, 0, []), (9, .aload_n 2, 1, 0, 0, 0, []), (10, .iload_n 0, 1, 0, 0, 0, []), (11, .iload_n 1, 1, 0, 0, 0, []), (16, .iload_n 0, 1, 0, 0, 0, []), (17, .ireturn, 1, 0, 0, 0, [])]]
def mJ3_checkIndex_8e157 : xMeth := (yJ3_checkIndex_8e157, cJ3_checkIndex_8e157, 3, (some FieldType.int), kJ3_checkIndex_8e157)
def xPl : List (List xMeth) := [[mX0_init, mX0_copy, mX0_addBird, mX0_addText, mX0_addTold, mX0_hasBird, mX0_hasText, mX0_textAt, mX0_rulingText, mX0_isDue, mX0_dueOn, mX0_canThin, mX0_canCall, mX0_canGrant, mX0_canPass, mX1_init],
  [mX1_chanceOf, mX1_broughtBy, mX1_run, mX1_isOfOne, mX1_isOfTwo, mX1_named, mX1_ofOne, mX1_ofTwo, mX1_isSo, mX2_init, mX2_copy, mX2_isGone, mX2_markGone, mX2_markBack, mX2_noteCame, mX2_draw],
  [mX2_write, mX2_onPage, mX2_countWritten, mX3_init, mX3_copy, mX3_add, mX3_fits, mX3_countFitting, mX3_leastPeriod, mX3_leastPhase, mX3_nextDay, mX4_init, mX4_copy, mX4_allVotes, mX4_seatsByShares, mX4_seatsByRests],
  [mX4_differing, mX4_causeAt, mX4_placeOf, mX4_isAhead, mX4_aheadOfAll, mX4_pointsFor, mX4_lastLeft, mX4_weakest, mX4_firstVotes, mX5_init, mX5_readTape, mX5_kind, mX5_fail, mX5_expect, mX5_readNumber, mX5_readClause],
  [mX5_isVerb, mX5_readNumbers, mX5_readLaw, mX5_emit, mX5_readSum, mX5_readProduct, mX5_readOne, mX5_opensOne, mX5_readName, mX5_readOpened, mX5_readChoice, mX5_aim, mX5_readEither, mX5_readBoth, mX5_readAsk, mX5_readCompared],
  [mX6_init, mX6_copy, mX6_selfFollowing, mX6_sizeAt, mX6_smallest, mX6_stepsToRing, mX6_behind, mX6_walked, mX7_init, mX7_begin, mX7_addOne, mX7_ofTrials, mX7_just, mX7_orMore, mX8_init, mX8_copy],
  [mX8_keep, mX8_takeBack, mX9_init, mX9_add, mX9_scan, mX9_put, mX9_scanToken, mX9_scanWord, mX9_scanNumber, mX9_scanSign, mX9_kindOfWord, mX9_isLetter, mX9_isDigit, mX10_init, mX11_init, mX11_bird],
  [mX11_rhyme, mX11_feed, mX11_end, mX11_text, mX11_fault, mX11_by, mX11_thin, mX11_call, mX11_grant, mX11_day, mX11_played, mX11_years, mX11_undo, mX11_of, mX11_is, mX11_things],
  [mX11_brings, mX11_book, mX11_foretold, mX11_likely, mX11_mean, mX11_best, mX11_morning, mX11_habits, mX11_habit, mX11_whom, mX11_rota, mX11_gather, mX11_comes, mX11_follows, mX11_agree, mX11_ring],
  [mX11_till, mX11_after, mX11_test, mX11_bound, mX11_sure, mX11_votes, mX11_seats, mX11_unlike, mX11_ranks, mX11_beats, mX11_winner, mX11_points, mX11_runoff, mX11_digits, mX11_digit, mX11_depth],
  [mX11_rests, mX11_game, mX11_take, mX11_told, mX11_whose, mX11_eldest, mX11_due, mX11_ledger, mX11_image, mX11_back, mX11_about, mX11_passSteps, mX11_passDay, mX11_playClause, mX11_drawYear, mX11_noteChances],
  [mX11_spreadOver, mX11_bestThinned, mX11_canCome, mX11_leastBound, mX11_bringsAllTold, mX11_raise, mX11_multiply, mX11_deeper, mX11_leastPart, mX11_firstOfHabit, mX11_leastCommon, mX11_greatestCommon, mX11_lowest, mX11_within, mX11_held, mX11_isCount],
  [mX11_isParish, mX11_isCause, mX11_isIn, mX12_init, mX12_copy, mX12_isIn, mX12_held, mX12_has, mX12_bits, mX12_isBird, mX12_isCount, mX12_isGone, mX12_isDue, mX12_dueBy, mX12_dueNow, mX12_bird],
  [mX12_rhyme, mX12_four, mX12_feed, mX12_end, mX12_byteAt, mX12_isLetterByte, mX12_isFigure, mX12_isSign, mX12_nextToken, mX12_w2, mX12_w3, mX12_w4, mX12_w5, mX12_w6, mX12_isWord, mX12_emit],
  [mX12_nameOf, mX12_isOf, mX12_rank, mX12_settle, mX12_openAt, mX12_openNow, mX12_isCompared, mX12_isAskAhead, mX12_opened, mX12_beginOne, mX12_compareOf, mX12_betweenOf, mX12_partOf, mX12_behindOne, mX12_summed, mX12_figure],
  [mX12_lawClause, mX12_pair, mX12_body, mX12_sortOf, mX12_clause, mX12_readText, mX12_text, mX12_fault, mX12_by, mX12_clip, mX12_two, mX12_isAsked, mX12_ofOne, mX12_joined, mX12_summedUp, mX12_says],
  [mX12_name, mX12_chanceOf, mX12_bringsOf, mX12_write, mX12_drawnBy, mX12_anew, mX12_canGrant, mX12_pass, mX12_keep, mX12_undo, mX12_thin, mX12_call, mX12_grant, mX12_arePassed, mX12_day, mX12_isPlayed],
  [mX12_played, mX12_happens, mX12_years, mX12_of, mX12_is, mX12_things, mX12_brings, mX12_lineOf, mX12_book, mX12_ledger, mX12_eldest, mX12_due, mX12_foretold, mX12_divisor, mX12_part, mX12_noRows],
  [mX12_oneMore, mX12_layRows, mX12_likely, mX12_mean, mX12_best, mX12_morning, mX12_isHabit, mX12_habits, mX12_firstHabit, mX12_habit, mX12_whom, mX12_rota, mX12_gather, mX12_comes, mX12_follows, mX12_afterOf],
  [mX12_agree, mX12_ringOf, mX12_ring, mX12_till, mX12_after, mX12_areOdds, mX12_layTest, mX12_rowsFrom, mX12_test, mX12_bound, mX12_sure, mX12_votes, mX12_allVotes, mX12_isAhead, mX12_laySeats, mX12_areSeats],
  [mX12_seats, mX12_unlike, mX12_ranks, mX12_isCause, mX12_factorial, mX12_causeAt, mX12_placeBy, mX12_doesBeat, mX12_beats, mX12_winner, mX12_points, mX12_firstVotes, mX12_runoff, mX12_layFigures, mX12_areTimes, mX12_digits],
  [mX12_digit, mX12_isGuess, mX12_depth, mX12_rests, mX12_winAt, mX12_takeOf, mX12_layWins, mX12_game, mX12_take, mX12_told, mX12_whose, mX12_image, mX12_back, mX12_about, mJ6_bitCount_0f7a4, mJ7_fill_d0a16],
  [mJ7_fill_53178, mJ7_copyOf_59c91, mJ0_charAt_5068e, mJ0_length_8abf5, mJ0_indexOf_0f7a4, mJ0_indexOf_7cf53, mJ0_coder_7d493, mJ0_isLatin1_aae02, mJ1_charAt_3b067, mJ1_canEncode_9a6ad, mJ1_indexOf_4cfef, mJ1_indexOfChar_4cfef, mJ0_checkIndex_df160, mJ3_checkIndex_8e157]]
def xP (j : Nat) : Option xMeth := match xPl[j / 16]? with
  | none => none
  | some l => l[j % 16]?
def kL_law_c0 : List (Nat × xI) := [(0, .new 7, 3, 11, 11, 0, [134, 135, 112]), (3, .dup, 1, 0, 0, 0, []), (4, .invokespecial 9, 3, 110, 1, 0, [136, 138, 112, 137]), (7, .astore_n 1, 1, 0, 0, 0, []), (8, .new 10, 3, 12, 32, 0, [1474, 1475, 123]), (11, .dup, 1, 0, 0, 0, []), (12, .invokespecial 12, 3, 195, 1, 0, [1476, 1478, 123, 1477]), (15, .astore_n 2, 1, 0, 0, 0, []), (16, .iconst 0, 1, 0, 0, 0, []), (17, .istore_n 3, 1, 0, 0, 0, []), (18, .iload_n 3, 1, 0, 0, 0, []), (19, .aload_n 0, 1, 0, 0, 0, []), (20, .arraylength, 1, 0, 0, 0, []), (21, .bipush 6, 2, 0, 0, 0, []), (23, .isub, 1, 0, 0, 0, []), (24, .if_icmp .gt 1992, 3, 0, 0, 0, []), (27, .aload_n 0, 1, 0, 0, 0, []), (28, .iload_n 3, 1, 0, 0, 0, []), (29, .iaload, 1, 0, 0, 0, []), (30, .bipush 63, 2, 0, 0, 0, [])]
def kL_law_c1 : List (Nat × xI) := [(32, .iand, 1, 0, 0, 0, []), (33, .tableswitch 1977 0 59 #[255, 298, 331, 394, 417, 430, 453, 476, 499, 522, 545, 568, 591, 624, 637, 670, 693, 716, 739, 772, 805, 855, 895, 944, 993, 1006, 1029, 1042, 1065, 1078, 1101, 1134, 1147, 1186, 1209, 1242, 1312, 1345, 1415, 1448, 1507, 1530, 1563, 1596, 1609, 1632, 1645, 1678, 1721, 1754, 1777, 1800, 1833, 1866, 1879, 1892, 1905, 1928, 1941, 1954], 255, 0, 0, 0, [])]
def kL_law_c2 : List (Nat × xI) := []
def kL_law_c3 : List (Nat × xI) := []
def kL_law_c4 : List (Nat × xI) := []
def kL_law_c5 : List (Nat × xI) := []
def kL_law_c6 : List (Nat × xI) := []
def kL_law_c7 : List (Nat × xI) := []
def kL_law_c8 : List (Nat × xI) := []
def kL_law_c9 : List (Nat × xI) := [(288, .aload_n 1, 1, 0, 0, 0, []), (289, .aload_n 0, 1, 0, 0, 0, []), (290, .iload_n 3, 1, 0, 0, 0, []), (291, .iconst 1, 1, 0, 0, 0, []), (292, .iadd, 1, 0, 0, 0, []), (293, .iaload, 1, 0, 0, 0, []), (294, .aload_n 0, 1, 0, 0, 0, []), (295, .iload_n 3, 1, 0, 0, 0, []), (296, .iconst 2, 1, 0, 0, 0, []), (297, .iadd, 1, 0, 0, 0, []), (298, .iaload, 1, 0, 0, 0, []), (299, .aload_n 0, 1, 0, 0, 0, []), (300, .iload_n 3, 1, 0, 0, 0, []), (301, .iconst 3, 1, 0, 0, 0, []), (302, .iadd, 1, 0, 0, 0, []), (303, .iaload, 1, 0, 0, 0, []), (304, .invokevirtual 13, 3, 111, 4, 0, [515, 518, 112, 516, 517, 11]), (307, .aload_n 2, 1, 0, 0, 0, []), (308, .aload_n 0, 1, 0, 0, 0, []), (309, .iload_n 3, 1, 0, 0, 0, []), (310, .iconst 1, 1, 0, 0, 0, []), (311, .iadd, 1, 0, 0, 0, []), (312, .iaload, 1, 0, 0, 0, []), (313, .aload_n 0, 1, 0, 0, 0, []), (314, .iload_n 3, 1, 0, 0, 0, []), (315, .iconst 2, 1, 0, 0, 0, []), (316, .iadd, 1, 0, 0, 0, []), (317, .iaload, 1, 0, 0, 0, []), (318, .aload_n 0, 1, 0, 0, 0, []), (319, .iload_n 3, 1, 0, 0, 0, [])]
def kL_law_c10 : List (Nat × xI) := [(320, .iconst 3, 1, 0, 0, 0, []), (321, .iadd, 1, 0, 0, 0, []), (322, .iaload, 1, 0, 0, 0, []), (323, .invokevirtual 17, 3, 207, 4, 0, [1580, 1583, 123, 1581, 1582, 12]), (326, .if_icmp .eq 1684, 3, 0, 0, 0, []), (329, .iconst 0, 1, 0, 0, 0, []), (330, .ireturn, 1, 0, 0, 0, []), (331, .aload_n 1, 1, 0, 0, 0, []), (332, .aload_n 0, 1, 0, 0, 0, []), (333, .iload_n 3, 1, 0, 0, 0, []), (334, .iconst 1, 1, 0, 0, 0, []), (335, .iadd, 1, 0, 0, 0, []), (336, .iaload, 1, 0, 0, 0, []), (337, .aload_n 0, 1, 0, 0, 0, []), (338, .iload_n 3, 1, 0, 0, 0, []), (339, .iconst 2, 1, 0, 0, 0, []), (340, .iadd, 1, 0, 0, 0, []), (341, .iaload, 1, 0, 0, 0, []), (342, .invokevirtual 18, 3, 112, 3, 0, [526, 529, 112, 527, 528, 11]), (345, .aload_n 2, 1, 0, 0, 0, []), (346, .aload_n 0, 1, 0, 0, 0, []), (347, .iload_n 3, 1, 0, 0, 0, []), (348, .iconst 1, 1, 0, 0, 0, []), (349, .iadd, 1, 0, 0, 0, []), (350, .iaload, 1, 0, 0, 0, []), (351, .aload_n 0, 1, 0, 0, 0, [])]
def kL_law_c11 : List (Nat × xI) := [(352, .iload_n 3, 1, 0, 0, 0, []), (353, .iconst 2, 1, 0, 0, 0, []), (354, .iadd, 1, 0, 0, 0, []), (355, .iaload, 1, 0, 0, 0, []), (356, .invokevirtual 22, 3, 208, 3, 0, [1587, 1590, 123, 1588, 1589, 12]), (359, .if_icmp .eq 1651, 3, 0, 0, 0, []), (362, .iconst 0, 1, 0, 0, 0, []), (363, .ireturn, 1, 0, 0, 0, []), (364, .aload_n 1, 1, 0, 0, 0, []), (365, .aload_n 0, 1, 0, 0, 0, []), (366, .iload_n 3, 1, 0, 0, 0, []), (367, .iconst 1, 1, 0, 0, 0, []), (368, .iadd, 1, 0, 0, 0, []), (369, .iaload, 1, 0, 0, 0, []), (370, .aload_n 0, 1, 0, 0, 0, []), (371, .iload_n 3, 1, 0, 0, 0, []), (372, .iconst 2, 1, 0, 0, 0, []), (373, .iadd, 1, 0, 0, 0, []), (374, .iaload, 1, 0, 0, 0, []), (375, .aload_n 0, 1, 0, 0, 0, []), (376, .iload_n 3, 1, 0, 0, 0, []), (377, .iconst 3, 1, 0, 0, 0, []), (378, .iadd, 1, 0, 0, 0, []), (379, .iaload, 1, 0, 0, 0, []), (380, .aload_n 0, 1, 0, 0, 0, []), (381, .iload_n 3, 1, 0, 0, 0, []), (382, .iconst 4, 1, 0, 0, 0, []), (383, .iadd, 1, 0, 0, 0, [])]
def kL_law_c12 : List (Nat × xI) := [(384, .iaload, 1, 0, 0, 0, []), (385, .aload_n 0, 1, 0, 0, 0, []), (386, .iload_n 3, 1, 0, 0, 0, []), (387, .iconst 5, 1, 0, 0, 0, []), (388, .iadd, 1, 0, 0, 0, []), (389, .iaload, 1, 0, 0, 0, []), (390, .invokevirtual 23, 3, 113, 6, 0, [533, 536, 112, 534, 535, 11]), (393, .aload_n 2, 1, 0, 0, 0, []), (394, .aload_n 0, 1, 0, 0, 0, []), (395, .iload_n 3, 1, 0, 0, 0, []), (396, .iconst 1, 1, 0, 0, 0, []), (397, .iadd, 1, 0, 0, 0, []), (398, .iaload, 1, 0, 0, 0, []), (399, .aload_n 0, 1, 0, 0, 0, []), (400, .iload_n 3, 1, 0, 0, 0, []), (401, .iconst 2, 1, 0, 0, 0, []), (402, .iadd, 1, 0, 0, 0, []), (403, .iaload, 1, 0, 0, 0, []), (404, .aload_n 0, 1, 0, 0, 0, []), (405, .iload_n 3, 1, 0, 0, 0, []), (406, .iconst 3, 1, 0, 0, 0, []), (407, .iadd, 1, 0, 0, 0, []), (408, .iaload, 1, 0, 0, 0, []), (409, .aload_n 0, 1, 0, 0, 0, []), (410, .iload_n 3, 1, 0, 0, 0, []), (411, .iconst 4, 1, 0, 0, 0, []), (412, .iadd, 1, 0, 0, 0, []), (413, .iaload, 1, 0, 0, 0, []), (414, .aload_n 0, 1, 0, 0, 0, []), (415, .iload_n 3, 1, 0, 0, 0, [])]
def kL_law_c13 : List (Nat × xI) := [(416, .iconst 5, 1, 0, 0, 0, []), (417, .iadd, 1, 0, 0, 0, []), (418, .iaload, 1, 0, 0, 0, []), (419, .invokevirtual 27, 3, 210, 6, 0, [1594, 1597, 123, 1595, 1596, 12]), (422, .if_icmp .eq 1588, 3, 0, 0, 0, []), (425, .iconst 0, 1, 0, 0, 0, []), (426, .ireturn, 1, 0, 0, 0, []), (427, .aload_n 1, 1, 0, 0, 0, []), (428, .aload_n 0, 1, 0, 0, 0, []), (429, .iload_n 3, 1, 0, 0, 0, []), (430, .iconst 1, 1, 0, 0, 0, []), (431, .iadd, 1, 0, 0, 0, []), (432, .iaload, 1, 0, 0, 0, []), (433, .invokevirtual 28, 3, 114, 2, 0, [541, 544, 112, 542, 543, 11]), (436, .aload_n 2, 1, 0, 0, 0, []), (437, .aload_n 0, 1, 0, 0, 0, []), (438, .iload_n 3, 1, 0, 0, 0, []), (439, .iconst 1, 1, 0, 0, 0, []), (440, .iadd, 1, 0, 0, 0, []), (441, .iaload, 1, 0, 0, 0, []), (442, .invokevirtual 32, 3, 211, 2, 0, [1602, 1605, 123, 1603, 1604, 12]), (445, .if_icmp .eq 1565, 3, 0, 0, 0, [])]
def kL_law_c14 : List (Nat × xI) := [(448, .iconst 0, 1, 0, 0, 0, []), (449, .ireturn, 1, 0, 0, 0, []), (450, .aload_n 1, 1, 0, 0, 0, []), (451, .invokevirtual 33, 3, 115, 1, 0, [545, 548, 112, 546, 547, 11]), (454, .aload_n 2, 1, 0, 0, 0, []), (455, .invokevirtual 37, 3, 246, 1, 0, [1606, 1609, 123, 1607, 1608, 12]), (458, .if_icmp .eq 1552, 3, 0, 0, 0, []), (461, .iconst 0, 1, 0, 0, 0, []), (462, .ireturn, 1, 0, 0, 0, []), (463, .aload_n 1, 1, 0, 0, 0, []), (464, .aload_n 0, 1, 0, 0, 0, []), (465, .iload_n 3, 1, 0, 0, 0, []), (466, .iconst 1, 1, 0, 0, 0, []), (467, .iadd, 1, 0, 0, 0, []), (468, .iaload, 1, 0, 0, 0, []), (469, .invokevirtual 38, 3, 116, 2, 0, [842, 845, 112, 843, 844, 11]), (472, .aload_n 2, 1, 0, 0, 0, []), (473, .aload_n 0, 1, 0, 0, 0, []), (474, .iload_n 3, 1, 0, 0, 0, []), (475, .iconst 1, 1, 0, 0, 0, []), (476, .iadd, 1, 0, 0, 0, []), (477, .iaload, 1, 0, 0, 0, []), (478, .invokevirtual 41, 3, 247, 2, 0, [1742, 1745, 123, 1743, 1744, 12])]
def kL_law_c15 : List (Nat × xI) := [(481, .if_icmp .eq 1529, 3, 0, 0, 0, []), (484, .iconst 0, 1, 0, 0, 0, []), (485, .ireturn, 1, 0, 0, 0, []), (486, .aload_n 1, 1, 0, 0, 0, []), (487, .aload_n 0, 1, 0, 0, 0, []), (488, .iload_n 3, 1, 0, 0, 0, []), (489, .iconst 1, 1, 0, 0, 0, []), (490, .iadd, 1, 0, 0, 0, []), (491, .iaload, 1, 0, 0, 0, []), (492, .invokevirtual 42, 3, 117, 2, 0, [846, 849, 112, 847, 848, 11]), (495, .aload_n 2, 1, 0, 0, 0, []), (496, .aload_n 0, 1, 0, 0, 0, []), (497, .iload_n 3, 1, 0, 0, 0, []), (498, .iconst 1, 1, 0, 0, 0, []), (499, .iadd, 1, 0, 0, 0, []), (500, .iaload, 1, 0, 0, 0, []), (501, .invokevirtual 46, 3, 248, 2, 0, [1746, 1749, 123, 1747, 1748, 12]), (504, .if_icmp .eq 1506, 3, 0, 0, 0, []), (507, .iconst 0, 1, 0, 0, 0, []), (508, .ireturn, 1, 0, 0, 0, []), (509, .aload_n 1, 1, 0, 0, 0, []), (510, .aload_n 0, 1, 0, 0, 0, []), (511, .iload_n 3, 1, 0, 0, 0, [])]
def kL_law_c16 : List (Nat × xI) := [(512, .iconst 1, 1, 0, 0, 0, []), (513, .iadd, 1, 0, 0, 0, []), (514, .iaload, 1, 0, 0, 0, []), (515, .invokevirtual 47, 3, 118, 2, 0, [854, 857, 112, 855, 856, 11]), (518, .aload_n 2, 1, 0, 0, 0, []), (519, .aload_n 0, 1, 0, 0, 0, []), (520, .iload_n 3, 1, 0, 0, 0, []), (521, .iconst 1, 1, 0, 0, 0, []), (522, .iadd, 1, 0, 0, 0, []), (523, .iaload, 1, 0, 0, 0, []), (524, .invokevirtual 50, 3, 266, 2, 0, [1754, 1757, 123, 1755, 1756, 12]), (527, .if_icmp .eq 1483, 3, 0, 0, 0, []), (530, .iconst 0, 1, 0, 0, 0, []), (531, .ireturn, 1, 0, 0, 0, []), (532, .aload_n 1, 1, 0, 0, 0, []), (533, .aload_n 0, 1, 0, 0, 0, []), (534, .iload_n 3, 1, 0, 0, 0, []), (535, .iconst 1, 1, 0, 0, 0, []), (536, .iadd, 1, 0, 0, 0, []), (537, .iaload, 1, 0, 0, 0, []), (538, .invokevirtual 51, 3, 119, 2, 0, [886, 889, 112, 887, 888, 11]), (541, .aload_n 2, 1, 0, 0, 0, []), (542, .aload_n 0, 1, 0, 0, 0, []), (543, .iload_n 3, 1, 0, 0, 0, [])]
def kL_law_c17 : List (Nat × xI) := [(544, .iconst 1, 1, 0, 0, 0, []), (545, .iadd, 1, 0, 0, 0, []), (546, .iaload, 1, 0, 0, 0, []), (547, .invokevirtual 54, 3, 267, 2, 0, [1770, 1773, 123, 1771, 1772, 12]), (550, .if_icmp .eq 1460, 3, 0, 0, 0, []), (553, .iconst 0, 1, 0, 0, 0, []), (554, .ireturn, 1, 0, 0, 0, []), (555, .aload_n 1, 1, 0, 0, 0, []), (556, .aload_n 0, 1, 0, 0, 0, []), (557, .iload_n 3, 1, 0, 0, 0, []), (558, .iconst 1, 1, 0, 0, 0, []), (559, .iadd, 1, 0, 0, 0, []), (560, .iaload, 1, 0, 0, 0, []), (561, .invokevirtual 55, 3, 120, 2, 0, [898, 901, 112, 899, 900, 11]), (564, .aload_n 2, 1, 0, 0, 0, []), (565, .aload_n 0, 1, 0, 0, 0, []), (566, .iload_n 3, 1, 0, 0, 0, []), (567, .iconst 1, 1, 0, 0, 0, []), (568, .iadd, 1, 0, 0, 0, []), (569, .iaload, 1, 0, 0, 0, []), (570, .invokevirtual 58, 3, 268, 2, 0, [1774, 1777, 123, 1775, 1776, 12]), (573, .if_icmp .eq 1437, 3, 0, 0, 0, [])]
def kL_law_c18 : List (Nat × xI) := [(576, .iconst 0, 1, 0, 0, 0, []), (577, .ireturn, 1, 0, 0, 0, []), (578, .aload_n 1, 1, 0, 0, 0, []), (579, .aload_n 0, 1, 0, 0, 0, []), (580, .iload_n 3, 1, 0, 0, 0, []), (581, .iconst 1, 1, 0, 0, 0, []), (582, .iadd, 1, 0, 0, 0, []), (583, .iaload, 1, 0, 0, 0, []), (584, .invokevirtual 59, 3, 121, 2, 0, [907, 910, 112, 908, 909, 11]), (587, .aload_n 2, 1, 0, 0, 0, []), (588, .aload_n 0, 1, 0, 0, 0, []), (589, .iload_n 3, 1, 0, 0, 0, []), (590, .iconst 1, 1, 0, 0, 0, []), (591, .iadd, 1, 0, 0, 0, []), (592, .iaload, 1, 0, 0, 0, []), (593, .invokevirtual 62, 3, 270, 2, 0, [1782, 1785, 123, 1783, 1784, 12]), (596, .if_icmp .eq 1414, 3, 0, 0, 0, []), (599, .iconst 0, 1, 0, 0, 0, []), (600, .ireturn, 1, 0, 0, 0, []), (601, .aload_n 1, 1, 0, 0, 0, []), (602, .aload_n 0, 1, 0, 0, 0, []), (603, .iload_n 3, 1, 0, 0, 0, []), (604, .iconst 1, 1, 0, 0, 0, []), (605, .iadd, 1, 0, 0, 0, []), (606, .iaload, 1, 0, 0, 0, []), (607, .invokevirtual 63, 3, 122, 2, 0, [1002, 1005, 112, 1003, 1004, 11])]
def kL_law_c19 : List (Nat × xI) := [(610, .aload_n 2, 1, 0, 0, 0, []), (611, .aload_n 0, 1, 0, 0, 0, []), (612, .iload_n 3, 1, 0, 0, 0, []), (613, .iconst 1, 1, 0, 0, 0, []), (614, .iadd, 1, 0, 0, 0, []), (615, .iaload, 1, 0, 0, 0, []), (616, .invokevirtual 66, 3, 272, 2, 0, [1866, 1869, 123, 1867, 1868, 12]), (619, .if_icmp .eq 1391, 3, 0, 0, 0, []), (622, .iconst 0, 1, 0, 0, 0, []), (623, .ireturn, 1, 0, 0, 0, []), (624, .aload_n 1, 1, 0, 0, 0, []), (625, .aload_n 0, 1, 0, 0, 0, []), (626, .iload_n 3, 1, 0, 0, 0, []), (627, .iconst 1, 1, 0, 0, 0, []), (628, .iadd, 1, 0, 0, 0, []), (629, .iaload, 1, 0, 0, 0, []), (630, .aload_n 0, 1, 0, 0, 0, []), (631, .iload_n 3, 1, 0, 0, 0, []), (632, .iconst 2, 1, 0, 0, 0, []), (633, .iadd, 1, 0, 0, 0, []), (634, .iaload, 1, 0, 0, 0, []), (635, .invokevirtual 67, 3, 123, 3, 0, [1017, 1020, 112, 1018, 1019, 11]), (638, .aload_n 2, 1, 0, 0, 0, []), (639, .aload_n 0, 1, 0, 0, 0, [])]
def kL_law_c20 : List (Nat × xI) := [(640, .iload_n 3, 1, 0, 0, 0, []), (641, .iconst 1, 1, 0, 0, 0, []), (642, .iadd, 1, 0, 0, 0, []), (643, .iaload, 1, 0, 0, 0, []), (644, .aload_n 0, 1, 0, 0, 0, []), (645, .iload_n 3, 1, 0, 0, 0, []), (646, .iconst 2, 1, 0, 0, 0, []), (647, .iadd, 1, 0, 0, 0, []), (648, .iaload, 1, 0, 0, 0, []), (649, .invokevirtual 71, 3, 274, 3, 0, [1879, 1882, 123, 1880, 1881, 12]), (652, .if_icmp .eq 1358, 3, 0, 0, 0, []), (655, .iconst 0, 1, 0, 0, 0, []), (656, .ireturn, 1, 0, 0, 0, []), (657, .aload_n 1, 1, 0, 0, 0, []), (658, .invokevirtual 72, 3, 124, 1, 0, [1029, 1032, 112, 1030, 1031, 11]), (661, .aload_n 2, 1, 0, 0, 0, []), (662, .invokevirtual 75, 3, 265, 1, 0, [1750, 1753, 123, 1751, 1752, 12]), (665, .if_icmp .eq 1345, 3, 0, 0, 0, []), (668, .iconst 0, 1, 0, 0, 0, []), (669, .ireturn, 1, 0, 0, 0, []), (670, .aload_n 1, 1, 0, 0, 0, []), (671, .aload_n 0, 1, 0, 0, 0, [])]
def kL_law_c21 : List (Nat × xI) := [(672, .iload_n 3, 1, 0, 0, 0, []), (673, .iconst 1, 1, 0, 0, 0, []), (674, .iadd, 1, 0, 0, 0, []), (675, .iaload, 1, 0, 0, 0, []), (676, .aload_n 0, 1, 0, 0, 0, []), (677, .iload_n 3, 1, 0, 0, 0, []), (678, .iconst 2, 1, 0, 0, 0, []), (679, .iadd, 1, 0, 0, 0, []), (680, .iaload, 1, 0, 0, 0, []), (681, .invokevirtual 76, 3, 125, 3, 0, [1037, 1040, 112, 1038, 1039, 11]), (684, .aload_n 2, 1, 0, 0, 0, []), (685, .aload_n 0, 1, 0, 0, 0, []), (686, .iload_n 3, 1, 0, 0, 0, []), (687, .iconst 1, 1, 0, 0, 0, []), (688, .iadd, 1, 0, 0, 0, []), (689, .iaload, 1, 0, 0, 0, []), (690, .aload_n 0, 1, 0, 0, 0, []), (691, .iload_n 3, 1, 0, 0, 0, []), (692, .iconst 2, 1, 0, 0, 0, []), (693, .iadd, 1, 0, 0, 0, []), (694, .iaload, 1, 0, 0, 0, []), (695, .invokevirtual 79, 3, 275, 3, 0, [1887, 1890, 123, 1888, 1889, 12]), (698, .if_icmp .eq 1312, 3, 0, 0, 0, []), (701, .iconst 0, 1, 0, 0, 0, []), (702, .ireturn, 1, 0, 0, 0, []), (703, .aload_n 1, 1, 0, 0, 0, [])]
def kL_law_c22 : List (Nat × xI) := [(704, .aload_n 0, 1, 0, 0, 0, []), (705, .iload_n 3, 1, 0, 0, 0, []), (706, .iconst 1, 1, 0, 0, 0, []), (707, .iadd, 1, 0, 0, 0, []), (708, .iaload, 1, 0, 0, 0, []), (709, .invokevirtual 80, 3, 126, 2, 0, [1043, 1046, 112, 1044, 1045, 11]), (712, .aload_n 2, 1, 0, 0, 0, []), (713, .aload_n 0, 1, 0, 0, 0, []), (714, .iload_n 3, 1, 0, 0, 0, []), (715, .iconst 1, 1, 0, 0, 0, []), (716, .iadd, 1, 0, 0, 0, []), (717, .iaload, 1, 0, 0, 0, []), (718, .invokevirtual 83, 3, 276, 2, 0, [1891, 1894, 123, 1892, 1893, 12]), (721, .if_icmp .eq 1289, 3, 0, 0, 0, []), (724, .iconst 0, 1, 0, 0, 0, []), (725, .ireturn, 1, 0, 0, 0, []), (726, .aload_n 1, 1, 0, 0, 0, []), (727, .aload_n 0, 1, 0, 0, 0, []), (728, .iload_n 3, 1, 0, 0, 0, []), (729, .iconst 1, 1, 0, 0, 0, []), (730, .iadd, 1, 0, 0, 0, []), (731, .iaload, 1, 0, 0, 0, []), (732, .invokevirtual 84, 3, 127, 2, 0, [1048, 1051, 112, 1049, 1050, 11]), (735, .aload_n 2, 1, 0, 0, 0, [])]
def kL_law_c23 : List (Nat × xI) := [(736, .aload_n 0, 1, 0, 0, 0, []), (737, .iload_n 3, 1, 0, 0, 0, []), (738, .iconst 1, 1, 0, 0, 0, []), (739, .iadd, 1, 0, 0, 0, []), (740, .iaload, 1, 0, 0, 0, []), (741, .invokevirtual 87, 3, 277, 2, 0, [1896, 1899, 123, 1897, 1898, 12]), (744, .if_icmp .eq 1266, 3, 0, 0, 0, []), (747, .iconst 0, 1, 0, 0, 0, []), (748, .ireturn, 1, 0, 0, 0, []), (749, .aload_n 1, 1, 0, 0, 0, []), (750, .aload_n 0, 1, 0, 0, 0, []), (751, .iload_n 3, 1, 0, 0, 0, []), (752, .iconst 1, 1, 0, 0, 0, []), (753, .iadd, 1, 0, 0, 0, []), (754, .iaload, 1, 0, 0, 0, []), (755, .invokevirtual 88, 3, 128, 2, 0, [1052, 1055, 112, 1053, 1054, 11]), (758, .aload_n 2, 1, 0, 0, 0, []), (759, .aload_n 0, 1, 0, 0, 0, []), (760, .iload_n 3, 1, 0, 0, 0, []), (761, .iconst 1, 1, 0, 0, 0, []), (762, .iadd, 1, 0, 0, 0, []), (763, .iaload, 1, 0, 0, 0, []), (764, .invokevirtual 91, 3, 278, 2, 0, [1900, 1903, 123, 1901, 1902, 12]), (767, .if_icmp .eq 1243, 3, 0, 0, 0, [])]
def kL_law_c24 : List (Nat × xI) := [(770, .iconst 0, 1, 0, 0, 0, []), (771, .ireturn, 1, 0, 0, 0, []), (772, .aload_n 1, 1, 0, 0, 0, []), (773, .aload_n 0, 1, 0, 0, 0, []), (774, .iload_n 3, 1, 0, 0, 0, []), (775, .iconst 1, 1, 0, 0, 0, []), (776, .iadd, 1, 0, 0, 0, []), (777, .iaload, 1, 0, 0, 0, []), (778, .aload_n 0, 1, 0, 0, 0, []), (779, .iload_n 3, 1, 0, 0, 0, []), (780, .iconst 2, 1, 0, 0, 0, []), (781, .iadd, 1, 0, 0, 0, []), (782, .iaload, 1, 0, 0, 0, []), (783, .invokevirtual 92, 3, 129, 3, 0, [1056, 1059, 112, 1057, 1058, 11]), (786, .aload_n 2, 1, 0, 0, 0, []), (787, .aload_n 0, 1, 0, 0, 0, []), (788, .iload_n 3, 1, 0, 0, 0, []), (789, .iconst 1, 1, 0, 0, 0, []), (790, .iadd, 1, 0, 0, 0, []), (791, .iaload, 1, 0, 0, 0, []), (792, .aload_n 0, 1, 0, 0, 0, []), (793, .iload_n 3, 1, 0, 0, 0, []), (794, .iconst 2, 1, 0, 0, 0, []), (795, .iadd, 1, 0, 0, 0, []), (796, .iaload, 1, 0, 0, 0, []), (797, .invokevirtual 95, 3, 280, 3, 0, [1904, 1907, 123, 1905, 1906, 12])]
def kL_law_c25 : List (Nat × xI) := [(800, .if_icmp .eq 1210, 3, 0, 0, 0, []), (803, .iconst 0, 1, 0, 0, 0, []), (804, .ireturn, 1, 0, 0, 0, []), (805, .aload_n 1, 1, 0, 0, 0, []), (806, .aload_n 0, 1, 0, 0, 0, []), (807, .iload_n 3, 1, 0, 0, 0, []), (808, .iconst 1, 1, 0, 0, 0, []), (809, .iadd, 1, 0, 0, 0, []), (810, .iaload, 1, 0, 0, 0, []), (811, .aload_n 0, 1, 0, 0, 0, []), (812, .iload_n 3, 1, 0, 0, 0, []), (813, .iconst 2, 1, 0, 0, 0, []), (814, .iadd, 1, 0, 0, 0, []), (815, .iaload, 1, 0, 0, 0, []), (816, .invokevirtual 96, 3, 130, 3, 0, [1064, 1067, 112, 1065, 1066, 11]), (819, .aload_n 2, 1, 0, 0, 0, []), (820, .aload_n 0, 1, 0, 0, 0, []), (821, .iload_n 3, 1, 0, 0, 0, []), (822, .iconst 1, 1, 0, 0, 0, []), (823, .iadd, 1, 0, 0, 0, []), (824, .iaload, 1, 0, 0, 0, []), (825, .aload_n 0, 1, 0, 0, 0, []), (826, .iload_n 3, 1, 0, 0, 0, []), (827, .iconst 2, 1, 0, 0, 0, []), (828, .iadd, 1, 0, 0, 0, []), (829, .iaload, 1, 0, 0, 0, []), (830, .invokevirtual 99, 3, 284, 3, 0, [1924, 1927, 123, 1925, 1926, 12])]
def kL_law_c26 : List (Nat × xI) := [(833, .if_icmp .eq 1177, 3, 0, 0, 0, []), (836, .iconst 0, 1, 0, 0, 0, []), (837, .ireturn, 1, 0, 0, 0, []), (838, .aload_n 1, 1, 0, 0, 0, []), (839, .aload_n 0, 1, 0, 0, 0, []), (840, .iload_n 3, 1, 0, 0, 0, []), (841, .iconst 1, 1, 0, 0, 0, []), (842, .iadd, 1, 0, 0, 0, []), (843, .iaload, 1, 0, 0, 0, []), (844, .aload_n 0, 1, 0, 0, 0, []), (845, .iload_n 3, 1, 0, 0, 0, []), (846, .iconst 2, 1, 0, 0, 0, []), (847, .iadd, 1, 0, 0, 0, []), (848, .iaload, 1, 0, 0, 0, []), (849, .ifCond .eq 7, 3, 0, 0, 0, []), (852, .iconst 1, 1, 0, 0, 0, []), (853, .goto 4, 3, 0, 0, 0, []), (856, .iconst 0, 1, 0, 0, 0, []), (857, .invokevirtual 100, 3, 131, 3, 0, [1069, 1072, 112, 1070, 1071, 11]), (860, .aload_n 2, 1, 0, 0, 0, []), (861, .aload_n 0, 1, 0, 0, 0, []), (862, .iload_n 3, 1, 0, 0, 0, []), (863, .iconst 1, 1, 0, 0, 0, [])]
def kL_law_c27 : List (Nat × xI) := [(864, .iadd, 1, 0, 0, 0, []), (865, .iaload, 1, 0, 0, 0, []), (866, .aload_n 0, 1, 0, 0, 0, []), (867, .iload_n 3, 1, 0, 0, 0, []), (868, .iconst 2, 1, 0, 0, 0, []), (869, .iadd, 1, 0, 0, 0, []), (870, .iaload, 1, 0, 0, 0, []), (871, .ifCond .eq 7, 3, 0, 0, 0, []), (874, .iconst 1, 1, 0, 0, 0, []), (875, .goto 4, 3, 0, 0, 0, []), (878, .iconst 0, 1, 0, 0, 0, []), (879, .invokevirtual 104, 3, 290, 3, 0, [1928, 1931, 123, 1929, 1930, 12]), (882, .lcmp, 1, 0, 0, 0, []), (883, .ifCond .eq 1127, 3, 0, 0, 0, []), (886, .iconst 0, 1, 0, 0, 0, []), (887, .ireturn, 1, 0, 0, 0, []), (888, .aload_n 1, 1, 0, 0, 0, []), (889, .aload_n 0, 1, 0, 0, 0, []), (890, .iload_n 3, 1, 0, 0, 0, []), (891, .iconst 1, 1, 0, 0, 0, []), (892, .iadd, 1, 0, 0, 0, []), (893, .iaload, 1, 0, 0, 0, []), (894, .ifCond .eq 7, 3, 0, 0, 0, [])]
def kL_law_c28 : List (Nat × xI) := [(897, .iconst 1, 1, 0, 0, 0, []), (898, .goto 4, 3, 0, 0, 0, []), (901, .iconst 0, 1, 0, 0, 0, []), (902, .invokevirtual 105, 3, 132, 2, 0, [1111, 1114, 112, 1112, 1113, 11]), (905, .aload_n 2, 1, 0, 0, 0, []), (906, .aload_n 0, 1, 0, 0, 0, []), (907, .iload_n 3, 1, 0, 0, 0, []), (908, .iconst 1, 1, 0, 0, 0, []), (909, .iadd, 1, 0, 0, 0, []), (910, .iaload, 1, 0, 0, 0, []), (911, .ifCond .eq 7, 3, 0, 0, 0, []), (914, .iconst 1, 1, 0, 0, 0, []), (915, .goto 4, 3, 0, 0, 0, []), (918, .iconst 0, 1, 0, 0, 0, []), (919, .invokevirtual 109, 3, 291, 2, 0, [1952, 1955, 123, 1953, 1954, 12]), (922, .lcmp, 1, 0, 0, 0, []), (923, .ifCond .eq 1087, 3, 0, 0, 0, []), (926, .iconst 0, 1, 0, 0, 0, []), (927, .ireturn, 1, 0, 0, 0, [])]
def kL_law_c29 : List (Nat × xI) := [(928, .aload_n 1, 1, 0, 0, 0, []), (929, .aload_n 0, 1, 0, 0, 0, []), (930, .iload_n 3, 1, 0, 0, 0, []), (931, .iconst 1, 1, 0, 0, 0, []), (932, .iadd, 1, 0, 0, 0, []), (933, .iaload, 1, 0, 0, 0, []), (934, .aload_n 0, 1, 0, 0, 0, []), (935, .iload_n 3, 1, 0, 0, 0, []), (936, .iconst 2, 1, 0, 0, 0, []), (937, .iadd, 1, 0, 0, 0, []), (938, .iaload, 1, 0, 0, 0, []), (939, .ifCond .eq 7, 3, 0, 0, 0, []), (942, .iconst 1, 1, 0, 0, 0, []), (943, .goto 4, 3, 0, 0, 0, []), (946, .iconst 0, 1, 0, 0, 0, []), (947, .invokevirtual 110, 3, 133, 3, 0, [1116, 1119, 112, 1117, 1118, 11]), (950, .aload_n 2, 1, 0, 0, 0, []), (951, .aload_n 0, 1, 0, 0, 0, []), (952, .iload_n 3, 1, 0, 0, 0, []), (953, .iconst 1, 1, 0, 0, 0, []), (954, .iadd, 1, 0, 0, 0, []), (955, .iaload, 1, 0, 0, 0, []), (956, .aload_n 0, 1, 0, 0, 0, []), (957, .iload_n 3, 1, 0, 0, 0, []), (958, .iconst 2, 1, 0, 0, 0, []), (959, .iadd, 1, 0, 0, 0, [])]
def kL_law_c30 : List (Nat × xI) := [(960, .iaload, 1, 0, 0, 0, []), (961, .ifCond .eq 7, 3, 0, 0, 0, []), (964, .iconst 1, 1, 0, 0, 0, []), (965, .goto 4, 3, 0, 0, 0, []), (968, .iconst 0, 1, 0, 0, 0, []), (969, .invokevirtual 114, 3, 292, 3, 0, [1956, 1959, 123, 1957, 1958, 12]), (972, .if_icmp .eq 1038, 3, 0, 0, 0, []), (975, .iconst 0, 1, 0, 0, 0, []), (976, .ireturn, 1, 0, 0, 0, []), (977, .aload_n 1, 1, 0, 0, 0, []), (978, .aload_n 0, 1, 0, 0, 0, []), (979, .iload_n 3, 1, 0, 0, 0, []), (980, .iconst 1, 1, 0, 0, 0, []), (981, .iadd, 1, 0, 0, 0, []), (982, .iaload, 1, 0, 0, 0, []), (983, .aload_n 0, 1, 0, 0, 0, []), (984, .iload_n 3, 1, 0, 0, 0, []), (985, .iconst 2, 1, 0, 0, 0, []), (986, .iadd, 1, 0, 0, 0, []), (987, .iaload, 1, 0, 0, 0, []), (988, .ifCond .eq 7, 3, 0, 0, 0, []), (991, .iconst 1, 1, 0, 0, 0, [])]
def kL_law_c31 : List (Nat × xI) := [(992, .goto 4, 3, 0, 0, 0, []), (995, .iconst 0, 1, 0, 0, 0, []), (996, .invokevirtual 115, 3, 134, 3, 0, [1125, 1128, 112, 1126, 1127, 11]), (999, .aload_n 2, 1, 0, 0, 0, []), (1000, .aload_n 0, 1, 0, 0, 0, []), (1001, .iload_n 3, 1, 0, 0, 0, []), (1002, .iconst 1, 1, 0, 0, 0, []), (1003, .iadd, 1, 0, 0, 0, []), (1004, .iaload, 1, 0, 0, 0, []), (1005, .aload_n 0, 1, 0, 0, 0, []), (1006, .iload_n 3, 1, 0, 0, 0, []), (1007, .iconst 2, 1, 0, 0, 0, []), (1008, .iadd, 1, 0, 0, 0, []), (1009, .iaload, 1, 0, 0, 0, []), (1010, .ifCond .eq 7, 3, 0, 0, 0, []), (1013, .iconst 1, 1, 0, 0, 0, []), (1014, .goto 4, 3, 0, 0, 0, []), (1017, .iconst 0, 1, 0, 0, 0, []), (1018, .invokevirtual 118, 3, 293, 3, 0, [1961, 1964, 123, 1962, 1963, 12]), (1021, .if_icmp .eq 989, 3, 0, 0, 0, [])]
def kL_law_c32 : List (Nat × xI) := [(1024, .iconst 0, 1, 0, 0, 0, []), (1025, .ireturn, 1, 0, 0, 0, []), (1026, .aload_n 1, 1, 0, 0, 0, []), (1027, .invokevirtual 119, 3, 135, 1, 0, [1133, 1136, 112, 1134, 1135, 11]), (1030, .aload_n 2, 1, 0, 0, 0, []), (1031, .invokevirtual 122, 3, 295, 1, 0, [1965, 1968, 123, 1966, 1967, 12]), (1034, .if_icmp .eq 976, 3, 0, 0, 0, []), (1037, .iconst 0, 1, 0, 0, 0, []), (1038, .ireturn, 1, 0, 0, 0, []), (1039, .aload_n 1, 1, 0, 0, 0, []), (1040, .aload_n 0, 1, 0, 0, 0, []), (1041, .iload_n 3, 1, 0, 0, 0, []), (1042, .iconst 1, 1, 0, 0, 0, []), (1043, .iadd, 1, 0, 0, 0, []), (1044, .iaload, 1, 0, 0, 0, []), (1045, .invokevirtual 123, 3, 136, 2, 0, [1145, 1148, 112, 1146, 1147, 11]), (1048, .aload_n 2, 1, 0, 0, 0, []), (1049, .aload_n 0, 1, 0, 0, 0, []), (1050, .iload_n 3, 1, 0, 0, 0, []), (1051, .iconst 1, 1, 0, 0, 0, []), (1052, .iadd, 1, 0, 0, 0, []), (1053, .iaload, 1, 0, 0, 0, []), (1054, .invokevirtual 126, 3, 297, 2, 0, [1973, 1976, 123, 1974, 1975, 12])]
def kL_law_c33 : List (Nat × xI) := [(1057, .if_icmp .eq 953, 3, 0, 0, 0, []), (1060, .iconst 0, 1, 0, 0, 0, []), (1061, .ireturn, 1, 0, 0, 0, []), (1062, .aload_n 1, 1, 0, 0, 0, []), (1063, .invokevirtual 127, 3, 137, 1, 0, [1166, 1169, 112, 1167, 1168, 11]), (1066, .aload_n 2, 1, 0, 0, 0, []), (1067, .invokevirtual 130, 3, 298, 1, 0, [1981, 1984, 123, 1982, 1983, 12]), (1070, .if_icmp .eq 940, 3, 0, 0, 0, []), (1073, .iconst 0, 1, 0, 0, 0, []), (1074, .ireturn, 1, 0, 0, 0, []), (1075, .aload_n 1, 1, 0, 0, 0, []), (1076, .aload_n 0, 1, 0, 0, 0, []), (1077, .iload_n 3, 1, 0, 0, 0, []), (1078, .iconst 1, 1, 0, 0, 0, []), (1079, .iadd, 1, 0, 0, 0, []), (1080, .iaload, 1, 0, 0, 0, []), (1081, .invokevirtual 131, 3, 138, 2, 0, [1171, 1174, 112, 1172, 1173, 11]), (1084, .aload_n 2, 1, 0, 0, 0, []), (1085, .aload_n 0, 1, 0, 0, 0, []), (1086, .iload_n 3, 1, 0, 0, 0, []), (1087, .iconst 1, 1, 0, 0, 0, [])]
def kL_law_c34 : List (Nat × xI) := [(1088, .iadd, 1, 0, 0, 0, []), (1089, .iaload, 1, 0, 0, 0, []), (1090, .invokevirtual 134, 3, 299, 2, 0, [1985, 1988, 123, 1986, 1987, 12]), (1093, .if_icmp .eq 917, 3, 0, 0, 0, []), (1096, .iconst 0, 1, 0, 0, 0, []), (1097, .ireturn, 1, 0, 0, 0, []), (1098, .aload_n 1, 1, 0, 0, 0, []), (1099, .invokevirtual 135, 3, 139, 1, 0, [1175, 1178, 112, 1176, 1177, 11]), (1102, .aload_n 2, 1, 0, 0, 0, []), (1103, .invokevirtual 138, 3, 300, 1, 0, [1989, 1992, 123, 1990, 1991, 12]), (1106, .if_icmp .eq 904, 3, 0, 0, 0, []), (1109, .iconst 0, 1, 0, 0, 0, []), (1110, .ireturn, 1, 0, 0, 0, []), (1111, .aload_n 1, 1, 0, 0, 0, []), (1112, .aload_n 0, 1, 0, 0, 0, []), (1113, .iload_n 3, 1, 0, 0, 0, []), (1114, .iconst 1, 1, 0, 0, 0, []), (1115, .iadd, 1, 0, 0, 0, []), (1116, .iaload, 1, 0, 0, 0, []), (1117, .invokevirtual 139, 3, 140, 2, 0, [1183, 1186, 112, 1184, 1185, 11])]
def kL_law_c35 : List (Nat × xI) := [(1120, .aload_n 2, 1, 0, 0, 0, []), (1121, .aload_n 0, 1, 0, 0, 0, []), (1122, .iload_n 3, 1, 0, 0, 0, []), (1123, .iconst 1, 1, 0, 0, 0, []), (1124, .iadd, 1, 0, 0, 0, []), (1125, .iaload, 1, 0, 0, 0, []), (1126, .invokevirtual 142, 3, 301, 2, 0, [1993, 1996, 123, 1994, 1995, 12]), (1129, .if_icmp .eq 881, 3, 0, 0, 0, []), (1132, .iconst 0, 1, 0, 0, 0, []), (1133, .ireturn, 1, 0, 0, 0, []), (1134, .aload_n 1, 1, 0, 0, 0, []), (1135, .aload_n 0, 1, 0, 0, 0, []), (1136, .iload_n 3, 1, 0, 0, 0, []), (1137, .iconst 1, 1, 0, 0, 0, []), (1138, .iadd, 1, 0, 0, 0, []), (1139, .iaload, 1, 0, 0, 0, []), (1140, .aload_n 0, 1, 0, 0, 0, []), (1141, .iload_n 3, 1, 0, 0, 0, []), (1142, .iconst 2, 1, 0, 0, 0, []), (1143, .iadd, 1, 0, 0, 0, []), (1144, .iaload, 1, 0, 0, 0, []), (1145, .invokevirtual 143, 3, 141, 3, 0, [1191, 1194, 112, 1192, 1193, 11]), (1148, .aload_n 2, 1, 0, 0, 0, []), (1149, .aload_n 0, 1, 0, 0, 0, []), (1150, .iload_n 3, 1, 0, 0, 0, []), (1151, .iconst 1, 1, 0, 0, 0, [])]
def kL_law_c36 : List (Nat × xI) := [(1152, .iadd, 1, 0, 0, 0, []), (1153, .iaload, 1, 0, 0, 0, []), (1154, .aload_n 0, 1, 0, 0, 0, []), (1155, .iload_n 3, 1, 0, 0, 0, []), (1156, .iconst 2, 1, 0, 0, 0, []), (1157, .iadd, 1, 0, 0, 0, []), (1158, .iaload, 1, 0, 0, 0, []), (1159, .invokevirtual 146, 3, 302, 3, 0, [1997, 2000, 123, 1998, 1999, 12]), (1162, .if_icmp .eq 848, 3, 0, 0, 0, []), (1165, .iconst 0, 1, 0, 0, 0, []), (1166, .ireturn, 1, 0, 0, 0, []), (1167, .aload_n 1, 1, 0, 0, 0, []), (1168, .invokevirtual 147, 3, 142, 1, 0, [1195, 1198, 112, 1196, 1197, 11]), (1171, .aload_n 2, 1, 0, 0, 0, []), (1172, .invokevirtual 150, 3, 304, 1, 0, [2001, 2004, 123, 2002, 2003, 12]), (1175, .if_icmp .eq 835, 3, 0, 0, 0, []), (1178, .iconst 0, 1, 0, 0, 0, []), (1179, .ireturn, 1, 0, 0, 0, []), (1180, .aload_n 1, 1, 0, 0, 0, []), (1181, .aload_n 0, 1, 0, 0, 0, []), (1182, .iload_n 3, 1, 0, 0, 0, []), (1183, .iconst 1, 1, 0, 0, 0, [])]
def kL_law_c37 : List (Nat × xI) := [(1184, .iadd, 1, 0, 0, 0, []), (1185, .iaload, 1, 0, 0, 0, []), (1186, .ifCond .eq 7, 3, 0, 0, 0, []), (1189, .iconst 1, 1, 0, 0, 0, []), (1190, .goto 4, 3, 0, 0, 0, []), (1193, .iconst 0, 1, 0, 0, 0, []), (1194, .invokevirtual 151, 3, 143, 2, 0, [1203, 1206, 112, 1204, 1205, 11]), (1197, .aload_n 2, 1, 0, 0, 0, []), (1198, .aload_n 0, 1, 0, 0, 0, []), (1199, .iload_n 3, 1, 0, 0, 0, []), (1200, .iconst 1, 1, 0, 0, 0, []), (1201, .iadd, 1, 0, 0, 0, []), (1202, .iaload, 1, 0, 0, 0, []), (1203, .ifCond .eq 7, 3, 0, 0, 0, []), (1206, .iconst 1, 1, 0, 0, 0, []), (1207, .goto 4, 3, 0, 0, 0, []), (1210, .iconst 0, 1, 0, 0, 0, []), (1211, .invokevirtual 155, 3, 306, 2, 0, [2005, 2008, 123, 2006, 2007, 12]), (1214, .if_icmp .eq 796, 3, 0, 0, 0, [])]
def kL_law_c38 : List (Nat × xI) := [(1217, .iconst 0, 1, 0, 0, 0, []), (1218, .ireturn, 1, 0, 0, 0, []), (1219, .aload_n 1, 1, 0, 0, 0, []), (1220, .aload_n 0, 1, 0, 0, 0, []), (1221, .iload_n 3, 1, 0, 0, 0, []), (1222, .iconst 1, 1, 0, 0, 0, []), (1223, .iadd, 1, 0, 0, 0, []), (1224, .iaload, 1, 0, 0, 0, []), (1225, .invokevirtual 156, 3, 144, 2, 0, [1216, 1219, 112, 1217, 1218, 11]), (1228, .aload_n 2, 1, 0, 0, 0, []), (1229, .aload_n 0, 1, 0, 0, 0, []), (1230, .iload_n 3, 1, 0, 0, 0, []), (1231, .iconst 1, 1, 0, 0, 0, []), (1232, .iadd, 1, 0, 0, 0, []), (1233, .iaload, 1, 0, 0, 0, []), (1234, .invokevirtual 159, 3, 307, 2, 0, [2017, 2020, 123, 2018, 2019, 12]), (1237, .if_icmp .eq 773, 3, 0, 0, 0, []), (1240, .iconst 0, 1, 0, 0, 0, []), (1241, .ireturn, 1, 0, 0, 0, []), (1242, .aload_n 1, 1, 0, 0, 0, []), (1243, .aload_n 0, 1, 0, 0, 0, []), (1244, .iload_n 3, 1, 0, 0, 0, []), (1245, .iconst 1, 1, 0, 0, 0, []), (1246, .iadd, 1, 0, 0, 0, []), (1247, .iaload, 1, 0, 0, 0, [])]
def kL_law_c39 : List (Nat × xI) := [(1248, .aload_n 0, 1, 0, 0, 0, []), (1249, .iload_n 3, 1, 0, 0, 0, []), (1250, .iconst 2, 1, 0, 0, 0, []), (1251, .iadd, 1, 0, 0, 0, []), (1252, .iaload, 1, 0, 0, 0, []), (1253, .invokevirtual 160, 3, 145, 3, 0, [1224, 1227, 112, 1225, 1226, 11]), (1256, .aload_n 2, 1, 0, 0, 0, []), (1257, .aload_n 0, 1, 0, 0, 0, []), (1258, .iload_n 3, 1, 0, 0, 0, []), (1259, .iconst 1, 1, 0, 0, 0, []), (1260, .iadd, 1, 0, 0, 0, []), (1261, .iaload, 1, 0, 0, 0, []), (1262, .aload_n 0, 1, 0, 0, 0, []), (1263, .iload_n 3, 1, 0, 0, 0, []), (1264, .iconst 2, 1, 0, 0, 0, []), (1265, .iadd, 1, 0, 0, 0, []), (1266, .iaload, 1, 0, 0, 0, []), (1267, .invokevirtual 163, 3, 308, 3, 0, [2021, 2024, 123, 2022, 2023, 12]), (1270, .if_icmp .eq 740, 3, 0, 0, 0, []), (1273, .iconst 0, 1, 0, 0, 0, []), (1274, .ireturn, 1, 0, 0, 0, []), (1275, .aload_n 1, 1, 0, 0, 0, []), (1276, .aload_n 0, 1, 0, 0, 0, []), (1277, .iload_n 3, 1, 0, 0, 0, []), (1278, .iconst 1, 1, 0, 0, 0, []), (1279, .iadd, 1, 0, 0, 0, [])]
def kL_law_c40 : List (Nat × xI) := [(1280, .iaload, 1, 0, 0, 0, []), (1281, .aload_n 0, 1, 0, 0, 0, []), (1282, .iload_n 3, 1, 0, 0, 0, []), (1283, .iconst 2, 1, 0, 0, 0, []), (1284, .iadd, 1, 0, 0, 0, []), (1285, .iaload, 1, 0, 0, 0, []), (1286, .aload_n 0, 1, 0, 0, 0, []), (1287, .iload_n 3, 1, 0, 0, 0, []), (1288, .iconst 3, 1, 0, 0, 0, []), (1289, .iadd, 1, 0, 0, 0, []), (1290, .iaload, 1, 0, 0, 0, []), (1291, .aload_n 0, 1, 0, 0, 0, []), (1292, .iload_n 3, 1, 0, 0, 0, []), (1293, .iconst 4, 1, 0, 0, 0, []), (1294, .iadd, 1, 0, 0, 0, []), (1295, .iaload, 1, 0, 0, 0, []), (1296, .ifCond .eq 7, 3, 0, 0, 0, []), (1299, .iconst 1, 1, 0, 0, 0, []), (1300, .goto 4, 3, 0, 0, 0, []), (1303, .iconst 0, 1, 0, 0, 0, []), (1304, .invokevirtual 164, 3, 146, 5, 0, [1238, 1241, 112, 1239, 1240, 11]), (1307, .aload_n 2, 1, 0, 0, 0, []), (1308, .aload_n 0, 1, 0, 0, 0, []), (1309, .iload_n 3, 1, 0, 0, 0, []), (1310, .iconst 1, 1, 0, 0, 0, []), (1311, .iadd, 1, 0, 0, 0, [])]
def kL_law_c41 : List (Nat × xI) := [(1312, .iaload, 1, 0, 0, 0, []), (1313, .aload_n 0, 1, 0, 0, 0, []), (1314, .iload_n 3, 1, 0, 0, 0, []), (1315, .iconst 2, 1, 0, 0, 0, []), (1316, .iadd, 1, 0, 0, 0, []), (1317, .iaload, 1, 0, 0, 0, []), (1318, .aload_n 0, 1, 0, 0, 0, []), (1319, .iload_n 3, 1, 0, 0, 0, []), (1320, .iconst 3, 1, 0, 0, 0, []), (1321, .iadd, 1, 0, 0, 0, []), (1322, .iaload, 1, 0, 0, 0, []), (1323, .aload_n 0, 1, 0, 0, 0, []), (1324, .iload_n 3, 1, 0, 0, 0, []), (1325, .iconst 4, 1, 0, 0, 0, []), (1326, .iadd, 1, 0, 0, 0, []), (1327, .iaload, 1, 0, 0, 0, []), (1328, .ifCond .eq 7, 3, 0, 0, 0, []), (1331, .iconst 1, 1, 0, 0, 0, []), (1332, .goto 4, 3, 0, 0, 0, []), (1335, .iconst 0, 1, 0, 0, 0, []), (1336, .invokevirtual 168, 3, 312, 5, 0, [2026, 2029, 123, 2027, 2028, 12]), (1339, .lcmp, 1, 0, 0, 0, []), (1340, .ifCond .eq 670, 3, 0, 0, 0, []), (1343, .iconst 0, 1, 0, 0, 0, [])]
def kL_law_c42 : List (Nat × xI) := [(1344, .ireturn, 1, 0, 0, 0, []), (1345, .aload_n 1, 1, 0, 0, 0, []), (1346, .aload_n 0, 1, 0, 0, 0, []), (1347, .iload_n 3, 1, 0, 0, 0, []), (1348, .iconst 1, 1, 0, 0, 0, []), (1349, .iadd, 1, 0, 0, 0, []), (1350, .iaload, 1, 0, 0, 0, []), (1351, .aload_n 0, 1, 0, 0, 0, []), (1352, .iload_n 3, 1, 0, 0, 0, []), (1353, .iconst 2, 1, 0, 0, 0, []), (1354, .iadd, 1, 0, 0, 0, []), (1355, .iaload, 1, 0, 0, 0, []), (1356, .invokevirtual 169, 3, 147, 3, 0, [1253, 1256, 112, 1254, 1255, 11]), (1359, .aload_n 2, 1, 0, 0, 0, []), (1360, .aload_n 0, 1, 0, 0, 0, []), (1361, .iload_n 3, 1, 0, 0, 0, []), (1362, .iconst 1, 1, 0, 0, 0, []), (1363, .iadd, 1, 0, 0, 0, []), (1364, .iaload, 1, 0, 0, 0, []), (1365, .aload_n 0, 1, 0, 0, 0, []), (1366, .iload_n 3, 1, 0, 0, 0, []), (1367, .iconst 2, 1, 0, 0, 0, []), (1368, .iadd, 1, 0, 0, 0, []), (1369, .iaload, 1, 0, 0, 0, []), (1370, .invokevirtual 172, 3, 313, 3, 0, [2041, 2044, 123, 2042, 2043, 12]), (1373, .if_icmp .eq 637, 3, 0, 0, 0, [])]
def kL_law_c43 : List (Nat × xI) := [(1376, .iconst 0, 1, 0, 0, 0, []), (1377, .ireturn, 1, 0, 0, 0, []), (1378, .aload_n 1, 1, 0, 0, 0, []), (1379, .aload_n 0, 1, 0, 0, 0, []), (1380, .iload_n 3, 1, 0, 0, 0, []), (1381, .iconst 1, 1, 0, 0, 0, []), (1382, .iadd, 1, 0, 0, 0, []), (1383, .iaload, 1, 0, 0, 0, []), (1384, .aload_n 0, 1, 0, 0, 0, []), (1385, .iload_n 3, 1, 0, 0, 0, []), (1386, .iconst 2, 1, 0, 0, 0, []), (1387, .iadd, 1, 0, 0, 0, []), (1388, .iaload, 1, 0, 0, 0, []), (1389, .aload_n 0, 1, 0, 0, 0, []), (1390, .iload_n 3, 1, 0, 0, 0, []), (1391, .iconst 3, 1, 0, 0, 0, []), (1392, .iadd, 1, 0, 0, 0, []), (1393, .iaload, 1, 0, 0, 0, []), (1394, .aload_n 0, 1, 0, 0, 0, []), (1395, .iload_n 3, 1, 0, 0, 0, []), (1396, .iconst 4, 1, 0, 0, 0, []), (1397, .iadd, 1, 0, 0, 0, []), (1398, .iaload, 1, 0, 0, 0, []), (1399, .ifCond .eq 7, 3, 0, 0, 0, []), (1402, .iconst 1, 1, 0, 0, 0, []), (1403, .goto 4, 3, 0, 0, 0, []), (1406, .iconst 0, 1, 0, 0, 0, []), (1407, .invokevirtual 173, 3, 148, 5, 0, [1262, 1265, 112, 1263, 1264, 11])]
def kL_law_c44 : List (Nat × xI) := [(1410, .aload_n 2, 1, 0, 0, 0, []), (1411, .aload_n 0, 1, 0, 0, 0, []), (1412, .iload_n 3, 1, 0, 0, 0, []), (1413, .iconst 1, 1, 0, 0, 0, []), (1414, .iadd, 1, 0, 0, 0, []), (1415, .iaload, 1, 0, 0, 0, []), (1416, .aload_n 0, 1, 0, 0, 0, []), (1417, .iload_n 3, 1, 0, 0, 0, []), (1418, .iconst 2, 1, 0, 0, 0, []), (1419, .iadd, 1, 0, 0, 0, []), (1420, .iaload, 1, 0, 0, 0, []), (1421, .aload_n 0, 1, 0, 0, 0, []), (1422, .iload_n 3, 1, 0, 0, 0, []), (1423, .iconst 3, 1, 0, 0, 0, []), (1424, .iadd, 1, 0, 0, 0, []), (1425, .iaload, 1, 0, 0, 0, []), (1426, .aload_n 0, 1, 0, 0, 0, []), (1427, .iload_n 3, 1, 0, 0, 0, []), (1428, .iconst 4, 1, 0, 0, 0, []), (1429, .iadd, 1, 0, 0, 0, []), (1430, .iaload, 1, 0, 0, 0, []), (1431, .ifCond .eq 7, 3, 0, 0, 0, []), (1434, .iconst 1, 1, 0, 0, 0, []), (1435, .goto 4, 3, 0, 0, 0, []), (1438, .iconst 0, 1, 0, 0, 0, []), (1439, .invokevirtual 176, 3, 314, 5, 0, [2046, 2049, 123, 2047, 2048, 12])]
def kL_law_c45 : List (Nat × xI) := [(1442, .lcmp, 1, 0, 0, 0, []), (1443, .ifCond .eq 567, 3, 0, 0, 0, []), (1446, .iconst 0, 1, 0, 0, 0, []), (1447, .ireturn, 1, 0, 0, 0, []), (1448, .aload_n 1, 1, 0, 0, 0, []), (1449, .aload_n 0, 1, 0, 0, 0, []), (1450, .iload_n 3, 1, 0, 0, 0, []), (1451, .iconst 1, 1, 0, 0, 0, []), (1452, .iadd, 1, 0, 0, 0, []), (1453, .iaload, 1, 0, 0, 0, []), (1454, .aload_n 0, 1, 0, 0, 0, []), (1455, .iload_n 3, 1, 0, 0, 0, []), (1456, .iconst 2, 1, 0, 0, 0, []), (1457, .iadd, 1, 0, 0, 0, []), (1458, .iaload, 1, 0, 0, 0, []), (1459, .invokevirtual 177, 3, 149, 3, 0, [1266, 1269, 112, 1267, 1268, 11]), (1462, .aload_n 2, 1, 0, 0, 0, []), (1463, .aload_n 0, 1, 0, 0, 0, []), (1464, .iload_n 3, 1, 0, 0, 0, []), (1465, .iconst 1, 1, 0, 0, 0, []), (1466, .iadd, 1, 0, 0, 0, []), (1467, .iaload, 1, 0, 0, 0, []), (1468, .aload_n 0, 1, 0, 0, 0, []), (1469, .iload_n 3, 1, 0, 0, 0, []), (1470, .iconst 2, 1, 0, 0, 0, []), (1471, .iadd, 1, 0, 0, 0, [])]
def kL_law_c46 : List (Nat × xI) := [(1472, .iaload, 1, 0, 0, 0, []), (1473, .invokevirtual 180, 3, 315, 3, 0, [2052, 2055, 123, 2053, 2054, 12]), (1476, .if_icmp .eq 534, 3, 0, 0, 0, []), (1479, .iconst 0, 1, 0, 0, 0, []), (1480, .ireturn, 1, 0, 0, 0, []), (1481, .aload_n 1, 1, 0, 0, 0, []), (1482, .aload_n 0, 1, 0, 0, 0, []), (1483, .iload_n 3, 1, 0, 0, 0, []), (1484, .iconst 1, 1, 0, 0, 0, []), (1485, .iadd, 1, 0, 0, 0, []), (1486, .iaload, 1, 0, 0, 0, []), (1487, .aload_n 0, 1, 0, 0, 0, []), (1488, .iload_n 3, 1, 0, 0, 0, []), (1489, .iconst 2, 1, 0, 0, 0, []), (1490, .iadd, 1, 0, 0, 0, []), (1491, .iaload, 1, 0, 0, 0, []), (1492, .aload_n 0, 1, 0, 0, 0, []), (1493, .iload_n 3, 1, 0, 0, 0, []), (1494, .iconst 3, 1, 0, 0, 0, []), (1495, .iadd, 1, 0, 0, 0, []), (1496, .iaload, 1, 0, 0, 0, []), (1497, .ifCond .eq 7, 3, 0, 0, 0, []), (1500, .iconst 1, 1, 0, 0, 0, []), (1501, .goto 4, 3, 0, 0, 0, [])]
def kL_law_c47 : List (Nat × xI) := [(1504, .iconst 0, 1, 0, 0, 0, []), (1505, .invokevirtual 181, 3, 150, 4, 0, [1273, 1276, 112, 1274, 1275, 11]), (1508, .aload_n 2, 1, 0, 0, 0, []), (1509, .aload_n 0, 1, 0, 0, 0, []), (1510, .iload_n 3, 1, 0, 0, 0, []), (1511, .iconst 1, 1, 0, 0, 0, []), (1512, .iadd, 1, 0, 0, 0, []), (1513, .iaload, 1, 0, 0, 0, []), (1514, .aload_n 0, 1, 0, 0, 0, []), (1515, .iload_n 3, 1, 0, 0, 0, []), (1516, .iconst 2, 1, 0, 0, 0, []), (1517, .iadd, 1, 0, 0, 0, []), (1518, .iaload, 1, 0, 0, 0, []), (1519, .aload_n 0, 1, 0, 0, 0, []), (1520, .iload_n 3, 1, 0, 0, 0, []), (1521, .iconst 3, 1, 0, 0, 0, []), (1522, .iadd, 1, 0, 0, 0, []), (1523, .iaload, 1, 0, 0, 0, []), (1524, .ifCond .eq 7, 3, 0, 0, 0, []), (1527, .iconst 1, 1, 0, 0, 0, []), (1528, .goto 4, 3, 0, 0, 0, []), (1531, .iconst 0, 1, 0, 0, 0, []), (1532, .invokevirtual 185, 3, 320, 4, 0, [2056, 2059, 123, 2057, 2058, 12]), (1535, .if_icmp .eq 475, 3, 0, 0, 0, [])]
def kL_law_c48 : List (Nat × xI) := [(1538, .iconst 0, 1, 0, 0, 0, []), (1539, .ireturn, 1, 0, 0, 0, []), (1540, .aload_n 1, 1, 0, 0, 0, []), (1541, .aload_n 0, 1, 0, 0, 0, []), (1542, .iload_n 3, 1, 0, 0, 0, []), (1543, .iconst 1, 1, 0, 0, 0, []), (1544, .iadd, 1, 0, 0, 0, []), (1545, .iaload, 1, 0, 0, 0, []), (1546, .invokevirtual 186, 3, 151, 2, 0, [1293, 1296, 112, 1294, 1295, 11]), (1549, .aload_n 2, 1, 0, 0, 0, []), (1550, .aload_n 0, 1, 0, 0, 0, []), (1551, .iload_n 3, 1, 0, 0, 0, []), (1552, .iconst 1, 1, 0, 0, 0, []), (1553, .iadd, 1, 0, 0, 0, []), (1554, .iaload, 1, 0, 0, 0, []), (1555, .invokevirtual 189, 3, 321, 2, 0, [2076, 2079, 123, 2077, 2078, 12]), (1558, .if_icmp .eq 452, 3, 0, 0, 0, []), (1561, .iconst 0, 1, 0, 0, 0, []), (1562, .ireturn, 1, 0, 0, 0, []), (1563, .aload_n 1, 1, 0, 0, 0, []), (1564, .aload_n 0, 1, 0, 0, 0, []), (1565, .iload_n 3, 1, 0, 0, 0, []), (1566, .iconst 1, 1, 0, 0, 0, []), (1567, .iadd, 1, 0, 0, 0, [])]
def kL_law_c49 : List (Nat × xI) := [(1568, .iaload, 1, 0, 0, 0, []), (1569, .aload_n 0, 1, 0, 0, 0, []), (1570, .iload_n 3, 1, 0, 0, 0, []), (1571, .iconst 2, 1, 0, 0, 0, []), (1572, .iadd, 1, 0, 0, 0, []), (1573, .iaload, 1, 0, 0, 0, []), (1574, .invokevirtual 190, 3, 152, 3, 0, [1303, 1306, 112, 1304, 1305, 11]), (1577, .aload_n 2, 1, 0, 0, 0, []), (1578, .aload_n 0, 1, 0, 0, 0, []), (1579, .iload_n 3, 1, 0, 0, 0, []), (1580, .iconst 1, 1, 0, 0, 0, []), (1581, .iadd, 1, 0, 0, 0, []), (1582, .iaload, 1, 0, 0, 0, []), (1583, .aload_n 0, 1, 0, 0, 0, []), (1584, .iload_n 3, 1, 0, 0, 0, []), (1585, .iconst 2, 1, 0, 0, 0, []), (1586, .iadd, 1, 0, 0, 0, []), (1587, .iaload, 1, 0, 0, 0, []), (1588, .invokevirtual 193, 3, 322, 3, 0, [2080, 2083, 123, 2081, 2082, 12]), (1591, .if_icmp .eq 419, 3, 0, 0, 0, []), (1594, .iconst 0, 1, 0, 0, 0, []), (1595, .ireturn, 1, 0, 0, 0, []), (1596, .aload_n 1, 1, 0, 0, 0, []), (1597, .aload_n 0, 1, 0, 0, 0, []), (1598, .iload_n 3, 1, 0, 0, 0, []), (1599, .iconst 1, 1, 0, 0, 0, [])]
def kL_law_c50 : List (Nat × xI) := [(1600, .iadd, 1, 0, 0, 0, []), (1601, .iaload, 1, 0, 0, 0, []), (1602, .aload_n 0, 1, 0, 0, 0, []), (1603, .iload_n 3, 1, 0, 0, 0, []), (1604, .iconst 2, 1, 0, 0, 0, []), (1605, .iadd, 1, 0, 0, 0, []), (1606, .iaload, 1, 0, 0, 0, []), (1607, .invokevirtual 194, 3, 153, 3, 0, [1307, 1310, 112, 1308, 1309, 11]), (1610, .aload_n 2, 1, 0, 0, 0, []), (1611, .aload_n 0, 1, 0, 0, 0, []), (1612, .iload_n 3, 1, 0, 0, 0, []), (1613, .iconst 1, 1, 0, 0, 0, []), (1614, .iadd, 1, 0, 0, 0, []), (1615, .iaload, 1, 0, 0, 0, []), (1616, .aload_n 0, 1, 0, 0, 0, []), (1617, .iload_n 3, 1, 0, 0, 0, []), (1618, .iconst 2, 1, 0, 0, 0, []), (1619, .iadd, 1, 0, 0, 0, []), (1620, .iaload, 1, 0, 0, 0, []), (1621, .invokevirtual 197, 3, 328, 3, 0, [2084, 2087, 123, 2085, 2086, 12]), (1624, .if_icmp .eq 386, 3, 0, 0, 0, []), (1627, .iconst 0, 1, 0, 0, 0, []), (1628, .ireturn, 1, 0, 0, 0, []), (1629, .aload_n 1, 1, 0, 0, 0, []), (1630, .invokevirtual 198, 3, 154, 1, 0, [1330, 1333, 112, 1331, 1332, 11])]
def kL_law_c51 : List (Nat × xI) := [(1633, .aload_n 2, 1, 0, 0, 0, []), (1634, .invokevirtual 201, 3, 329, 1, 0, [2105, 2108, 123, 2106, 2107, 12]), (1637, .if_icmp .eq 373, 3, 0, 0, 0, []), (1640, .iconst 0, 1, 0, 0, 0, []), (1641, .ireturn, 1, 0, 0, 0, []), (1642, .aload_n 1, 1, 0, 0, 0, []), (1643, .aload_n 0, 1, 0, 0, 0, []), (1644, .iload_n 3, 1, 0, 0, 0, []), (1645, .iconst 1, 1, 0, 0, 0, []), (1646, .iadd, 1, 0, 0, 0, []), (1647, .iaload, 1, 0, 0, 0, []), (1648, .invokevirtual 202, 3, 155, 2, 0, [1339, 1342, 112, 1340, 1341, 11]), (1651, .aload_n 2, 1, 0, 0, 0, []), (1652, .aload_n 0, 1, 0, 0, 0, []), (1653, .iload_n 3, 1, 0, 0, 0, []), (1654, .iconst 1, 1, 0, 0, 0, []), (1655, .iadd, 1, 0, 0, 0, []), (1656, .iaload, 1, 0, 0, 0, []), (1657, .invokevirtual 205, 3, 330, 2, 0, [2109, 2112, 123, 2110, 2111, 12]), (1660, .if_icmp .eq 350, 3, 0, 0, 0, []), (1663, .iconst 0, 1, 0, 0, 0, [])]
def kL_law_c52 : List (Nat × xI) := [(1664, .ireturn, 1, 0, 0, 0, []), (1665, .aload_n 1, 1, 0, 0, 0, []), (1666, .invokevirtual 206, 3, 156, 1, 0, [1347, 1350, 112, 1348, 1349, 11]), (1669, .aload_n 2, 1, 0, 0, 0, []), (1670, .invokevirtual 209, 3, 332, 1, 0, [2113, 2116, 123, 2114, 2115, 12]), (1673, .if_icmp .eq 337, 3, 0, 0, 0, []), (1676, .iconst 0, 1, 0, 0, 0, []), (1677, .ireturn, 1, 0, 0, 0, []), (1678, .aload_n 1, 1, 0, 0, 0, []), (1679, .aload_n 0, 1, 0, 0, 0, []), (1680, .iload_n 3, 1, 0, 0, 0, []), (1681, .iconst 1, 1, 0, 0, 0, []), (1682, .iadd, 1, 0, 0, 0, []), (1683, .iaload, 1, 0, 0, 0, []), (1684, .aload_n 0, 1, 0, 0, 0, []), (1685, .iload_n 3, 1, 0, 0, 0, []), (1686, .iconst 2, 1, 0, 0, 0, []), (1687, .iadd, 1, 0, 0, 0, []), (1688, .iaload, 1, 0, 0, 0, []), (1689, .invokevirtual 210, 3, 157, 3, 0, [1365, 1368, 112, 1366, 1367, 11]), (1692, .aload_n 2, 1, 0, 0, 0, []), (1693, .aload_n 0, 1, 0, 0, 0, []), (1694, .iload_n 3, 1, 0, 0, 0, []), (1695, .iconst 1, 1, 0, 0, 0, [])]
def kL_law_c53 : List (Nat × xI) := [(1696, .iadd, 1, 0, 0, 0, []), (1697, .iaload, 1, 0, 0, 0, []), (1698, .aload_n 0, 1, 0, 0, 0, []), (1699, .iload_n 3, 1, 0, 0, 0, []), (1700, .iconst 2, 1, 0, 0, 0, []), (1701, .iadd, 1, 0, 0, 0, []), (1702, .iaload, 1, 0, 0, 0, []), (1703, .invokevirtual 213, 3, 335, 3, 0, [2121, 2124, 123, 2122, 2123, 12]), (1706, .if_icmp .eq 304, 3, 0, 0, 0, []), (1709, .iconst 0, 1, 0, 0, 0, []), (1710, .ireturn, 1, 0, 0, 0, []), (1711, .aload_n 1, 1, 0, 0, 0, []), (1712, .aload_n 0, 1, 0, 0, 0, []), (1713, .iload_n 3, 1, 0, 0, 0, []), (1714, .iconst 1, 1, 0, 0, 0, []), (1715, .iadd, 1, 0, 0, 0, []), (1716, .iaload, 1, 0, 0, 0, []), (1717, .aload_n 0, 1, 0, 0, 0, []), (1718, .iload_n 3, 1, 0, 0, 0, []), (1719, .iconst 2, 1, 0, 0, 0, []), (1720, .iadd, 1, 0, 0, 0, []), (1721, .iaload, 1, 0, 0, 0, []), (1722, .aload_n 0, 1, 0, 0, 0, []), (1723, .iload_n 3, 1, 0, 0, 0, []), (1724, .iconst 3, 1, 0, 0, 0, []), (1725, .iadd, 1, 0, 0, 0, []), (1726, .iaload, 1, 0, 0, 0, []), (1727, .invokevirtual 214, 3, 158, 4, 0, [1377, 1380, 112, 1378, 1379, 11])]
def kL_law_c54 : List (Nat × xI) := [(1730, .aload_n 2, 1, 0, 0, 0, []), (1731, .aload_n 0, 1, 0, 0, 0, []), (1732, .iload_n 3, 1, 0, 0, 0, []), (1733, .iconst 1, 1, 0, 0, 0, []), (1734, .iadd, 1, 0, 0, 0, []), (1735, .iaload, 1, 0, 0, 0, []), (1736, .aload_n 0, 1, 0, 0, 0, []), (1737, .iload_n 3, 1, 0, 0, 0, []), (1738, .iconst 2, 1, 0, 0, 0, []), (1739, .iadd, 1, 0, 0, 0, []), (1740, .iaload, 1, 0, 0, 0, []), (1741, .aload_n 0, 1, 0, 0, 0, []), (1742, .iload_n 3, 1, 0, 0, 0, []), (1743, .iconst 3, 1, 0, 0, 0, []), (1744, .iadd, 1, 0, 0, 0, []), (1745, .iaload, 1, 0, 0, 0, []), (1746, .invokevirtual 217, 3, 336, 4, 0, [2132, 2135, 123, 2133, 2134, 12]), (1749, .if_icmp .eq 261, 3, 0, 0, 0, []), (1752, .iconst 0, 1, 0, 0, 0, []), (1753, .ireturn, 1, 0, 0, 0, []), (1754, .aload_n 1, 1, 0, 0, 0, []), (1755, .aload_n 0, 1, 0, 0, 0, []), (1756, .iload_n 3, 1, 0, 0, 0, []), (1757, .iconst 1, 1, 0, 0, 0, []), (1758, .iadd, 1, 0, 0, 0, []), (1759, .iaload, 1, 0, 0, 0, [])]
def kL_law_c55 : List (Nat × xI) := [(1760, .aload_n 0, 1, 0, 0, 0, []), (1761, .iload_n 3, 1, 0, 0, 0, []), (1762, .iconst 2, 1, 0, 0, 0, []), (1763, .iadd, 1, 0, 0, 0, []), (1764, .iaload, 1, 0, 0, 0, []), (1765, .invokevirtual 218, 3, 159, 3, 0, [1381, 1384, 112, 1382, 1383, 11]), (1768, .aload_n 2, 1, 0, 0, 0, []), (1769, .aload_n 0, 1, 0, 0, 0, []), (1770, .iload_n 3, 1, 0, 0, 0, []), (1771, .iconst 1, 1, 0, 0, 0, []), (1772, .iadd, 1, 0, 0, 0, []), (1773, .iaload, 1, 0, 0, 0, []), (1774, .aload_n 0, 1, 0, 0, 0, []), (1775, .iload_n 3, 1, 0, 0, 0, []), (1776, .iconst 2, 1, 0, 0, 0, []), (1777, .iadd, 1, 0, 0, 0, []), (1778, .iaload, 1, 0, 0, 0, []), (1779, .invokevirtual 221, 3, 338, 3, 0, [2136, 2139, 123, 2137, 2138, 12]), (1782, .if_icmp .eq 228, 3, 0, 0, 0, []), (1785, .iconst 0, 1, 0, 0, 0, []), (1786, .ireturn, 1, 0, 0, 0, []), (1787, .aload_n 1, 1, 0, 0, 0, []), (1788, .aload_n 0, 1, 0, 0, 0, []), (1789, .iload_n 3, 1, 0, 0, 0, []), (1790, .iconst 1, 1, 0, 0, 0, []), (1791, .iadd, 1, 0, 0, 0, [])]
def kL_law_c56 : List (Nat × xI) := [(1792, .iaload, 1, 0, 0, 0, []), (1793, .invokevirtual 222, 3, 160, 2, 0, [1388, 1391, 112, 1389, 1390, 11]), (1796, .aload_n 2, 1, 0, 0, 0, []), (1797, .aload_n 0, 1, 0, 0, 0, []), (1798, .iload_n 3, 1, 0, 0, 0, []), (1799, .iconst 1, 1, 0, 0, 0, []), (1800, .iadd, 1, 0, 0, 0, []), (1801, .iaload, 1, 0, 0, 0, []), (1802, .invokevirtual 225, 3, 339, 2, 0, [2143, 2146, 123, 2144, 2145, 12]), (1805, .if_icmp .eq 205, 3, 0, 0, 0, []), (1808, .iconst 0, 1, 0, 0, 0, []), (1809, .ireturn, 1, 0, 0, 0, []), (1810, .aload_n 1, 1, 0, 0, 0, []), (1811, .aload_n 0, 1, 0, 0, 0, []), (1812, .iload_n 3, 1, 0, 0, 0, []), (1813, .iconst 1, 1, 0, 0, 0, []), (1814, .iadd, 1, 0, 0, 0, []), (1815, .iaload, 1, 0, 0, 0, []), (1816, .invokevirtual 226, 3, 161, 2, 0, [1392, 1395, 112, 1393, 1394, 11]), (1819, .aload_n 2, 1, 0, 0, 0, []), (1820, .aload_n 0, 1, 0, 0, 0, []), (1821, .iload_n 3, 1, 0, 0, 0, []), (1822, .iconst 1, 1, 0, 0, 0, []), (1823, .iadd, 1, 0, 0, 0, [])]
def kL_law_c57 : List (Nat × xI) := [(1824, .iaload, 1, 0, 0, 0, []), (1825, .invokevirtual 229, 3, 343, 2, 0, [2148, 2151, 123, 2149, 2150, 12]), (1828, .if_icmp .eq 182, 3, 0, 0, 0, []), (1831, .iconst 0, 1, 0, 0, 0, []), (1832, .ireturn, 1, 0, 0, 0, []), (1833, .aload_n 1, 1, 0, 0, 0, []), (1834, .aload_n 0, 1, 0, 0, 0, []), (1835, .iload_n 3, 1, 0, 0, 0, []), (1836, .iconst 1, 1, 0, 0, 0, []), (1837, .iadd, 1, 0, 0, 0, []), (1838, .iaload, 1, 0, 0, 0, []), (1839, .aload_n 0, 1, 0, 0, 0, []), (1840, .iload_n 3, 1, 0, 0, 0, []), (1841, .iconst 2, 1, 0, 0, 0, []), (1842, .iadd, 1, 0, 0, 0, []), (1843, .iaload, 1, 0, 0, 0, []), (1844, .invokevirtual 230, 3, 162, 3, 0, [1401, 1404, 112, 1402, 1403, 11]), (1847, .aload_n 2, 1, 0, 0, 0, []), (1848, .aload_n 0, 1, 0, 0, 0, []), (1849, .iload_n 3, 1, 0, 0, 0, []), (1850, .iconst 1, 1, 0, 0, 0, []), (1851, .iadd, 1, 0, 0, 0, []), (1852, .iaload, 1, 0, 0, 0, []), (1853, .aload_n 0, 1, 0, 0, 0, []), (1854, .iload_n 3, 1, 0, 0, 0, []), (1855, .iconst 2, 1, 0, 0, 0, [])]
def kL_law_c58 : List (Nat × xI) := [(1856, .iadd, 1, 0, 0, 0, []), (1857, .iaload, 1, 0, 0, 0, []), (1858, .invokevirtual 233, 3, 344, 3, 0, [2163, 2166, 123, 2164, 2165, 12]), (1861, .if_icmp .eq 149, 3, 0, 0, 0, []), (1864, .iconst 0, 1, 0, 0, 0, []), (1865, .ireturn, 1, 0, 0, 0, []), (1866, .aload_n 1, 1, 0, 0, 0, []), (1867, .aload_n 0, 1, 0, 0, 0, []), (1868, .iload_n 3, 1, 0, 0, 0, []), (1869, .iconst 1, 1, 0, 0, 0, []), (1870, .iadd, 1, 0, 0, 0, []), (1871, .iaload, 1, 0, 0, 0, []), (1872, .aload_n 0, 1, 0, 0, 0, []), (1873, .iload_n 3, 1, 0, 0, 0, []), (1874, .iconst 2, 1, 0, 0, 0, []), (1875, .iadd, 1, 0, 0, 0, []), (1876, .iaload, 1, 0, 0, 0, []), (1877, .invokevirtual 234, 3, 163, 3, 0, [1405, 1408, 112, 1406, 1407, 11]), (1880, .aload_n 2, 1, 0, 0, 0, []), (1881, .aload_n 0, 1, 0, 0, 0, []), (1882, .iload_n 3, 1, 0, 0, 0, []), (1883, .iconst 1, 1, 0, 0, 0, []), (1884, .iadd, 1, 0, 0, 0, []), (1885, .iaload, 1, 0, 0, 0, []), (1886, .aload_n 0, 1, 0, 0, 0, []), (1887, .iload_n 3, 1, 0, 0, 0, [])]
def kL_law_c59 : List (Nat × xI) := [(1888, .iconst 2, 1, 0, 0, 0, []), (1889, .iadd, 1, 0, 0, 0, []), (1890, .iaload, 1, 0, 0, 0, []), (1891, .invokevirtual 237, 3, 345, 3, 0, [2167, 2170, 123, 2168, 2169, 12]), (1894, .if_icmp .eq 116, 3, 0, 0, 0, []), (1897, .iconst 0, 1, 0, 0, 0, []), (1898, .ireturn, 1, 0, 0, 0, []), (1899, .aload_n 1, 1, 0, 0, 0, []), (1900, .invokevirtual 238, 3, 164, 1, 0, [1413, 1416, 112, 1414, 1415, 11]), (1903, .aload_n 2, 1, 0, 0, 0, []), (1904, .invokevirtual 241, 3, 346, 1, 0, [2171, 2174, 123, 2172, 2173, 12]), (1907, .if_icmp .eq 103, 3, 0, 0, 0, []), (1910, .iconst 0, 1, 0, 0, 0, []), (1911, .ireturn, 1, 0, 0, 0, []), (1912, .aload_n 1, 1, 0, 0, 0, []), (1913, .invokevirtual 242, 3, 165, 1, 0, [1421, 1424, 112, 1422, 1423, 11]), (1916, .aload_n 2, 1, 0, 0, 0, []), (1917, .invokevirtual 245, 3, 282, 1, 0, [1916, 1919, 123, 1917, 1918, 12])]
def kL_law_c60 : List (Nat × xI) := [(1920, .if_icmp .eq 90, 3, 0, 0, 0, []), (1923, .iconst 0, 1, 0, 0, 0, []), (1924, .ireturn, 1, 0, 0, 0, []), (1925, .aload_n 1, 1, 0, 0, 0, []), (1926, .invokevirtual 246, 3, 166, 1, 0, [1425, 1428, 112, 1426, 1427, 11]), (1929, .aload_n 2, 1, 0, 0, 0, []), (1930, .invokevirtual 249, 3, 283, 1, 0, [1920, 1923, 123, 1921, 1922, 12]), (1933, .if_icmp .eq 77, 3, 0, 0, 0, []), (1936, .iconst 0, 1, 0, 0, 0, []), (1937, .ireturn, 1, 0, 0, 0, []), (1938, .aload_n 1, 1, 0, 0, 0, []), (1939, .aload_n 0, 1, 0, 0, 0, []), (1940, .iload_n 3, 1, 0, 0, 0, []), (1941, .iconst 1, 1, 0, 0, 0, []), (1942, .iadd, 1, 0, 0, 0, []), (1943, .iaload, 1, 0, 0, 0, []), (1944, .invokevirtual 250, 3, 167, 2, 0, [1429, 1432, 112, 1430, 1431, 11]), (1947, .aload_n 2, 1, 0, 0, 0, []), (1948, .aload_n 0, 1, 0, 0, 0, []), (1949, .iload_n 3, 1, 0, 0, 0, []), (1950, .iconst 1, 1, 0, 0, 0, []), (1951, .iadd, 1, 0, 0, 0, [])]
def kL_law_c61 : List (Nat × xI) := [(1952, .iaload, 1, 0, 0, 0, []), (1953, .invokevirtual 253, 3, 281, 2, 0, [1912, 1915, 123, 1913, 1914, 12]), (1956, .if_icmp .eq 54, 3, 0, 0, 0, []), (1959, .iconst 0, 1, 0, 0, 0, []), (1960, .ireturn, 1, 0, 0, 0, []), (1961, .aload_n 1, 1, 0, 0, 0, []), (1962, .invokevirtual 254, 3, 168, 1, 0, [1438, 1441, 112, 1439, 1440, 11]), (1965, .aload_n 2, 1, 0, 0, 0, []), (1966, .invokevirtual 257, 3, 347, 1, 0, [2175, 2178, 123, 2176, 2177, 12]), (1969, .if_icmp .eq 41, 3, 0, 0, 0, []), (1972, .iconst 0, 1, 0, 0, 0, []), (1973, .ireturn, 1, 0, 0, 0, []), (1974, .aload_n 1, 1, 0, 0, 0, []), (1975, .invokevirtual 258, 3, 169, 1, 0, [1466, 1469, 112, 1467, 1468, 11]), (1978, .aload_n 2, 1, 0, 0, 0, []), (1979, .invokevirtual 261, 3, 348, 1, 0, [2179, 2182, 123, 2180, 2181, 12]), (1982, .if_icmp .eq 28, 3, 0, 0, 0, [])]
def kL_law_c62 : List (Nat × xI) := [(1985, .iconst 0, 1, 0, 0, 0, []), (1986, .ireturn, 1, 0, 0, 0, []), (1987, .aload_n 1, 1, 0, 0, 0, []), (1988, .aload_n 0, 1, 0, 0, 0, []), (1989, .iload_n 3, 1, 0, 0, 0, []), (1990, .iconst 1, 1, 0, 0, 0, []), (1991, .iadd, 1, 0, 0, 0, []), (1992, .iaload, 1, 0, 0, 0, []), (1993, .invokevirtual 262, 3, 170, 2, 0, [1470, 1473, 112, 1471, 1472, 11]), (1996, .aload_n 2, 1, 0, 0, 0, []), (1997, .aload_n 0, 1, 0, 0, 0, []), (1998, .iload_n 3, 1, 0, 0, 0, []), (1999, .iconst 1, 1, 0, 0, 0, []), (2000, .iadd, 1, 0, 0, 0, []), (2001, .iaload, 1, 0, 0, 0, []), (2002, .invokevirtual 265, 3, 349, 2, 0, [2183, 2186, 123, 2184, 2185, 12]), (2005, .if_icmp .eq 5, 3, 0, 0, 0, []), (2008, .iconst 0, 1, 0, 0, 0, []), (2009, .ireturn, 1, 0, 0, 0, []), (2010, .iinc 3 6, 3, 0, 0, 0, []), (2013, .goto (-1995), 3, 0, 0, 0, [])]
def kL_law_c63 : List (Nat × xI) := [(2016, .iconst 1, 1, 0, 0, 0, []), (2017, .ireturn, 1, 0, 0, 0, [])]
def kL_law : xC := [kL_law_c0, kL_law_c1, kL_law_c2, kL_law_c3, kL_law_c4, kL_law_c5, kL_law_c6, kL_law_c7, kL_law_c8, kL_law_c9, kL_law_c10, kL_law_c11, kL_law_c12, kL_law_c13, kL_law_c14, kL_law_c15, kL_law_c16, kL_law_c17, kL_law_c18, kL_law_c19, kL_law_c20, kL_law_c21, kL_law_c22, kL_law_c23, kL_law_c24, kL_law_c25, kL_law_c26, kL_law_c27, kL_law_c28, kL_law_c29, kL_law_c30, kL_law_c31, kL_law_c32, kL_law_c33, kL_law_c34, kL_law_c35, kL_law_c36, kL_law_c37, kL_law_c38, kL_law_c39, kL_law_c40, kL_law_c41, kL_law_c42, kL_law_c43, kL_law_c44, kL_law_c45, kL_law_c46, kL_law_c47, kL_law_c48, kL_law_c49, kL_law_c50, kL_law_c51, kL_law_c52, kL_law_c53, kL_law_c54, kL_law_c55, kL_law_c56, kL_law_c57, kL_law_c58, kL_law_c59, kL_law_c60, kL_law_c61, kL_law_c62, kL_law_c63]
def mL_law : xMeth := (yL_law, cL_law, 4, some .boolean, kL_law)
end
section
/-! ===== the bytes and the tables are as the resolved code says: by program ===== -/
def xOkM (M : xMeth) : Bool := M.2.2.2.2.isEmpty || xChkM xP M
theorem ck_J6_bitCount_0f7a4 : xOkM mJ6_bitCount_0f7a4 = true := by decide +kernel
theorem ck_J7_fill_d0a16 : xOkM mJ7_fill_d0a16 = true := by decide +kernel
theorem ck_J7_fill_53178 : xOkM mJ7_fill_53178 = true := by decide +kernel
theorem ck_J7_copyOf_59c91 : xOkM mJ7_copyOf_59c91 = true := by decide +kernel
theorem ck_J0_charAt_5068e : xOkM mJ0_charAt_5068e = true := by decide +kernel
theorem ck_J0_length_8abf5 : xOkM mJ0_length_8abf5 = true := by decide +kernel
theorem ck_J0_indexOf_0f7a4 : xOkM mJ0_indexOf_0f7a4 = true := by decide +kernel
theorem ck_J0_indexOf_7cf53 : xOkM mJ0_indexOf_7cf53 = true := by decide +kernel
theorem ck_J0_coder_7d493 : xOkM mJ0_coder_7d493 = true := by decide +kernel
theorem ck_J0_isLatin1_aae02 : xOkM mJ0_isLatin1_aae02 = true := by decide +kernel
theorem ck_J1_charAt_3b067 : xOkM mJ1_charAt_3b067 = true := by decide +kernel
theorem ck_J1_canEncode_9a6ad : xOkM mJ1_canEncode_9a6ad = true := by decide +kernel
theorem ck_J1_indexOf_4cfef : xOkM mJ1_indexOf_4cfef = true := by decide +kernel
theorem ck_J1_indexOfChar_4cfef : xOkM mJ1_indexOfChar_4cfef = true := by decide +kernel
theorem ck_J0_checkIndex_df160 : xOkM mJ0_checkIndex_df160 = true := by decide +kernel
theorem ck_J3_checkIndex_8e157 : xOkM mJ3_checkIndex_8e157 = true := by decide +kernel
theorem ck_X0_init : xOkM mX0_init = true := by decide +kernel
theorem ck_X0_copy : xOkM mX0_copy = true := by decide +kernel
theorem ck_X0_addBird : xOkM mX0_addBird = true := by decide +kernel
theorem ck_X0_addText : xOkM mX0_addText = true := by decide +kernel
theorem ck_X0_addTold : xOkM mX0_addTold = true := by decide +kernel
theorem ck_X0_hasBird : xOkM mX0_hasBird = true := by decide +kernel
theorem ck_X0_hasText : xOkM mX0_hasText = true := by decide +kernel
theorem ck_X0_textAt : xOkM mX0_textAt = true := by decide +kernel
theorem ck_X0_rulingText : xOkM mX0_rulingText = true := by decide +kernel
theorem ck_X0_isDue : xOkM mX0_isDue = true := by decide +kernel
theorem ck_X0_dueOn : xOkM mX0_dueOn = true := by decide +kernel
theorem ck_X0_canThin : xOkM mX0_canThin = true := by decide +kernel
theorem ck_X0_canCall : xOkM mX0_canCall = true := by decide +kernel
theorem ck_X0_canGrant : xOkM mX0_canGrant = true := by decide +kernel
theorem ck_X0_canPass : xOkM mX0_canPass = true := by decide +kernel
theorem ck_X1_init : xOkM mX1_init = true := by decide +kernel
theorem ck_X1_chanceOf : xOkM mX1_chanceOf = true := by decide +kernel
theorem ck_X1_broughtBy : xOkM mX1_broughtBy = true := by decide +kernel
theorem ck_X1_run : xOkM mX1_run = true := by decide +kernel
theorem ck_X1_isOfOne : xOkM mX1_isOfOne = true := by decide +kernel
theorem ck_X1_isOfTwo : xOkM mX1_isOfTwo = true := by decide +kernel
theorem ck_X1_named : xOkM mX1_named = true := by decide +kernel
theorem ck_X1_ofOne : xOkM mX1_ofOne = true := by decide +kernel
theorem ck_X1_ofTwo : xOkM mX1_ofTwo = true := by decide +kernel
theorem ck_X1_isSo : xOkM mX1_isSo = true := by decide +kernel
theorem ck_X2_init : xOkM mX2_init = true := by decide +kernel
theorem ck_X2_copy : xOkM mX2_copy = true := by decide +kernel
theorem ck_X2_isGone : xOkM mX2_isGone = true := by decide +kernel
theorem ck_X2_markGone : xOkM mX2_markGone = true := by decide +kernel
theorem ck_X2_markBack : xOkM mX2_markBack = true := by decide +kernel
theorem ck_X2_noteCame : xOkM mX2_noteCame = true := by decide +kernel
theorem ck_X2_draw : xOkM mX2_draw = true := by decide +kernel
theorem ck_X2_write : xOkM mX2_write = true := by decide +kernel
theorem ck_X2_onPage : xOkM mX2_onPage = true := by decide +kernel
theorem ck_X2_countWritten : xOkM mX2_countWritten = true := by decide +kernel
theorem ck_X3_init : xOkM mX3_init = true := by decide +kernel
theorem ck_X3_copy : xOkM mX3_copy = true := by decide +kernel
theorem ck_X3_add : xOkM mX3_add = true := by decide +kernel
theorem ck_X3_fits : xOkM mX3_fits = true := by decide +kernel
theorem ck_X3_countFitting : xOkM mX3_countFitting = true := by decide +kernel
theorem ck_X3_leastPeriod : xOkM mX3_leastPeriod = true := by decide +kernel
theorem ck_X3_leastPhase : xOkM mX3_leastPhase = true := by decide +kernel
theorem ck_X3_nextDay : xOkM mX3_nextDay = true := by decide +kernel
theorem ck_X4_init : xOkM mX4_init = true := by decide +kernel
end
section
/-! checks, on -/
theorem ck_X4_copy : xOkM mX4_copy = true := by decide +kernel
theorem ck_X4_allVotes : xOkM mX4_allVotes = true := by decide +kernel
theorem ck_X4_seatsByShares : xOkM mX4_seatsByShares = true := by decide +kernel
theorem ck_X4_seatsByRests : xOkM mX4_seatsByRests = true := by decide +kernel
theorem ck_X4_differing : xOkM mX4_differing = true := by decide +kernel
theorem ck_X4_causeAt : xOkM mX4_causeAt = true := by decide +kernel
theorem ck_X4_placeOf : xOkM mX4_placeOf = true := by decide +kernel
theorem ck_X4_isAhead : xOkM mX4_isAhead = true := by decide +kernel
theorem ck_X4_aheadOfAll : xOkM mX4_aheadOfAll = true := by decide +kernel
theorem ck_X4_pointsFor : xOkM mX4_pointsFor = true := by decide +kernel
theorem ck_X4_lastLeft : xOkM mX4_lastLeft = true := by decide +kernel
theorem ck_X4_weakest : xOkM mX4_weakest = true := by decide +kernel
theorem ck_X4_firstVotes : xOkM mX4_firstVotes = true := by decide +kernel
theorem ck_X5_init : xOkM mX5_init = true := by decide +kernel
theorem ck_X5_readTape : xOkM mX5_readTape = true := by decide +kernel
theorem ck_X5_kind : xOkM mX5_kind = true := by decide +kernel
theorem ck_X5_fail : xOkM mX5_fail = true := by decide +kernel
theorem ck_X5_expect : xOkM mX5_expect = true := by decide +kernel
theorem ck_X5_readNumber : xOkM mX5_readNumber = true := by decide +kernel
theorem ck_X5_readClause : xOkM mX5_readClause = true := by decide +kernel
theorem ck_X5_isVerb : xOkM mX5_isVerb = true := by decide +kernel
theorem ck_X5_readNumbers : xOkM mX5_readNumbers = true := by decide +kernel
theorem ck_X5_readLaw : xOkM mX5_readLaw = true := by decide +kernel
theorem ck_X5_emit : xOkM mX5_emit = true := by decide +kernel
theorem ck_X5_readSum : xOkM mX5_readSum = true := by decide +kernel
theorem ck_X5_readProduct : xOkM mX5_readProduct = true := by decide +kernel
theorem ck_X5_readOne : xOkM mX5_readOne = true := by decide +kernel
theorem ck_X5_opensOne : xOkM mX5_opensOne = true := by decide +kernel
theorem ck_X5_readName : xOkM mX5_readName = true := by decide +kernel
theorem ck_X5_readOpened : xOkM mX5_readOpened = true := by decide +kernel
theorem ck_X5_readChoice : xOkM mX5_readChoice = true := by decide +kernel
theorem ck_X5_aim : xOkM mX5_aim = true := by decide +kernel
theorem ck_X5_readEither : xOkM mX5_readEither = true := by decide +kernel
theorem ck_X5_readBoth : xOkM mX5_readBoth = true := by decide +kernel
theorem ck_X5_readAsk : xOkM mX5_readAsk = true := by decide +kernel
theorem ck_X5_readCompared : xOkM mX5_readCompared = true := by decide +kernel
theorem ck_X6_init : xOkM mX6_init = true := by decide +kernel
theorem ck_X6_copy : xOkM mX6_copy = true := by decide +kernel
theorem ck_X6_selfFollowing : xOkM mX6_selfFollowing = true := by decide +kernel
theorem ck_X6_sizeAt : xOkM mX6_sizeAt = true := by decide +kernel
theorem ck_X6_smallest : xOkM mX6_smallest = true := by decide +kernel
theorem ck_X6_stepsToRing : xOkM mX6_stepsToRing = true := by decide +kernel
theorem ck_X6_behind : xOkM mX6_behind = true := by decide +kernel
theorem ck_X6_walked : xOkM mX6_walked = true := by decide +kernel
theorem ck_X7_init : xOkM mX7_init = true := by decide +kernel
theorem ck_X7_begin : xOkM mX7_begin = true := by decide +kernel
theorem ck_X7_addOne : xOkM mX7_addOne = true := by decide +kernel
theorem ck_X7_ofTrials : xOkM mX7_ofTrials = true := by decide +kernel
theorem ck_X7_just : xOkM mX7_just = true := by decide +kernel
theorem ck_X7_orMore : xOkM mX7_orMore = true := by decide +kernel
theorem ck_X8_init : xOkM mX8_init = true := by decide +kernel
theorem ck_X8_copy : xOkM mX8_copy = true := by decide +kernel
theorem ck_X8_keep : xOkM mX8_keep = true := by decide +kernel
theorem ck_X8_takeBack : xOkM mX8_takeBack = true := by decide +kernel
theorem ck_X9_init : xOkM mX9_init = true := by decide +kernel
theorem ck_X9_add : xOkM mX9_add = true := by decide +kernel
theorem ck_X9_scan : xOkM mX9_scan = true := by decide +kernel
theorem ck_X9_put : xOkM mX9_put = true := by decide +kernel
theorem ck_X9_scanToken : xOkM mX9_scanToken = true := by decide +kernel
theorem ck_X9_scanWord : xOkM mX9_scanWord = true := by decide +kernel
end
section
/-! checks, on -/
theorem ck_X9_scanNumber : xOkM mX9_scanNumber = true := by decide +kernel
theorem ck_X9_scanSign : xOkM mX9_scanSign = true := by decide +kernel
theorem ck_X9_kindOfWord : xOkM mX9_kindOfWord = true := by decide +kernel
theorem ck_X9_isLetter : xOkM mX9_isLetter = true := by decide +kernel
theorem ck_X9_isDigit : xOkM mX9_isDigit = true := by decide +kernel
theorem ck_X10_init : xOkM mX10_init = true := by decide +kernel
theorem ck_X11_init : xOkM mX11_init = true := by decide +kernel
theorem ck_X11_bird : xOkM mX11_bird = true := by decide +kernel
theorem ck_X11_rhyme : xOkM mX11_rhyme = true := by decide +kernel
theorem ck_X11_feed : xOkM mX11_feed = true := by decide +kernel
theorem ck_X11_end : xOkM mX11_end = true := by decide +kernel
theorem ck_X11_text : xOkM mX11_text = true := by decide +kernel
theorem ck_X11_fault : xOkM mX11_fault = true := by decide +kernel
theorem ck_X11_by : xOkM mX11_by = true := by decide +kernel
theorem ck_X11_thin : xOkM mX11_thin = true := by decide +kernel
theorem ck_X11_call : xOkM mX11_call = true := by decide +kernel
theorem ck_X11_grant : xOkM mX11_grant = true := by decide +kernel
theorem ck_X11_day : xOkM mX11_day = true := by decide +kernel
theorem ck_X11_played : xOkM mX11_played = true := by decide +kernel
theorem ck_X11_years : xOkM mX11_years = true := by decide +kernel
theorem ck_X11_undo : xOkM mX11_undo = true := by decide +kernel
theorem ck_X11_of : xOkM mX11_of = true := by decide +kernel
theorem ck_X11_is : xOkM mX11_is = true := by decide +kernel
theorem ck_X11_things : xOkM mX11_things = true := by decide +kernel
theorem ck_X11_brings : xOkM mX11_brings = true := by decide +kernel
theorem ck_X11_book : xOkM mX11_book = true := by decide +kernel
theorem ck_X11_foretold : xOkM mX11_foretold = true := by decide +kernel
theorem ck_X11_likely : xOkM mX11_likely = true := by decide +kernel
theorem ck_X11_mean : xOkM mX11_mean = true := by decide +kernel
theorem ck_X11_best : xOkM mX11_best = true := by decide +kernel
theorem ck_X11_morning : xOkM mX11_morning = true := by decide +kernel
theorem ck_X11_habits : xOkM mX11_habits = true := by decide +kernel
theorem ck_X11_habit : xOkM mX11_habit = true := by decide +kernel
theorem ck_X11_whom : xOkM mX11_whom = true := by decide +kernel
theorem ck_X11_rota : xOkM mX11_rota = true := by decide +kernel
theorem ck_X11_gather : xOkM mX11_gather = true := by decide +kernel
theorem ck_X11_comes : xOkM mX11_comes = true := by decide +kernel
theorem ck_X11_follows : xOkM mX11_follows = true := by decide +kernel
theorem ck_X11_agree : xOkM mX11_agree = true := by decide +kernel
theorem ck_X11_ring : xOkM mX11_ring = true := by decide +kernel
theorem ck_X11_till : xOkM mX11_till = true := by decide +kernel
theorem ck_X11_after : xOkM mX11_after = true := by decide +kernel
theorem ck_X11_test : xOkM mX11_test = true := by decide +kernel
theorem ck_X11_bound : xOkM mX11_bound = true := by decide +kernel
theorem ck_X11_sure : xOkM mX11_sure = true := by decide +kernel
theorem ck_X11_votes : xOkM mX11_votes = true := by decide +kernel
theorem ck_X11_seats : xOkM mX11_seats = true := by decide +kernel
theorem ck_X11_unlike : xOkM mX11_unlike = true := by decide +kernel
theorem ck_X11_ranks : xOkM mX11_ranks = true := by decide +kernel
theorem ck_X11_beats : xOkM mX11_beats = true := by decide +kernel
theorem ck_X11_winner : xOkM mX11_winner = true := by decide +kernel
theorem ck_X11_points : xOkM mX11_points = true := by decide +kernel
theorem ck_X11_runoff : xOkM mX11_runoff = true := by decide +kernel
theorem ck_X11_digits : xOkM mX11_digits = true := by decide +kernel
theorem ck_X11_digit : xOkM mX11_digit = true := by decide +kernel
theorem ck_X11_depth : xOkM mX11_depth = true := by decide +kernel
theorem ck_X11_rests : xOkM mX11_rests = true := by decide +kernel
theorem ck_X11_game : xOkM mX11_game = true := by decide +kernel
theorem ck_X11_take : xOkM mX11_take = true := by decide +kernel
theorem ck_X11_told : xOkM mX11_told = true := by decide +kernel
end
section
/-! checks, on -/
theorem ck_X11_whose : xOkM mX11_whose = true := by decide +kernel
theorem ck_X11_eldest : xOkM mX11_eldest = true := by decide +kernel
theorem ck_X11_due : xOkM mX11_due = true := by decide +kernel
theorem ck_X11_ledger : xOkM mX11_ledger = true := by decide +kernel
theorem ck_X11_image : xOkM mX11_image = true := by decide +kernel
theorem ck_X11_back : xOkM mX11_back = true := by decide +kernel
theorem ck_X11_about : xOkM mX11_about = true := by decide +kernel
theorem ck_X11_passSteps : xOkM mX11_passSteps = true := by decide +kernel
theorem ck_X11_passDay : xOkM mX11_passDay = true := by decide +kernel
theorem ck_X11_playClause : xOkM mX11_playClause = true := by decide +kernel
theorem ck_X11_drawYear : xOkM mX11_drawYear = true := by decide +kernel
theorem ck_X11_noteChances : xOkM mX11_noteChances = true := by decide +kernel
theorem ck_X11_spreadOver : xOkM mX11_spreadOver = true := by decide +kernel
theorem ck_X11_bestThinned : xOkM mX11_bestThinned = true := by decide +kernel
theorem ck_X11_canCome : xOkM mX11_canCome = true := by decide +kernel
theorem ck_X11_leastBound : xOkM mX11_leastBound = true := by decide +kernel
theorem ck_X11_bringsAllTold : xOkM mX11_bringsAllTold = true := by decide +kernel
theorem ck_X11_raise : xOkM mX11_raise = true := by decide +kernel
theorem ck_X11_multiply : xOkM mX11_multiply = true := by decide +kernel
theorem ck_X11_deeper : xOkM mX11_deeper = true := by decide +kernel
theorem ck_X11_leastPart : xOkM mX11_leastPart = true := by decide +kernel
theorem ck_X11_firstOfHabit : xOkM mX11_firstOfHabit = true := by decide +kernel
theorem ck_X11_leastCommon : xOkM mX11_leastCommon = true := by decide +kernel
theorem ck_X11_greatestCommon : xOkM mX11_greatestCommon = true := by decide +kernel
theorem ck_X11_lowest : xOkM mX11_lowest = true := by decide +kernel
theorem ck_X11_within : xOkM mX11_within = true := by decide +kernel
theorem ck_X11_held : xOkM mX11_held = true := by decide +kernel
theorem ck_X11_isCount : xOkM mX11_isCount = true := by decide +kernel
theorem ck_X11_isParish : xOkM mX11_isParish = true := by decide +kernel
theorem ck_X11_isCause : xOkM mX11_isCause = true := by decide +kernel
theorem ck_X11_isIn : xOkM mX11_isIn = true := by decide +kernel
theorem ck_X12_init : xOkM mX12_init = true := by decide +kernel
theorem ck_X12_copy : xOkM mX12_copy = true := by decide +kernel
theorem ck_X12_isIn : xOkM mX12_isIn = true := by decide +kernel
theorem ck_X12_held : xOkM mX12_held = true := by decide +kernel
theorem ck_X12_has : xOkM mX12_has = true := by decide +kernel
theorem ck_X12_bits : xOkM mX12_bits = true := by decide +kernel
theorem ck_X12_isBird : xOkM mX12_isBird = true := by decide +kernel
theorem ck_X12_isCount : xOkM mX12_isCount = true := by decide +kernel
theorem ck_X12_isGone : xOkM mX12_isGone = true := by decide +kernel
theorem ck_X12_isDue : xOkM mX12_isDue = true := by decide +kernel
theorem ck_X12_dueBy : xOkM mX12_dueBy = true := by decide +kernel
theorem ck_X12_dueNow : xOkM mX12_dueNow = true := by decide +kernel
theorem ck_X12_bird : xOkM mX12_bird = true := by decide +kernel
theorem ck_X12_rhyme : xOkM mX12_rhyme = true := by decide +kernel
theorem ck_X12_four : xOkM mX12_four = true := by decide +kernel
theorem ck_X12_feed : xOkM mX12_feed = true := by decide +kernel
theorem ck_X12_end : xOkM mX12_end = true := by decide +kernel
theorem ck_X12_byteAt : xOkM mX12_byteAt = true := by decide +kernel
theorem ck_X12_isLetterByte : xOkM mX12_isLetterByte = true := by decide +kernel
theorem ck_X12_isFigure : xOkM mX12_isFigure = true := by decide +kernel
theorem ck_X12_isSign : xOkM mX12_isSign = true := by decide +kernel
theorem ck_X12_nextToken : xOkM mX12_nextToken = true := by decide +kernel
theorem ck_X12_w2 : xOkM mX12_w2 = true := by decide +kernel
theorem ck_X12_w3 : xOkM mX12_w3 = true := by decide +kernel
theorem ck_X12_w4 : xOkM mX12_w4 = true := by decide +kernel
theorem ck_X12_w5 : xOkM mX12_w5 = true := by decide +kernel
theorem ck_X12_w6 : xOkM mX12_w6 = true := by decide +kernel
theorem ck_X12_isWord : xOkM mX12_isWord = true := by decide +kernel
theorem ck_X12_emit : xOkM mX12_emit = true := by decide +kernel
end
section
/-! checks, on -/
theorem ck_X12_nameOf : xOkM mX12_nameOf = true := by decide +kernel
theorem ck_X12_isOf : xOkM mX12_isOf = true := by decide +kernel
theorem ck_X12_rank : xOkM mX12_rank = true := by decide +kernel
theorem ck_X12_settle : xOkM mX12_settle = true := by decide +kernel
theorem ck_X12_openAt : xOkM mX12_openAt = true := by decide +kernel
theorem ck_X12_openNow : xOkM mX12_openNow = true := by decide +kernel
theorem ck_X12_isCompared : xOkM mX12_isCompared = true := by decide +kernel
theorem ck_X12_isAskAhead : xOkM mX12_isAskAhead = true := by decide +kernel
theorem ck_X12_opened : xOkM mX12_opened = true := by decide +kernel
theorem ck_X12_beginOne : xOkM mX12_beginOne = true := by decide +kernel
theorem ck_X12_compareOf : xOkM mX12_compareOf = true := by decide +kernel
theorem ck_X12_betweenOf : xOkM mX12_betweenOf = true := by decide +kernel
theorem ck_X12_partOf : xOkM mX12_partOf = true := by decide +kernel
theorem ck_X12_behindOne : xOkM mX12_behindOne = true := by decide +kernel
theorem ck_X12_summed : xOkM mX12_summed = true := by decide +kernel
theorem ck_X12_figure : xOkM mX12_figure = true := by decide +kernel
theorem ck_X12_lawClause : xOkM mX12_lawClause = true := by decide +kernel
theorem ck_X12_pair : xOkM mX12_pair = true := by decide +kernel
theorem ck_X12_body : xOkM mX12_body = true := by decide +kernel
theorem ck_X12_sortOf : xOkM mX12_sortOf = true := by decide +kernel
theorem ck_X12_clause : xOkM mX12_clause = true := by decide +kernel
theorem ck_X12_readText : xOkM mX12_readText = true := by decide +kernel
theorem ck_X12_text : xOkM mX12_text = true := by decide +kernel
theorem ck_X12_fault : xOkM mX12_fault = true := by decide +kernel
theorem ck_X12_by : xOkM mX12_by = true := by decide +kernel
theorem ck_X12_clip : xOkM mX12_clip = true := by decide +kernel
theorem ck_X12_two : xOkM mX12_two = true := by decide +kernel
theorem ck_X12_isAsked : xOkM mX12_isAsked = true := by decide +kernel
theorem ck_X12_ofOne : xOkM mX12_ofOne = true := by decide +kernel
theorem ck_X12_joined : xOkM mX12_joined = true := by decide +kernel
theorem ck_X12_summedUp : xOkM mX12_summedUp = true := by decide +kernel
theorem ck_X12_says : xOkM mX12_says = true := by decide +kernel
theorem ck_X12_name : xOkM mX12_name = true := by decide +kernel
theorem ck_X12_chanceOf : xOkM mX12_chanceOf = true := by decide +kernel
theorem ck_X12_bringsOf : xOkM mX12_bringsOf = true := by decide +kernel
theorem ck_X12_write : xOkM mX12_write = true := by decide +kernel
theorem ck_X12_drawnBy : xOkM mX12_drawnBy = true := by decide +kernel
theorem ck_X12_anew : xOkM mX12_anew = true := by decide +kernel
theorem ck_X12_canGrant : xOkM mX12_canGrant = true := by decide +kernel
theorem ck_X12_pass : xOkM mX12_pass = true := by decide +kernel
theorem ck_X12_keep : xOkM mX12_keep = true := by decide +kernel
theorem ck_X12_undo : xOkM mX12_undo = true := by decide +kernel
theorem ck_X12_thin : xOkM mX12_thin = true := by decide +kernel
theorem ck_X12_call : xOkM mX12_call = true := by decide +kernel
theorem ck_X12_grant : xOkM mX12_grant = true := by decide +kernel
theorem ck_X12_arePassed : xOkM mX12_arePassed = true := by decide +kernel
theorem ck_X12_day : xOkM mX12_day = true := by decide +kernel
theorem ck_X12_isPlayed : xOkM mX12_isPlayed = true := by decide +kernel
theorem ck_X12_played : xOkM mX12_played = true := by decide +kernel
theorem ck_X12_happens : xOkM mX12_happens = true := by decide +kernel
theorem ck_X12_years : xOkM mX12_years = true := by decide +kernel
theorem ck_X12_of : xOkM mX12_of = true := by decide +kernel
theorem ck_X12_is : xOkM mX12_is = true := by decide +kernel
theorem ck_X12_things : xOkM mX12_things = true := by decide +kernel
theorem ck_X12_brings : xOkM mX12_brings = true := by decide +kernel
theorem ck_X12_lineOf : xOkM mX12_lineOf = true := by decide +kernel
theorem ck_X12_book : xOkM mX12_book = true := by decide +kernel
theorem ck_X12_ledger : xOkM mX12_ledger = true := by decide +kernel
theorem ck_X12_eldest : xOkM mX12_eldest = true := by decide +kernel
theorem ck_X12_due : xOkM mX12_due = true := by decide +kernel
end
section
/-! checks, on -/
theorem ck_X12_foretold : xOkM mX12_foretold = true := by decide +kernel
theorem ck_X12_divisor : xOkM mX12_divisor = true := by decide +kernel
theorem ck_X12_part : xOkM mX12_part = true := by decide +kernel
theorem ck_X12_noRows : xOkM mX12_noRows = true := by decide +kernel
theorem ck_X12_oneMore : xOkM mX12_oneMore = true := by decide +kernel
theorem ck_X12_layRows : xOkM mX12_layRows = true := by decide +kernel
theorem ck_X12_likely : xOkM mX12_likely = true := by decide +kernel
theorem ck_X12_mean : xOkM mX12_mean = true := by decide +kernel
theorem ck_X12_best : xOkM mX12_best = true := by decide +kernel
theorem ck_X12_morning : xOkM mX12_morning = true := by decide +kernel
theorem ck_X12_isHabit : xOkM mX12_isHabit = true := by decide +kernel
theorem ck_X12_habits : xOkM mX12_habits = true := by decide +kernel
theorem ck_X12_firstHabit : xOkM mX12_firstHabit = true := by decide +kernel
theorem ck_X12_habit : xOkM mX12_habit = true := by decide +kernel
theorem ck_X12_whom : xOkM mX12_whom = true := by decide +kernel
theorem ck_X12_rota : xOkM mX12_rota = true := by decide +kernel
theorem ck_X12_gather : xOkM mX12_gather = true := by decide +kernel
theorem ck_X12_comes : xOkM mX12_comes = true := by decide +kernel
theorem ck_X12_follows : xOkM mX12_follows = true := by decide +kernel
theorem ck_X12_afterOf : xOkM mX12_afterOf = true := by decide +kernel
theorem ck_X12_agree : xOkM mX12_agree = true := by decide +kernel
theorem ck_X12_ringOf : xOkM mX12_ringOf = true := by decide +kernel
theorem ck_X12_ring : xOkM mX12_ring = true := by decide +kernel
theorem ck_X12_till : xOkM mX12_till = true := by decide +kernel
theorem ck_X12_after : xOkM mX12_after = true := by decide +kernel
theorem ck_X12_areOdds : xOkM mX12_areOdds = true := by decide +kernel
theorem ck_X12_layTest : xOkM mX12_layTest = true := by decide +kernel
theorem ck_X12_rowsFrom : xOkM mX12_rowsFrom = true := by decide +kernel
theorem ck_X12_test : xOkM mX12_test = true := by decide +kernel
theorem ck_X12_bound : xOkM mX12_bound = true := by decide +kernel
theorem ck_X12_sure : xOkM mX12_sure = true := by decide +kernel
theorem ck_X12_votes : xOkM mX12_votes = true := by decide +kernel
theorem ck_X12_allVotes : xOkM mX12_allVotes = true := by decide +kernel
theorem ck_X12_isAhead : xOkM mX12_isAhead = true := by decide +kernel
theorem ck_X12_laySeats : xOkM mX12_laySeats = true := by decide +kernel
theorem ck_X12_areSeats : xOkM mX12_areSeats = true := by decide +kernel
theorem ck_X12_seats : xOkM mX12_seats = true := by decide +kernel
theorem ck_X12_unlike : xOkM mX12_unlike = true := by decide +kernel
theorem ck_X12_ranks : xOkM mX12_ranks = true := by decide +kernel
theorem ck_X12_isCause : xOkM mX12_isCause = true := by decide +kernel
theorem ck_X12_factorial : xOkM mX12_factorial = true := by decide +kernel
theorem ck_X12_causeAt : xOkM mX12_causeAt = true := by decide +kernel
theorem ck_X12_placeBy : xOkM mX12_placeBy = true := by decide +kernel
theorem ck_X12_doesBeat : xOkM mX12_doesBeat = true := by decide +kernel
theorem ck_X12_beats : xOkM mX12_beats = true := by decide +kernel
theorem ck_X12_winner : xOkM mX12_winner = true := by decide +kernel
theorem ck_X12_points : xOkM mX12_points = true := by decide +kernel
theorem ck_X12_firstVotes : xOkM mX12_firstVotes = true := by decide +kernel
theorem ck_X12_runoff : xOkM mX12_runoff = true := by decide +kernel
theorem ck_X12_layFigures : xOkM mX12_layFigures = true := by decide +kernel
theorem ck_X12_areTimes : xOkM mX12_areTimes = true := by decide +kernel
theorem ck_X12_digits : xOkM mX12_digits = true := by decide +kernel
theorem ck_X12_digit : xOkM mX12_digit = true := by decide +kernel
theorem ck_X12_isGuess : xOkM mX12_isGuess = true := by decide +kernel
theorem ck_X12_depth : xOkM mX12_depth = true := by decide +kernel
theorem ck_X12_rests : xOkM mX12_rests = true := by decide +kernel
theorem ck_X12_winAt : xOkM mX12_winAt = true := by decide +kernel
theorem ck_X12_takeOf : xOkM mX12_takeOf = true := by decide +kernel
theorem ck_X12_layWins : xOkM mX12_layWins = true := by decide +kernel
theorem ck_X12_game : xOkM mX12_game = true := by decide +kernel
end
section
/-! checks, on -/
theorem ck_X12_take : xOkM mX12_take = true := by decide +kernel
theorem ck_X12_told : xOkM mX12_told = true := by decide +kernel
theorem ck_X12_whose : xOkM mX12_whose = true := by decide +kernel
theorem ck_X12_image : xOkM mX12_image = true := by decide +kernel
theorem ck_X12_back : xOkM mX12_back = true := by decide +kernel
theorem ck_X12_about : xOkM mX12_about = true := by decide +kernel
end
section
/-! the law itself -/
theorem ckL_0 : ∀ q ∈ kL_law_c0, (xChk RL "law" cL_law 4 q.1 q.2 && xChkC xP RL q.2) = true := by decide +kernel
theorem ckL_1 : ∀ q ∈ kL_law_c1, (xChk RL "law" cL_law 4 q.1 q.2 && xChkC xP RL q.2) = true := by decide +kernel
theorem ckL_2 : ∀ q ∈ kL_law_c2, (xChk RL "law" cL_law 4 q.1 q.2 && xChkC xP RL q.2) = true := by decide +kernel
theorem ckL_3 : ∀ q ∈ kL_law_c3, (xChk RL "law" cL_law 4 q.1 q.2 && xChkC xP RL q.2) = true := by decide +kernel
theorem ckL_4 : ∀ q ∈ kL_law_c4, (xChk RL "law" cL_law 4 q.1 q.2 && xChkC xP RL q.2) = true := by decide +kernel
theorem ckL_5 : ∀ q ∈ kL_law_c5, (xChk RL "law" cL_law 4 q.1 q.2 && xChkC xP RL q.2) = true := by decide +kernel
theorem ckL_6 : ∀ q ∈ kL_law_c6, (xChk RL "law" cL_law 4 q.1 q.2 && xChkC xP RL q.2) = true := by decide +kernel
theorem ckL_7 : ∀ q ∈ kL_law_c7, (xChk RL "law" cL_law 4 q.1 q.2 && xChkC xP RL q.2) = true := by decide +kernel
theorem ckL_8 : ∀ q ∈ kL_law_c8, (xChk RL "law" cL_law 4 q.1 q.2 && xChkC xP RL q.2) = true := by decide +kernel
theorem ckL_9 : ∀ q ∈ kL_law_c9, (xChk RL "law" cL_law 4 q.1 q.2 && xChkC xP RL q.2) = true := by decide +kernel
theorem ckL_10 : ∀ q ∈ kL_law_c10, (xChk RL "law" cL_law 4 q.1 q.2 && xChkC xP RL q.2) = true := by decide +kernel
theorem ckL_11 : ∀ q ∈ kL_law_c11, (xChk RL "law" cL_law 4 q.1 q.2 && xChkC xP RL q.2) = true := by decide +kernel
theorem ckL_12 : ∀ q ∈ kL_law_c12, (xChk RL "law" cL_law 4 q.1 q.2 && xChkC xP RL q.2) = true := by decide +kernel
theorem ckL_13 : ∀ q ∈ kL_law_c13, (xChk RL "law" cL_law 4 q.1 q.2 && xChkC xP RL q.2) = true := by decide +kernel
theorem ckL_14 : ∀ q ∈ kL_law_c14, (xChk RL "law" cL_law 4 q.1 q.2 && xChkC xP RL q.2) = true := by decide +kernel
theorem ckL_15 : ∀ q ∈ kL_law_c15, (xChk RL "law" cL_law 4 q.1 q.2 && xChkC xP RL q.2) = true := by decide +kernel
theorem ckL_16 : ∀ q ∈ kL_law_c16, (xChk RL "law" cL_law 4 q.1 q.2 && xChkC xP RL q.2) = true := by decide +kernel
end
section
/-! the law itself -/
theorem ckL_17 : ∀ q ∈ kL_law_c17, (xChk RL "law" cL_law 4 q.1 q.2 && xChkC xP RL q.2) = true := by decide +kernel
theorem ckL_18 : ∀ q ∈ kL_law_c18, (xChk RL "law" cL_law 4 q.1 q.2 && xChkC xP RL q.2) = true := by decide +kernel
theorem ckL_19 : ∀ q ∈ kL_law_c19, (xChk RL "law" cL_law 4 q.1 q.2 && xChkC xP RL q.2) = true := by decide +kernel
theorem ckL_20 : ∀ q ∈ kL_law_c20, (xChk RL "law" cL_law 4 q.1 q.2 && xChkC xP RL q.2) = true := by decide +kernel
theorem ckL_21 : ∀ q ∈ kL_law_c21, (xChk RL "law" cL_law 4 q.1 q.2 && xChkC xP RL q.2) = true := by decide +kernel
theorem ckL_22 : ∀ q ∈ kL_law_c22, (xChk RL "law" cL_law 4 q.1 q.2 && xChkC xP RL q.2) = true := by decide +kernel
theorem ckL_23 : ∀ q ∈ kL_law_c23, (xChk RL "law" cL_law 4 q.1 q.2 && xChkC xP RL q.2) = true := by decide +kernel
theorem ckL_24 : ∀ q ∈ kL_law_c24, (xChk RL "law" cL_law 4 q.1 q.2 && xChkC xP RL q.2) = true := by decide +kernel
theorem ckL_25 : ∀ q ∈ kL_law_c25, (xChk RL "law" cL_law 4 q.1 q.2 && xChkC xP RL q.2) = true := by decide +kernel
theorem ckL_26 : ∀ q ∈ kL_law_c26, (xChk RL "law" cL_law 4 q.1 q.2 && xChkC xP RL q.2) = true := by decide +kernel
theorem ckL_27 : ∀ q ∈ kL_law_c27, (xChk RL "law" cL_law 4 q.1 q.2 && xChkC xP RL q.2) = true := by decide +kernel
theorem ckL_28 : ∀ q ∈ kL_law_c28, (xChk RL "law" cL_law 4 q.1 q.2 && xChkC xP RL q.2) = true := by decide +kernel
theorem ckL_29 : ∀ q ∈ kL_law_c29, (xChk RL "law" cL_law 4 q.1 q.2 && xChkC xP RL q.2) = true := by decide +kernel
theorem ckL_30 : ∀ q ∈ kL_law_c30, (xChk RL "law" cL_law 4 q.1 q.2 && xChkC xP RL q.2) = true := by decide +kernel
theorem ckL_31 : ∀ q ∈ kL_law_c31, (xChk RL "law" cL_law 4 q.1 q.2 && xChkC xP RL q.2) = true := by decide +kernel
theorem ckL_32 : ∀ q ∈ kL_law_c32, (xChk RL "law" cL_law 4 q.1 q.2 && xChkC xP RL q.2) = true := by decide +kernel
theorem ckL_33 : ∀ q ∈ kL_law_c33, (xChk RL "law" cL_law 4 q.1 q.2 && xChkC xP RL q.2) = true := by decide +kernel
end
section
/-! the law itself -/
theorem ckL_34 : ∀ q ∈ kL_law_c34, (xChk RL "law" cL_law 4 q.1 q.2 && xChkC xP RL q.2) = true := by decide +kernel
theorem ckL_35 : ∀ q ∈ kL_law_c35, (xChk RL "law" cL_law 4 q.1 q.2 && xChkC xP RL q.2) = true := by decide +kernel
theorem ckL_36 : ∀ q ∈ kL_law_c36, (xChk RL "law" cL_law 4 q.1 q.2 && xChkC xP RL q.2) = true := by decide +kernel
theorem ckL_37 : ∀ q ∈ kL_law_c37, (xChk RL "law" cL_law 4 q.1 q.2 && xChkC xP RL q.2) = true := by decide +kernel
theorem ckL_38 : ∀ q ∈ kL_law_c38, (xChk RL "law" cL_law 4 q.1 q.2 && xChkC xP RL q.2) = true := by decide +kernel
theorem ckL_39 : ∀ q ∈ kL_law_c39, (xChk RL "law" cL_law 4 q.1 q.2 && xChkC xP RL q.2) = true := by decide +kernel
theorem ckL_40 : ∀ q ∈ kL_law_c40, (xChk RL "law" cL_law 4 q.1 q.2 && xChkC xP RL q.2) = true := by decide +kernel
theorem ckL_41 : ∀ q ∈ kL_law_c41, (xChk RL "law" cL_law 4 q.1 q.2 && xChkC xP RL q.2) = true := by decide +kernel
theorem ckL_42 : ∀ q ∈ kL_law_c42, (xChk RL "law" cL_law 4 q.1 q.2 && xChkC xP RL q.2) = true := by decide +kernel
theorem ckL_43 : ∀ q ∈ kL_law_c43, (xChk RL "law" cL_law 4 q.1 q.2 && xChkC xP RL q.2) = true := by decide +kernel
theorem ckL_44 : ∀ q ∈ kL_law_c44, (xChk RL "law" cL_law 4 q.1 q.2 && xChkC xP RL q.2) = true := by decide +kernel
theorem ckL_45 : ∀ q ∈ kL_law_c45, (xChk RL "law" cL_law 4 q.1 q.2 && xChkC xP RL q.2) = true := by decide +kernel
theorem ckL_46 : ∀ q ∈ kL_law_c46, (xChk RL "law" cL_law 4 q.1 q.2 && xChkC xP RL q.2) = true := by decide +kernel
theorem ckL_47 : ∀ q ∈ kL_law_c47, (xChk RL "law" cL_law 4 q.1 q.2 && xChkC xP RL q.2) = true := by decide +kernel
theorem ckL_48 : ∀ q ∈ kL_law_c48, (xChk RL "law" cL_law 4 q.1 q.2 && xChkC xP RL q.2) = true := by decide +kernel
theorem ckL_49 : ∀ q ∈ kL_law_c49, (xChk RL "law" cL_law 4 q.1 q.2 && xChkC xP RL q.2) = true := by decide +kernel
theorem ckL_50 : ∀ q ∈ kL_law_c50, (xChk RL "law" cL_law 4 q.1 q.2 && xChkC xP RL q.2) = true := by decide +kernel
end
section
/-! the law itself -/
theorem ckL_51 : ∀ q ∈ kL_law_c51, (xChk RL "law" cL_law 4 q.1 q.2 && xChkC xP RL q.2) = true := by decide +kernel
theorem ckL_52 : ∀ q ∈ kL_law_c52, (xChk RL "law" cL_law 4 q.1 q.2 && xChkC xP RL q.2) = true := by decide +kernel
theorem ckL_53 : ∀ q ∈ kL_law_c53, (xChk RL "law" cL_law 4 q.1 q.2 && xChkC xP RL q.2) = true := by decide +kernel
theorem ckL_54 : ∀ q ∈ kL_law_c54, (xChk RL "law" cL_law 4 q.1 q.2 && xChkC xP RL q.2) = true := by decide +kernel
theorem ckL_55 : ∀ q ∈ kL_law_c55, (xChk RL "law" cL_law 4 q.1 q.2 && xChkC xP RL q.2) = true := by decide +kernel
theorem ckL_56 : ∀ q ∈ kL_law_c56, (xChk RL "law" cL_law 4 q.1 q.2 && xChkC xP RL q.2) = true := by decide +kernel
theorem ckL_57 : ∀ q ∈ kL_law_c57, (xChk RL "law" cL_law 4 q.1 q.2 && xChkC xP RL q.2) = true := by decide +kernel
theorem ckL_58 : ∀ q ∈ kL_law_c58, (xChk RL "law" cL_law 4 q.1 q.2 && xChkC xP RL q.2) = true := by decide +kernel
theorem ckL_59 : ∀ q ∈ kL_law_c59, (xChk RL "law" cL_law 4 q.1 q.2 && xChkC xP RL q.2) = true := by decide +kernel
theorem ckL_60 : ∀ q ∈ kL_law_c60, (xChk RL "law" cL_law 4 q.1 q.2 && xChkC xP RL q.2) = true := by decide +kernel
theorem ckL_61 : ∀ q ∈ kL_law_c61, (xChk RL "law" cL_law 4 q.1 q.2 && xChkC xP RL q.2) = true := by decide +kernel
theorem ckL_62 : ∀ q ∈ kL_law_c62, (xChk RL "law" cL_law 4 q.1 q.2 && xChkC xP RL q.2) = true := by decide +kernel
theorem ckL_63 : ∀ q ∈ kL_law_c63, (xChk RL "law" cL_law 4 q.1 q.2 && xChkC xP RL q.2) = true := by decide +kernel
end
section
/-! ===== the code words ===== -/
set_option maxRecDepth 100000 in
theorem cw_X0_init : Jvm.Cond.code mX0_init.1 mX0_init.2.1 mX0_init.2.2.1 mX0_init.2.2.2.1 ∈ xTb := List.mem_filter.mpr ⟨List.mem_of_getElem? (i := 152) rfl, rfl⟩
set_option maxRecDepth 100000 in
theorem cw_X0_copy : Jvm.Cond.code mX0_copy.1 mX0_copy.2.1 mX0_copy.2.2.1 mX0_copy.2.2.2.1 ∈ xTb := List.mem_filter.mpr ⟨List.mem_of_getElem? (i := 1445) rfl, rfl⟩
set_option maxRecDepth 100000 in
theorem cw_X0_addBird : Jvm.Cond.code mX0_addBird.1 mX0_addBird.2.1 mX0_addBird.2.2.1 mX0_addBird.2.2.2.1 ∈ xTb := List.mem_filter.mpr ⟨List.mem_of_getElem? (i := 525) rfl, rfl⟩
set_option maxRecDepth 100000 in
theorem cw_X0_addText : Jvm.Cond.code mX0_addText.1 mX0_addText.2.1 mX0_addText.2.2.1 mX0_addText.2.2.2.1 ∈ xTb := List.mem_filter.mpr ⟨List.mem_of_getElem? (i := 841) rfl, rfl⟩
set_option maxRecDepth 100000 in
theorem cw_X0_addTold : Jvm.Cond.code mX0_addTold.1 mX0_addTold.2.1 mX0_addTold.2.2.1 mX0_addTold.2.2.2.1 ∈ xTb := List.mem_filter.mpr ⟨List.mem_of_getElem? (i := 1412) rfl, rfl⟩
set_option maxRecDepth 100000 in
theorem cw_X0_hasBird : Jvm.Cond.code mX0_hasBird.1 mX0_hasBird.2.1 mX0_hasBird.2.2.1 mX0_hasBird.2.2.2.1 ∈ xTb := List.mem_filter.mpr ⟨List.mem_of_getElem? (i := 865) rfl, rfl⟩
set_option maxRecDepth 100000 in
theorem cw_X0_hasText : Jvm.Cond.code mX0_hasText.1 mX0_hasText.2.1 mX0_hasText.2.2.1 mX0_hasText.2.2.2.1 ∈ xTb := List.mem_filter.mpr ⟨List.mem_of_getElem? (i := 853) rfl, rfl⟩
set_option maxRecDepth 100000 in
theorem cw_X0_textAt : Jvm.Cond.code mX0_textAt.1 mX0_textAt.2.1 mX0_textAt.2.2.1 mX0_textAt.2.2.2.1 ∈ xTb := List.mem_filter.mpr ⟨List.mem_of_getElem? (i := 939) rfl, rfl⟩
set_option maxRecDepth 100000 in
theorem cw_X0_rulingText : Jvm.Cond.code mX0_rulingText.1 mX0_rulingText.2.1 mX0_rulingText.2.2.1 mX0_rulingText.2.2.2.1 ∈ xTb := List.mem_filter.mpr ⟨List.mem_of_getElem? (i := 935) rfl, rfl⟩
set_option maxRecDepth 100000 in
theorem cw_X0_isDue : Jvm.Cond.code mX0_isDue.1 mX0_isDue.2.1 mX0_isDue.2.2.1 mX0_isDue.2.2.2.1 ∈ xTb := List.mem_filter.mpr ⟨List.mem_of_getElem? (i := 922) rfl, rfl⟩
set_option maxRecDepth 100000 in
theorem cw_X0_dueOn : Jvm.Cond.code mX0_dueOn.1 mX0_dueOn.2.1 mX0_dueOn.2.2.1 mX0_dueOn.2.2.2.1 ∈ xTb := List.mem_filter.mpr ⟨List.mem_of_getElem? (i := 1077) rfl, rfl⟩
set_option maxRecDepth 100000 in
theorem cw_X0_canThin : Jvm.Cond.code mX0_canThin.1 mX0_canThin.2.1 mX0_canThin.2.2.1 mX0_canThin.2.2.2.1 ∈ xTb := List.mem_filter.mpr ⟨List.mem_of_getElem? (i := 861) rfl, rfl⟩
set_option maxRecDepth 100000 in
theorem cw_X0_canCall : Jvm.Cond.code mX0_canCall.1 mX0_canCall.2.1 mX0_canCall.2.2.1 mX0_canCall.2.2.2.1 ∈ xTb := List.mem_filter.mpr ⟨List.mem_of_getElem? (i := 893) rfl, rfl⟩
set_option maxRecDepth 100000 in
theorem cw_X0_canGrant : Jvm.Cond.code mX0_canGrant.1 mX0_canGrant.2.1 mX0_canGrant.2.2.1 mX0_canGrant.2.2.2.1 ∈ xTb := List.mem_filter.mpr ⟨List.mem_of_getElem? (i := 905) rfl, rfl⟩
set_option maxRecDepth 100000 in
theorem cw_X0_canPass : Jvm.Cond.code mX0_canPass.1 mX0_canPass.2.1 mX0_canPass.2.2.1 mX0_canPass.2.2.2.1 ∈ xTb := List.mem_filter.mpr ⟨List.mem_of_getElem? (i := 1028) rfl, rfl⟩
set_option maxRecDepth 100000 in
theorem cw_X1_init : Jvm.Cond.code mX1_init.1 mX1_init.2.1 mX1_init.2.2.1 mX1_init.2.2.2.1 ∈ xTb := List.mem_filter.mpr ⟨List.mem_of_getElem? (i := 146) rfl, rfl⟩
set_option maxRecDepth 100000 in
theorem cw_X1_chanceOf : Jvm.Cond.code mX1_chanceOf.1 mX1_chanceOf.2.1 mX1_chanceOf.2.2.1 mX1_chanceOf.2.2.2.1 ∈ xTb := List.mem_filter.mpr ⟨List.mem_of_getElem? (i := 930) rfl, rfl⟩
set_option maxRecDepth 100000 in
theorem cw_X1_broughtBy : Jvm.Cond.code mX1_broughtBy.1 mX1_broughtBy.2.1 mX1_broughtBy.2.2.1 mX1_broughtBy.2.2.2.1 ∈ xTb := List.mem_filter.mpr ⟨List.mem_of_getElem? (i := 996) rfl, rfl⟩
set_option maxRecDepth 100000 in
theorem cw_X1_run : Jvm.Cond.code mX1_run.1 mX1_run.2.1 mX1_run.2.2.1 mX1_run.2.2.2.1 ∈ xTb := List.mem_filter.mpr ⟨List.mem_of_getElem? (i := 944) rfl, rfl⟩
set_option maxRecDepth 100000 in
theorem cw_X1_isOfOne : Jvm.Cond.code mX1_isOfOne.1 mX1_isOfOne.2.1 mX1_isOfOne.2.2.1 mX1_isOfOne.2.2.2.1 ∈ xTb := List.mem_filter.mpr ⟨List.mem_of_getElem? (i := 949) rfl, rfl⟩
set_option maxRecDepth 100000 in
theorem cw_X1_isOfTwo : Jvm.Cond.code mX1_isOfTwo.1 mX1_isOfTwo.2.1 mX1_isOfTwo.2.2.1 mX1_isOfTwo.2.2.2.1 ∈ xTb := List.mem_filter.mpr ⟨List.mem_of_getElem? (i := 958) rfl, rfl⟩
set_option maxRecDepth 100000 in
theorem cw_X1_named : Jvm.Cond.code mX1_named.1 mX1_named.2.1 mX1_named.2.2.1 mX1_named.2.2.2.1 ∈ xTb := List.mem_filter.mpr ⟨List.mem_of_getElem? (i := 981) rfl, rfl⟩
set_option maxRecDepth 100000 in
theorem cw_X1_ofOne : Jvm.Cond.code mX1_ofOne.1 mX1_ofOne.2.1 mX1_ofOne.2.2.1 mX1_ofOne.2.2.2.1 ∈ xTb := List.mem_filter.mpr ⟨List.mem_of_getElem? (i := 954) rfl, rfl⟩
set_option maxRecDepth 100000 in
theorem cw_X1_ofTwo : Jvm.Cond.code mX1_ofTwo.1 mX1_ofTwo.2.1 mX1_ofTwo.2.2.1 mX1_ofTwo.2.2.2.1 ∈ xTb := List.mem_filter.mpr ⟨List.mem_of_getElem? (i := 961) rfl, rfl⟩
set_option maxRecDepth 100000 in
theorem cw_X1_isSo : Jvm.Cond.code mX1_isSo.1 mX1_isSo.2.1 mX1_isSo.2.2.1 mX1_isSo.2.2.2.1 ∈ xTb := List.mem_filter.mpr ⟨List.mem_of_getElem? (i := 977) rfl, rfl⟩
set_option maxRecDepth 100000 in
theorem cw_X2_init : Jvm.Cond.code mX2_init.1 mX2_init.2.1 mX2_init.2.2.1 mX2_init.2.2.2.1 ∈ xTb := List.mem_filter.mpr ⟨List.mem_of_getElem? (i := 158) rfl, rfl⟩
set_option maxRecDepth 100000 in
theorem cw_X2_copy : Jvm.Cond.code mX2_copy.1 mX2_copy.2.1 mX2_copy.2.2.1 mX2_copy.2.2.2.1 ∈ xTb := List.mem_filter.mpr ⟨List.mem_of_getElem? (i := 880) rfl, rfl⟩
set_option maxRecDepth 100000 in
theorem cw_X2_isGone : Jvm.Cond.code mX2_isGone.1 mX2_isGone.2.1 mX2_isGone.2.2.1 mX2_isGone.2.2.2.1 ∈ xTb := List.mem_filter.mpr ⟨List.mem_of_getElem? (i := 869) rfl, rfl⟩
set_option maxRecDepth 100000 in
theorem cw_X2_markGone : Jvm.Cond.code mX2_markGone.1 mX2_markGone.2.1 mX2_markGone.2.2.1 mX2_markGone.2.2.2.1 ∈ xTb := List.mem_filter.mpr ⟨List.mem_of_getElem? (i := 885) rfl, rfl⟩
set_option maxRecDepth 100000 in
theorem cw_X2_markBack : Jvm.Cond.code mX2_markBack.1 mX2_markBack.2.1 mX2_markBack.2.2.1 mX2_markBack.2.2.2.1 ∈ xTb := List.mem_filter.mpr ⟨List.mem_of_getElem? (i := 897) rfl, rfl⟩
set_option maxRecDepth 100000 in
theorem cw_X2_noteCame : Jvm.Cond.code mX2_noteCame.1 mX2_noteCame.2.1 mX2_noteCame.2.2.1 mX2_noteCame.2.2.2.1 ∈ xTb := List.mem_filter.mpr ⟨List.mem_of_getElem? (i := 991) rfl, rfl⟩
set_option maxRecDepth 100000 in
theorem cw_X2_draw : Jvm.Cond.code mX2_draw.1 mX2_draw.2.1 mX2_draw.2.2.1 mX2_draw.2.2.2.1 ∈ xTb := List.mem_filter.mpr ⟨List.mem_of_getElem? (i := 926) rfl, rfl⟩
set_option maxRecDepth 100000 in
theorem cw_X2_write : Jvm.Cond.code mX2_write.1 mX2_write.2.1 mX2_write.2.2.1 mX2_write.2.2.2.1 ∈ xTb := List.mem_filter.mpr ⟨List.mem_of_getElem? (i := 1001) rfl, rfl⟩
set_option maxRecDepth 100000 in
theorem cw_X2_onPage : Jvm.Cond.code mX2_onPage.1 mX2_onPage.2.1 mX2_onPage.2.2.1 mX2_onPage.2.2.2.1 ∈ xTb := List.mem_filter.mpr ⟨List.mem_of_getElem? (i := 1063) rfl, rfl⟩
set_option maxRecDepth 100000 in
theorem cw_X2_countWritten : Jvm.Cond.code mX2_countWritten.1 mX2_countWritten.2.1 mX2_countWritten.2.2.1 mX2_countWritten.2.2.2.1 ∈ xTb := List.mem_filter.mpr ⟨List.mem_of_getElem? (i := 1436) rfl, rfl⟩
set_option maxRecDepth 100000 in
theorem cw_X3_init : Jvm.Cond.code mX3_init.1 mX3_init.2.1 mX3_init.2.2.1 mX3_init.2.2.2.1 ∈ xTb := List.mem_filter.mpr ⟨List.mem_of_getElem? (i := 229) rfl, rfl⟩
set_option maxRecDepth 100000 in
theorem cw_X3_copy : Jvm.Cond.code mX3_copy.1 mX3_copy.2.1 mX3_copy.2.2.1 mX3_copy.2.2.2.1 ∈ xTb := List.mem_filter.mpr ⟨List.mem_of_getElem? (i := 1455) rfl, rfl⟩
set_option maxRecDepth 100000 in
theorem cw_X3_add : Jvm.Cond.code mX3_add.1 mX3_add.2.1 mX3_add.2.2.1 mX3_add.2.2.2.1 ∈ xTb := List.mem_filter.mpr ⟨List.mem_of_getElem? (i := 1132) rfl, rfl⟩
set_option maxRecDepth 100000 in
theorem cw_X3_fits : Jvm.Cond.code mX3_fits.1 mX3_fits.2.1 mX3_fits.2.2.1 mX3_fits.2.2.2.1 ∈ xTb := List.mem_filter.mpr ⟨List.mem_of_getElem? (i := 1144) rfl, rfl⟩
set_option maxRecDepth 100000 in
theorem cw_X3_countFitting : Jvm.Cond.code mX3_countFitting.1 mX3_countFitting.2.1 mX3_countFitting.2.2.1 mX3_countFitting.2.2.2.1 ∈ xTb := List.mem_filter.mpr ⟨List.mem_of_getElem? (i := 1140) rfl, rfl⟩
set_option maxRecDepth 100000 in
theorem cw_X3_leastPeriod : Jvm.Cond.code mX3_leastPeriod.1 mX3_leastPeriod.2.1 mX3_leastPeriod.2.2.1 mX3_leastPeriod.2.2.2.1 ∈ xTb := List.mem_filter.mpr ⟨List.mem_of_getElem? (i := 1152) rfl, rfl⟩
set_option maxRecDepth 100000 in
theorem cw_X3_leastPhase : Jvm.Cond.code mX3_leastPhase.1 mX3_leastPhase.2.1 mX3_leastPhase.2.2.1 mX3_leastPhase.2.2.2.1 ∈ xTb := List.mem_filter.mpr ⟨List.mem_of_getElem? (i := 1156) rfl, rfl⟩
set_option maxRecDepth 100000 in
theorem cw_X3_nextDay : Jvm.Cond.code mX3_nextDay.1 mX3_nextDay.2.1 mX3_nextDay.2.2.1 mX3_nextDay.2.2.2.1 ∈ xTb := List.mem_filter.mpr ⟨List.mem_of_getElem? (i := 1161) rfl, rfl⟩
set_option maxRecDepth 100000 in
theorem cw_X4_init : Jvm.Cond.code mX4_init.1 mX4_init.2.1 mX4_init.2.2.1 mX4_init.2.2.2.1 ∈ xTb := List.mem_filter.mpr ⟨List.mem_of_getElem? (i := 258) rfl, rfl⟩
set_option maxRecDepth 100000 in
theorem cw_X4_copy : Jvm.Cond.code mX4_copy.1 mX4_copy.2.1 mX4_copy.2.2.1 mX4_copy.2.2.2.1 ∈ xTb := List.mem_filter.mpr ⟨List.mem_of_getElem? (i := 1464) rfl, rfl⟩
set_option maxRecDepth 100000 in
theorem cw_X4_allVotes : Jvm.Cond.code mX4_allVotes.1 mX4_allVotes.2.1 mX4_allVotes.2.2.1 mX4_allVotes.2.2.2.1 ∈ xTb := List.mem_filter.mpr ⟨List.mem_of_getElem? (i := 1280) rfl, rfl⟩
set_option maxRecDepth 100000 in
theorem cw_X4_seatsByShares : Jvm.Cond.code mX4_seatsByShares.1 mX4_seatsByShares.2.1 mX4_seatsByShares.2.2.1 mX4_seatsByShares.2.2.2.1 ∈ xTb := List.mem_filter.mpr ⟨List.mem_of_getElem? (i := 1289) rfl, rfl⟩
set_option maxRecDepth 100000 in
theorem cw_X4_seatsByRests : Jvm.Cond.code mX4_seatsByRests.1 mX4_seatsByRests.2.1 mX4_seatsByRests.2.2.1 mX4_seatsByRests.2.2.2.1 ∈ xTb := List.mem_filter.mpr ⟨List.mem_of_getElem? (i := 1284) rfl, rfl⟩
set_option maxRecDepth 100000 in
theorem cw_X4_differing : Jvm.Cond.code mX4_differing.1 mX4_differing.2.1 mX4_differing.2.2.1 mX4_differing.2.2.2.1 ∈ xTb := List.mem_filter.mpr ⟨List.mem_of_getElem? (i := 1300) rfl, rfl⟩
set_option maxRecDepth 100000 in
theorem cw_X4_causeAt : Jvm.Cond.code mX4_causeAt.1 mX4_causeAt.2.1 mX4_causeAt.2.2.1 mX4_causeAt.2.2.2.1 ∈ xTb := List.mem_filter.mpr ⟨List.mem_of_getElem? (i := 1325) rfl, rfl⟩
set_option maxRecDepth 100000 in
theorem cw_X4_placeOf : Jvm.Cond.code mX4_placeOf.1 mX4_placeOf.2.1 mX4_placeOf.2.2.1 mX4_placeOf.2.2.2.1 ∈ xTb := List.mem_filter.mpr ⟨List.mem_of_getElem? (i := 1321) rfl, rfl⟩
set_option maxRecDepth 100000 in
theorem cw_X4_isAhead : Jvm.Cond.code mX4_isAhead.1 mX4_isAhead.2.1 mX4_isAhead.2.2.1 mX4_isAhead.2.2.2.1 ∈ xTb := List.mem_filter.mpr ⟨List.mem_of_getElem? (i := 1317) rfl, rfl⟩
set_option maxRecDepth 100000 in
theorem cw_X4_aheadOfAll : Jvm.Cond.code mX4_aheadOfAll.1 mX4_aheadOfAll.2.1 mX4_aheadOfAll.2.2.1 mX4_aheadOfAll.2.2.2.1 ∈ xTb := List.mem_filter.mpr ⟨List.mem_of_getElem? (i := 1337) rfl, rfl⟩
set_option maxRecDepth 100000 in
theorem cw_X4_pointsFor : Jvm.Cond.code mX4_pointsFor.1 mX4_pointsFor.2.1 mX4_pointsFor.2.2.1 mX4_pointsFor.2.2.2.1 ∈ xTb := List.mem_filter.mpr ⟨List.mem_of_getElem? (i := 1346) rfl, rfl⟩
set_option maxRecDepth 100000 in
theorem cw_X4_lastLeft : Jvm.Cond.code mX4_lastLeft.1 mX4_lastLeft.2.1 mX4_lastLeft.2.2.1 mX4_lastLeft.2.2.2.1 ∈ xTb := List.mem_filter.mpr ⟨List.mem_of_getElem? (i := 1354) rfl, rfl⟩
set_option maxRecDepth 100000 in
theorem cw_X4_weakest : Jvm.Cond.code mX4_weakest.1 mX4_weakest.2.1 mX4_weakest.2.2.1 mX4_weakest.2.2.2.1 ∈ xTb := List.mem_filter.mpr ⟨List.mem_of_getElem? (i := 1358) rfl, rfl⟩
set_option maxRecDepth 100000 in
theorem cw_X4_firstVotes : Jvm.Cond.code mX4_firstVotes.1 mX4_firstVotes.2.1 mX4_firstVotes.2.2.1 mX4_firstVotes.2.2.2.1 ∈ xTb := List.mem_filter.mpr ⟨List.mem_of_getElem? (i := 1364) rfl, rfl⟩
set_option maxRecDepth 100000 in
theorem cw_X5_init : Jvm.Cond.code mX5_init.1 mX5_init.2.1 mX5_init.2.2.1 mX5_init.2.2.2.1 ∈ xTb := List.mem_filter.mpr ⟨List.mem_of_getElem? (i := 368) rfl, rfl⟩
set_option maxRecDepth 100000 in
theorem cw_X5_readTape : Jvm.Cond.code mX5_readTape.1 mX5_readTape.2.1 mX5_readTape.2.2.1 mX5_readTape.2.2.2.1 ∈ xTb := List.mem_filter.mpr ⟨List.mem_of_getElem? (i := 552) rfl, rfl⟩
set_option maxRecDepth 100000 in
theorem cw_X5_kind : Jvm.Cond.code mX5_kind.1 mX5_kind.2.1 mX5_kind.2.2.1 mX5_kind.2.2.2.1 ∈ xTb := List.mem_filter.mpr ⟨List.mem_of_getElem? (i := 700) rfl, rfl⟩
set_option maxRecDepth 100000 in
theorem cw_X5_fail : Jvm.Cond.code mX5_fail.1 mX5_fail.2.1 mX5_fail.2.2.1 mX5_fail.2.2.2.1 ∈ xTb := List.mem_filter.mpr ⟨List.mem_of_getElem? (i := 712) rfl, rfl⟩
set_option maxRecDepth 100000 in
theorem cw_X5_expect : Jvm.Cond.code mX5_expect.1 mX5_expect.2.1 mX5_expect.2.2.1 mX5_expect.2.2.2.1 ∈ xTb := List.mem_filter.mpr ⟨List.mem_of_getElem? (i := 751) rfl, rfl⟩
set_option maxRecDepth 100000 in
theorem cw_X5_readNumber : Jvm.Cond.code mX5_readNumber.1 mX5_readNumber.2.1 mX5_readNumber.2.2.1 mX5_readNumber.2.2.2.1 ∈ xTb := List.mem_filter.mpr ⟨List.mem_of_getElem? (i := 732) rfl, rfl⟩
set_option maxRecDepth 100000 in
theorem cw_X5_readClause : Jvm.Cond.code mX5_readClause.1 mX5_readClause.2.1 mX5_readClause.2.2.1 mX5_readClause.2.2.2.1 ∈ xTb := List.mem_filter.mpr ⟨List.mem_of_getElem? (i := 704) rfl, rfl⟩
set_option maxRecDepth 100000 in
theorem cw_X5_isVerb : Jvm.Cond.code mX5_isVerb.1 mX5_isVerb.2.1 mX5_isVerb.2.2.1 mX5_isVerb.2.2.2.1 ∈ xTb := List.mem_filter.mpr ⟨List.mem_of_getElem? (i := 707) rfl, rfl⟩
set_option maxRecDepth 100000 in
theorem cw_X5_readNumbers : Jvm.Cond.code mX5_readNumbers.1 mX5_readNumbers.2.1 mX5_readNumbers.2.2.1 mX5_readNumbers.2.2.2.1 ∈ xTb := List.mem_filter.mpr ⟨List.mem_of_getElem? (i := 779) rfl, rfl⟩
set_option maxRecDepth 100000 in
theorem cw_X5_readLaw : Jvm.Cond.code mX5_readLaw.1 mX5_readLaw.2.1 mX5_readLaw.2.2.1 mX5_readLaw.2.2.2.1 ∈ xTb := List.mem_filter.mpr ⟨List.mem_of_getElem? (i := 716) rfl, rfl⟩
set_option maxRecDepth 100000 in
theorem cw_X5_emit : Jvm.Cond.code mX5_emit.1 mX5_emit.2.1 mX5_emit.2.2.1 mX5_emit.2.2.2.1 ∈ xTb := List.mem_filter.mpr ⟨List.mem_of_getElem? (i := 736) rfl, rfl⟩
set_option maxRecDepth 100000 in
theorem cw_X5_readSum : Jvm.Cond.code mX5_readSum.1 mX5_readSum.2.1 mX5_readSum.2.2.1 mX5_readSum.2.2.2.1 ∈ xTb := List.mem_filter.mpr ⟨List.mem_of_getElem? (i := 720) rfl, rfl⟩
set_option maxRecDepth 100000 in
theorem cw_X5_readProduct : Jvm.Cond.code mX5_readProduct.1 mX5_readProduct.2.1 mX5_readProduct.2.2.1 mX5_readProduct.2.2.2.1 ∈ xTb := List.mem_filter.mpr ⟨List.mem_of_getElem? (i := 724) rfl, rfl⟩
set_option maxRecDepth 100000 in
theorem cw_X5_readOne : Jvm.Cond.code mX5_readOne.1 mX5_readOne.2.1 mX5_readOne.2.2.1 mX5_readOne.2.2.2.1 ∈ xTb := List.mem_filter.mpr ⟨List.mem_of_getElem? (i := 728) rfl, rfl⟩
set_option maxRecDepth 100000 in
theorem cw_X5_opensOne : Jvm.Cond.code mX5_opensOne.1 mX5_opensOne.2.1 mX5_opensOne.2.2.1 mX5_opensOne.2.2.2.1 ∈ xTb := List.mem_filter.mpr ⟨List.mem_of_getElem? (i := 743) rfl, rfl⟩
set_option maxRecDepth 100000 in
theorem cw_X5_readName : Jvm.Cond.code mX5_readName.1 mX5_readName.2.1 mX5_readName.2.2.1 mX5_readName.2.2.2.1 ∈ xTb := List.mem_filter.mpr ⟨List.mem_of_getElem? (i := 740) rfl, rfl⟩
set_option maxRecDepth 100000 in
theorem cw_X5_readOpened : Jvm.Cond.code mX5_readOpened.1 mX5_readOpened.2.1 mX5_readOpened.2.2.1 mX5_readOpened.2.2.2.1 ∈ xTb := List.mem_filter.mpr ⟨List.mem_of_getElem? (i := 747) rfl, rfl⟩
set_option maxRecDepth 100000 in
theorem cw_X5_readChoice : Jvm.Cond.code mX5_readChoice.1 mX5_readChoice.2.1 mX5_readChoice.2.2.1 mX5_readChoice.2.2.2.1 ∈ xTb := List.mem_filter.mpr ⟨List.mem_of_getElem? (i := 755) rfl, rfl⟩
set_option maxRecDepth 100000 in
theorem cw_X5_aim : Jvm.Cond.code mX5_aim.1 mX5_aim.2.1 mX5_aim.2.2.1 mX5_aim.2.2.2.1 ∈ xTb := List.mem_filter.mpr ⟨List.mem_of_getElem? (i := 775) rfl, rfl⟩
set_option maxRecDepth 100000 in
theorem cw_X5_readEither : Jvm.Cond.code mX5_readEither.1 mX5_readEither.2.1 mX5_readEither.2.2.1 mX5_readEither.2.2.2.1 ∈ xTb := List.mem_filter.mpr ⟨List.mem_of_getElem? (i := 759) rfl, rfl⟩
set_option maxRecDepth 100000 in
theorem cw_X5_readBoth : Jvm.Cond.code mX5_readBoth.1 mX5_readBoth.2.1 mX5_readBoth.2.2.1 mX5_readBoth.2.2.2.1 ∈ xTb := List.mem_filter.mpr ⟨List.mem_of_getElem? (i := 763) rfl, rfl⟩
set_option maxRecDepth 100000 in
theorem cw_X5_readAsk : Jvm.Cond.code mX5_readAsk.1 mX5_readAsk.2.1 mX5_readAsk.2.2.1 mX5_readAsk.2.2.2.1 ∈ xTb := List.mem_filter.mpr ⟨List.mem_of_getElem? (i := 767) rfl, rfl⟩
set_option maxRecDepth 100000 in
theorem cw_X5_readCompared : Jvm.Cond.code mX5_readCompared.1 mX5_readCompared.2.1 mX5_readCompared.2.2.1 mX5_readCompared.2.2.2.1 ∈ xTb := List.mem_filter.mpr ⟨List.mem_of_getElem? (i := 771) rfl, rfl⟩
set_option maxRecDepth 100000 in
theorem cw_X6_init : Jvm.Cond.code mX6_init.1 mX6_init.2.1 mX6_init.2.2.1 mX6_init.2.2.2.1 ∈ xTb := List.mem_filter.mpr ⟨List.mem_of_getElem? (i := 247) rfl, rfl⟩
set_option maxRecDepth 100000 in
theorem cw_X6_copy : Jvm.Cond.code mX6_copy.1 mX6_copy.2.1 mX6_copy.2.2.1 mX6_copy.2.2.2.1 ∈ xTb := List.mem_filter.mpr ⟨List.mem_of_getElem? (i := 1459) rfl, rfl⟩
set_option maxRecDepth 100000 in
theorem cw_X6_selfFollowing : Jvm.Cond.code mX6_selfFollowing.1 mX6_selfFollowing.2.1 mX6_selfFollowing.2.2.1 mX6_selfFollowing.2.2.2.1 ∈ xTb := List.mem_filter.mpr ⟨List.mem_of_getElem? (i := 1202) rfl, rfl⟩
set_option maxRecDepth 100000 in
theorem cw_X6_sizeAt : Jvm.Cond.code mX6_sizeAt.1 mX6_sizeAt.2.1 mX6_sizeAt.2.2.1 mX6_sizeAt.2.2.2.1 ∈ xTb := List.mem_filter.mpr ⟨List.mem_of_getElem? (i := 1214) rfl, rfl⟩
set_option maxRecDepth 100000 in
theorem cw_X6_smallest : Jvm.Cond.code mX6_smallest.1 mX6_smallest.2.1 mX6_smallest.2.2.1 mX6_smallest.2.2.2.1 ∈ xTb := List.mem_filter.mpr ⟨List.mem_of_getElem? (i := 1210) rfl, rfl⟩
set_option maxRecDepth 100000 in
theorem cw_X6_stepsToRing : Jvm.Cond.code mX6_stepsToRing.1 mX6_stepsToRing.2.1 mX6_stepsToRing.2.2.1 mX6_stepsToRing.2.2.2.1 ∈ xTb := List.mem_filter.mpr ⟨List.mem_of_getElem? (i := 1223) rfl, rfl⟩
set_option maxRecDepth 100000 in
theorem cw_X6_behind : Jvm.Cond.code mX6_behind.1 mX6_behind.2.1 mX6_behind.2.2.1 mX6_behind.2.2.2.1 ∈ xTb := List.mem_filter.mpr ⟨List.mem_of_getElem? (i := 1232) rfl, rfl⟩
set_option maxRecDepth 100000 in
theorem cw_X6_walked : Jvm.Cond.code mX6_walked.1 mX6_walked.2.1 mX6_walked.2.2.1 mX6_walked.2.2.2.1 ∈ xTb := List.mem_filter.mpr ⟨List.mem_of_getElem? (i := 1237) rfl, rfl⟩
set_option maxRecDepth 100000 in
theorem cw_X7_init : Jvm.Cond.code mX7_init.1 mX7_init.2.1 mX7_init.2.2.1 mX7_init.2.2.2.1 ∈ xTb := List.mem_filter.mpr ⟨List.mem_of_getElem? (i := 467) rfl, rfl⟩
set_option maxRecDepth 100000 in
theorem cw_X7_begin : Jvm.Cond.code mX7_begin.1 mX7_begin.2.1 mX7_begin.2.2.1 mX7_begin.2.2.2.1 ∈ xTb := List.mem_filter.mpr ⟨List.mem_of_getElem? (i := 1090) rfl, rfl⟩
set_option maxRecDepth 100000 in
theorem cw_X7_addOne : Jvm.Cond.code mX7_addOne.1 mX7_addOne.2.1 mX7_addOne.2.2.1 mX7_addOne.2.2.2.1 ∈ xTb := List.mem_filter.mpr ⟨List.mem_of_getElem? (i := 1098) rfl, rfl⟩
set_option maxRecDepth 100000 in
theorem cw_X7_ofTrials : Jvm.Cond.code mX7_ofTrials.1 mX7_ofTrials.2.1 mX7_ofTrials.2.2.1 mX7_ofTrials.2.2.2.1 ∈ xTb := List.mem_filter.mpr ⟨List.mem_of_getElem? (i := 1245) rfl, rfl⟩
set_option maxRecDepth 100000 in
theorem cw_X7_just : Jvm.Cond.code mX7_just.1 mX7_just.2.1 mX7_just.2.2.1 mX7_just.2.2.2.1 ∈ xTb := List.mem_filter.mpr ⟨List.mem_of_getElem? (i := 1103) rfl, rfl⟩
set_option maxRecDepth 100000 in
theorem cw_X7_orMore : Jvm.Cond.code mX7_orMore.1 mX7_orMore.2.1 mX7_orMore.2.2.1 mX7_orMore.2.2.2.1 ∈ xTb := List.mem_filter.mpr ⟨List.mem_of_getElem? (i := 1251) rfl, rfl⟩
set_option maxRecDepth 100000 in
theorem cw_X8_init : Jvm.Cond.code mX8_init.1 mX8_init.2.1 mX8_init.2.2.1 mX8_init.2.2.2.1 ∈ xTb := List.mem_filter.mpr ⟨List.mem_of_getElem? (i := 207) rfl, rfl⟩
set_option maxRecDepth 100000 in
theorem cw_X8_copy : Jvm.Cond.code mX8_copy.1 mX8_copy.2.1 mX8_copy.2.2.1 mX8_copy.2.2.2.1 ∈ xTb := List.mem_filter.mpr ⟨List.mem_of_getElem? (i := 1450) rfl, rfl⟩
set_option maxRecDepth 100000 in
theorem cw_X8_keep : Jvm.Cond.code mX8_keep.1 mX8_keep.2.1 mX8_keep.2.2.1 mX8_keep.2.2.2.1 ∈ xTb := List.mem_filter.mpr ⟨List.mem_of_getElem? (i := 876) rfl, rfl⟩
set_option maxRecDepth 100000 in
theorem cw_X8_takeBack : Jvm.Cond.code mX8_takeBack.1 mX8_takeBack.2.1 mX8_takeBack.2.2.1 mX8_takeBack.2.2.2.1 ∈ xTb := List.mem_filter.mpr ⟨List.mem_of_getElem? (i := 1036) rfl, rfl⟩
set_option maxRecDepth 100000 in
theorem cw_X9_init : Jvm.Cond.code mX9_init.1 mX9_init.2.1 mX9_init.2.2.1 mX9_init.2.2.2.1 ∈ xTb := List.mem_filter.mpr ⟨List.mem_of_getElem? (i := 374) rfl, rfl⟩
set_option maxRecDepth 100000 in
theorem cw_X9_add : Jvm.Cond.code mX9_add.1 mX9_add.2.1 mX9_add.2.2.1 mX9_add.2.2.2.1 ∈ xTb := List.mem_filter.mpr ⟨List.mem_of_getElem? (i := 540) rfl, rfl⟩
set_option maxRecDepth 100000 in
theorem cw_X9_scan : Jvm.Cond.code mX9_scan.1 mX9_scan.2.1 mX9_scan.2.2.1 mX9_scan.2.2.2.1 ∈ xTb := List.mem_filter.mpr ⟨List.mem_of_getElem? (i := 556) rfl, rfl⟩
set_option maxRecDepth 100000 in
theorem cw_X9_put : Jvm.Cond.code mX9_put.1 mX9_put.2.1 mX9_put.2.2.1 mX9_put.2.2.2.1 ∈ xTb := List.mem_filter.mpr ⟨List.mem_of_getElem? (i := 617) rfl, rfl⟩
set_option maxRecDepth 100000 in
theorem cw_X9_scanToken : Jvm.Cond.code mX9_scanToken.1 mX9_scanToken.2.1 mX9_scanToken.2.2.1 mX9_scanToken.2.2.2.1 ∈ xTb := List.mem_filter.mpr ⟨List.mem_of_getElem? (i := 560) rfl, rfl⟩
set_option maxRecDepth 100000 in
theorem cw_X9_scanWord : Jvm.Cond.code mX9_scanWord.1 mX9_scanWord.2.1 mX9_scanWord.2.2.1 mX9_scanWord.2.2.2.1 ∈ xTb := List.mem_filter.mpr ⟨List.mem_of_getElem? (i := 568) rfl, rfl⟩
set_option maxRecDepth 100000 in
theorem cw_X9_scanNumber : Jvm.Cond.code mX9_scanNumber.1 mX9_scanNumber.2.1 mX9_scanNumber.2.2.1 mX9_scanNumber.2.2.2.1 ∈ xTb := List.mem_filter.mpr ⟨List.mem_of_getElem? (i := 624) rfl, rfl⟩
set_option maxRecDepth 100000 in
theorem cw_X9_scanSign : Jvm.Cond.code mX9_scanSign.1 mX9_scanSign.2.1 mX9_scanSign.2.2.1 mX9_scanSign.2.2.2.1 ∈ xTb := List.mem_filter.mpr ⟨List.mem_of_getElem? (i := 631) rfl, rfl⟩
set_option maxRecDepth 100000 in
theorem cw_X9_kindOfWord : Jvm.Cond.code mX9_kindOfWord.1 mX9_kindOfWord.2.1 mX9_kindOfWord.2.2.1 mX9_kindOfWord.2.2.2.1 ∈ xTb := List.mem_filter.mpr ⟨List.mem_of_getElem? (i := 572) rfl, rfl⟩
set_option maxRecDepth 100000 in
theorem cw_X9_isLetter : Jvm.Cond.code mX9_isLetter.1 mX9_isLetter.2.1 mX9_isLetter.2.2.1 mX9_isLetter.2.2.2.1 ∈ xTb := List.mem_filter.mpr ⟨List.mem_of_getElem? (i := 563) rfl, rfl⟩
set_option maxRecDepth 100000 in
theorem cw_X9_isDigit : Jvm.Cond.code mX9_isDigit.1 mX9_isDigit.2.1 mX9_isDigit.2.2.1 mX9_isDigit.2.2.2.1 ∈ xTb := List.mem_filter.mpr ⟨List.mem_of_getElem? (i := 620) rfl, rfl⟩
set_option maxRecDepth 100000 in
theorem cw_X10_init : Jvm.Cond.code mX10_init.1 mX10_init.2.1 mX10_init.2.2.1 mX10_init.2.2.2.1 ∈ xTb := List.mem_filter.mpr ⟨List.mem_of_getElem? (i := 784) rfl, rfl⟩
set_option maxRecDepth 100000 in
theorem cw_X11_init : Jvm.Cond.code mX11_init.1 mX11_init.2.1 mX11_init.2.2.1 mX11_init.2.2.2.1 ∈ xTb := List.mem_filter.mpr ⟨List.mem_of_getElem? (i := 138) rfl, rfl⟩
set_option maxRecDepth 100000 in
theorem cw_X11_bird : Jvm.Cond.code mX11_bird.1 mX11_bird.2.1 mX11_bird.2.2.1 mX11_bird.2.2.2.1 ∈ xTb := List.mem_filter.mpr ⟨List.mem_of_getElem? (i := 518) rfl, rfl⟩
set_option maxRecDepth 100000 in
theorem cw_X11_rhyme : Jvm.Cond.code mX11_rhyme.1 mX11_rhyme.2.1 mX11_rhyme.2.2.1 mX11_rhyme.2.2.2.1 ∈ xTb := List.mem_filter.mpr ⟨List.mem_of_getElem? (i := 529) rfl, rfl⟩
set_option maxRecDepth 100000 in
theorem cw_X11_feed : Jvm.Cond.code mX11_feed.1 mX11_feed.2.1 mX11_feed.2.2.1 mX11_feed.2.2.2.1 ∈ xTb := List.mem_filter.mpr ⟨List.mem_of_getElem? (i := 536) rfl, rfl⟩
set_option maxRecDepth 100000 in
theorem cw_X11_end : Jvm.Cond.code mX11_end.1 mX11_end.2.1 mX11_end.2.2.1 mX11_end.2.2.2.1 ∈ xTb := List.mem_filter.mpr ⟨List.mem_of_getElem? (i := 544) rfl, rfl⟩
set_option maxRecDepth 100000 in
theorem cw_X11_text : Jvm.Cond.code mX11_text.1 mX11_text.2.1 mX11_text.2.2.1 mX11_text.2.2.2.1 ∈ xTb := List.mem_filter.mpr ⟨List.mem_of_getElem? (i := 548) rfl, rfl⟩
set_option maxRecDepth 100000 in
theorem cw_X11_fault : Jvm.Cond.code mX11_fault.1 mX11_fault.2.1 mX11_fault.2.2.1 mX11_fault.2.2.2.1 ∈ xTb := List.mem_filter.mpr ⟨List.mem_of_getElem? (i := 845) rfl, rfl⟩
set_option maxRecDepth 100000 in
theorem cw_X11_by : Jvm.Cond.code mX11_by.1 mX11_by.2.1 mX11_by.2.2.1 mX11_by.2.2.2.1 ∈ xTb := List.mem_filter.mpr ⟨List.mem_of_getElem? (i := 849) rfl, rfl⟩
set_option maxRecDepth 100000 in
theorem cw_X11_thin : Jvm.Cond.code mX11_thin.1 mX11_thin.2.1 mX11_thin.2.2.1 mX11_thin.2.2.2.1 ∈ xTb := List.mem_filter.mpr ⟨List.mem_of_getElem? (i := 857) rfl, rfl⟩
set_option maxRecDepth 100000 in
theorem cw_X11_call : Jvm.Cond.code mX11_call.1 mX11_call.2.1 mX11_call.2.2.1 mX11_call.2.2.2.1 ∈ xTb := List.mem_filter.mpr ⟨List.mem_of_getElem? (i := 889) rfl, rfl⟩
set_option maxRecDepth 100000 in
theorem cw_X11_grant : Jvm.Cond.code mX11_grant.1 mX11_grant.2.1 mX11_grant.2.2.1 mX11_grant.2.2.2.1 ∈ xTb := List.mem_filter.mpr ⟨List.mem_of_getElem? (i := 901) rfl, rfl⟩
set_option maxRecDepth 100000 in
theorem cw_X11_day : Jvm.Cond.code mX11_day.1 mX11_day.2.1 mX11_day.2.2.1 mX11_day.2.2.2.1 ∈ xTb := List.mem_filter.mpr ⟨List.mem_of_getElem? (i := 910) rfl, rfl⟩
set_option maxRecDepth 100000 in
theorem cw_X11_played : Jvm.Cond.code mX11_played.1 mX11_played.2.1 mX11_played.2.2.1 mX11_played.2.2.2.1 ∈ xTb := List.mem_filter.mpr ⟨List.mem_of_getElem? (i := 1005) rfl, rfl⟩
set_option maxRecDepth 100000 in
theorem cw_X11_years : Jvm.Cond.code mX11_years.1 mX11_years.2.1 mX11_years.2.2.1 mX11_years.2.2.2.1 ∈ xTb := List.mem_filter.mpr ⟨List.mem_of_getElem? (i := 1020) rfl, rfl⟩
set_option maxRecDepth 100000 in
theorem cw_X11_undo : Jvm.Cond.code mX11_undo.1 mX11_undo.2.1 mX11_undo.2.2.1 mX11_undo.2.2.2.1 ∈ xTb := List.mem_filter.mpr ⟨List.mem_of_getElem? (i := 1032) rfl, rfl⟩
set_option maxRecDepth 100000 in
theorem cw_X11_of : Jvm.Cond.code mX11_of.1 mX11_of.2.1 mX11_of.2.2.1 mX11_of.2.2.2.1 ∈ xTb := List.mem_filter.mpr ⟨List.mem_of_getElem? (i := 1040) rfl, rfl⟩
set_option maxRecDepth 100000 in
theorem cw_X11_is : Jvm.Cond.code mX11_is.1 mX11_is.2.1 mX11_is.2.2.1 mX11_is.2.2.2.1 ∈ xTb := List.mem_filter.mpr ⟨List.mem_of_getElem? (i := 1046) rfl, rfl⟩
set_option maxRecDepth 100000 in
theorem cw_X11_things : Jvm.Cond.code mX11_things.1 mX11_things.2.1 mX11_things.2.2.1 mX11_things.2.2.2.1 ∈ xTb := List.mem_filter.mpr ⟨List.mem_of_getElem? (i := 1051) rfl, rfl⟩
set_option maxRecDepth 100000 in
theorem cw_X11_brings : Jvm.Cond.code mX11_brings.1 mX11_brings.2.1 mX11_brings.2.2.1 mX11_brings.2.2.2.1 ∈ xTb := List.mem_filter.mpr ⟨List.mem_of_getElem? (i := 1055) rfl, rfl⟩
set_option maxRecDepth 100000 in
theorem cw_X11_book : Jvm.Cond.code mX11_book.1 mX11_book.2.1 mX11_book.2.2.1 mX11_book.2.2.2.1 ∈ xTb := List.mem_filter.mpr ⟨List.mem_of_getElem? (i := 1059) rfl, rfl⟩
set_option maxRecDepth 100000 in
theorem cw_X11_foretold : Jvm.Cond.code mX11_foretold.1 mX11_foretold.2.1 mX11_foretold.2.2.1 mX11_foretold.2.2.2.1 ∈ xTb := List.mem_filter.mpr ⟨List.mem_of_getElem? (i := 1067) rfl, rfl⟩
set_option maxRecDepth 100000 in
theorem cw_X11_likely : Jvm.Cond.code mX11_likely.1 mX11_likely.2.1 mX11_likely.2.2.1 mX11_likely.2.2.2.1 ∈ xTb := List.mem_filter.mpr ⟨List.mem_of_getElem? (i := 1072) rfl, rfl⟩
set_option maxRecDepth 100000 in
theorem cw_X11_mean : Jvm.Cond.code mX11_mean.1 mX11_mean.2.1 mX11_mean.2.2.1 mX11_mean.2.2.2.1 ∈ xTb := List.mem_filter.mpr ⟨List.mem_of_getElem? (i := 1114) rfl, rfl⟩
set_option maxRecDepth 100000 in
theorem cw_X11_best : Jvm.Cond.code mX11_best.1 mX11_best.2.1 mX11_best.2.2.1 mX11_best.2.2.2.1 ∈ xTb := List.mem_filter.mpr ⟨List.mem_of_getElem? (i := 1119) rfl, rfl⟩
set_option maxRecDepth 100000 in
theorem cw_X11_morning : Jvm.Cond.code mX11_morning.1 mX11_morning.2.1 mX11_morning.2.2.1 mX11_morning.2.2.2.1 ∈ xTb := List.mem_filter.mpr ⟨List.mem_of_getElem? (i := 1128) rfl, rfl⟩
set_option maxRecDepth 100000 in
theorem cw_X11_habits : Jvm.Cond.code mX11_habits.1 mX11_habits.2.1 mX11_habits.2.2.1 mX11_habits.2.2.2.1 ∈ xTb := List.mem_filter.mpr ⟨List.mem_of_getElem? (i := 1136) rfl, rfl⟩
set_option maxRecDepth 100000 in
theorem cw_X11_habit : Jvm.Cond.code mX11_habit.1 mX11_habit.2.1 mX11_habit.2.2.1 mX11_habit.2.2.2.1 ∈ xTb := List.mem_filter.mpr ⟨List.mem_of_getElem? (i := 1148) rfl, rfl⟩
set_option maxRecDepth 100000 in
theorem cw_X11_whom : Jvm.Cond.code mX11_whom.1 mX11_whom.2.1 mX11_whom.2.2.1 mX11_whom.2.2.2.1 ∈ xTb := List.mem_filter.mpr ⟨List.mem_of_getElem? (i := 1169) rfl, rfl⟩
set_option maxRecDepth 100000 in
theorem cw_X11_rota : Jvm.Cond.code mX11_rota.1 mX11_rota.2.1 mX11_rota.2.2.1 mX11_rota.2.2.2.1 ∈ xTb := List.mem_filter.mpr ⟨List.mem_of_getElem? (i := 1174) rfl, rfl⟩
set_option maxRecDepth 100000 in
theorem cw_X11_gather : Jvm.Cond.code mX11_gather.1 mX11_gather.2.1 mX11_gather.2.2.1 mX11_gather.2.2.2.1 ∈ xTb := List.mem_filter.mpr ⟨List.mem_of_getElem? (i := 1178) rfl, rfl⟩
set_option maxRecDepth 100000 in
theorem cw_X11_comes : Jvm.Cond.code mX11_comes.1 mX11_comes.2.1 mX11_comes.2.2.1 mX11_comes.2.2.2.1 ∈ xTb := List.mem_filter.mpr ⟨List.mem_of_getElem? (i := 1186) rfl, rfl⟩
set_option maxRecDepth 100000 in
theorem cw_X11_follows : Jvm.Cond.code mX11_follows.1 mX11_follows.2.1 mX11_follows.2.2.1 mX11_follows.2.2.2.1 ∈ xTb := List.mem_filter.mpr ⟨List.mem_of_getElem? (i := 1194) rfl, rfl⟩
set_option maxRecDepth 100000 in
theorem cw_X11_agree : Jvm.Cond.code mX11_agree.1 mX11_agree.2.1 mX11_agree.2.2.1 mX11_agree.2.2.2.1 ∈ xTb := List.mem_filter.mpr ⟨List.mem_of_getElem? (i := 1198) rfl, rfl⟩
set_option maxRecDepth 100000 in
theorem cw_X11_ring : Jvm.Cond.code mX11_ring.1 mX11_ring.2.1 mX11_ring.2.2.1 mX11_ring.2.2.2.1 ∈ xTb := List.mem_filter.mpr ⟨List.mem_of_getElem? (i := 1206) rfl, rfl⟩
set_option maxRecDepth 100000 in
theorem cw_X11_till : Jvm.Cond.code mX11_till.1 mX11_till.2.1 mX11_till.2.2.1 mX11_till.2.2.2.1 ∈ xTb := List.mem_filter.mpr ⟨List.mem_of_getElem? (i := 1219) rfl, rfl⟩
set_option maxRecDepth 100000 in
theorem cw_X11_after : Jvm.Cond.code mX11_after.1 mX11_after.2.1 mX11_after.2.2.1 mX11_after.2.2.2.1 ∈ xTb := List.mem_filter.mpr ⟨List.mem_of_getElem? (i := 1227) rfl, rfl⟩
set_option maxRecDepth 100000 in
theorem cw_X11_test : Jvm.Cond.code mX11_test.1 mX11_test.2.1 mX11_test.2.2.1 mX11_test.2.2.2.1 ∈ xTb := List.mem_filter.mpr ⟨List.mem_of_getElem? (i := 1241) rfl, rfl⟩
set_option maxRecDepth 100000 in
theorem cw_X11_bound : Jvm.Cond.code mX11_bound.1 mX11_bound.2.1 mX11_bound.2.2.1 mX11_bound.2.2.2.1 ∈ xTb := List.mem_filter.mpr ⟨List.mem_of_getElem? (i := 1256) rfl, rfl⟩
set_option maxRecDepth 100000 in
theorem cw_X11_sure : Jvm.Cond.code mX11_sure.1 mX11_sure.2.1 mX11_sure.2.2.1 mX11_sure.2.2.2.1 ∈ xTb := List.mem_filter.mpr ⟨List.mem_of_getElem? (i := 1265) rfl, rfl⟩
set_option maxRecDepth 100000 in
theorem cw_X11_votes : Jvm.Cond.code mX11_votes.1 mX11_votes.2.1 mX11_votes.2.2.1 mX11_votes.2.2.2.1 ∈ xTb := List.mem_filter.mpr ⟨List.mem_of_getElem? (i := 1269) rfl, rfl⟩
set_option maxRecDepth 100000 in
theorem cw_X11_seats : Jvm.Cond.code mX11_seats.1 mX11_seats.2.1 mX11_seats.2.2.1 mX11_seats.2.2.2.1 ∈ xTb := List.mem_filter.mpr ⟨List.mem_of_getElem? (i := 1276) rfl, rfl⟩
set_option maxRecDepth 100000 in
theorem cw_X11_unlike : Jvm.Cond.code mX11_unlike.1 mX11_unlike.2.1 mX11_unlike.2.2.1 mX11_unlike.2.2.2.1 ∈ xTb := List.mem_filter.mpr ⟨List.mem_of_getElem? (i := 1296) rfl, rfl⟩
set_option maxRecDepth 100000 in
theorem cw_X11_ranks : Jvm.Cond.code mX11_ranks.1 mX11_ranks.2.1 mX11_ranks.2.2.1 mX11_ranks.2.2.2.1 ∈ xTb := List.mem_filter.mpr ⟨List.mem_of_getElem? (i := 1306) rfl, rfl⟩
set_option maxRecDepth 100000 in
theorem cw_X11_beats : Jvm.Cond.code mX11_beats.1 mX11_beats.2.1 mX11_beats.2.2.1 mX11_beats.2.2.2.1 ∈ xTb := List.mem_filter.mpr ⟨List.mem_of_getElem? (i := 1310) rfl, rfl⟩
set_option maxRecDepth 100000 in
theorem cw_X11_winner : Jvm.Cond.code mX11_winner.1 mX11_winner.2.1 mX11_winner.2.2.1 mX11_winner.2.2.2.1 ∈ xTb := List.mem_filter.mpr ⟨List.mem_of_getElem? (i := 1333) rfl, rfl⟩
set_option maxRecDepth 100000 in
theorem cw_X11_points : Jvm.Cond.code mX11_points.1 mX11_points.2.1 mX11_points.2.2.1 mX11_points.2.2.2.1 ∈ xTb := List.mem_filter.mpr ⟨List.mem_of_getElem? (i := 1342) rfl, rfl⟩
set_option maxRecDepth 100000 in
theorem cw_X11_runoff : Jvm.Cond.code mX11_runoff.1 mX11_runoff.2.1 mX11_runoff.2.2.1 mX11_runoff.2.2.2.1 ∈ xTb := List.mem_filter.mpr ⟨List.mem_of_getElem? (i := 1350) rfl, rfl⟩
set_option maxRecDepth 100000 in
theorem cw_X11_digits : Jvm.Cond.code mX11_digits.1 mX11_digits.2.1 mX11_digits.2.2.1 mX11_digits.2.2.2.1 ∈ xTb := List.mem_filter.mpr ⟨List.mem_of_getElem? (i := 1368) rfl, rfl⟩
set_option maxRecDepth 100000 in
theorem cw_X11_digit : Jvm.Cond.code mX11_digit.1 mX11_digit.2.1 mX11_digit.2.2.1 mX11_digit.2.2.2.1 ∈ xTb := List.mem_filter.mpr ⟨List.mem_of_getElem? (i := 1380) rfl, rfl⟩
set_option maxRecDepth 100000 in
theorem cw_X11_depth : Jvm.Cond.code mX11_depth.1 mX11_depth.2.1 mX11_depth.2.2.1 mX11_depth.2.2.2.1 ∈ xTb := List.mem_filter.mpr ⟨List.mem_of_getElem? (i := 1384) rfl, rfl⟩
set_option maxRecDepth 100000 in
theorem cw_X11_rests : Jvm.Cond.code mX11_rests.1 mX11_rests.2.1 mX11_rests.2.2.1 mX11_rests.2.2.2.1 ∈ xTb := List.mem_filter.mpr ⟨List.mem_of_getElem? (i := 1391) rfl, rfl⟩
set_option maxRecDepth 100000 in
theorem cw_X11_game : Jvm.Cond.code mX11_game.1 mX11_game.2.1 mX11_game.2.2.1 mX11_game.2.2.2.1 ∈ xTb := List.mem_filter.mpr ⟨List.mem_of_getElem? (i := 1395) rfl, rfl⟩
set_option maxRecDepth 100000 in
theorem cw_X11_take : Jvm.Cond.code mX11_take.1 mX11_take.2.1 mX11_take.2.2.1 mX11_take.2.2.2.1 ∈ xTb := List.mem_filter.mpr ⟨List.mem_of_getElem? (i := 1404) rfl, rfl⟩
set_option maxRecDepth 100000 in
theorem cw_X11_told : Jvm.Cond.code mX11_told.1 mX11_told.2.1 mX11_told.2.2.1 mX11_told.2.2.2.1 ∈ xTb := List.mem_filter.mpr ⟨List.mem_of_getElem? (i := 1408) rfl, rfl⟩
set_option maxRecDepth 100000 in
theorem cw_X11_whose : Jvm.Cond.code mX11_whose.1 mX11_whose.2.1 mX11_whose.2.2.1 mX11_whose.2.2.2.1 ∈ xTb := List.mem_filter.mpr ⟨List.mem_of_getElem? (i := 1416) rfl, rfl⟩
set_option maxRecDepth 100000 in
theorem cw_X11_eldest : Jvm.Cond.code mX11_eldest.1 mX11_eldest.2.1 mX11_eldest.2.2.1 mX11_eldest.2.2.2.1 ∈ xTb := List.mem_filter.mpr ⟨List.mem_of_getElem? (i := 1424) rfl, rfl⟩
set_option maxRecDepth 100000 in
theorem cw_X11_due : Jvm.Cond.code mX11_due.1 mX11_due.2.1 mX11_due.2.2.1 mX11_due.2.2.2.1 ∈ xTb := List.mem_filter.mpr ⟨List.mem_of_getElem? (i := 1428) rfl, rfl⟩
set_option maxRecDepth 100000 in
theorem cw_X11_ledger : Jvm.Cond.code mX11_ledger.1 mX11_ledger.2.1 mX11_ledger.2.2.1 mX11_ledger.2.2.2.1 ∈ xTb := List.mem_filter.mpr ⟨List.mem_of_getElem? (i := 1432) rfl, rfl⟩
set_option maxRecDepth 100000 in
theorem cw_X11_image : Jvm.Cond.code mX11_image.1 mX11_image.2.1 mX11_image.2.2.1 mX11_image.2.2.2.1 ∈ xTb := List.mem_filter.mpr ⟨List.mem_of_getElem? (i := 1441) rfl, rfl⟩
set_option maxRecDepth 100000 in
theorem cw_X11_back : Jvm.Cond.code mX11_back.1 mX11_back.2.1 mX11_back.2.2.1 mX11_back.2.2.2.1 ∈ xTb := List.mem_filter.mpr ⟨List.mem_of_getElem? (i := 1469) rfl, rfl⟩
set_option maxRecDepth 100000 in
theorem cw_X11_about : Jvm.Cond.code mX11_about.1 mX11_about.2.1 mX11_about.2.2.1 mX11_about.2.2.2.1 ∈ xTb := List.mem_filter.mpr ⟨List.mem_of_getElem? (i := 1473) rfl, rfl⟩
set_option maxRecDepth 100000 in
theorem cw_X11_passSteps : Jvm.Cond.code mX11_passSteps.1 mX11_passSteps.2.1 mX11_passSteps.2.2.1 mX11_passSteps.2.2.2.1 ∈ xTb := List.mem_filter.mpr ⟨List.mem_of_getElem? (i := 914) rfl, rfl⟩
set_option maxRecDepth 100000 in
theorem cw_X11_passDay : Jvm.Cond.code mX11_passDay.1 mX11_passDay.2.1 mX11_passDay.2.2.1 mX11_passDay.2.2.2.1 ∈ xTb := List.mem_filter.mpr ⟨List.mem_of_getElem? (i := 918) rfl, rfl⟩
set_option maxRecDepth 100000 in
theorem cw_X11_playClause : Jvm.Cond.code mX11_playClause.1 mX11_playClause.2.1 mX11_playClause.2.2.1 mX11_playClause.2.2.2.1 ∈ xTb := List.mem_filter.mpr ⟨List.mem_of_getElem? (i := 1010) rfl, rfl⟩
set_option maxRecDepth 100000 in
theorem cw_X11_drawYear : Jvm.Cond.code mX11_drawYear.1 mX11_drawYear.2.1 mX11_drawYear.2.2.1 mX11_drawYear.2.2.2.1 ∈ xTb := List.mem_filter.mpr ⟨List.mem_of_getElem? (i := 1024) rfl, rfl⟩
set_option maxRecDepth 100000 in
theorem cw_X11_noteChances : Jvm.Cond.code mX11_noteChances.1 mX11_noteChances.2.1 mX11_noteChances.2.2.1 mX11_noteChances.2.2.2.1 ∈ xTb := List.mem_filter.mpr ⟨List.mem_of_getElem? (i := 1082) rfl, rfl⟩
set_option maxRecDepth 100000 in
theorem cw_X11_spreadOver : Jvm.Cond.code mX11_spreadOver.1 mX11_spreadOver.2.1 mX11_spreadOver.2.2.1 mX11_spreadOver.2.2.2.1 ∈ xTb := List.mem_filter.mpr ⟨List.mem_of_getElem? (i := 1086) rfl, rfl⟩
set_option maxRecDepth 100000 in
theorem cw_X11_bestThinned : Jvm.Cond.code mX11_bestThinned.1 mX11_bestThinned.2.1 mX11_bestThinned.2.2.1 mX11_bestThinned.2.2.2.1 ∈ xTb := List.mem_filter.mpr ⟨List.mem_of_getElem? (i := 1123) rfl, rfl⟩
set_option maxRecDepth 100000 in
theorem cw_X11_canCome : Jvm.Cond.code mX11_canCome.1 mX11_canCome.2.1 mX11_canCome.2.2.1 mX11_canCome.2.2.2.1 ∈ xTb := List.mem_filter.mpr ⟨List.mem_of_getElem? (i := 1190) rfl, rfl⟩
set_option maxRecDepth 100000 in
theorem cw_X11_leastBound : Jvm.Cond.code mX11_leastBound.1 mX11_leastBound.2.1 mX11_leastBound.2.2.1 mX11_leastBound.2.2.2.1 ∈ xTb := List.mem_filter.mpr ⟨List.mem_of_getElem? (i := 1260) rfl, rfl⟩
set_option maxRecDepth 100000 in
theorem cw_X11_bringsAllTold : Jvm.Cond.code mX11_bringsAllTold.1 mX11_bringsAllTold.2.1 mX11_bringsAllTold.2.2.1 mX11_bringsAllTold.2.2.2.1 ∈ xTb := List.mem_filter.mpr ⟨List.mem_of_getElem? (i := 1420) rfl, rfl⟩
set_option maxRecDepth 100000 in
theorem cw_X11_raise : Jvm.Cond.code mX11_raise.1 mX11_raise.2.1 mX11_raise.2.2.1 mX11_raise.2.2.2.1 ∈ xTb := List.mem_filter.mpr ⟨List.mem_of_getElem? (i := 1372) rfl, rfl⟩
set_option maxRecDepth 100000 in
theorem cw_X11_multiply : Jvm.Cond.code mX11_multiply.1 mX11_multiply.2.1 mX11_multiply.2.2.1 mX11_multiply.2.2.2.1 ∈ xTb := List.mem_filter.mpr ⟨List.mem_of_getElem? (i := 1376) rfl, rfl⟩
set_option maxRecDepth 100000 in
theorem cw_X11_deeper : Jvm.Cond.code mX11_deeper.1 mX11_deeper.2.1 mX11_deeper.2.2.1 mX11_deeper.2.2.2.1 ∈ xTb := List.mem_filter.mpr ⟨List.mem_of_getElem? (i := 1387) rfl, rfl⟩
set_option maxRecDepth 100000 in
theorem cw_X11_leastPart : Jvm.Cond.code mX11_leastPart.1 mX11_leastPart.2.1 mX11_leastPart.2.2.1 mX11_leastPart.2.2.2.1 ∈ xTb := List.mem_filter.mpr ⟨List.mem_of_getElem? (i := 1398) rfl, rfl⟩
set_option maxRecDepth 100000 in
theorem cw_X11_firstOfHabit : Jvm.Cond.code mX11_firstOfHabit.1 mX11_firstOfHabit.2.1 mX11_firstOfHabit.2.2.1 mX11_firstOfHabit.2.2.2.1 ∈ xTb := List.mem_filter.mpr ⟨List.mem_of_getElem? (i := 1165) rfl, rfl⟩
set_option maxRecDepth 100000 in
theorem cw_X11_leastCommon : Jvm.Cond.code mX11_leastCommon.1 mX11_leastCommon.2.1 mX11_leastCommon.2.2.1 mX11_leastCommon.2.2.2.1 ∈ xTb := List.mem_filter.mpr ⟨List.mem_of_getElem? (i := 1182) rfl, rfl⟩
set_option maxRecDepth 100000 in
theorem cw_X11_greatestCommon : Jvm.Cond.code mX11_greatestCommon.1 mX11_greatestCommon.2.1 mX11_greatestCommon.2.2.1 mX11_greatestCommon.2.2.2.1 ∈ xTb := List.mem_filter.mpr ⟨List.mem_of_getElem? (i := 1110) rfl, rfl⟩
set_option maxRecDepth 100000 in
theorem cw_X11_lowest : Jvm.Cond.code mX11_lowest.1 mX11_lowest.2.1 mX11_lowest.2.2.1 mX11_lowest.2.2.2.1 ∈ xTb := List.mem_filter.mpr ⟨List.mem_of_getElem? (i := 1107) rfl, rfl⟩
set_option maxRecDepth 100000 in
theorem cw_X11_within : Jvm.Cond.code mX11_within.1 mX11_within.2.1 mX11_within.2.2.1 mX11_within.2.2.2.1 ∈ xTb := List.mem_filter.mpr ⟨List.mem_of_getElem? (i := 521) rfl, rfl⟩
set_option maxRecDepth 100000 in
theorem cw_X11_held : Jvm.Cond.code mX11_held.1 mX11_held.2.1 mX11_held.2.2.1 mX11_held.2.2.2.1 ∈ xTb := List.mem_filter.mpr ⟨List.mem_of_getElem? (i := 966) rfl, rfl⟩
set_option maxRecDepth 100000 in
theorem cw_X11_isCount : Jvm.Cond.code mX11_isCount.1 mX11_isCount.2.1 mX11_isCount.2.2.1 mX11_isCount.2.2.2.1 ∈ xTb := List.mem_filter.mpr ⟨List.mem_of_getElem? (i := 532) rfl, rfl⟩
set_option maxRecDepth 100000 in
theorem cw_X11_isParish : Jvm.Cond.code mX11_isParish.1 mX11_isParish.2.1 mX11_isParish.2.2.1 mX11_isParish.2.2.2.1 ∈ xTb := List.mem_filter.mpr ⟨List.mem_of_getElem? (i := 1272) rfl, rfl⟩
set_option maxRecDepth 100000 in
theorem cw_X11_isCause : Jvm.Cond.code mX11_isCause.1 mX11_isCause.2.1 mX11_isCause.2.2.1 mX11_isCause.2.2.2.1 ∈ xTb := List.mem_filter.mpr ⟨List.mem_of_getElem? (i := 1313) rfl, rfl⟩
set_option maxRecDepth 100000 in
theorem cw_X11_isIn : Jvm.Cond.code mX11_isIn.1 mX11_isIn.2.1 mX11_isIn.2.2.1 mX11_isIn.2.2.2.1 ∈ xTb := List.mem_filter.mpr ⟨List.mem_of_getElem? (i := 872) rfl, rfl⟩
set_option maxRecDepth 100000 in
theorem cw_X12_init : Jvm.Cond.code mX12_init.1 mX12_init.2.1 mX12_init.2.2.1 mX12_init.2.2.2.1 ∈ xTb := List.mem_filter.mpr ⟨List.mem_of_getElem? (i := 1478) rfl, rfl⟩
set_option maxRecDepth 100000 in
theorem cw_X12_copy : Jvm.Cond.code mX12_copy.1 mX12_copy.2.1 mX12_copy.2.2.1 mX12_copy.2.2.2.1 ∈ xTb := List.mem_filter.mpr ⟨List.mem_of_getElem? (i := 1482) rfl, rfl⟩
set_option maxRecDepth 100000 in
theorem cw_X12_isIn : Jvm.Cond.code mX12_isIn.1 mX12_isIn.2.1 mX12_isIn.2.2.1 mX12_isIn.2.2.2.1 ∈ xTb := List.mem_filter.mpr ⟨List.mem_of_getElem? (i := 1586) rfl, rfl⟩
set_option maxRecDepth 100000 in
theorem cw_X12_held : Jvm.Cond.code mX12_held.1 mX12_held.2.1 mX12_held.2.2.1 mX12_held.2.2.2.1 ∈ xTb := List.mem_filter.mpr ⟨List.mem_of_getElem? (i := 1857) rfl, rfl⟩
set_option maxRecDepth 100000 in
theorem cw_X12_has : Jvm.Cond.code mX12_has.1 mX12_has.2.1 mX12_has.2.2.1 mX12_has.2.2.2.1 ∈ xTb := List.mem_filter.mpr ⟨List.mem_of_getElem? (i := 1662) rfl, rfl⟩
set_option maxRecDepth 100000 in
theorem cw_X12_bits : Jvm.Cond.code mX12_bits.1 mX12_bits.2.1 mX12_bits.2.2.1 mX12_bits.2.2.2.1 ∈ xTb := List.mem_filter.mpr ⟨List.mem_of_getElem? (i := 1827) rfl, rfl⟩
set_option maxRecDepth 100000 in
theorem cw_X12_isBird : Jvm.Cond.code mX12_isBird.1 mX12_isBird.2.1 mX12_isBird.2.2.1 mX12_isBird.2.2.2.1 ∈ xTb := List.mem_filter.mpr ⟨List.mem_of_getElem? (i := 1761) rfl, rfl⟩
set_option maxRecDepth 100000 in
theorem cw_X12_isCount : Jvm.Cond.code mX12_isCount.1 mX12_isCount.2.1 mX12_isCount.2.2.1 mX12_isCount.2.2.2.1 ∈ xTb := List.mem_filter.mpr ⟨List.mem_of_getElem? (i := 1593) rfl, rfl⟩
set_option maxRecDepth 100000 in
theorem cw_X12_isGone : Jvm.Cond.code mX12_isGone.1 mX12_isGone.2.1 mX12_isGone.2.2.1 mX12_isGone.2.2.2.1 ∈ xTb := List.mem_filter.mpr ⟨List.mem_of_getElem? (i := 1765) rfl, rfl⟩
set_option maxRecDepth 100000 in
theorem cw_X12_isDue : Jvm.Cond.code mX12_isDue.1 mX12_isDue.2.1 mX12_isDue.2.2.1 mX12_isDue.2.2.2.1 ∈ xTb := List.mem_filter.mpr ⟨List.mem_of_getElem? (i := 1805) rfl, rfl⟩
set_option maxRecDepth 100000 in
theorem cw_X12_dueBy : Jvm.Cond.code mX12_dueBy.1 mX12_dueBy.2.1 mX12_dueBy.2.2.1 mX12_dueBy.2.2.2.1 ∈ xTb := List.mem_filter.mpr ⟨List.mem_of_getElem? (i := 1801) rfl, rfl⟩
set_option maxRecDepth 100000 in
theorem cw_X12_dueNow : Jvm.Cond.code mX12_dueNow.1 mX12_dueNow.2.1 mX12_dueNow.2.2.1 mX12_dueNow.2.2.2.1 ∈ xTb := List.mem_filter.mpr ⟨List.mem_of_getElem? (i := 1797) rfl, rfl⟩
set_option maxRecDepth 100000 in
theorem cw_X12_bird : Jvm.Cond.code mX12_bird.1 mX12_bird.2.1 mX12_bird.2.2.1 mX12_bird.2.2.2.1 ∈ xTb := List.mem_filter.mpr ⟨List.mem_of_getElem? (i := 1583) rfl, rfl⟩
set_option maxRecDepth 100000 in
theorem cw_X12_rhyme : Jvm.Cond.code mX12_rhyme.1 mX12_rhyme.2.1 mX12_rhyme.2.2.1 mX12_rhyme.2.2.2.1 ∈ xTb := List.mem_filter.mpr ⟨List.mem_of_getElem? (i := 1590) rfl, rfl⟩
set_option maxRecDepth 100000 in
theorem cw_X12_four : Jvm.Cond.code mX12_four.1 mX12_four.2.1 mX12_four.2.2.1 mX12_four.2.2.2.1 ∈ xTb := List.mem_filter.mpr ⟨List.mem_of_getElem? (i := 1601) rfl, rfl⟩
set_option maxRecDepth 100000 in
theorem cw_X12_feed : Jvm.Cond.code mX12_feed.1 mX12_feed.2.1 mX12_feed.2.2.1 mX12_feed.2.2.2.1 ∈ xTb := List.mem_filter.mpr ⟨List.mem_of_getElem? (i := 1597) rfl, rfl⟩
set_option maxRecDepth 100000 in
theorem cw_X12_end : Jvm.Cond.code mX12_end.1 mX12_end.2.1 mX12_end.2.2.1 mX12_end.2.2.2.1 ∈ xTb := List.mem_filter.mpr ⟨List.mem_of_getElem? (i := 1605) rfl, rfl⟩
set_option maxRecDepth 100000 in
theorem cw_X12_byteAt : Jvm.Cond.code mX12_byteAt.1 mX12_byteAt.2.1 mX12_byteAt.2.2.1 mX12_byteAt.2.2.2.1 ∈ xTb := List.mem_filter.mpr ⟨List.mem_of_getElem? (i := 1621) rfl, rfl⟩
set_option maxRecDepth 100000 in
theorem cw_X12_isLetterByte : Jvm.Cond.code mX12_isLetterByte.1 mX12_isLetterByte.2.1 mX12_isLetterByte.2.2.1 mX12_isLetterByte.2.2.2.1 ∈ xTb := List.mem_filter.mpr ⟨List.mem_of_getElem? (i := 1628) rfl, rfl⟩
set_option maxRecDepth 100000 in
theorem cw_X12_isFigure : Jvm.Cond.code mX12_isFigure.1 mX12_isFigure.2.1 mX12_isFigure.2.2.1 mX12_isFigure.2.2.2.1 ∈ xTb := List.mem_filter.mpr ⟨List.mem_of_getElem? (i := 1624) rfl, rfl⟩
set_option maxRecDepth 100000 in
theorem cw_X12_isSign : Jvm.Cond.code mX12_isSign.1 mX12_isSign.2.1 mX12_isSign.2.2.1 mX12_isSign.2.2.2.1 ∈ xTb := List.mem_filter.mpr ⟨List.mem_of_getElem? (i := 1632) rfl, rfl⟩
set_option maxRecDepth 100000 in
theorem cw_X12_nextToken : Jvm.Cond.code mX12_nextToken.1 mX12_nextToken.2.1 mX12_nextToken.2.2.1 mX12_nextToken.2.2.2.1 ∈ xTb := List.mem_filter.mpr ⟨List.mem_of_getElem? (i := 1617) rfl, rfl⟩
set_option maxRecDepth 100000 in
theorem cw_X12_w2 : Jvm.Cond.code mX12_w2.1 mX12_w2.2.1 mX12_w2.2.2.1 mX12_w2.2.2.2.1 ∈ xTb := List.mem_filter.mpr ⟨List.mem_of_getElem? (i := 1655) rfl, rfl⟩
set_option maxRecDepth 100000 in
theorem cw_X12_w3 : Jvm.Cond.code mX12_w3.1 mX12_w3.2.1 mX12_w3.2.2.1 mX12_w3.2.2.2.1 ∈ xTb := List.mem_filter.mpr ⟨List.mem_of_getElem? (i := 1652) rfl, rfl⟩
set_option maxRecDepth 100000 in
theorem cw_X12_w4 : Jvm.Cond.code mX12_w4.1 mX12_w4.2.1 mX12_w4.2.2.1 mX12_w4.2.2.2.1 ∈ xTb := List.mem_filter.mpr ⟨List.mem_of_getElem? (i := 1649) rfl, rfl⟩
set_option maxRecDepth 100000 in
theorem cw_X12_w5 : Jvm.Cond.code mX12_w5.1 mX12_w5.2.1 mX12_w5.2.2.1 mX12_w5.2.2.2.1 ∈ xTb := List.mem_filter.mpr ⟨List.mem_of_getElem? (i := 1646) rfl, rfl⟩
set_option maxRecDepth 100000 in
theorem cw_X12_w6 : Jvm.Cond.code mX12_w6.1 mX12_w6.2.1 mX12_w6.2.2.1 mX12_w6.2.2.2.1 ∈ xTb := List.mem_filter.mpr ⟨List.mem_of_getElem? (i := 1643) rfl, rfl⟩
set_option maxRecDepth 100000 in
theorem cw_X12_isWord : Jvm.Cond.code mX12_isWord.1 mX12_isWord.2.1 mX12_isWord.2.2.1 mX12_isWord.2.2.2.1 ∈ xTb := List.mem_filter.mpr ⟨List.mem_of_getElem? (i := 1659) rfl, rfl⟩
set_option maxRecDepth 100000 in
theorem cw_X12_emit : Jvm.Cond.code mX12_emit.1 mX12_emit.2.1 mX12_emit.2.2.1 mX12_emit.2.2.2.1 ∈ xTb := List.mem_filter.mpr ⟨List.mem_of_getElem? (i := 1717) rfl, rfl⟩
set_option maxRecDepth 100000 in
theorem cw_X12_nameOf : Jvm.Cond.code mX12_nameOf.1 mX12_nameOf.2.1 mX12_nameOf.2.2.1 mX12_nameOf.2.2.2.1 ∈ xTb := List.mem_filter.mpr ⟨List.mem_of_getElem? (i := 1729) rfl, rfl⟩
set_option maxRecDepth 100000 in
theorem cw_X12_isOf : Jvm.Cond.code mX12_isOf.1 mX12_isOf.2.1 mX12_isOf.2.2.1 mX12_isOf.2.2.2.1 ∈ xTb := List.mem_filter.mpr ⟨List.mem_of_getElem? (i := 1733) rfl, rfl⟩
set_option maxRecDepth 100000 in
theorem cw_X12_rank : Jvm.Cond.code mX12_rank.1 mX12_rank.2.1 mX12_rank.2.2.1 mX12_rank.2.2.2.1 ∈ xTb := List.mem_filter.mpr ⟨List.mem_of_getElem? (i := 1705) rfl, rfl⟩
set_option maxRecDepth 100000 in
theorem cw_X12_settle : Jvm.Cond.code mX12_settle.1 mX12_settle.2.1 mX12_settle.2.2.1 mX12_settle.2.2.2.1 ∈ xTb := List.mem_filter.mpr ⟨List.mem_of_getElem? (i := 1713) rfl, rfl⟩
set_option maxRecDepth 100000 in
theorem cw_X12_openAt : Jvm.Cond.code mX12_openAt.1 mX12_openAt.2.1 mX12_openAt.2.2.1 mX12_openAt.2.2.2.1 ∈ xTb := List.mem_filter.mpr ⟨List.mem_of_getElem? (i := 1698) rfl, rfl⟩
set_option maxRecDepth 100000 in
theorem cw_X12_openNow : Jvm.Cond.code mX12_openNow.1 mX12_openNow.2.1 mX12_openNow.2.2.1 mX12_openNow.2.2.2.1 ∈ xTb := List.mem_filter.mpr ⟨List.mem_of_getElem? (i := 1694) rfl, rfl⟩
set_option maxRecDepth 100000 in
theorem cw_X12_isCompared : Jvm.Cond.code mX12_isCompared.1 mX12_isCompared.2.1 mX12_isCompared.2.2.1 mX12_isCompared.2.2.2.1 ∈ xTb := List.mem_filter.mpr ⟨List.mem_of_getElem? (i := 1702) rfl, rfl⟩
set_option maxRecDepth 100000 in
theorem cw_X12_isAskAhead : Jvm.Cond.code mX12_isAskAhead.1 mX12_isAskAhead.2.1 mX12_isAskAhead.2.2.1 mX12_isAskAhead.2.2.2.1 ∈ xTb := List.mem_filter.mpr ⟨List.mem_of_getElem? (i := 1741) rfl, rfl⟩
set_option maxRecDepth 100000 in
theorem cw_X12_opened : Jvm.Cond.code mX12_opened.1 mX12_opened.2.1 mX12_opened.2.2.1 mX12_opened.2.2.2.1 ∈ xTb := List.mem_filter.mpr ⟨List.mem_of_getElem? (i := 1737) rfl, rfl⟩
set_option maxRecDepth 100000 in
theorem cw_X12_beginOne : Jvm.Cond.code mX12_beginOne.1 mX12_beginOne.2.1 mX12_beginOne.2.2.1 mX12_beginOne.2.2.2.1 ∈ xTb := List.mem_filter.mpr ⟨List.mem_of_getElem? (i := 1725) rfl, rfl⟩
set_option maxRecDepth 100000 in
theorem cw_X12_compareOf : Jvm.Cond.code mX12_compareOf.1 mX12_compareOf.2.1 mX12_compareOf.2.2.1 mX12_compareOf.2.2.2.1 ∈ xTb := List.mem_filter.mpr ⟨List.mem_of_getElem? (i := 1709) rfl, rfl⟩
set_option maxRecDepth 100000 in
theorem cw_X12_betweenOf : Jvm.Cond.code mX12_betweenOf.1 mX12_betweenOf.2.1 mX12_betweenOf.2.2.1 mX12_betweenOf.2.2.2.1 ∈ xTb := List.mem_filter.mpr ⟨List.mem_of_getElem? (i := 1690) rfl, rfl⟩
set_option maxRecDepth 100000 in
theorem cw_X12_partOf : Jvm.Cond.code mX12_partOf.1 mX12_partOf.2.1 mX12_partOf.2.2.1 mX12_partOf.2.2.2.1 ∈ xTb := List.mem_filter.mpr ⟨List.mem_of_getElem? (i := 1721) rfl, rfl⟩
set_option maxRecDepth 100000 in
theorem cw_X12_behindOne : Jvm.Cond.code mX12_behindOne.1 mX12_behindOne.2.1 mX12_behindOne.2.2.1 mX12_behindOne.2.2.2.1 ∈ xTb := List.mem_filter.mpr ⟨List.mem_of_getElem? (i := 1686) rfl, rfl⟩
set_option maxRecDepth 100000 in
theorem cw_X12_summed : Jvm.Cond.code mX12_summed.1 mX12_summed.2.1 mX12_summed.2.2.1 mX12_summed.2.2.2.1 ∈ xTb := List.mem_filter.mpr ⟨List.mem_of_getElem? (i := 1682) rfl, rfl⟩
set_option maxRecDepth 100000 in
theorem cw_X12_figure : Jvm.Cond.code mX12_figure.1 mX12_figure.2.1 mX12_figure.2.2.1 mX12_figure.2.2.2.1 ∈ xTb := List.mem_filter.mpr ⟨List.mem_of_getElem? (i := 1674) rfl, rfl⟩
set_option maxRecDepth 100000 in
theorem cw_X12_lawClause : Jvm.Cond.code mX12_lawClause.1 mX12_lawClause.2.1 mX12_lawClause.2.2.1 mX12_lawClause.2.2.2.1 ∈ xTb := List.mem_filter.mpr ⟨List.mem_of_getElem? (i := 1678) rfl, rfl⟩
set_option maxRecDepth 100000 in
theorem cw_X12_pair : Jvm.Cond.code mX12_pair.1 mX12_pair.2.1 mX12_pair.2.2.1 mX12_pair.2.2.2.1 ∈ xTb := List.mem_filter.mpr ⟨List.mem_of_getElem? (i := 1670) rfl, rfl⟩
set_option maxRecDepth 100000 in
theorem cw_X12_body : Jvm.Cond.code mX12_body.1 mX12_body.2.1 mX12_body.2.2.1 mX12_body.2.2.2.1 ∈ xTb := List.mem_filter.mpr ⟨List.mem_of_getElem? (i := 1666) rfl, rfl⟩
set_option maxRecDepth 100000 in
theorem cw_X12_sortOf : Jvm.Cond.code mX12_sortOf.1 mX12_sortOf.2.1 mX12_sortOf.2.2.1 mX12_sortOf.2.2.2.1 ∈ xTb := List.mem_filter.mpr ⟨List.mem_of_getElem? (i := 1640) rfl, rfl⟩
set_option maxRecDepth 100000 in
theorem cw_X12_clause : Jvm.Cond.code mX12_clause.1 mX12_clause.2.1 mX12_clause.2.2.1 mX12_clause.2.2.2.1 ∈ xTb := List.mem_filter.mpr ⟨List.mem_of_getElem? (i := 1636) rfl, rfl⟩
set_option maxRecDepth 100000 in
theorem cw_X12_readText : Jvm.Cond.code mX12_readText.1 mX12_readText.2.1 mX12_readText.2.2.1 mX12_readText.2.2.2.1 ∈ xTb := List.mem_filter.mpr ⟨List.mem_of_getElem? (i := 1613) rfl, rfl⟩
set_option maxRecDepth 100000 in
theorem cw_X12_text : Jvm.Cond.code mX12_text.1 mX12_text.2.1 mX12_text.2.2.1 mX12_text.2.2.2.1 ∈ xTb := List.mem_filter.mpr ⟨List.mem_of_getElem? (i := 1609) rfl, rfl⟩
set_option maxRecDepth 100000 in
theorem cw_X12_fault : Jvm.Cond.code mX12_fault.1 mX12_fault.2.1 mX12_fault.2.2.1 mX12_fault.2.2.2.1 ∈ xTb := List.mem_filter.mpr ⟨List.mem_of_getElem? (i := 1745) rfl, rfl⟩
set_option maxRecDepth 100000 in
theorem cw_X12_by : Jvm.Cond.code mX12_by.1 mX12_by.2.1 mX12_by.2.2.1 mX12_by.2.2.2.1 ∈ xTb := List.mem_filter.mpr ⟨List.mem_of_getElem? (i := 1749) rfl, rfl⟩
set_option maxRecDepth 100000 in
theorem cw_X12_clip : Jvm.Cond.code mX12_clip.1 mX12_clip.2.1 mX12_clip.2.2.1 mX12_clip.2.2.2.1 ∈ xTb := List.mem_filter.mpr ⟨List.mem_of_getElem? (i := 1846) rfl, rfl⟩
set_option maxRecDepth 100000 in
theorem cw_X12_two : Jvm.Cond.code mX12_two.1 mX12_two.2.1 mX12_two.2.2.1 mX12_two.2.2.2.1 ∈ xTb := List.mem_filter.mpr ⟨List.mem_of_getElem? (i := 1843) rfl, rfl⟩
set_option maxRecDepth 100000 in
theorem cw_X12_isAsked : Jvm.Cond.code mX12_isAsked.1 mX12_isAsked.2.1 mX12_isAsked.2.2.1 mX12_isAsked.2.2.2.1 ∈ xTb := List.mem_filter.mpr ⟨List.mem_of_getElem? (i := 1851) rfl, rfl⟩
set_option maxRecDepth 100000 in
theorem cw_X12_ofOne : Jvm.Cond.code mX12_ofOne.1 mX12_ofOne.2.1 mX12_ofOne.2.2.1 mX12_ofOne.2.2.2.1 ∈ xTb := List.mem_filter.mpr ⟨List.mem_of_getElem? (i := 1839) rfl, rfl⟩
set_option maxRecDepth 100000 in
theorem cw_X12_joined : Jvm.Cond.code mX12_joined.1 mX12_joined.2.1 mX12_joined.2.2.1 mX12_joined.2.2.2.1 ∈ xTb := List.mem_filter.mpr ⟨List.mem_of_getElem? (i := 1854) rfl, rfl⟩
set_option maxRecDepth 100000 in
theorem cw_X12_summedUp : Jvm.Cond.code mX12_summedUp.1 mX12_summedUp.2.1 mX12_summedUp.2.2.1 mX12_summedUp.2.2.2.1 ∈ xTb := List.mem_filter.mpr ⟨List.mem_of_getElem? (i := 1835) rfl, rfl⟩
set_option maxRecDepth 100000 in
theorem cw_X12_says : Jvm.Cond.code mX12_says.1 mX12_says.2.1 mX12_says.2.2.1 mX12_says.2.2.2.1 ∈ xTb := List.mem_filter.mpr ⟨List.mem_of_getElem? (i := 1831) rfl, rfl⟩
set_option maxRecDepth 100000 in
theorem cw_X12_name : Jvm.Cond.code mX12_name.1 mX12_name.2.1 mX12_name.2.2.1 mX12_name.2.2.2.1 ∈ xTb := List.mem_filter.mpr ⟨List.mem_of_getElem? (i := 1824) rfl, rfl⟩
set_option maxRecDepth 100000 in
theorem cw_X12_chanceOf : Jvm.Cond.code mX12_chanceOf.1 mX12_chanceOf.2.1 mX12_chanceOf.2.2.1 mX12_chanceOf.2.2.2.1 ∈ xTb := List.mem_filter.mpr ⟨List.mem_of_getElem? (i := 1820) rfl, rfl⟩
set_option maxRecDepth 100000 in
theorem cw_X12_bringsOf : Jvm.Cond.code mX12_bringsOf.1 mX12_bringsOf.2.1 mX12_bringsOf.2.2.1 mX12_bringsOf.2.2.2.1 ∈ xTb := List.mem_filter.mpr ⟨List.mem_of_getElem? (i := 1861) rfl, rfl⟩
set_option maxRecDepth 100000 in
theorem cw_X12_write : Jvm.Cond.code mX12_write.1 mX12_write.2.1 mX12_write.2.2.1 mX12_write.2.2.2.1 ∈ xTb := List.mem_filter.mpr ⟨List.mem_of_getElem? (i := 1865) rfl, rfl⟩
set_option maxRecDepth 100000 in
theorem cw_X12_drawnBy : Jvm.Cond.code mX12_drawnBy.1 mX12_drawnBy.2.1 mX12_drawnBy.2.2.1 mX12_drawnBy.2.2.2.1 ∈ xTb := List.mem_filter.mpr ⟨List.mem_of_getElem? (i := 1809) rfl, rfl⟩
set_option maxRecDepth 100000 in
theorem cw_X12_anew : Jvm.Cond.code mX12_anew.1 mX12_anew.2.1 mX12_anew.2.2.1 mX12_anew.2.2.2.1 ∈ xTb := List.mem_filter.mpr ⟨List.mem_of_getElem? (i := 1813) rfl, rfl⟩
set_option maxRecDepth 100000 in
theorem cw_X12_canGrant : Jvm.Cond.code mX12_canGrant.1 mX12_canGrant.2.1 mX12_canGrant.2.2.1 mX12_canGrant.2.2.2.1 ∈ xTb := List.mem_filter.mpr ⟨List.mem_of_getElem? (i := 1781) rfl, rfl⟩
set_option maxRecDepth 100000 in
theorem cw_X12_pass : Jvm.Cond.code mX12_pass.1 mX12_pass.2.1 mX12_pass.2.2.1 mX12_pass.2.2.2.1 ∈ xTb := List.mem_filter.mpr ⟨List.mem_of_getElem? (i := 1793) rfl, rfl⟩
set_option maxRecDepth 100000 in
theorem cw_X12_keep : Jvm.Cond.code mX12_keep.1 mX12_keep.2.1 mX12_keep.2.2.1 mX12_keep.2.2.2.1 ∈ xTb := List.mem_filter.mpr ⟨List.mem_of_getElem? (i := 1769) rfl, rfl⟩
set_option maxRecDepth 100000 in
theorem cw_X12_undo : Jvm.Cond.code mX12_undo.1 mX12_undo.2.1 mX12_undo.2.2.1 mX12_undo.2.2.2.1 ∈ xTb := List.mem_filter.mpr ⟨List.mem_of_getElem? (i := 1753) rfl, rfl⟩
set_option maxRecDepth 100000 in
theorem cw_X12_thin : Jvm.Cond.code mX12_thin.1 mX12_thin.2.1 mX12_thin.2.2.1 mX12_thin.2.2.2.1 ∈ xTb := List.mem_filter.mpr ⟨List.mem_of_getElem? (i := 1757) rfl, rfl⟩
set_option maxRecDepth 100000 in
theorem cw_X12_call : Jvm.Cond.code mX12_call.1 mX12_call.2.1 mX12_call.2.2.1 mX12_call.2.2.2.1 ∈ xTb := List.mem_filter.mpr ⟨List.mem_of_getElem? (i := 1773) rfl, rfl⟩
set_option maxRecDepth 100000 in
theorem cw_X12_grant : Jvm.Cond.code mX12_grant.1 mX12_grant.2.1 mX12_grant.2.2.1 mX12_grant.2.2.2.1 ∈ xTb := List.mem_filter.mpr ⟨List.mem_of_getElem? (i := 1777) rfl, rfl⟩
set_option maxRecDepth 100000 in
theorem cw_X12_arePassed : Jvm.Cond.code mX12_arePassed.1 mX12_arePassed.2.1 mX12_arePassed.2.2.1 mX12_arePassed.2.2.2.1 ∈ xTb := List.mem_filter.mpr ⟨List.mem_of_getElem? (i := 1789) rfl, rfl⟩
set_option maxRecDepth 100000 in
theorem cw_X12_day : Jvm.Cond.code mX12_day.1 mX12_day.2.1 mX12_day.2.2.1 mX12_day.2.2.2.1 ∈ xTb := List.mem_filter.mpr ⟨List.mem_of_getElem? (i := 1785) rfl, rfl⟩
set_option maxRecDepth 100000 in
theorem cw_X12_isPlayed : Jvm.Cond.code mX12_isPlayed.1 mX12_isPlayed.2.1 mX12_isPlayed.2.2.1 mX12_isPlayed.2.2.2.1 ∈ xTb := List.mem_filter.mpr ⟨List.mem_of_getElem? (i := 1873) rfl, rfl⟩
set_option maxRecDepth 100000 in
theorem cw_X12_played : Jvm.Cond.code mX12_played.1 mX12_played.2.1 mX12_played.2.2.1 mX12_played.2.2.2.1 ∈ xTb := List.mem_filter.mpr ⟨List.mem_of_getElem? (i := 1869) rfl, rfl⟩
set_option maxRecDepth 100000 in
theorem cw_X12_happens : Jvm.Cond.code mX12_happens.1 mX12_happens.2.1 mX12_happens.2.2.1 mX12_happens.2.2.2.1 ∈ xTb := List.mem_filter.mpr ⟨List.mem_of_getElem? (i := 1886) rfl, rfl⟩
set_option maxRecDepth 100000 in
theorem cw_X12_years : Jvm.Cond.code mX12_years.1 mX12_years.2.1 mX12_years.2.2.1 mX12_years.2.2.2.1 ∈ xTb := List.mem_filter.mpr ⟨List.mem_of_getElem? (i := 1882) rfl, rfl⟩
set_option maxRecDepth 100000 in
theorem cw_X12_of : Jvm.Cond.code mX12_of.1 mX12_of.2.1 mX12_of.2.2.1 mX12_of.2.2.2.1 ∈ xTb := List.mem_filter.mpr ⟨List.mem_of_getElem? (i := 1890) rfl, rfl⟩
set_option maxRecDepth 100000 in
theorem cw_X12_is : Jvm.Cond.code mX12_is.1 mX12_is.2.1 mX12_is.2.2.1 mX12_is.2.2.2.1 ∈ xTb := List.mem_filter.mpr ⟨List.mem_of_getElem? (i := 1894) rfl, rfl⟩
set_option maxRecDepth 100000 in
theorem cw_X12_things : Jvm.Cond.code mX12_things.1 mX12_things.2.1 mX12_things.2.2.1 mX12_things.2.2.2.1 ∈ xTb := List.mem_filter.mpr ⟨List.mem_of_getElem? (i := 1899) rfl, rfl⟩
set_option maxRecDepth 100000 in
theorem cw_X12_brings : Jvm.Cond.code mX12_brings.1 mX12_brings.2.1 mX12_brings.2.2.1 mX12_brings.2.2.2.1 ∈ xTb := List.mem_filter.mpr ⟨List.mem_of_getElem? (i := 1903) rfl, rfl⟩
set_option maxRecDepth 100000 in
theorem cw_X12_lineOf : Jvm.Cond.code mX12_lineOf.1 mX12_lineOf.2.1 mX12_lineOf.2.2.1 mX12_lineOf.2.2.2.1 ∈ xTb := List.mem_filter.mpr ⟨List.mem_of_getElem? (i := 1911) rfl, rfl⟩
set_option maxRecDepth 100000 in
theorem cw_X12_book : Jvm.Cond.code mX12_book.1 mX12_book.2.1 mX12_book.2.2.1 mX12_book.2.2.2.1 ∈ xTb := List.mem_filter.mpr ⟨List.mem_of_getElem? (i := 1907) rfl, rfl⟩
set_option maxRecDepth 100000 in
theorem cw_X12_ledger : Jvm.Cond.code mX12_ledger.1 mX12_ledger.2.1 mX12_ledger.2.2.1 mX12_ledger.2.2.2.1 ∈ xTb := List.mem_filter.mpr ⟨List.mem_of_getElem? (i := 1915) rfl, rfl⟩
set_option maxRecDepth 100000 in
theorem cw_X12_eldest : Jvm.Cond.code mX12_eldest.1 mX12_eldest.2.1 mX12_eldest.2.2.1 mX12_eldest.2.2.2.1 ∈ xTb := List.mem_filter.mpr ⟨List.mem_of_getElem? (i := 1919) rfl, rfl⟩
set_option maxRecDepth 100000 in
theorem cw_X12_due : Jvm.Cond.code mX12_due.1 mX12_due.2.1 mX12_due.2.2.1 mX12_due.2.2.2.1 ∈ xTb := List.mem_filter.mpr ⟨List.mem_of_getElem? (i := 1923) rfl, rfl⟩
set_option maxRecDepth 100000 in
theorem cw_X12_foretold : Jvm.Cond.code mX12_foretold.1 mX12_foretold.2.1 mX12_foretold.2.2.1 mX12_foretold.2.2.2.1 ∈ xTb := List.mem_filter.mpr ⟨List.mem_of_getElem? (i := 1927) rfl, rfl⟩
set_option maxRecDepth 100000 in
theorem cw_X12_divisor : Jvm.Cond.code mX12_divisor.1 mX12_divisor.2.1 mX12_divisor.2.2.1 mX12_divisor.2.2.2.1 ∈ xTb := List.mem_filter.mpr ⟨List.mem_of_getElem? (i := 1951) rfl, rfl⟩
set_option maxRecDepth 100000 in
theorem cw_X12_part : Jvm.Cond.code mX12_part.1 mX12_part.2.1 mX12_part.2.2.1 mX12_part.2.2.2.1 ∈ xTb := List.mem_filter.mpr ⟨List.mem_of_getElem? (i := 1948) rfl, rfl⟩
set_option maxRecDepth 100000 in
theorem cw_X12_noRows : Jvm.Cond.code mX12_noRows.1 mX12_noRows.2.1 mX12_noRows.2.2.1 mX12_noRows.2.2.2.1 ∈ xTb := List.mem_filter.mpr ⟨List.mem_of_getElem? (i := 1940) rfl, rfl⟩
set_option maxRecDepth 100000 in
theorem cw_X12_oneMore : Jvm.Cond.code mX12_oneMore.1 mX12_oneMore.2.1 mX12_oneMore.2.2.1 mX12_oneMore.2.2.2.1 ∈ xTb := List.mem_filter.mpr ⟨List.mem_of_getElem? (i := 1944) rfl, rfl⟩
set_option maxRecDepth 100000 in
theorem cw_X12_layRows : Jvm.Cond.code mX12_layRows.1 mX12_layRows.2.1 mX12_layRows.2.2.1 mX12_layRows.2.2.2.1 ∈ xTb := List.mem_filter.mpr ⟨List.mem_of_getElem? (i := 1936) rfl, rfl⟩
set_option maxRecDepth 100000 in
theorem cw_X12_likely : Jvm.Cond.code mX12_likely.1 mX12_likely.2.1 mX12_likely.2.2.1 mX12_likely.2.2.2.1 ∈ xTb := List.mem_filter.mpr ⟨List.mem_of_getElem? (i := 1931) rfl, rfl⟩
set_option maxRecDepth 100000 in
theorem cw_X12_mean : Jvm.Cond.code mX12_mean.1 mX12_mean.2.1 mX12_mean.2.2.1 mX12_mean.2.2.2.1 ∈ xTb := List.mem_filter.mpr ⟨List.mem_of_getElem? (i := 1955) rfl, rfl⟩
set_option maxRecDepth 100000 in
theorem cw_X12_best : Jvm.Cond.code mX12_best.1 mX12_best.2.1 mX12_best.2.2.1 mX12_best.2.2.2.1 ∈ xTb := List.mem_filter.mpr ⟨List.mem_of_getElem? (i := 1959) rfl, rfl⟩
set_option maxRecDepth 100000 in
theorem cw_X12_morning : Jvm.Cond.code mX12_morning.1 mX12_morning.2.1 mX12_morning.2.2.1 mX12_morning.2.2.2.1 ∈ xTb := List.mem_filter.mpr ⟨List.mem_of_getElem? (i := 1964) rfl, rfl⟩
set_option maxRecDepth 100000 in
theorem cw_X12_isHabit : Jvm.Cond.code mX12_isHabit.1 mX12_isHabit.2.1 mX12_isHabit.2.2.1 mX12_isHabit.2.2.2.1 ∈ xTb := List.mem_filter.mpr ⟨List.mem_of_getElem? (i := 1972) rfl, rfl⟩
set_option maxRecDepth 100000 in
theorem cw_X12_habits : Jvm.Cond.code mX12_habits.1 mX12_habits.2.1 mX12_habits.2.2.1 mX12_habits.2.2.2.1 ∈ xTb := List.mem_filter.mpr ⟨List.mem_of_getElem? (i := 1968) rfl, rfl⟩
set_option maxRecDepth 100000 in
theorem cw_X12_firstHabit : Jvm.Cond.code mX12_firstHabit.1 mX12_firstHabit.2.1 mX12_firstHabit.2.2.1 mX12_firstHabit.2.2.2.1 ∈ xTb := List.mem_filter.mpr ⟨List.mem_of_getElem? (i := 1980) rfl, rfl⟩
set_option maxRecDepth 100000 in
theorem cw_X12_habit : Jvm.Cond.code mX12_habit.1 mX12_habit.2.1 mX12_habit.2.2.1 mX12_habit.2.2.2.1 ∈ xTb := List.mem_filter.mpr ⟨List.mem_of_getElem? (i := 1976) rfl, rfl⟩
set_option maxRecDepth 100000 in
theorem cw_X12_whom : Jvm.Cond.code mX12_whom.1 mX12_whom.2.1 mX12_whom.2.2.1 mX12_whom.2.2.2.1 ∈ xTb := List.mem_filter.mpr ⟨List.mem_of_getElem? (i := 1984) rfl, rfl⟩
set_option maxRecDepth 100000 in
theorem cw_X12_rota : Jvm.Cond.code mX12_rota.1 mX12_rota.2.1 mX12_rota.2.2.1 mX12_rota.2.2.2.1 ∈ xTb := List.mem_filter.mpr ⟨List.mem_of_getElem? (i := 1988) rfl, rfl⟩
set_option maxRecDepth 100000 in
theorem cw_X12_gather : Jvm.Cond.code mX12_gather.1 mX12_gather.2.1 mX12_gather.2.2.1 mX12_gather.2.2.2.1 ∈ xTb := List.mem_filter.mpr ⟨List.mem_of_getElem? (i := 1992) rfl, rfl⟩
set_option maxRecDepth 100000 in
theorem cw_X12_comes : Jvm.Cond.code mX12_comes.1 mX12_comes.2.1 mX12_comes.2.2.1 mX12_comes.2.2.2.1 ∈ xTb := List.mem_filter.mpr ⟨List.mem_of_getElem? (i := 1996) rfl, rfl⟩
set_option maxRecDepth 100000 in
theorem cw_X12_follows : Jvm.Cond.code mX12_follows.1 mX12_follows.2.1 mX12_follows.2.2.1 mX12_follows.2.2.2.1 ∈ xTb := List.mem_filter.mpr ⟨List.mem_of_getElem? (i := 2000) rfl, rfl⟩
set_option maxRecDepth 100000 in
theorem cw_X12_afterOf : Jvm.Cond.code mX12_afterOf.1 mX12_afterOf.2.1 mX12_afterOf.2.2.1 mX12_afterOf.2.2.2.1 ∈ xTb := List.mem_filter.mpr ⟨List.mem_of_getElem? (i := 2016) rfl, rfl⟩
set_option maxRecDepth 100000 in
theorem cw_X12_agree : Jvm.Cond.code mX12_agree.1 mX12_agree.2.1 mX12_agree.2.2.1 mX12_agree.2.2.2.1 ∈ xTb := List.mem_filter.mpr ⟨List.mem_of_getElem? (i := 2004) rfl, rfl⟩
set_option maxRecDepth 100000 in
theorem cw_X12_ringOf : Jvm.Cond.code mX12_ringOf.1 mX12_ringOf.2.1 mX12_ringOf.2.2.1 mX12_ringOf.2.2.2.1 ∈ xTb := List.mem_filter.mpr ⟨List.mem_of_getElem? (i := 2012) rfl, rfl⟩
set_option maxRecDepth 100000 in
theorem cw_X12_ring : Jvm.Cond.code mX12_ring.1 mX12_ring.2.1 mX12_ring.2.2.1 mX12_ring.2.2.2.1 ∈ xTb := List.mem_filter.mpr ⟨List.mem_of_getElem? (i := 2008) rfl, rfl⟩
set_option maxRecDepth 100000 in
theorem cw_X12_till : Jvm.Cond.code mX12_till.1 mX12_till.2.1 mX12_till.2.2.1 mX12_till.2.2.2.1 ∈ xTb := List.mem_filter.mpr ⟨List.mem_of_getElem? (i := 2020) rfl, rfl⟩
set_option maxRecDepth 100000 in
theorem cw_X12_after : Jvm.Cond.code mX12_after.1 mX12_after.2.1 mX12_after.2.2.1 mX12_after.2.2.2.1 ∈ xTb := List.mem_filter.mpr ⟨List.mem_of_getElem? (i := 2024) rfl, rfl⟩
set_option maxRecDepth 100000 in
theorem cw_X12_areOdds : Jvm.Cond.code mX12_areOdds.1 mX12_areOdds.2.1 mX12_areOdds.2.2.1 mX12_areOdds.2.2.2.1 ∈ xTb := List.mem_filter.mpr ⟨List.mem_of_getElem? (i := 2032) rfl, rfl⟩
set_option maxRecDepth 100000 in
theorem cw_X12_layTest : Jvm.Cond.code mX12_layTest.1 mX12_layTest.2.1 mX12_layTest.2.2.1 mX12_layTest.2.2.2.1 ∈ xTb := List.mem_filter.mpr ⟨List.mem_of_getElem? (i := 2036) rfl, rfl⟩
set_option maxRecDepth 100000 in
theorem cw_X12_rowsFrom : Jvm.Cond.code mX12_rowsFrom.1 mX12_rowsFrom.2.1 mX12_rowsFrom.2.2.1 mX12_rowsFrom.2.2.2.1 ∈ xTb := List.mem_filter.mpr ⟨List.mem_of_getElem? (i := 2040) rfl, rfl⟩
set_option maxRecDepth 100000 in
theorem cw_X12_test : Jvm.Cond.code mX12_test.1 mX12_test.2.1 mX12_test.2.2.1 mX12_test.2.2.2.1 ∈ xTb := List.mem_filter.mpr ⟨List.mem_of_getElem? (i := 2029) rfl, rfl⟩
set_option maxRecDepth 100000 in
theorem cw_X12_bound : Jvm.Cond.code mX12_bound.1 mX12_bound.2.1 mX12_bound.2.2.1 mX12_bound.2.2.2.1 ∈ xTb := List.mem_filter.mpr ⟨List.mem_of_getElem? (i := 2044) rfl, rfl⟩
set_option maxRecDepth 100000 in
theorem cw_X12_sure : Jvm.Cond.code mX12_sure.1 mX12_sure.2.1 mX12_sure.2.2.1 mX12_sure.2.2.2.1 ∈ xTb := List.mem_filter.mpr ⟨List.mem_of_getElem? (i := 2049) rfl, rfl⟩
set_option maxRecDepth 100000 in
theorem cw_X12_votes : Jvm.Cond.code mX12_votes.1 mX12_votes.2.1 mX12_votes.2.2.1 mX12_votes.2.2.2.1 ∈ xTb := List.mem_filter.mpr ⟨List.mem_of_getElem? (i := 2055) rfl, rfl⟩
set_option maxRecDepth 100000 in
theorem cw_X12_allVotes : Jvm.Cond.code mX12_allVotes.1 mX12_allVotes.2.1 mX12_allVotes.2.2.1 mX12_allVotes.2.2.2.1 ∈ xTb := List.mem_filter.mpr ⟨List.mem_of_getElem? (i := 2067) rfl, rfl⟩
set_option maxRecDepth 100000 in
theorem cw_X12_isAhead : Jvm.Cond.code mX12_isAhead.1 mX12_isAhead.2.1 mX12_isAhead.2.2.1 mX12_isAhead.2.2.2.1 ∈ xTb := List.mem_filter.mpr ⟨List.mem_of_getElem? (i := 2075) rfl, rfl⟩
set_option maxRecDepth 100000 in
theorem cw_X12_laySeats : Jvm.Cond.code mX12_laySeats.1 mX12_laySeats.2.1 mX12_laySeats.2.2.1 mX12_laySeats.2.2.2.1 ∈ xTb := List.mem_filter.mpr ⟨List.mem_of_getElem? (i := 2071) rfl, rfl⟩
set_option maxRecDepth 100000 in
theorem cw_X12_areSeats : Jvm.Cond.code mX12_areSeats.1 mX12_areSeats.2.1 mX12_areSeats.2.2.1 mX12_areSeats.2.2.2.1 ∈ xTb := List.mem_filter.mpr ⟨List.mem_of_getElem? (i := 2063) rfl, rfl⟩
set_option maxRecDepth 100000 in
theorem cw_X12_seats : Jvm.Cond.code mX12_seats.1 mX12_seats.2.1 mX12_seats.2.2.1 mX12_seats.2.2.2.1 ∈ xTb := List.mem_filter.mpr ⟨List.mem_of_getElem? (i := 2059) rfl, rfl⟩
set_option maxRecDepth 100000 in
theorem cw_X12_unlike : Jvm.Cond.code mX12_unlike.1 mX12_unlike.2.1 mX12_unlike.2.2.1 mX12_unlike.2.2.2.1 ∈ xTb := List.mem_filter.mpr ⟨List.mem_of_getElem? (i := 2079) rfl, rfl⟩
set_option maxRecDepth 100000 in
theorem cw_X12_ranks : Jvm.Cond.code mX12_ranks.1 mX12_ranks.2.1 mX12_ranks.2.2.1 mX12_ranks.2.2.2.1 ∈ xTb := List.mem_filter.mpr ⟨List.mem_of_getElem? (i := 2083) rfl, rfl⟩
set_option maxRecDepth 100000 in
theorem cw_X12_isCause : Jvm.Cond.code mX12_isCause.1 mX12_isCause.2.1 mX12_isCause.2.2.1 mX12_isCause.2.2.2.1 ∈ xTb := List.mem_filter.mpr ⟨List.mem_of_getElem? (i := 2090) rfl, rfl⟩
set_option maxRecDepth 100000 in
theorem cw_X12_factorial : Jvm.Cond.code mX12_factorial.1 mX12_factorial.2.1 mX12_factorial.2.2.1 mX12_factorial.2.2.2.1 ∈ xTb := List.mem_filter.mpr ⟨List.mem_of_getElem? (i := 2104) rfl, rfl⟩
set_option maxRecDepth 100000 in
theorem cw_X12_causeAt : Jvm.Cond.code mX12_causeAt.1 mX12_causeAt.2.1 mX12_causeAt.2.2.1 mX12_causeAt.2.2.2.1 ∈ xTb := List.mem_filter.mpr ⟨List.mem_of_getElem? (i := 2101) rfl, rfl⟩
set_option maxRecDepth 100000 in
theorem cw_X12_placeBy : Jvm.Cond.code mX12_placeBy.1 mX12_placeBy.2.1 mX12_placeBy.2.2.1 mX12_placeBy.2.2.2.1 ∈ xTb := List.mem_filter.mpr ⟨List.mem_of_getElem? (i := 2098) rfl, rfl⟩
set_option maxRecDepth 100000 in
theorem cw_X12_doesBeat : Jvm.Cond.code mX12_doesBeat.1 mX12_doesBeat.2.1 mX12_doesBeat.2.2.1 mX12_doesBeat.2.2.2.1 ∈ xTb := List.mem_filter.mpr ⟨List.mem_of_getElem? (i := 2094) rfl, rfl⟩
set_option maxRecDepth 100000 in
theorem cw_X12_beats : Jvm.Cond.code mX12_beats.1 mX12_beats.2.1 mX12_beats.2.2.1 mX12_beats.2.2.2.1 ∈ xTb := List.mem_filter.mpr ⟨List.mem_of_getElem? (i := 2087) rfl, rfl⟩
set_option maxRecDepth 100000 in
theorem cw_X12_winner : Jvm.Cond.code mX12_winner.1 mX12_winner.2.1 mX12_winner.2.2.1 mX12_winner.2.2.2.1 ∈ xTb := List.mem_filter.mpr ⟨List.mem_of_getElem? (i := 2108) rfl, rfl⟩
set_option maxRecDepth 100000 in
theorem cw_X12_points : Jvm.Cond.code mX12_points.1 mX12_points.2.1 mX12_points.2.2.1 mX12_points.2.2.2.1 ∈ xTb := List.mem_filter.mpr ⟨List.mem_of_getElem? (i := 2112) rfl, rfl⟩
set_option maxRecDepth 100000 in
theorem cw_X12_firstVotes : Jvm.Cond.code mX12_firstVotes.1 mX12_firstVotes.2.1 mX12_firstVotes.2.2.1 mX12_firstVotes.2.2.2.1 ∈ xTb := List.mem_filter.mpr ⟨List.mem_of_getElem? (i := 2120) rfl, rfl⟩
set_option maxRecDepth 100000 in
theorem cw_X12_runoff : Jvm.Cond.code mX12_runoff.1 mX12_runoff.2.1 mX12_runoff.2.2.1 mX12_runoff.2.2.2.1 ∈ xTb := List.mem_filter.mpr ⟨List.mem_of_getElem? (i := 2116) rfl, rfl⟩
set_option maxRecDepth 100000 in
theorem cw_X12_layFigures : Jvm.Cond.code mX12_layFigures.1 mX12_layFigures.2.1 mX12_layFigures.2.2.1 mX12_layFigures.2.2.2.1 ∈ xTb := List.mem_filter.mpr ⟨List.mem_of_getElem? (i := 2131) rfl, rfl⟩
set_option maxRecDepth 100000 in
theorem cw_X12_areTimes : Jvm.Cond.code mX12_areTimes.1 mX12_areTimes.2.1 mX12_areTimes.2.2.1 mX12_areTimes.2.2.2.1 ∈ xTb := List.mem_filter.mpr ⟨List.mem_of_getElem? (i := 2127) rfl, rfl⟩
set_option maxRecDepth 100000 in
theorem cw_X12_digits : Jvm.Cond.code mX12_digits.1 mX12_digits.2.1 mX12_digits.2.2.1 mX12_digits.2.2.2.1 ∈ xTb := List.mem_filter.mpr ⟨List.mem_of_getElem? (i := 2124) rfl, rfl⟩
set_option maxRecDepth 100000 in
theorem cw_X12_digit : Jvm.Cond.code mX12_digit.1 mX12_digit.2.1 mX12_digit.2.2.1 mX12_digit.2.2.2.1 ∈ xTb := List.mem_filter.mpr ⟨List.mem_of_getElem? (i := 2135) rfl, rfl⟩
set_option maxRecDepth 100000 in
theorem cw_X12_isGuess : Jvm.Cond.code mX12_isGuess.1 mX12_isGuess.2.1 mX12_isGuess.2.2.1 mX12_isGuess.2.2.2.1 ∈ xTb := List.mem_filter.mpr ⟨List.mem_of_getElem? (i := 2142) rfl, rfl⟩
set_option maxRecDepth 100000 in
theorem cw_X12_depth : Jvm.Cond.code mX12_depth.1 mX12_depth.2.1 mX12_depth.2.2.1 mX12_depth.2.2.2.1 ∈ xTb := List.mem_filter.mpr ⟨List.mem_of_getElem? (i := 2139) rfl, rfl⟩
set_option maxRecDepth 100000 in
theorem cw_X12_rests : Jvm.Cond.code mX12_rests.1 mX12_rests.2.1 mX12_rests.2.2.1 mX12_rests.2.2.2.1 ∈ xTb := List.mem_filter.mpr ⟨List.mem_of_getElem? (i := 2146) rfl, rfl⟩
set_option maxRecDepth 100000 in
theorem cw_X12_winAt : Jvm.Cond.code mX12_winAt.1 mX12_winAt.2.1 mX12_winAt.2.2.1 mX12_winAt.2.2.2.1 ∈ xTb := List.mem_filter.mpr ⟨List.mem_of_getElem? (i := 2158) rfl, rfl⟩
set_option maxRecDepth 100000 in
theorem cw_X12_takeOf : Jvm.Cond.code mX12_takeOf.1 mX12_takeOf.2.1 mX12_takeOf.2.2.1 mX12_takeOf.2.2.2.1 ∈ xTb := List.mem_filter.mpr ⟨List.mem_of_getElem? (i := 2162) rfl, rfl⟩
set_option maxRecDepth 100000 in
theorem cw_X12_layWins : Jvm.Cond.code mX12_layWins.1 mX12_layWins.2.1 mX12_layWins.2.2.1 mX12_layWins.2.2.2.1 ∈ xTb := List.mem_filter.mpr ⟨List.mem_of_getElem? (i := 2155) rfl, rfl⟩
set_option maxRecDepth 100000 in
theorem cw_X12_game : Jvm.Cond.code mX12_game.1 mX12_game.2.1 mX12_game.2.2.1 mX12_game.2.2.2.1 ∈ xTb := List.mem_filter.mpr ⟨List.mem_of_getElem? (i := 2151) rfl, rfl⟩
set_option maxRecDepth 100000 in
theorem cw_X12_take : Jvm.Cond.code mX12_take.1 mX12_take.2.1 mX12_take.2.2.1 mX12_take.2.2.2.1 ∈ xTb := List.mem_filter.mpr ⟨List.mem_of_getElem? (i := 2166) rfl, rfl⟩
set_option maxRecDepth 100000 in
theorem cw_X12_told : Jvm.Cond.code mX12_told.1 mX12_told.2.1 mX12_told.2.2.1 mX12_told.2.2.2.1 ∈ xTb := List.mem_filter.mpr ⟨List.mem_of_getElem? (i := 2170) rfl, rfl⟩
set_option maxRecDepth 100000 in
theorem cw_X12_whose : Jvm.Cond.code mX12_whose.1 mX12_whose.2.1 mX12_whose.2.2.1 mX12_whose.2.2.2.1 ∈ xTb := List.mem_filter.mpr ⟨List.mem_of_getElem? (i := 2174) rfl, rfl⟩
set_option maxRecDepth 100000 in
theorem cw_X12_image : Jvm.Cond.code mX12_image.1 mX12_image.2.1 mX12_image.2.2.1 mX12_image.2.2.2.1 ∈ xTb := List.mem_filter.mpr ⟨List.mem_of_getElem? (i := 2178) rfl, rfl⟩
set_option maxRecDepth 100000 in
theorem cw_X12_back : Jvm.Cond.code mX12_back.1 mX12_back.2.1 mX12_back.2.2.1 mX12_back.2.2.2.1 ∈ xTb := List.mem_filter.mpr ⟨List.mem_of_getElem? (i := 2182) rfl, rfl⟩
set_option maxRecDepth 100000 in
theorem cw_X12_about : Jvm.Cond.code mX12_about.1 mX12_about.2.1 mX12_about.2.2.1 mX12_about.2.2.2.1 ∈ xTb := List.mem_filter.mpr ⟨List.mem_of_getElem? (i := 2186) rfl, rfl⟩
set_option maxRecDepth 100000 in
theorem cw_J6_bitCount_0f7a4 : Jvm.Cond.code mJ6_bitCount_0f7a4.1 mJ6_bitCount_0f7a4.2.1 mJ6_bitCount_0f7a4.2.2.1 mJ6_bitCount_0f7a4.2.2.2.1 ∈ xTb := List.mem_filter.mpr ⟨List.mem_of_getElem? (i := 984) rfl, rfl⟩
set_option maxRecDepth 100000 in
theorem cw_J7_fill_d0a16 : Jvm.Cond.code mJ7_fill_d0a16.1 mJ7_fill_d0a16.2.1 mJ7_fill_d0a16.2.2.1 mJ7_fill_d0a16.2.2.2.1 ∈ xTb := List.mem_filter.mpr ⟨List.mem_of_getElem? (i := 1093) rfl, rfl⟩
set_option maxRecDepth 100000 in
theorem cw_J7_fill_53178 : Jvm.Cond.code mJ7_fill_53178.1 mJ7_fill_53178.2.1 mJ7_fill_53178.2.2.1 mJ7_fill_53178.2.2.2.1 ∈ xTb := List.mem_filter.mpr ⟨List.mem_of_getElem? (i := 1292) rfl, rfl⟩
set_option maxRecDepth 100000 in
theorem cw_J7_copyOf_59c91 : Jvm.Cond.code mJ7_copyOf_59c91.1 mJ7_copyOf_59c91.2.1 mJ7_copyOf_59c91.2.2.1 mJ7_copyOf_59c91.2.2.2.1 ∈ xTb := List.mem_filter.mpr ⟨List.mem_of_getElem? (i := 788) rfl, rfl⟩
set_option maxRecDepth 100000 in
theorem cw_J0_charAt_5068e : Jvm.Cond.code mJ0_charAt_5068e.1 mJ0_charAt_5068e.2.1 mJ0_charAt_5068e.2.2.1 mJ0_charAt_5068e.2.2.2.1 ∈ xTb := List.mem_filter.mpr ⟨List.mem_of_getElem? (i := 577) rfl, rfl⟩
set_option maxRecDepth 100000 in
theorem cw_J0_length_8abf5 : Jvm.Cond.code mJ0_length_8abf5.1 mJ0_length_8abf5.2.1 mJ0_length_8abf5.2.2.1 mJ0_length_8abf5.2.2.2.1 ∈ xTb := List.mem_filter.mpr ⟨List.mem_of_getElem? (i := 644) rfl, rfl⟩
set_option maxRecDepth 100000 in
theorem cw_J0_indexOf_0f7a4 : Jvm.Cond.code mJ0_indexOf_0f7a4.1 mJ0_indexOf_0f7a4.2.1 mJ0_indexOf_0f7a4.2.2.1 mJ0_indexOf_0f7a4.2.2.2.1 ∈ xTb := List.mem_filter.mpr ⟨List.mem_of_getElem? (i := 636) rfl, rfl⟩
set_option maxRecDepth 100000 in
theorem cw_J0_indexOf_7cf53 : Jvm.Cond.code mJ0_indexOf_7cf53.1 mJ0_indexOf_7cf53.2.1 mJ0_indexOf_7cf53.2.2.1 mJ0_indexOf_7cf53.2.2.2.1 ∈ xTb := List.mem_filter.mpr ⟨List.mem_of_getElem? (i := 640) rfl, rfl⟩
set_option maxRecDepth 100000 in
theorem cw_J0_coder_7d493 : Jvm.Cond.code mJ0_coder_7d493.1 mJ0_coder_7d493.2.1 mJ0_coder_7d493.2.2.1 mJ0_coder_7d493.2.2.2.1 ∈ xTb := List.mem_filter.mpr ⟨List.mem_of_getElem? (i := 648) rfl, rfl⟩
set_option maxRecDepth 100000 in
theorem cw_J0_isLatin1_aae02 : Jvm.Cond.code mJ0_isLatin1_aae02.1 mJ0_isLatin1_aae02.2.1 mJ0_isLatin1_aae02.2.2.1 mJ0_isLatin1_aae02.2.2.2.1 ∈ xTb := List.mem_filter.mpr ⟨List.mem_of_getElem? (i := 581) rfl, rfl⟩
set_option maxRecDepth 100000 in
theorem cw_J1_charAt_3b067 : Jvm.Cond.code mJ1_charAt_3b067.1 mJ1_charAt_3b067.2.1 mJ1_charAt_3b067.2.2.1 mJ1_charAt_3b067.2.2.2.1 ∈ xTb := List.mem_filter.mpr ⟨List.mem_of_getElem? (i := 586) rfl, rfl⟩
set_option maxRecDepth 100000 in
theorem cw_J1_canEncode_9a6ad : Jvm.Cond.code mJ1_canEncode_9a6ad.1 mJ1_canEncode_9a6ad.2.1 mJ1_canEncode_9a6ad.2.2.1 mJ1_canEncode_9a6ad.2.2.2.1 ∈ xTb := List.mem_filter.mpr ⟨List.mem_of_getElem? (i := 654) rfl, rfl⟩
set_option maxRecDepth 100000 in
theorem cw_J1_indexOf_4cfef : Jvm.Cond.code mJ1_indexOf_4cfef.1 mJ1_indexOf_4cfef.2.1 mJ1_indexOf_4cfef.2.2.1 mJ1_indexOf_4cfef.2.2.2.1 ∈ xTb := List.mem_filter.mpr ⟨List.mem_of_getElem? (i := 651) rfl, rfl⟩
set_option maxRecDepth 100000 in
theorem cw_J1_indexOfChar_4cfef : Jvm.Cond.code mJ1_indexOfChar_4cfef.1 mJ1_indexOfChar_4cfef.2.1 mJ1_indexOfChar_4cfef.2.2.1 mJ1_indexOfChar_4cfef.2.2.2.1 ∈ xTb := List.mem_filter.mpr ⟨List.mem_of_getElem? (i := 661) rfl, rfl⟩
set_option maxRecDepth 100000 in
theorem cw_J0_checkIndex_df160 : Jvm.Cond.code mJ0_checkIndex_df160.1 mJ0_checkIndex_df160.2.1 mJ0_checkIndex_df160.2.2.1 mJ0_checkIndex_df160.2.2.2.1 ∈ xTb := List.mem_filter.mpr ⟨List.mem_of_getElem? (i := 589) rfl, rfl⟩
set_option maxRecDepth 100000 in
theorem cw_J3_checkIndex_8e157 : Jvm.Cond.code mJ3_checkIndex_8e157.1 mJ3_checkIndex_8e157.2.1 mJ3_checkIndex_8e157.2.2.1 mJ3_checkIndex_8e157.2.2.2.1 ∈ xTb := List.mem_filter.mpr ⟨List.mem_of_getElem? (i := 594) rfl, rfl⟩
theorem xOk_all : ∀ l ∈ xPl, ∀ M ∈ l, xOkM M = true := by
  intro l hl
  rcases List.mem_cons.mp hl with rfl | hl
  · exact List.forall_mem_cons.mpr ⟨ck_X0_init, List.forall_mem_cons.mpr ⟨ck_X0_copy, List.forall_mem_cons.mpr ⟨ck_X0_addBird, List.forall_mem_cons.mpr ⟨ck_X0_addText, List.forall_mem_cons.mpr ⟨ck_X0_addTold, List.forall_mem_cons.mpr ⟨ck_X0_hasBird, List.forall_mem_cons.mpr ⟨ck_X0_hasText, List.forall_mem_cons.mpr ⟨ck_X0_textAt, List.forall_mem_cons.mpr ⟨ck_X0_rulingText, List.forall_mem_cons.mpr ⟨ck_X0_isDue, List.forall_mem_cons.mpr ⟨ck_X0_dueOn, List.forall_mem_cons.mpr ⟨ck_X0_canThin, List.forall_mem_cons.mpr ⟨ck_X0_canCall, List.forall_mem_cons.mpr ⟨ck_X0_canGrant, List.forall_mem_cons.mpr ⟨ck_X0_canPass, List.forall_mem_cons.mpr ⟨ck_X1_init, fun _ h => absurd h List.not_mem_nil⟩⟩⟩⟩⟩⟩⟩⟩⟩⟩⟩⟩⟩⟩⟩⟩
  rcases List.mem_cons.mp hl with rfl | hl
  · exact List.forall_mem_cons.mpr ⟨ck_X1_chanceOf, List.forall_mem_cons.mpr ⟨ck_X1_broughtBy, List.forall_mem_cons.mpr ⟨ck_X1_run, List.forall_mem_cons.mpr ⟨ck_X1_isOfOne, List.forall_mem_cons.mpr ⟨ck_X1_isOfTwo, List.forall_mem_cons.mpr ⟨ck_X1_named, List.forall_mem_cons.mpr ⟨ck_X1_ofOne, List.forall_mem_cons.mpr ⟨ck_X1_ofTwo, List.forall_mem_cons.mpr ⟨ck_X1_isSo, List.forall_mem_cons.mpr ⟨ck_X2_init, List.forall_mem_cons.mpr ⟨ck_X2_copy, List.forall_mem_cons.mpr ⟨ck_X2_isGone, List.forall_mem_cons.mpr ⟨ck_X2_markGone, List.forall_mem_cons.mpr ⟨ck_X2_markBack, List.forall_mem_cons.mpr ⟨ck_X2_noteCame, List.forall_mem_cons.mpr ⟨ck_X2_draw, fun _ h => absurd h List.not_mem_nil⟩⟩⟩⟩⟩⟩⟩⟩⟩⟩⟩⟩⟩⟩⟩⟩
  rcases List.mem_cons.mp hl with rfl | hl
  · exact List.forall_mem_cons.mpr ⟨ck_X2_write, List.forall_mem_cons.mpr ⟨ck_X2_onPage, List.forall_mem_cons.mpr ⟨ck_X2_countWritten, List.forall_mem_cons.mpr ⟨ck_X3_init, List.forall_mem_cons.mpr ⟨ck_X3_copy, List.forall_mem_cons.mpr ⟨ck_X3_add, List.forall_mem_cons.mpr ⟨ck_X3_fits, List.forall_mem_cons.mpr ⟨ck_X3_countFitting, List.forall_mem_cons.mpr ⟨ck_X3_leastPeriod, List.forall_mem_cons.mpr ⟨ck_X3_leastPhase, List.forall_mem_cons.mpr ⟨ck_X3_nextDay, List.forall_mem_cons.mpr ⟨ck_X4_init, List.forall_mem_cons.mpr ⟨ck_X4_copy, List.forall_mem_cons.mpr ⟨ck_X4_allVotes, List.forall_mem_cons.mpr ⟨ck_X4_seatsByShares, List.forall_mem_cons.mpr ⟨ck_X4_seatsByRests, fun _ h => absurd h List.not_mem_nil⟩⟩⟩⟩⟩⟩⟩⟩⟩⟩⟩⟩⟩⟩⟩⟩
  rcases List.mem_cons.mp hl with rfl | hl
  · exact List.forall_mem_cons.mpr ⟨ck_X4_differing, List.forall_mem_cons.mpr ⟨ck_X4_causeAt, List.forall_mem_cons.mpr ⟨ck_X4_placeOf, List.forall_mem_cons.mpr ⟨ck_X4_isAhead, List.forall_mem_cons.mpr ⟨ck_X4_aheadOfAll, List.forall_mem_cons.mpr ⟨ck_X4_pointsFor, List.forall_mem_cons.mpr ⟨ck_X4_lastLeft, List.forall_mem_cons.mpr ⟨ck_X4_weakest, List.forall_mem_cons.mpr ⟨ck_X4_firstVotes, List.forall_mem_cons.mpr ⟨ck_X5_init, List.forall_mem_cons.mpr ⟨ck_X5_readTape, List.forall_mem_cons.mpr ⟨ck_X5_kind, List.forall_mem_cons.mpr ⟨ck_X5_fail, List.forall_mem_cons.mpr ⟨ck_X5_expect, List.forall_mem_cons.mpr ⟨ck_X5_readNumber, List.forall_mem_cons.mpr ⟨ck_X5_readClause, fun _ h => absurd h List.not_mem_nil⟩⟩⟩⟩⟩⟩⟩⟩⟩⟩⟩⟩⟩⟩⟩⟩
  rcases List.mem_cons.mp hl with rfl | hl
  · exact List.forall_mem_cons.mpr ⟨ck_X5_isVerb, List.forall_mem_cons.mpr ⟨ck_X5_readNumbers, List.forall_mem_cons.mpr ⟨ck_X5_readLaw, List.forall_mem_cons.mpr ⟨ck_X5_emit, List.forall_mem_cons.mpr ⟨ck_X5_readSum, List.forall_mem_cons.mpr ⟨ck_X5_readProduct, List.forall_mem_cons.mpr ⟨ck_X5_readOne, List.forall_mem_cons.mpr ⟨ck_X5_opensOne, List.forall_mem_cons.mpr ⟨ck_X5_readName, List.forall_mem_cons.mpr ⟨ck_X5_readOpened, List.forall_mem_cons.mpr ⟨ck_X5_readChoice, List.forall_mem_cons.mpr ⟨ck_X5_aim, List.forall_mem_cons.mpr ⟨ck_X5_readEither, List.forall_mem_cons.mpr ⟨ck_X5_readBoth, List.forall_mem_cons.mpr ⟨ck_X5_readAsk, List.forall_mem_cons.mpr ⟨ck_X5_readCompared, fun _ h => absurd h List.not_mem_nil⟩⟩⟩⟩⟩⟩⟩⟩⟩⟩⟩⟩⟩⟩⟩⟩
  rcases List.mem_cons.mp hl with rfl | hl
  · exact List.forall_mem_cons.mpr ⟨ck_X6_init, List.forall_mem_cons.mpr ⟨ck_X6_copy, List.forall_mem_cons.mpr ⟨ck_X6_selfFollowing, List.forall_mem_cons.mpr ⟨ck_X6_sizeAt, List.forall_mem_cons.mpr ⟨ck_X6_smallest, List.forall_mem_cons.mpr ⟨ck_X6_stepsToRing, List.forall_mem_cons.mpr ⟨ck_X6_behind, List.forall_mem_cons.mpr ⟨ck_X6_walked, List.forall_mem_cons.mpr ⟨ck_X7_init, List.forall_mem_cons.mpr ⟨ck_X7_begin, List.forall_mem_cons.mpr ⟨ck_X7_addOne, List.forall_mem_cons.mpr ⟨ck_X7_ofTrials, List.forall_mem_cons.mpr ⟨ck_X7_just, List.forall_mem_cons.mpr ⟨ck_X7_orMore, List.forall_mem_cons.mpr ⟨ck_X8_init, List.forall_mem_cons.mpr ⟨ck_X8_copy, fun _ h => absurd h List.not_mem_nil⟩⟩⟩⟩⟩⟩⟩⟩⟩⟩⟩⟩⟩⟩⟩⟩
  rcases List.mem_cons.mp hl with rfl | hl
  · exact List.forall_mem_cons.mpr ⟨ck_X8_keep, List.forall_mem_cons.mpr ⟨ck_X8_takeBack, List.forall_mem_cons.mpr ⟨ck_X9_init, List.forall_mem_cons.mpr ⟨ck_X9_add, List.forall_mem_cons.mpr ⟨ck_X9_scan, List.forall_mem_cons.mpr ⟨ck_X9_put, List.forall_mem_cons.mpr ⟨ck_X9_scanToken, List.forall_mem_cons.mpr ⟨ck_X9_scanWord, List.forall_mem_cons.mpr ⟨ck_X9_scanNumber, List.forall_mem_cons.mpr ⟨ck_X9_scanSign, List.forall_mem_cons.mpr ⟨ck_X9_kindOfWord, List.forall_mem_cons.mpr ⟨ck_X9_isLetter, List.forall_mem_cons.mpr ⟨ck_X9_isDigit, List.forall_mem_cons.mpr ⟨ck_X10_init, List.forall_mem_cons.mpr ⟨ck_X11_init, List.forall_mem_cons.mpr ⟨ck_X11_bird, fun _ h => absurd h List.not_mem_nil⟩⟩⟩⟩⟩⟩⟩⟩⟩⟩⟩⟩⟩⟩⟩⟩
  rcases List.mem_cons.mp hl with rfl | hl
  · exact List.forall_mem_cons.mpr ⟨ck_X11_rhyme, List.forall_mem_cons.mpr ⟨ck_X11_feed, List.forall_mem_cons.mpr ⟨ck_X11_end, List.forall_mem_cons.mpr ⟨ck_X11_text, List.forall_mem_cons.mpr ⟨ck_X11_fault, List.forall_mem_cons.mpr ⟨ck_X11_by, List.forall_mem_cons.mpr ⟨ck_X11_thin, List.forall_mem_cons.mpr ⟨ck_X11_call, List.forall_mem_cons.mpr ⟨ck_X11_grant, List.forall_mem_cons.mpr ⟨ck_X11_day, List.forall_mem_cons.mpr ⟨ck_X11_played, List.forall_mem_cons.mpr ⟨ck_X11_years, List.forall_mem_cons.mpr ⟨ck_X11_undo, List.forall_mem_cons.mpr ⟨ck_X11_of, List.forall_mem_cons.mpr ⟨ck_X11_is, List.forall_mem_cons.mpr ⟨ck_X11_things, fun _ h => absurd h List.not_mem_nil⟩⟩⟩⟩⟩⟩⟩⟩⟩⟩⟩⟩⟩⟩⟩⟩
  rcases List.mem_cons.mp hl with rfl | hl
  · exact List.forall_mem_cons.mpr ⟨ck_X11_brings, List.forall_mem_cons.mpr ⟨ck_X11_book, List.forall_mem_cons.mpr ⟨ck_X11_foretold, List.forall_mem_cons.mpr ⟨ck_X11_likely, List.forall_mem_cons.mpr ⟨ck_X11_mean, List.forall_mem_cons.mpr ⟨ck_X11_best, List.forall_mem_cons.mpr ⟨ck_X11_morning, List.forall_mem_cons.mpr ⟨ck_X11_habits, List.forall_mem_cons.mpr ⟨ck_X11_habit, List.forall_mem_cons.mpr ⟨ck_X11_whom, List.forall_mem_cons.mpr ⟨ck_X11_rota, List.forall_mem_cons.mpr ⟨ck_X11_gather, List.forall_mem_cons.mpr ⟨ck_X11_comes, List.forall_mem_cons.mpr ⟨ck_X11_follows, List.forall_mem_cons.mpr ⟨ck_X11_agree, List.forall_mem_cons.mpr ⟨ck_X11_ring, fun _ h => absurd h List.not_mem_nil⟩⟩⟩⟩⟩⟩⟩⟩⟩⟩⟩⟩⟩⟩⟩⟩
  rcases List.mem_cons.mp hl with rfl | hl
  · exact List.forall_mem_cons.mpr ⟨ck_X11_till, List.forall_mem_cons.mpr ⟨ck_X11_after, List.forall_mem_cons.mpr ⟨ck_X11_test, List.forall_mem_cons.mpr ⟨ck_X11_bound, List.forall_mem_cons.mpr ⟨ck_X11_sure, List.forall_mem_cons.mpr ⟨ck_X11_votes, List.forall_mem_cons.mpr ⟨ck_X11_seats, List.forall_mem_cons.mpr ⟨ck_X11_unlike, List.forall_mem_cons.mpr ⟨ck_X11_ranks, List.forall_mem_cons.mpr ⟨ck_X11_beats, List.forall_mem_cons.mpr ⟨ck_X11_winner, List.forall_mem_cons.mpr ⟨ck_X11_points, List.forall_mem_cons.mpr ⟨ck_X11_runoff, List.forall_mem_cons.mpr ⟨ck_X11_digits, List.forall_mem_cons.mpr ⟨ck_X11_digit, List.forall_mem_cons.mpr ⟨ck_X11_depth, fun _ h => absurd h List.not_mem_nil⟩⟩⟩⟩⟩⟩⟩⟩⟩⟩⟩⟩⟩⟩⟩⟩
  rcases List.mem_cons.mp hl with rfl | hl
  · exact List.forall_mem_cons.mpr ⟨ck_X11_rests, List.forall_mem_cons.mpr ⟨ck_X11_game, List.forall_mem_cons.mpr ⟨ck_X11_take, List.forall_mem_cons.mpr ⟨ck_X11_told, List.forall_mem_cons.mpr ⟨ck_X11_whose, List.forall_mem_cons.mpr ⟨ck_X11_eldest, List.forall_mem_cons.mpr ⟨ck_X11_due, List.forall_mem_cons.mpr ⟨ck_X11_ledger, List.forall_mem_cons.mpr ⟨ck_X11_image, List.forall_mem_cons.mpr ⟨ck_X11_back, List.forall_mem_cons.mpr ⟨ck_X11_about, List.forall_mem_cons.mpr ⟨ck_X11_passSteps, List.forall_mem_cons.mpr ⟨ck_X11_passDay, List.forall_mem_cons.mpr ⟨ck_X11_playClause, List.forall_mem_cons.mpr ⟨ck_X11_drawYear, List.forall_mem_cons.mpr ⟨ck_X11_noteChances, fun _ h => absurd h List.not_mem_nil⟩⟩⟩⟩⟩⟩⟩⟩⟩⟩⟩⟩⟩⟩⟩⟩
  rcases List.mem_cons.mp hl with rfl | hl
  · exact List.forall_mem_cons.mpr ⟨ck_X11_spreadOver, List.forall_mem_cons.mpr ⟨ck_X11_bestThinned, List.forall_mem_cons.mpr ⟨ck_X11_canCome, List.forall_mem_cons.mpr ⟨ck_X11_leastBound, List.forall_mem_cons.mpr ⟨ck_X11_bringsAllTold, List.forall_mem_cons.mpr ⟨ck_X11_raise, List.forall_mem_cons.mpr ⟨ck_X11_multiply, List.forall_mem_cons.mpr ⟨ck_X11_deeper, List.forall_mem_cons.mpr ⟨ck_X11_leastPart, List.forall_mem_cons.mpr ⟨ck_X11_firstOfHabit, List.forall_mem_cons.mpr ⟨ck_X11_leastCommon, List.forall_mem_cons.mpr ⟨ck_X11_greatestCommon, List.forall_mem_cons.mpr ⟨ck_X11_lowest, List.forall_mem_cons.mpr ⟨ck_X11_within, List.forall_mem_cons.mpr ⟨ck_X11_held, List.forall_mem_cons.mpr ⟨ck_X11_isCount, fun _ h => absurd h List.not_mem_nil⟩⟩⟩⟩⟩⟩⟩⟩⟩⟩⟩⟩⟩⟩⟩⟩
  rcases List.mem_cons.mp hl with rfl | hl
  · exact List.forall_mem_cons.mpr ⟨ck_X11_isParish, List.forall_mem_cons.mpr ⟨ck_X11_isCause, List.forall_mem_cons.mpr ⟨ck_X11_isIn, List.forall_mem_cons.mpr ⟨ck_X12_init, List.forall_mem_cons.mpr ⟨ck_X12_copy, List.forall_mem_cons.mpr ⟨ck_X12_isIn, List.forall_mem_cons.mpr ⟨ck_X12_held, List.forall_mem_cons.mpr ⟨ck_X12_has, List.forall_mem_cons.mpr ⟨ck_X12_bits, List.forall_mem_cons.mpr ⟨ck_X12_isBird, List.forall_mem_cons.mpr ⟨ck_X12_isCount, List.forall_mem_cons.mpr ⟨ck_X12_isGone, List.forall_mem_cons.mpr ⟨ck_X12_isDue, List.forall_mem_cons.mpr ⟨ck_X12_dueBy, List.forall_mem_cons.mpr ⟨ck_X12_dueNow, List.forall_mem_cons.mpr ⟨ck_X12_bird, fun _ h => absurd h List.not_mem_nil⟩⟩⟩⟩⟩⟩⟩⟩⟩⟩⟩⟩⟩⟩⟩⟩
  rcases List.mem_cons.mp hl with rfl | hl
  · exact List.forall_mem_cons.mpr ⟨ck_X12_rhyme, List.forall_mem_cons.mpr ⟨ck_X12_four, List.forall_mem_cons.mpr ⟨ck_X12_feed, List.forall_mem_cons.mpr ⟨ck_X12_end, List.forall_mem_cons.mpr ⟨ck_X12_byteAt, List.forall_mem_cons.mpr ⟨ck_X12_isLetterByte, List.forall_mem_cons.mpr ⟨ck_X12_isFigure, List.forall_mem_cons.mpr ⟨ck_X12_isSign, List.forall_mem_cons.mpr ⟨ck_X12_nextToken, List.forall_mem_cons.mpr ⟨ck_X12_w2, List.forall_mem_cons.mpr ⟨ck_X12_w3, List.forall_mem_cons.mpr ⟨ck_X12_w4, List.forall_mem_cons.mpr ⟨ck_X12_w5, List.forall_mem_cons.mpr ⟨ck_X12_w6, List.forall_mem_cons.mpr ⟨ck_X12_isWord, List.forall_mem_cons.mpr ⟨ck_X12_emit, fun _ h => absurd h List.not_mem_nil⟩⟩⟩⟩⟩⟩⟩⟩⟩⟩⟩⟩⟩⟩⟩⟩
  rcases List.mem_cons.mp hl with rfl | hl
  · exact List.forall_mem_cons.mpr ⟨ck_X12_nameOf, List.forall_mem_cons.mpr ⟨ck_X12_isOf, List.forall_mem_cons.mpr ⟨ck_X12_rank, List.forall_mem_cons.mpr ⟨ck_X12_settle, List.forall_mem_cons.mpr ⟨ck_X12_openAt, List.forall_mem_cons.mpr ⟨ck_X12_openNow, List.forall_mem_cons.mpr ⟨ck_X12_isCompared, List.forall_mem_cons.mpr ⟨ck_X12_isAskAhead, List.forall_mem_cons.mpr ⟨ck_X12_opened, List.forall_mem_cons.mpr ⟨ck_X12_beginOne, List.forall_mem_cons.mpr ⟨ck_X12_compareOf, List.forall_mem_cons.mpr ⟨ck_X12_betweenOf, List.forall_mem_cons.mpr ⟨ck_X12_partOf, List.forall_mem_cons.mpr ⟨ck_X12_behindOne, List.forall_mem_cons.mpr ⟨ck_X12_summed, List.forall_mem_cons.mpr ⟨ck_X12_figure, fun _ h => absurd h List.not_mem_nil⟩⟩⟩⟩⟩⟩⟩⟩⟩⟩⟩⟩⟩⟩⟩⟩
  rcases List.mem_cons.mp hl with rfl | hl
  · exact List.forall_mem_cons.mpr ⟨ck_X12_lawClause, List.forall_mem_cons.mpr ⟨ck_X12_pair, List.forall_mem_cons.mpr ⟨ck_X12_body, List.forall_mem_cons.mpr ⟨ck_X12_sortOf, List.forall_mem_cons.mpr ⟨ck_X12_clause, List.forall_mem_cons.mpr ⟨ck_X12_readText, List.forall_mem_cons.mpr ⟨ck_X12_text, List.forall_mem_cons.mpr ⟨ck_X12_fault, List.forall_mem_cons.mpr ⟨ck_X12_by, List.forall_mem_cons.mpr ⟨ck_X12_clip, List.forall_mem_cons.mpr ⟨ck_X12_two, List.forall_mem_cons.mpr ⟨ck_X12_isAsked, List.forall_mem_cons.mpr ⟨ck_X12_ofOne, List.forall_mem_cons.mpr ⟨ck_X12_joined, List.forall_mem_cons.mpr ⟨ck_X12_summedUp, List.forall_mem_cons.mpr ⟨ck_X12_says, fun _ h => absurd h List.not_mem_nil⟩⟩⟩⟩⟩⟩⟩⟩⟩⟩⟩⟩⟩⟩⟩⟩
  rcases List.mem_cons.mp hl with rfl | hl
  · exact List.forall_mem_cons.mpr ⟨ck_X12_name, List.forall_mem_cons.mpr ⟨ck_X12_chanceOf, List.forall_mem_cons.mpr ⟨ck_X12_bringsOf, List.forall_mem_cons.mpr ⟨ck_X12_write, List.forall_mem_cons.mpr ⟨ck_X12_drawnBy, List.forall_mem_cons.mpr ⟨ck_X12_anew, List.forall_mem_cons.mpr ⟨ck_X12_canGrant, List.forall_mem_cons.mpr ⟨ck_X12_pass, List.forall_mem_cons.mpr ⟨ck_X12_keep, List.forall_mem_cons.mpr ⟨ck_X12_undo, List.forall_mem_cons.mpr ⟨ck_X12_thin, List.forall_mem_cons.mpr ⟨ck_X12_call, List.forall_mem_cons.mpr ⟨ck_X12_grant, List.forall_mem_cons.mpr ⟨ck_X12_arePassed, List.forall_mem_cons.mpr ⟨ck_X12_day, List.forall_mem_cons.mpr ⟨ck_X12_isPlayed, fun _ h => absurd h List.not_mem_nil⟩⟩⟩⟩⟩⟩⟩⟩⟩⟩⟩⟩⟩⟩⟩⟩
  rcases List.mem_cons.mp hl with rfl | hl
  · exact List.forall_mem_cons.mpr ⟨ck_X12_played, List.forall_mem_cons.mpr ⟨ck_X12_happens, List.forall_mem_cons.mpr ⟨ck_X12_years, List.forall_mem_cons.mpr ⟨ck_X12_of, List.forall_mem_cons.mpr ⟨ck_X12_is, List.forall_mem_cons.mpr ⟨ck_X12_things, List.forall_mem_cons.mpr ⟨ck_X12_brings, List.forall_mem_cons.mpr ⟨ck_X12_lineOf, List.forall_mem_cons.mpr ⟨ck_X12_book, List.forall_mem_cons.mpr ⟨ck_X12_ledger, List.forall_mem_cons.mpr ⟨ck_X12_eldest, List.forall_mem_cons.mpr ⟨ck_X12_due, List.forall_mem_cons.mpr ⟨ck_X12_foretold, List.forall_mem_cons.mpr ⟨ck_X12_divisor, List.forall_mem_cons.mpr ⟨ck_X12_part, List.forall_mem_cons.mpr ⟨ck_X12_noRows, fun _ h => absurd h List.not_mem_nil⟩⟩⟩⟩⟩⟩⟩⟩⟩⟩⟩⟩⟩⟩⟩⟩
  rcases List.mem_cons.mp hl with rfl | hl
  · exact List.forall_mem_cons.mpr ⟨ck_X12_oneMore, List.forall_mem_cons.mpr ⟨ck_X12_layRows, List.forall_mem_cons.mpr ⟨ck_X12_likely, List.forall_mem_cons.mpr ⟨ck_X12_mean, List.forall_mem_cons.mpr ⟨ck_X12_best, List.forall_mem_cons.mpr ⟨ck_X12_morning, List.forall_mem_cons.mpr ⟨ck_X12_isHabit, List.forall_mem_cons.mpr ⟨ck_X12_habits, List.forall_mem_cons.mpr ⟨ck_X12_firstHabit, List.forall_mem_cons.mpr ⟨ck_X12_habit, List.forall_mem_cons.mpr ⟨ck_X12_whom, List.forall_mem_cons.mpr ⟨ck_X12_rota, List.forall_mem_cons.mpr ⟨ck_X12_gather, List.forall_mem_cons.mpr ⟨ck_X12_comes, List.forall_mem_cons.mpr ⟨ck_X12_follows, List.forall_mem_cons.mpr ⟨ck_X12_afterOf, fun _ h => absurd h List.not_mem_nil⟩⟩⟩⟩⟩⟩⟩⟩⟩⟩⟩⟩⟩⟩⟩⟩
  rcases List.mem_cons.mp hl with rfl | hl
  · exact List.forall_mem_cons.mpr ⟨ck_X12_agree, List.forall_mem_cons.mpr ⟨ck_X12_ringOf, List.forall_mem_cons.mpr ⟨ck_X12_ring, List.forall_mem_cons.mpr ⟨ck_X12_till, List.forall_mem_cons.mpr ⟨ck_X12_after, List.forall_mem_cons.mpr ⟨ck_X12_areOdds, List.forall_mem_cons.mpr ⟨ck_X12_layTest, List.forall_mem_cons.mpr ⟨ck_X12_rowsFrom, List.forall_mem_cons.mpr ⟨ck_X12_test, List.forall_mem_cons.mpr ⟨ck_X12_bound, List.forall_mem_cons.mpr ⟨ck_X12_sure, List.forall_mem_cons.mpr ⟨ck_X12_votes, List.forall_mem_cons.mpr ⟨ck_X12_allVotes, List.forall_mem_cons.mpr ⟨ck_X12_isAhead, List.forall_mem_cons.mpr ⟨ck_X12_laySeats, List.forall_mem_cons.mpr ⟨ck_X12_areSeats, fun _ h => absurd h List.not_mem_nil⟩⟩⟩⟩⟩⟩⟩⟩⟩⟩⟩⟩⟩⟩⟩⟩
  rcases List.mem_cons.mp hl with rfl | hl
  · exact List.forall_mem_cons.mpr ⟨ck_X12_seats, List.forall_mem_cons.mpr ⟨ck_X12_unlike, List.forall_mem_cons.mpr ⟨ck_X12_ranks, List.forall_mem_cons.mpr ⟨ck_X12_isCause, List.forall_mem_cons.mpr ⟨ck_X12_factorial, List.forall_mem_cons.mpr ⟨ck_X12_causeAt, List.forall_mem_cons.mpr ⟨ck_X12_placeBy, List.forall_mem_cons.mpr ⟨ck_X12_doesBeat, List.forall_mem_cons.mpr ⟨ck_X12_beats, List.forall_mem_cons.mpr ⟨ck_X12_winner, List.forall_mem_cons.mpr ⟨ck_X12_points, List.forall_mem_cons.mpr ⟨ck_X12_firstVotes, List.forall_mem_cons.mpr ⟨ck_X12_runoff, List.forall_mem_cons.mpr ⟨ck_X12_layFigures, List.forall_mem_cons.mpr ⟨ck_X12_areTimes, List.forall_mem_cons.mpr ⟨ck_X12_digits, fun _ h => absurd h List.not_mem_nil⟩⟩⟩⟩⟩⟩⟩⟩⟩⟩⟩⟩⟩⟩⟩⟩
  rcases List.mem_cons.mp hl with rfl | hl
  · exact List.forall_mem_cons.mpr ⟨ck_X12_digit, List.forall_mem_cons.mpr ⟨ck_X12_isGuess, List.forall_mem_cons.mpr ⟨ck_X12_depth, List.forall_mem_cons.mpr ⟨ck_X12_rests, List.forall_mem_cons.mpr ⟨ck_X12_winAt, List.forall_mem_cons.mpr ⟨ck_X12_takeOf, List.forall_mem_cons.mpr ⟨ck_X12_layWins, List.forall_mem_cons.mpr ⟨ck_X12_game, List.forall_mem_cons.mpr ⟨ck_X12_take, List.forall_mem_cons.mpr ⟨ck_X12_told, List.forall_mem_cons.mpr ⟨ck_X12_whose, List.forall_mem_cons.mpr ⟨ck_X12_image, List.forall_mem_cons.mpr ⟨ck_X12_back, List.forall_mem_cons.mpr ⟨ck_X12_about, List.forall_mem_cons.mpr ⟨ck_J6_bitCount_0f7a4, List.forall_mem_cons.mpr ⟨ck_J7_fill_d0a16, fun _ h => absurd h List.not_mem_nil⟩⟩⟩⟩⟩⟩⟩⟩⟩⟩⟩⟩⟩⟩⟩⟩
  rcases List.mem_cons.mp hl with rfl | hl
  · exact List.forall_mem_cons.mpr ⟨ck_J7_fill_53178, List.forall_mem_cons.mpr ⟨ck_J7_copyOf_59c91, List.forall_mem_cons.mpr ⟨ck_J0_charAt_5068e, List.forall_mem_cons.mpr ⟨ck_J0_length_8abf5, List.forall_mem_cons.mpr ⟨ck_J0_indexOf_0f7a4, List.forall_mem_cons.mpr ⟨ck_J0_indexOf_7cf53, List.forall_mem_cons.mpr ⟨ck_J0_coder_7d493, List.forall_mem_cons.mpr ⟨ck_J0_isLatin1_aae02, List.forall_mem_cons.mpr ⟨ck_J1_charAt_3b067, List.forall_mem_cons.mpr ⟨ck_J1_canEncode_9a6ad, List.forall_mem_cons.mpr ⟨ck_J1_indexOf_4cfef, List.forall_mem_cons.mpr ⟨ck_J1_indexOfChar_4cfef, List.forall_mem_cons.mpr ⟨ck_J0_checkIndex_df160, List.forall_mem_cons.mpr ⟨ck_J3_checkIndex_8e157, fun _ h => absurd h List.not_mem_nil⟩⟩⟩⟩⟩⟩⟩⟩⟩⟩⟩⟩⟩⟩
  cases hl
theorem xCw_all : ∀ l ∈ xPl, ∀ M ∈ l, Jvm.Cond.code M.1 M.2.1 M.2.2.1 M.2.2.2.1 ∈ xTb := by
  intro l hl
  rcases List.mem_cons.mp hl with rfl | hl
  · exact List.forall_mem_cons.mpr ⟨cw_X0_init, List.forall_mem_cons.mpr ⟨cw_X0_copy, List.forall_mem_cons.mpr ⟨cw_X0_addBird, List.forall_mem_cons.mpr ⟨cw_X0_addText, List.forall_mem_cons.mpr ⟨cw_X0_addTold, List.forall_mem_cons.mpr ⟨cw_X0_hasBird, List.forall_mem_cons.mpr ⟨cw_X0_hasText, List.forall_mem_cons.mpr ⟨cw_X0_textAt, List.forall_mem_cons.mpr ⟨cw_X0_rulingText, List.forall_mem_cons.mpr ⟨cw_X0_isDue, List.forall_mem_cons.mpr ⟨cw_X0_dueOn, List.forall_mem_cons.mpr ⟨cw_X0_canThin, List.forall_mem_cons.mpr ⟨cw_X0_canCall, List.forall_mem_cons.mpr ⟨cw_X0_canGrant, List.forall_mem_cons.mpr ⟨cw_X0_canPass, List.forall_mem_cons.mpr ⟨cw_X1_init, fun _ h => absurd h List.not_mem_nil⟩⟩⟩⟩⟩⟩⟩⟩⟩⟩⟩⟩⟩⟩⟩⟩
  rcases List.mem_cons.mp hl with rfl | hl
  · exact List.forall_mem_cons.mpr ⟨cw_X1_chanceOf, List.forall_mem_cons.mpr ⟨cw_X1_broughtBy, List.forall_mem_cons.mpr ⟨cw_X1_run, List.forall_mem_cons.mpr ⟨cw_X1_isOfOne, List.forall_mem_cons.mpr ⟨cw_X1_isOfTwo, List.forall_mem_cons.mpr ⟨cw_X1_named, List.forall_mem_cons.mpr ⟨cw_X1_ofOne, List.forall_mem_cons.mpr ⟨cw_X1_ofTwo, List.forall_mem_cons.mpr ⟨cw_X1_isSo, List.forall_mem_cons.mpr ⟨cw_X2_init, List.forall_mem_cons.mpr ⟨cw_X2_copy, List.forall_mem_cons.mpr ⟨cw_X2_isGone, List.forall_mem_cons.mpr ⟨cw_X2_markGone, List.forall_mem_cons.mpr ⟨cw_X2_markBack, List.forall_mem_cons.mpr ⟨cw_X2_noteCame, List.forall_mem_cons.mpr ⟨cw_X2_draw, fun _ h => absurd h List.not_mem_nil⟩⟩⟩⟩⟩⟩⟩⟩⟩⟩⟩⟩⟩⟩⟩⟩
  rcases List.mem_cons.mp hl with rfl | hl
  · exact List.forall_mem_cons.mpr ⟨cw_X2_write, List.forall_mem_cons.mpr ⟨cw_X2_onPage, List.forall_mem_cons.mpr ⟨cw_X2_countWritten, List.forall_mem_cons.mpr ⟨cw_X3_init, List.forall_mem_cons.mpr ⟨cw_X3_copy, List.forall_mem_cons.mpr ⟨cw_X3_add, List.forall_mem_cons.mpr ⟨cw_X3_fits, List.forall_mem_cons.mpr ⟨cw_X3_countFitting, List.forall_mem_cons.mpr ⟨cw_X3_leastPeriod, List.forall_mem_cons.mpr ⟨cw_X3_leastPhase, List.forall_mem_cons.mpr ⟨cw_X3_nextDay, List.forall_mem_cons.mpr ⟨cw_X4_init, List.forall_mem_cons.mpr ⟨cw_X4_copy, List.forall_mem_cons.mpr ⟨cw_X4_allVotes, List.forall_mem_cons.mpr ⟨cw_X4_seatsByShares, List.forall_mem_cons.mpr ⟨cw_X4_seatsByRests, fun _ h => absurd h List.not_mem_nil⟩⟩⟩⟩⟩⟩⟩⟩⟩⟩⟩⟩⟩⟩⟩⟩
  rcases List.mem_cons.mp hl with rfl | hl
  · exact List.forall_mem_cons.mpr ⟨cw_X4_differing, List.forall_mem_cons.mpr ⟨cw_X4_causeAt, List.forall_mem_cons.mpr ⟨cw_X4_placeOf, List.forall_mem_cons.mpr ⟨cw_X4_isAhead, List.forall_mem_cons.mpr ⟨cw_X4_aheadOfAll, List.forall_mem_cons.mpr ⟨cw_X4_pointsFor, List.forall_mem_cons.mpr ⟨cw_X4_lastLeft, List.forall_mem_cons.mpr ⟨cw_X4_weakest, List.forall_mem_cons.mpr ⟨cw_X4_firstVotes, List.forall_mem_cons.mpr ⟨cw_X5_init, List.forall_mem_cons.mpr ⟨cw_X5_readTape, List.forall_mem_cons.mpr ⟨cw_X5_kind, List.forall_mem_cons.mpr ⟨cw_X5_fail, List.forall_mem_cons.mpr ⟨cw_X5_expect, List.forall_mem_cons.mpr ⟨cw_X5_readNumber, List.forall_mem_cons.mpr ⟨cw_X5_readClause, fun _ h => absurd h List.not_mem_nil⟩⟩⟩⟩⟩⟩⟩⟩⟩⟩⟩⟩⟩⟩⟩⟩
  rcases List.mem_cons.mp hl with rfl | hl
  · exact List.forall_mem_cons.mpr ⟨cw_X5_isVerb, List.forall_mem_cons.mpr ⟨cw_X5_readNumbers, List.forall_mem_cons.mpr ⟨cw_X5_readLaw, List.forall_mem_cons.mpr ⟨cw_X5_emit, List.forall_mem_cons.mpr ⟨cw_X5_readSum, List.forall_mem_cons.mpr ⟨cw_X5_readProduct, List.forall_mem_cons.mpr ⟨cw_X5_readOne, List.forall_mem_cons.mpr ⟨cw_X5_opensOne, List.forall_mem_cons.mpr ⟨cw_X5_readName, List.forall_mem_cons.mpr ⟨cw_X5_readOpened, List.forall_mem_cons.mpr ⟨cw_X5_readChoice, List.forall_mem_cons.mpr ⟨cw_X5_aim, List.forall_mem_cons.mpr ⟨cw_X5_readEither, List.forall_mem_cons.mpr ⟨cw_X5_readBoth, List.forall_mem_cons.mpr ⟨cw_X5_readAsk, List.forall_mem_cons.mpr ⟨cw_X5_readCompared, fun _ h => absurd h List.not_mem_nil⟩⟩⟩⟩⟩⟩⟩⟩⟩⟩⟩⟩⟩⟩⟩⟩
  rcases List.mem_cons.mp hl with rfl | hl
  · exact List.forall_mem_cons.mpr ⟨cw_X6_init, List.forall_mem_cons.mpr ⟨cw_X6_copy, List.forall_mem_cons.mpr ⟨cw_X6_selfFollowing, List.forall_mem_cons.mpr ⟨cw_X6_sizeAt, List.forall_mem_cons.mpr ⟨cw_X6_smallest, List.forall_mem_cons.mpr ⟨cw_X6_stepsToRing, List.forall_mem_cons.mpr ⟨cw_X6_behind, List.forall_mem_cons.mpr ⟨cw_X6_walked, List.forall_mem_cons.mpr ⟨cw_X7_init, List.forall_mem_cons.mpr ⟨cw_X7_begin, List.forall_mem_cons.mpr ⟨cw_X7_addOne, List.forall_mem_cons.mpr ⟨cw_X7_ofTrials, List.forall_mem_cons.mpr ⟨cw_X7_just, List.forall_mem_cons.mpr ⟨cw_X7_orMore, List.forall_mem_cons.mpr ⟨cw_X8_init, List.forall_mem_cons.mpr ⟨cw_X8_copy, fun _ h => absurd h List.not_mem_nil⟩⟩⟩⟩⟩⟩⟩⟩⟩⟩⟩⟩⟩⟩⟩⟩
  rcases List.mem_cons.mp hl with rfl | hl
  · exact List.forall_mem_cons.mpr ⟨cw_X8_keep, List.forall_mem_cons.mpr ⟨cw_X8_takeBack, List.forall_mem_cons.mpr ⟨cw_X9_init, List.forall_mem_cons.mpr ⟨cw_X9_add, List.forall_mem_cons.mpr ⟨cw_X9_scan, List.forall_mem_cons.mpr ⟨cw_X9_put, List.forall_mem_cons.mpr ⟨cw_X9_scanToken, List.forall_mem_cons.mpr ⟨cw_X9_scanWord, List.forall_mem_cons.mpr ⟨cw_X9_scanNumber, List.forall_mem_cons.mpr ⟨cw_X9_scanSign, List.forall_mem_cons.mpr ⟨cw_X9_kindOfWord, List.forall_mem_cons.mpr ⟨cw_X9_isLetter, List.forall_mem_cons.mpr ⟨cw_X9_isDigit, List.forall_mem_cons.mpr ⟨cw_X10_init, List.forall_mem_cons.mpr ⟨cw_X11_init, List.forall_mem_cons.mpr ⟨cw_X11_bird, fun _ h => absurd h List.not_mem_nil⟩⟩⟩⟩⟩⟩⟩⟩⟩⟩⟩⟩⟩⟩⟩⟩
  rcases List.mem_cons.mp hl with rfl | hl
  · exact List.forall_mem_cons.mpr ⟨cw_X11_rhyme, List.forall_mem_cons.mpr ⟨cw_X11_feed, List.forall_mem_cons.mpr ⟨cw_X11_end, List.forall_mem_cons.mpr ⟨cw_X11_text, List.forall_mem_cons.mpr ⟨cw_X11_fault, List.forall_mem_cons.mpr ⟨cw_X11_by, List.forall_mem_cons.mpr ⟨cw_X11_thin, List.forall_mem_cons.mpr ⟨cw_X11_call, List.forall_mem_cons.mpr ⟨cw_X11_grant, List.forall_mem_cons.mpr ⟨cw_X11_day, List.forall_mem_cons.mpr ⟨cw_X11_played, List.forall_mem_cons.mpr ⟨cw_X11_years, List.forall_mem_cons.mpr ⟨cw_X11_undo, List.forall_mem_cons.mpr ⟨cw_X11_of, List.forall_mem_cons.mpr ⟨cw_X11_is, List.forall_mem_cons.mpr ⟨cw_X11_things, fun _ h => absurd h List.not_mem_nil⟩⟩⟩⟩⟩⟩⟩⟩⟩⟩⟩⟩⟩⟩⟩⟩
  rcases List.mem_cons.mp hl with rfl | hl
  · exact List.forall_mem_cons.mpr ⟨cw_X11_brings, List.forall_mem_cons.mpr ⟨cw_X11_book, List.forall_mem_cons.mpr ⟨cw_X11_foretold, List.forall_mem_cons.mpr ⟨cw_X11_likely, List.forall_mem_cons.mpr ⟨cw_X11_mean, List.forall_mem_cons.mpr ⟨cw_X11_best, List.forall_mem_cons.mpr ⟨cw_X11_morning, List.forall_mem_cons.mpr ⟨cw_X11_habits, List.forall_mem_cons.mpr ⟨cw_X11_habit, List.forall_mem_cons.mpr ⟨cw_X11_whom, List.forall_mem_cons.mpr ⟨cw_X11_rota, List.forall_mem_cons.mpr ⟨cw_X11_gather, List.forall_mem_cons.mpr ⟨cw_X11_comes, List.forall_mem_cons.mpr ⟨cw_X11_follows, List.forall_mem_cons.mpr ⟨cw_X11_agree, List.forall_mem_cons.mpr ⟨cw_X11_ring, fun _ h => absurd h List.not_mem_nil⟩⟩⟩⟩⟩⟩⟩⟩⟩⟩⟩⟩⟩⟩⟩⟩
  rcases List.mem_cons.mp hl with rfl | hl
  · exact List.forall_mem_cons.mpr ⟨cw_X11_till, List.forall_mem_cons.mpr ⟨cw_X11_after, List.forall_mem_cons.mpr ⟨cw_X11_test, List.forall_mem_cons.mpr ⟨cw_X11_bound, List.forall_mem_cons.mpr ⟨cw_X11_sure, List.forall_mem_cons.mpr ⟨cw_X11_votes, List.forall_mem_cons.mpr ⟨cw_X11_seats, List.forall_mem_cons.mpr ⟨cw_X11_unlike, List.forall_mem_cons.mpr ⟨cw_X11_ranks, List.forall_mem_cons.mpr ⟨cw_X11_beats, List.forall_mem_cons.mpr ⟨cw_X11_winner, List.forall_mem_cons.mpr ⟨cw_X11_points, List.forall_mem_cons.mpr ⟨cw_X11_runoff, List.forall_mem_cons.mpr ⟨cw_X11_digits, List.forall_mem_cons.mpr ⟨cw_X11_digit, List.forall_mem_cons.mpr ⟨cw_X11_depth, fun _ h => absurd h List.not_mem_nil⟩⟩⟩⟩⟩⟩⟩⟩⟩⟩⟩⟩⟩⟩⟩⟩
  rcases List.mem_cons.mp hl with rfl | hl
  · exact List.forall_mem_cons.mpr ⟨cw_X11_rests, List.forall_mem_cons.mpr ⟨cw_X11_game, List.forall_mem_cons.mpr ⟨cw_X11_take, List.forall_mem_cons.mpr ⟨cw_X11_told, List.forall_mem_cons.mpr ⟨cw_X11_whose, List.forall_mem_cons.mpr ⟨cw_X11_eldest, List.forall_mem_cons.mpr ⟨cw_X11_due, List.forall_mem_cons.mpr ⟨cw_X11_ledger, List.forall_mem_cons.mpr ⟨cw_X11_image, List.forall_mem_cons.mpr ⟨cw_X11_back, List.forall_mem_cons.mpr ⟨cw_X11_about, List.forall_mem_cons.mpr ⟨cw_X11_passSteps, List.forall_mem_cons.mpr ⟨cw_X11_passDay, List.forall_mem_cons.mpr ⟨cw_X11_playClause, List.forall_mem_cons.mpr ⟨cw_X11_drawYear, List.forall_mem_cons.mpr ⟨cw_X11_noteChances, fun _ h => absurd h List.not_mem_nil⟩⟩⟩⟩⟩⟩⟩⟩⟩⟩⟩⟩⟩⟩⟩⟩
  rcases List.mem_cons.mp hl with rfl | hl
  · exact List.forall_mem_cons.mpr ⟨cw_X11_spreadOver, List.forall_mem_cons.mpr ⟨cw_X11_bestThinned, List.forall_mem_cons.mpr ⟨cw_X11_canCome, List.forall_mem_cons.mpr ⟨cw_X11_leastBound, List.forall_mem_cons.mpr ⟨cw_X11_bringsAllTold, List.forall_mem_cons.mpr ⟨cw_X11_raise, List.forall_mem_cons.mpr ⟨cw_X11_multiply, List.forall_mem_cons.mpr ⟨cw_X11_deeper, List.forall_mem_cons.mpr ⟨cw_X11_leastPart, List.forall_mem_cons.mpr ⟨cw_X11_firstOfHabit, List.forall_mem_cons.mpr ⟨cw_X11_leastCommon, List.forall_mem_cons.mpr ⟨cw_X11_greatestCommon, List.forall_mem_cons.mpr ⟨cw_X11_lowest, List.forall_mem_cons.mpr ⟨cw_X11_within, List.forall_mem_cons.mpr ⟨cw_X11_held, List.forall_mem_cons.mpr ⟨cw_X11_isCount, fun _ h => absurd h List.not_mem_nil⟩⟩⟩⟩⟩⟩⟩⟩⟩⟩⟩⟩⟩⟩⟩⟩
  rcases List.mem_cons.mp hl with rfl | hl
  · exact List.forall_mem_cons.mpr ⟨cw_X11_isParish, List.forall_mem_cons.mpr ⟨cw_X11_isCause, List.forall_mem_cons.mpr ⟨cw_X11_isIn, List.forall_mem_cons.mpr ⟨cw_X12_init, List.forall_mem_cons.mpr ⟨cw_X12_copy, List.forall_mem_cons.mpr ⟨cw_X12_isIn, List.forall_mem_cons.mpr ⟨cw_X12_held, List.forall_mem_cons.mpr ⟨cw_X12_has, List.forall_mem_cons.mpr ⟨cw_X12_bits, List.forall_mem_cons.mpr ⟨cw_X12_isBird, List.forall_mem_cons.mpr ⟨cw_X12_isCount, List.forall_mem_cons.mpr ⟨cw_X12_isGone, List.forall_mem_cons.mpr ⟨cw_X12_isDue, List.forall_mem_cons.mpr ⟨cw_X12_dueBy, List.forall_mem_cons.mpr ⟨cw_X12_dueNow, List.forall_mem_cons.mpr ⟨cw_X12_bird, fun _ h => absurd h List.not_mem_nil⟩⟩⟩⟩⟩⟩⟩⟩⟩⟩⟩⟩⟩⟩⟩⟩
  rcases List.mem_cons.mp hl with rfl | hl
  · exact List.forall_mem_cons.mpr ⟨cw_X12_rhyme, List.forall_mem_cons.mpr ⟨cw_X12_four, List.forall_mem_cons.mpr ⟨cw_X12_feed, List.forall_mem_cons.mpr ⟨cw_X12_end, List.forall_mem_cons.mpr ⟨cw_X12_byteAt, List.forall_mem_cons.mpr ⟨cw_X12_isLetterByte, List.forall_mem_cons.mpr ⟨cw_X12_isFigure, List.forall_mem_cons.mpr ⟨cw_X12_isSign, List.forall_mem_cons.mpr ⟨cw_X12_nextToken, List.forall_mem_cons.mpr ⟨cw_X12_w2, List.forall_mem_cons.mpr ⟨cw_X12_w3, List.forall_mem_cons.mpr ⟨cw_X12_w4, List.forall_mem_cons.mpr ⟨cw_X12_w5, List.forall_mem_cons.mpr ⟨cw_X12_w6, List.forall_mem_cons.mpr ⟨cw_X12_isWord, List.forall_mem_cons.mpr ⟨cw_X12_emit, fun _ h => absurd h List.not_mem_nil⟩⟩⟩⟩⟩⟩⟩⟩⟩⟩⟩⟩⟩⟩⟩⟩
  rcases List.mem_cons.mp hl with rfl | hl
  · exact List.forall_mem_cons.mpr ⟨cw_X12_nameOf, List.forall_mem_cons.mpr ⟨cw_X12_isOf, List.forall_mem_cons.mpr ⟨cw_X12_rank, List.forall_mem_cons.mpr ⟨cw_X12_settle, List.forall_mem_cons.mpr ⟨cw_X12_openAt, List.forall_mem_cons.mpr ⟨cw_X12_openNow, List.forall_mem_cons.mpr ⟨cw_X12_isCompared, List.forall_mem_cons.mpr ⟨cw_X12_isAskAhead, List.forall_mem_cons.mpr ⟨cw_X12_opened, List.forall_mem_cons.mpr ⟨cw_X12_beginOne, List.forall_mem_cons.mpr ⟨cw_X12_compareOf, List.forall_mem_cons.mpr ⟨cw_X12_betweenOf, List.forall_mem_cons.mpr ⟨cw_X12_partOf, List.forall_mem_cons.mpr ⟨cw_X12_behindOne, List.forall_mem_cons.mpr ⟨cw_X12_summed, List.forall_mem_cons.mpr ⟨cw_X12_figure, fun _ h => absurd h List.not_mem_nil⟩⟩⟩⟩⟩⟩⟩⟩⟩⟩⟩⟩⟩⟩⟩⟩
  rcases List.mem_cons.mp hl with rfl | hl
  · exact List.forall_mem_cons.mpr ⟨cw_X12_lawClause, List.forall_mem_cons.mpr ⟨cw_X12_pair, List.forall_mem_cons.mpr ⟨cw_X12_body, List.forall_mem_cons.mpr ⟨cw_X12_sortOf, List.forall_mem_cons.mpr ⟨cw_X12_clause, List.forall_mem_cons.mpr ⟨cw_X12_readText, List.forall_mem_cons.mpr ⟨cw_X12_text, List.forall_mem_cons.mpr ⟨cw_X12_fault, List.forall_mem_cons.mpr ⟨cw_X12_by, List.forall_mem_cons.mpr ⟨cw_X12_clip, List.forall_mem_cons.mpr ⟨cw_X12_two, List.forall_mem_cons.mpr ⟨cw_X12_isAsked, List.forall_mem_cons.mpr ⟨cw_X12_ofOne, List.forall_mem_cons.mpr ⟨cw_X12_joined, List.forall_mem_cons.mpr ⟨cw_X12_summedUp, List.forall_mem_cons.mpr ⟨cw_X12_says, fun _ h => absurd h List.not_mem_nil⟩⟩⟩⟩⟩⟩⟩⟩⟩⟩⟩⟩⟩⟩⟩⟩
  rcases List.mem_cons.mp hl with rfl | hl
  · exact List.forall_mem_cons.mpr ⟨cw_X12_name, List.forall_mem_cons.mpr ⟨cw_X12_chanceOf, List.forall_mem_cons.mpr ⟨cw_X12_bringsOf, List.forall_mem_cons.mpr ⟨cw_X12_write, List.forall_mem_cons.mpr ⟨cw_X12_drawnBy, List.forall_mem_cons.mpr ⟨cw_X12_anew, List.forall_mem_cons.mpr ⟨cw_X12_canGrant, List.forall_mem_cons.mpr ⟨cw_X12_pass, List.forall_mem_cons.mpr ⟨cw_X12_keep, List.forall_mem_cons.mpr ⟨cw_X12_undo, List.forall_mem_cons.mpr ⟨cw_X12_thin, List.forall_mem_cons.mpr ⟨cw_X12_call, List.forall_mem_cons.mpr ⟨cw_X12_grant, List.forall_mem_cons.mpr ⟨cw_X12_arePassed, List.forall_mem_cons.mpr ⟨cw_X12_day, List.forall_mem_cons.mpr ⟨cw_X12_isPlayed, fun _ h => absurd h List.not_mem_nil⟩⟩⟩⟩⟩⟩⟩⟩⟩⟩⟩⟩⟩⟩⟩⟩
  rcases List.mem_cons.mp hl with rfl | hl
  · exact List.forall_mem_cons.mpr ⟨cw_X12_played, List.forall_mem_cons.mpr ⟨cw_X12_happens, List.forall_mem_cons.mpr ⟨cw_X12_years, List.forall_mem_cons.mpr ⟨cw_X12_of, List.forall_mem_cons.mpr ⟨cw_X12_is, List.forall_mem_cons.mpr ⟨cw_X12_things, List.forall_mem_cons.mpr ⟨cw_X12_brings, List.forall_mem_cons.mpr ⟨cw_X12_lineOf, List.forall_mem_cons.mpr ⟨cw_X12_book, List.forall_mem_cons.mpr ⟨cw_X12_ledger, List.forall_mem_cons.mpr ⟨cw_X12_eldest, List.forall_mem_cons.mpr ⟨cw_X12_due, List.forall_mem_cons.mpr ⟨cw_X12_foretold, List.forall_mem_cons.mpr ⟨cw_X12_divisor, List.forall_mem_cons.mpr ⟨cw_X12_part, List.forall_mem_cons.mpr ⟨cw_X12_noRows, fun _ h => absurd h List.not_mem_nil⟩⟩⟩⟩⟩⟩⟩⟩⟩⟩⟩⟩⟩⟩⟩⟩
  rcases List.mem_cons.mp hl with rfl | hl
  · exact List.forall_mem_cons.mpr ⟨cw_X12_oneMore, List.forall_mem_cons.mpr ⟨cw_X12_layRows, List.forall_mem_cons.mpr ⟨cw_X12_likely, List.forall_mem_cons.mpr ⟨cw_X12_mean, List.forall_mem_cons.mpr ⟨cw_X12_best, List.forall_mem_cons.mpr ⟨cw_X12_morning, List.forall_mem_cons.mpr ⟨cw_X12_isHabit, List.forall_mem_cons.mpr ⟨cw_X12_habits, List.forall_mem_cons.mpr ⟨cw_X12_firstHabit, List.forall_mem_cons.mpr ⟨cw_X12_habit, List.forall_mem_cons.mpr ⟨cw_X12_whom, List.forall_mem_cons.mpr ⟨cw_X12_rota, List.forall_mem_cons.mpr ⟨cw_X12_gather, List.forall_mem_cons.mpr ⟨cw_X12_comes, List.forall_mem_cons.mpr ⟨cw_X12_follows, List.forall_mem_cons.mpr ⟨cw_X12_afterOf, fun _ h => absurd h List.not_mem_nil⟩⟩⟩⟩⟩⟩⟩⟩⟩⟩⟩⟩⟩⟩⟩⟩
  rcases List.mem_cons.mp hl with rfl | hl
  · exact List.forall_mem_cons.mpr ⟨cw_X12_agree, List.forall_mem_cons.mpr ⟨cw_X12_ringOf, List.forall_mem_cons.mpr ⟨cw_X12_ring, List.forall_mem_cons.mpr ⟨cw_X12_till, List.forall_mem_cons.mpr ⟨cw_X12_after, List.forall_mem_cons.mpr ⟨cw_X12_areOdds, List.forall_mem_cons.mpr ⟨cw_X12_layTest, List.forall_mem_cons.mpr ⟨cw_X12_rowsFrom, List.forall_mem_cons.mpr ⟨cw_X12_test, List.forall_mem_cons.mpr ⟨cw_X12_bound, List.forall_mem_cons.mpr ⟨cw_X12_sure, List.forall_mem_cons.mpr ⟨cw_X12_votes, List.forall_mem_cons.mpr ⟨cw_X12_allVotes, List.forall_mem_cons.mpr ⟨cw_X12_isAhead, List.forall_mem_cons.mpr ⟨cw_X12_laySeats, List.forall_mem_cons.mpr ⟨cw_X12_areSeats, fun _ h => absurd h List.not_mem_nil⟩⟩⟩⟩⟩⟩⟩⟩⟩⟩⟩⟩⟩⟩⟩⟩
  rcases List.mem_cons.mp hl with rfl | hl
  · exact List.forall_mem_cons.mpr ⟨cw_X12_seats, List.forall_mem_cons.mpr ⟨cw_X12_unlike, List.forall_mem_cons.mpr ⟨cw_X12_ranks, List.forall_mem_cons.mpr ⟨cw_X12_isCause, List.forall_mem_cons.mpr ⟨cw_X12_factorial, List.forall_mem_cons.mpr ⟨cw_X12_causeAt, List.forall_mem_cons.mpr ⟨cw_X12_placeBy, List.forall_mem_cons.mpr ⟨cw_X12_doesBeat, List.forall_mem_cons.mpr ⟨cw_X12_beats, List.forall_mem_cons.mpr ⟨cw_X12_winner, List.forall_mem_cons.mpr ⟨cw_X12_points, List.forall_mem_cons.mpr ⟨cw_X12_firstVotes, List.forall_mem_cons.mpr ⟨cw_X12_runoff, List.forall_mem_cons.mpr ⟨cw_X12_layFigures, List.forall_mem_cons.mpr ⟨cw_X12_areTimes, List.forall_mem_cons.mpr ⟨cw_X12_digits, fun _ h => absurd h List.not_mem_nil⟩⟩⟩⟩⟩⟩⟩⟩⟩⟩⟩⟩⟩⟩⟩⟩
  rcases List.mem_cons.mp hl with rfl | hl
  · exact List.forall_mem_cons.mpr ⟨cw_X12_digit, List.forall_mem_cons.mpr ⟨cw_X12_isGuess, List.forall_mem_cons.mpr ⟨cw_X12_depth, List.forall_mem_cons.mpr ⟨cw_X12_rests, List.forall_mem_cons.mpr ⟨cw_X12_winAt, List.forall_mem_cons.mpr ⟨cw_X12_takeOf, List.forall_mem_cons.mpr ⟨cw_X12_layWins, List.forall_mem_cons.mpr ⟨cw_X12_game, List.forall_mem_cons.mpr ⟨cw_X12_take, List.forall_mem_cons.mpr ⟨cw_X12_told, List.forall_mem_cons.mpr ⟨cw_X12_whose, List.forall_mem_cons.mpr ⟨cw_X12_image, List.forall_mem_cons.mpr ⟨cw_X12_back, List.forall_mem_cons.mpr ⟨cw_X12_about, List.forall_mem_cons.mpr ⟨cw_J6_bitCount_0f7a4, List.forall_mem_cons.mpr ⟨cw_J7_fill_d0a16, fun _ h => absurd h List.not_mem_nil⟩⟩⟩⟩⟩⟩⟩⟩⟩⟩⟩⟩⟩⟩⟩⟩
  rcases List.mem_cons.mp hl with rfl | hl
  · exact List.forall_mem_cons.mpr ⟨cw_J7_fill_53178, List.forall_mem_cons.mpr ⟨cw_J7_copyOf_59c91, List.forall_mem_cons.mpr ⟨cw_J0_charAt_5068e, List.forall_mem_cons.mpr ⟨cw_J0_length_8abf5, List.forall_mem_cons.mpr ⟨cw_J0_indexOf_0f7a4, List.forall_mem_cons.mpr ⟨cw_J0_indexOf_7cf53, List.forall_mem_cons.mpr ⟨cw_J0_coder_7d493, List.forall_mem_cons.mpr ⟨cw_J0_isLatin1_aae02, List.forall_mem_cons.mpr ⟨cw_J1_charAt_3b067, List.forall_mem_cons.mpr ⟨cw_J1_canEncode_9a6ad, List.forall_mem_cons.mpr ⟨cw_J1_indexOf_4cfef, List.forall_mem_cons.mpr ⟨cw_J1_indexOfChar_4cfef, List.forall_mem_cons.mpr ⟨cw_J0_checkIndex_df160, List.forall_mem_cons.mpr ⟨cw_J3_checkIndex_8e157, fun _ h => absurd h List.not_mem_nil⟩⟩⟩⟩⟩⟩⟩⟩⟩⟩⟩⟩⟩⟩
  cases hl
theorem xP_mem {j : Nat} {M : xMeth} (h : xP j = some M) : ∃ l ∈ xPl, M ∈ l := by
  unfold xP at h
  split at h
  · cases h
  · rename_i l hl
    exact ⟨l, List.mem_of_getElem? hl, List.mem_of_getElem? h⟩
theorem xP_ok : ∀ j M, xP j = some M → M.2.2.2.2 ≠ [] → xChkM xP M = true := by
  intro j M h hne
  obtain ⟨l, h1, h2⟩ := xP_mem h
  have h3 := xOk_all l h1 M h2
  unfold xOkM at h3
  rcases Bool.or_eq_true_iff.mp h3 with h4 | h4
  · exact absurd (List.isEmpty_iff.mp h4) hne
  · exact h4
theorem xP_cw : ∀ j M, xP j = some M → Jvm.Cond.code M.1 M.2.1 M.2.2.1 M.2.2.2.1 ∈ xTb := by
  intro j M h
  obtain ⟨l, h1, h2⟩ := xP_mem h
  exact xCw_all l h1 M h2
theorem ck_law : ∀ l ∈ kL_law, ∀ q ∈ l, (xChk RL "law" cL_law 4 q.1 q.2 && xChkC xP RL q.2) = true := List.forall_mem_cons.mpr ⟨ckL_0, List.forall_mem_cons.mpr ⟨ckL_1, List.forall_mem_cons.mpr ⟨ckL_2, List.forall_mem_cons.mpr ⟨ckL_3, List.forall_mem_cons.mpr ⟨ckL_4, List.forall_mem_cons.mpr ⟨ckL_5, List.forall_mem_cons.mpr ⟨ckL_6, List.forall_mem_cons.mpr ⟨ckL_7, List.forall_mem_cons.mpr ⟨ckL_8, List.forall_mem_cons.mpr ⟨ckL_9, List.forall_mem_cons.mpr ⟨ckL_10, List.forall_mem_cons.mpr ⟨ckL_11, List.forall_mem_cons.mpr ⟨ckL_12, List.forall_mem_cons.mpr ⟨ckL_13, List.forall_mem_cons.mpr ⟨ckL_14, List.forall_mem_cons.mpr ⟨ckL_15, List.forall_mem_cons.mpr ⟨ckL_16, List.forall_mem_cons.mpr ⟨ckL_17, List.forall_mem_cons.mpr ⟨ckL_18, List.forall_mem_cons.mpr ⟨ckL_19, List.forall_mem_cons.mpr ⟨ckL_20, List.forall_mem_cons.mpr ⟨ckL_21, List.forall_mem_cons.mpr ⟨ckL_22, List.forall_mem_cons.mpr ⟨ckL_23, List.forall_mem_cons.mpr ⟨ckL_24, List.forall_mem_cons.mpr ⟨ckL_25, List.forall_mem_cons.mpr ⟨ckL_26, List.forall_mem_cons.mpr ⟨ckL_27, List.forall_mem_cons.mpr ⟨ckL_28, List.forall_mem_cons.mpr ⟨ckL_29, List.forall_mem_cons.mpr ⟨ckL_30, List.forall_mem_cons.mpr ⟨ckL_31, List.forall_mem_cons.mpr ⟨ckL_32, List.forall_mem_cons.mpr ⟨ckL_33, List.forall_mem_cons.mpr ⟨ckL_34, List.forall_mem_cons.mpr ⟨ckL_35, List.forall_mem_cons.mpr ⟨ckL_36, List.forall_mem_cons.mpr ⟨ckL_37, List.forall_mem_cons.mpr ⟨ckL_38, List.forall_mem_cons.mpr ⟨ckL_39, List.forall_mem_cons.mpr ⟨ckL_40, List.forall_mem_cons.mpr ⟨ckL_41, List.forall_mem_cons.mpr ⟨ckL_42, List.forall_mem_cons.mpr ⟨ckL_43, List.forall_mem_cons.mpr ⟨ckL_44, List.forall_mem_cons.mpr ⟨ckL_45, List.forall_mem_cons.mpr ⟨ckL_46, List.forall_mem_cons.mpr ⟨ckL_47, List.forall_mem_cons.mpr ⟨ckL_48, List.forall_mem_cons.mpr ⟨ckL_49, List.forall_mem_cons.mpr ⟨ckL_50, List.forall_mem_cons.mpr ⟨ckL_51, List.forall_mem_cons.mpr ⟨ckL_52, List.forall_mem_cons.mpr ⟨ckL_53, List.forall_mem_cons.mpr ⟨ckL_54, List.forall_mem_cons.mpr ⟨ckL_55, List.forall_mem_cons.mpr ⟨ckL_56, List.forall_mem_cons.mpr ⟨ckL_57, List.forall_mem_cons.mpr ⟨ckL_58, List.forall_mem_cons.mpr ⟨ckL_59, List.forall_mem_cons.mpr ⟨ckL_60, List.forall_mem_cons.mpr ⟨ckL_61, List.forall_mem_cons.mpr ⟨ckL_62, List.forall_mem_cons.mpr ⟨ckL_63, fun _ h => absurd h List.not_mem_nil⟩⟩⟩⟩⟩⟩⟩⟩⟩⟩⟩⟩⟩⟩⟩⟩⟩⟩⟩⟩⟩⟩⟩⟩⟩⟩⟩⟩⟩⟩⟩⟩⟩⟩⟩⟩⟩⟩⟩⟩⟩⟩⟩⟩⟩⟩⟩⟩⟩⟩⟩⟩⟩⟩⟩⟩⟩⟩⟩⟩⟩⟩⟩⟩
end
section
/-! ===== The abstract heap in the machine's heap ===== -/
/-- where the numbers lie: below 16 by a table, the others one behind the other from the heap's end at the law's start; the array classes; the classes -/
abbrev xG : Type := Nat × (Nat → Nat) × (Nat → ClassId) × va_G
def xad (g : xG) (i : Nat) : Nat := if i < 16 then g.2.1 i else g.1 + (i - 16)
def xTv (g : xG) (v : Value) : Value := match v with
  | .ref a => .ref (xad g a)
  | v => v
def xTe (g : xG) (e : va_E) : va_E := match e with
  | .inl (t, n, .inr (.inr (.inr (.inr f)))) => .inl (g.2.2.1 t, n, .inr (.inr (.inr (.inr (fun j => (f j).map (xad g))))))
  | .inl (t, n, .inl f) => .inl (g.2.2.1 t, n, .inl f)
  | .inl (t, n, .inr (.inl f)) => .inl (g.2.2.1 t, n, .inr (.inl f))
  | .inl (t, n, .inr (.inr (.inl f))) => .inl (g.2.2.1 t, n, .inr (.inr (.inl f)))
  | .inl (t, n, .inr (.inr (.inr (.inl f)))) => .inl (g.2.2.1 t, n, .inr (.inr (.inr (.inl f))))
  | .inr (c, fs) => .inr (c, fs.map (xTv g))
def xA (g : xG) : Nat → Prop := fun q => g.1 ≤ q
def xTys (g : xG) : List (ClassId × FieldType) := [(g.2.2.1 0, .int), (g.2.2.1 1, .long), (g.2.2.1 2, .boolean), (g.2.2.1 3, .object RX2), (g.2.2.1 4, .object RX10)]
/-- the heap holds the abstract heap -/
def xW (g : xG) (h : xH) (H : Heap) : Prop := 16 ≤ h.1 ∧ H.size + 16 = g.1 + h.1 ∧ ∀ (i : Nat) (e : va_E), h.2.2 i = some e → 16 ≤ i ∧ i < h.1 ∧ va_at g.2.2.2 vwCl (xad g i, xTe g e) H
theorem xad_ge {g : xG} {i : Nat} (h : 16 ≤ i) : xad g i = g.1 + (i - 16) := by simp [xad, Nat.not_lt.mpr h]
theorem xad_A {g : xG} {i : Nat} (h : 16 ≤ i) : xA g (xad g i) := by rw [xad_ge h]; exact Nat.le_add_right _ _
theorem xad_ne {g : xG} {i j : Nat} (hi : 16 ≤ i) (hj : 16 ≤ j) (h : i ≠ j) : xad g i ≠ xad g j := by rw [xad_ge hi, xad_ge hj]; omega
theorem xTv_rf (g : xG) (r : Option Nat) : xTv g (va_rf r) = va_rf (r.map (xad g)) := by cases r <;> rfl
theorem xTv_cat (g : xG) (v : Value) : (xTv g v).category = v.category := by cases v <;> rfl
theorem xCat_map (g : xG) (st : List Value) : ((st.map (xTv g)).map fun v => v.category) = st.map fun v => v.category := by
  rw [List.map_map]
  exact List.map_congr_left fun v _ => xTv_cat g v
theorem xW.up {g : xG} {h : xH} {H H1 : Heap} {i : Nat} {e : va_E} (hW : xW g h H) (hi : 16 ≤ i) (hlt : i < h.1) (z : H1.size = H.size) (oq : ∀ q : Nat, q ≠ xad g i → H1[q]? = H[q]?) (he : va_at g.2.2.2 vwCl (xad g i, xTe g e) H1) : xW g (xUp h i e) H1 := by
  obtain ⟨h1, h2, h3⟩ := hW
  refine ⟨h1, by rw [z]; exact h2, fun j ej hj => ?_⟩
  change (if j = i then some e else h.2.2 j) = some ej at hj
  by_cases hji : j = i
  · subst hji
    rw [if_pos rfl] at hj
    cases hj
    exact ⟨hi, hlt, he⟩
  · rw [if_neg hji] at hj
    obtain ⟨a1, a2, a3⟩ := h3 j ej hj
    exact ⟨a1, a2, a3.kept (oq _ (xad_ne a1 hi hji))⟩
theorem xW.nw {g : xG} {h : xH} {H H1 : Heap} {n : Nat} {e : va_E} (hW : xW g h H) (z : H1.size = H.size + 1) (oq : ∀ q : Nat, q < H.size → H1[q]? = H[q]?) (he : va_at g.2.2.2 vwCl (H.size, xTe g e) H1) : xW g (xNw h n e) H1 := by
  obtain ⟨h1, h2, h3⟩ := hW
  have hs : H.size = xad g h.1 := by rw [xad_ge h1]; omega
  refine ⟨Nat.le_succ_of_le h1, by rw [z]; show _ = g.1 + (h.1 + 1); omega, fun j ej hj => ?_⟩
  change (if j = h.1 then some e else h.2.2 j) = some ej at hj
  by_cases hji : j = h.1
  · subst hji
    rw [if_pos rfl] at hj
    cases hj
    exact ⟨h1, Nat.lt_succ_self _, by rw [← hs]; exact he⟩
  · rw [if_neg hji] at hj
    obtain ⟨a1, a2, a3⟩ := h3 j ej hj
    exact ⟨a1, Nat.lt_succ_of_lt a2, a3.kept (oq _ a3.lt)⟩
theorem xW.size {g : xG} {h : xH} {H : Heap} (hW : xW g h H) : H.size = xad g h.1 := by
  obtain ⟨h1, h2, -⟩ := hW
  rw [xad_ge h1]; omega
theorem xW.A {g : xG} {h : xH} {H : Heap} (hW : xW g h H) {q : Nat} (hq : H.size ≤ q) : xA g q := by
  obtain ⟨h1, h2, -⟩ := hW
  show g.1 ≤ q
  omega
/-- one cell as a world of the kit -/
theorem xOne {D : va_G} {cl : List vw_C} {q : Nat × va_E} {H : Heap} (h : va_at D cl q H) : va_P D cl [q] H := by
  intro k x hx
  have hz : k < 1 := (List.getElem?_eq_some_iff.mp hx).1
  rw [show k = 0 by omega] at hx
  cases hx
  exact h
/-! what never changes: tables, constants -/
theorem xNests_ok {w : Cond} (h : w ∈ xNests) : ∃ a i y z, w = .methodLinkNest a i y z := by
  have h2 := (List.mem_filter.mp h).2
  cases w <;> first | exact ⟨_, _, _, _, rfl⟩ | (exact absurd h2 Bool.false_ne_true)
def xStrs (g : xG) (ro : xRo) (U : State) (H : Heap) : Prop :=
  (∃ tx, vk_R RX9 71 tx (g.2.1 2) U) ∧ (∃ tx, vk_R RX9 64 tx (g.2.1 3) U) ∧ (∃ tx, vk_R RX4 50 tx (g.2.1 4) U) ∧
  vk_S 3 [150, 11, 96] [xBy0, xBy1, xBy2] (fun i => g.2.1 (2 + i)) (fun i => g.2.1 (5 + i)) (xA g) U H ∧ va_Z "java/lang/String" "COMPACT_STRINGS" "Z" (.int 1) (xA g) U H ∧
  va_Z "jdk/internal/util/Preconditions" "SIOOBE_FORMATTER" "Ljava/util/function/BiFunction;" (match ro 8 with
    | some _ => .ref (g.2.1 8)
    | none => .null) (xA g) U H ∧ va_Nw (.castable "[I" "java/lang/Cloneable") U
def xK (g : xG) (ro : xRo) (U : State) (H : Heap) : Prop :=
  va_K g.2.2.2 vwCl (xTys g) U ∧ (∀ w ∈ xNests, va_Nw w U) ∧ va_AO RX2 U ∧ va_AO RX10 U ∧ (∀ (i n : Nat) (f : Nat → Int32), i < 2 → ro i = some (n, f) → va_T .int (g.2.1 i) n (fun j => .int (f j)) (xA g) U H) ∧ va_Z "MagpieAccounts" "GAME_PARTS" "[I" (.ref (g.2.1 1)) (xA g) U H ∧ xStrs g ro U H
theorem xK.kept {g : xG} {ro : xRo} {U : State} {H H1 : Heap} (h : xK g ro U H) (hq : ∀ a : Nat, a < H.size → ¬ xA g a → H1[a]? = H[a]?) : xK g ro U H1 := by
  obtain ⟨h1, h2, h3, h4, h5, h6, ⟨s1, s2, s3, s4, s5, s6, s7⟩⟩ := h
  exact ⟨h1, h2, h3, h4, fun i n f hi hr => (h5 i n f hi hr).kept hq, h6.kept hq, s1, s2, s3, s4.kept hq, s5.kept hq, s6.kept hq, s7⟩
theorem xK.warm {g : xG} {ro : xRo} {s U : State} {H : Heap} (hW : s.WarmedH U.vm) (h : xK g ro s H) : xK g ro U H := by
  obtain ⟨h1, h2, h3, h4, h5, h6, ⟨⟨t1, s1⟩, ⟨t2, s2⟩, ⟨t3, s3⟩, s4, s5, s6, s7⟩⟩ := h
  refine ⟨va_K.moved hW.alike h1, fun w hw => ?_, h3.moved hW.alike, h4.moved hW.alike, fun i n f hi hr => (h5 i n f hi hr).moved hW.alike, h6.moved hW.alike, ⟨t1, s1.warm hW⟩, ⟨t2, s2.warm hW⟩, ⟨t3, s3.warm hW⟩, s4.moved hW.alike, s5.moved hW.alike, s6.moved hW.alike, va_Nw.warmC hW s7⟩
  have h := h2 w hw
  obtain ⟨a, i, y, z, rfl⟩ := xNests_ok hw
  exact va_Nw.warmM hW h
theorem xK.same {g : xG} {ro : xRo} {u U : State} {H : Heap} (hv : u.vm = U.vm) (h : xK g ro u H) : xK g ro U H := by
  have al : u.vm.Alike U.vm := by rw [hv]; exact Vm.Alike.refl _
  obtain ⟨h1, h2, h3, h4, h5, h6, ⟨⟨t1, s1⟩, ⟨t2, s2⟩, ⟨t3, s3⟩, s4, s5, s6, s7⟩⟩ := h
  refine ⟨va_K.moved al h1, fun w hw => ?_, h3.moved al, h4.moved al, fun i n f hi hr => (h5 i n f hi hr).moved al, h6.moved al, ⟨t1, s1.same hv.symm⟩, ⟨t2, s2.same hv.symm⟩, ⟨t3, s3.same hv.symm⟩, s4.moved al, s5.moved al, s6.moved al, va_Nw.same rfl hv s7⟩
  have h := h2 w hw
  obtain ⟨a, i, y, z, rfl⟩ := xNests_ok hw
  exact va_Nw.same rfl hv h
end
section
/-! ===== inversions ===== -/
theorem xwd_in {i : xI} {k : Nat} {w : Jvm.Cond} (h : xwd i k w = true) : w ∈ xTb := by
  unfold xwd at h
  split at h
  · simp only [Bool.and_eq_true, decide_eq_true_eq] at h
    exact List.mem_filter.mpr ⟨List.mem_of_getElem? h.1, h.2⟩
  · cases h
theorem xTgt_eq {pc : Nat} {off : Int} (h : xNn pc off = true) : (pc : Int) + off = (xTgt pc off : Int) := by
  have h1 : 0 ≤ (pc : Int) + off := of_decide_eq_true h
  unfold xTgt
  omega
theorem xi_inv {α : Type} {st : List Value} {k : Int32 → List Value → Option α} {s : α} (h : xi st k = some s) : ∃ x r, st = .int x :: r ∧ k x r = some s := by
  unfold xi at h
  split at h
  · exact ⟨_, _, rfl, h⟩
  · cases h
theorem xii_inv {α : Type} {st : List Value} {k : Int32 → Int32 → List Value → Option α} {s : α} (h : xii st k = some s) : ∃ x y r, st = .int y :: .int x :: r ∧ k x y r = some s := by
  unfold xii at h
  split at h
  · exact ⟨_, _, _, rfl, h⟩
  · cases h
theorem xl_inv {α : Type} {st : List Value} {k : Int64 → List Value → Option α} {s : α} (h : xl st k = some s) : ∃ x r, st = .long x :: r ∧ k x r = some s := by
  unfold xl at h
  split at h
  · exact ⟨_, _, rfl, h⟩
  · cases h
theorem xll_inv {α : Type} {st : List Value} {k : Int64 → Int64 → List Value → Option α} {s : α} (h : xll st k = some s) : ∃ x y r, st = .long y :: .long x :: r ∧ k x y r = some s := by
  unfold xll at h
  split at h
  · exact ⟨_, _, _, rfl, h⟩
  · cases h
theorem xli_inv {α : Type} {st : List Value} {k : Int64 → Int32 → List Value → Option α} {s : α} (h : xli st k = some s) : ∃ x y r, st = .int y :: .long x :: r ∧ k x y r = some s := by
  unfold xli at h
  split at h
  · exact ⟨_, _, _, rfl, h⟩
  · cases h
theorem xa_inv {α : Type} {st : List Value} {k : Nat → List Value → Option α} {s : α} (h : xa st k = some s) : ∃ x r, st = .ref x :: r ∧ k x r = some s := by
  unfold xa at h
  split at h
  · exact ⟨_, _, rfl, h⟩
  · cases h
theorem xai_inv {α : Type} {st : List Value} {k : Nat → Int32 → List Value → Option α} {s : α} (h : xai st k = some s) : ∃ a i r, st = .int i :: .ref a :: r ∧ k a i r = some s := by
  unfold xai at h
  split at h
  · exact ⟨_, _, _, rfl, h⟩
  · cases h
theorem xq_inv {α : Type} {st : List Value} {k : Option Nat → List Value → Option α} {s : α} (h : xq st k = some s) : ∃ a r, st = va_rf a :: r ∧ k a r = some s := by
  unfold xq at h
  split at h
  · exact ⟨some _, _, rfl, h⟩
  · exact ⟨none, _, rfl, h⟩
  · cases h
theorem xbeq {a b : Nat} (h : Nat.beq a b = true) : a = b := Nat.eq_of_beq_eq_true h
theorem xob_inv {α : Type} {h : xH} {a ci : Nat} {k : List Value → Option α} {s : α} (hh : xob h a ci k = some s) : ∃ fs, h.2.2 a = some (.inr (ci, fs)) ∧ k fs = some s := by
  unfold xob at hh
  split at hh
  · rename_i c fs he
    cases hc : Nat.beq c ci with
    | true => rw [hc] at hh; exact ⟨fs, by rw [he, xbeq hc], hh⟩
    | false => rw [hc] at hh; cases hh
  · cases hh
theorem xar_inv {α : Type} {h : xH} {a t : Nat} {k : Nat → (Nat → Int32) → Option α} {s : α} (hh : xar h a t k = some s) : ∃ n f, h.2.2 a = some (.inl (t, n, .inl f)) ∧ k n f = some s := by
  unfold xar at hh
  split at hh
  · rename_i c n f he
    cases hc : Nat.beq c t with
    | true => rw [hc] at hh; exact ⟨n, f, by rw [he, xbeq hc], hh⟩
    | false => rw [hc] at hh; cases hh
  · cases hh
theorem xarl_inv {α : Type} {h : xH} {a : Nat} {k : Nat → (Nat → Int64) → Option α} {s : α} (hh : xarl h a k = some s) : ∃ n f, h.2.2 a = some (.inl (1, n, .inr (.inl f))) ∧ k n f = some s := by
  unfold xarl at hh
  split at hh
  · rename_i c n f he
    cases hc : Nat.beq c 1 with
    | true => rw [hc] at hh; exact ⟨n, f, by rw [he, xbeq hc], hh⟩
    | false => rw [hc] at hh; cases hh
  · cases hh
theorem xarq_inv {α : Type} {h : xH} {a : Nat} {k : Nat → Nat → (Nat → Option Nat) → Option α} {s : α} (hh : xarq h a k = some s) : ∃ t n f, (t = 3 ∨ t = 4) ∧ h.2.2 a = some (.inl (t, n, .inr (.inr (.inr (.inr f))))) ∧ k t n f = some s := by
  unfold xarq at hh
  split at hh
  · rename_i c n f he
    cases hc : (Nat.beq c 3 || Nat.beq c 4) with
    | true =>
      rw [hc] at hh
      refine ⟨c, n, f, ?_, he, hh⟩
      rcases Bool.or_eq_true_iff.mp hc with h1 | h1
      · exact Or.inl (xbeq h1)
      · exact Or.inr (xbeq h1)
    | false => rw [hc] at hh; cases hh
  · cases hh
theorem xin_inv {α : Type} {i : Int32} {n : Nat} {k : Nat → Option α} {s : α} (h : xin i n k = some s) : vp_in i n ∧ k i.toNatClampNeg = some s := by
  unfold xin at h
  split at h
  · cases h
  · exact ⟨by assumption, h⟩
end
section
/-! ===== One step of the small machine is a step of the JVM ===== -/
def xTl (g : xG) (ls : xL) : xL := ls.map fun q => (q.1, xTv g q.2)
def xCx (p : Program) (s : State) (m : MethodId) (args : Array Value) (meth : Method) (c : Code) (g : xG) (ro : xRo) (own mname : String) (cc : ByteArray) (nL : Nat) : Prop :=
  p.tables.exec = Jvm.exec ∧ c.code = cc ∧ c.maxLocals = nL ∧ s.vm.findClass own = some m.cls ∧ (∀ w ∈ xTb, w.before args s = true) ∧ (mname = "<init>" → meth.name = "<init>") ∧ xK g ro s s.heap
theorem xFind_mem {α : Type} {l : List (Nat × α)} {k : Nat} {v : α} (h : xFind l k = some v) : (k, v) ∈ l := by
  induction l with
  | nil => cases h
  | cons q l ih =>
    unfold xFind at h
    cases hq : Nat.beq q.1 k with
    | true =>
      rw [hq] at h
      cases h
      rw [← xbeq hq]
      exact List.mem_cons_self
    | false => rw [hq] at h; exact List.mem_cons_of_mem _ (ih h)
theorem xL_at {g : xG} {ls : xL} {Ls : Array Slot} {nL k : Nat} {v : Value} (hL : lv_has Ls nL (xTl g ls)) (h : xgt ls k = some v) : Ls[k]? = some (.val (xTv g v)) := by
  have h1 := xFind_mem h
  exact hL.2.2 (k, xTv g v) (List.mem_map.mpr ⟨(k, v), h1, rfl⟩)
theorem xL_idx {g : xG} {ls : xL} {k : Nat} {v : Value} (h : xgt ls k = some v) : ∃ j : Nat, (xTl g ls)[j]? = some (k, xTv g v) := by
  have h1 := xFind_mem h
  exact List.getElem?_of_mem (List.mem_map.mpr ⟨(k, v), h1, rfl⟩)
theorem xP1_map (g : xG) (ls : xL) (i : Nat) (v : Value) : (i, xTv g v) :: (xTl g ls).filter (fun q => !(q.1 == i) && !(q.1 + 1 == i && q.2.category == 2)) = xTl g (xP1 ls i v) := by
  unfold xTl xP1
  rw [List.map_cons, List.filter_map]
  congr 2
  apply List.filter_congr
  intro q _
  simp [xTv_cat]
theorem xP2_map (g : xG) (ls : xL) (i : Nat) (v : Value) : (i, xTv g v) :: (xTl g ls).filter (fun q => !(q.1 == i) && (!(q.1 == i + 1) && !(q.1 + 1 == i && q.2.category == 2))) = xTl g (xP2 ls i v) := by
  unfold xTl xP2
  rw [List.map_cons, List.filter_map]
  congr 2
  apply List.filter_congr
  intro q _
  simp [xTv_cat]
theorem xLen_eq {i : Instr} {len n : Nat} (h : (match xLen i with
    | some n => Nat.beq len n
    | none => true) = true) (hn : xLen i = some n) : len = n := by
  rw [hn] at h
  exact xbeq h
/-- the tables of a class by its number -/
theorem xCls {ci : Nat} {q : vw_C} (h : vwCl[ci]? = some q) : (∀ w ∈ u_ws q.1 q.2.1 q.2.2, w ∈ xTb) ∧ (∀ k, k < q.2.2 → parseFieldDescriptor (q.2.1 k).2.2.1 = some (xTy ci k)) ∧ (∀ a, a < q.2.2 → ∀ b, b < q.2.2 → a ≠ b → (q.2.1 a).2.1 ≠ (q.2.1 b).2.1) := by
  have good : ∀ {C : String} {T : u_T} {N : Nat}, (∀ w ∈ u_ws C T N, w ∈ lw_tbl) → ∀ w ∈ u_ws C T N, w ∈ xTb := by
    intro C T N h w hw
    refine List.mem_filter.mpr ⟨h w hw, ?_⟩
    obtain ⟨k, -, rfl⟩ := List.mem_map.mp hw
    unfold u_lay
    split <;> rfl
  match ci, h with
  | 0, h => cases h; exact ⟨good inX0, tyX0_ok, nmX0⟩
  | 1, h => cases h; exact ⟨good inX1, tyX1_ok, nmX1⟩
  | 2, h => cases h; exact ⟨good inX2, tyX2_ok, nmX2⟩
  | 3, h => cases h; exact ⟨good inX3, tyX3_ok, nmX3⟩
  | 4, h => cases h; exact ⟨good inX4, tyX4_ok, nmX4⟩
  | 5, h => cases h; exact ⟨good inX5, tyX5_ok, nmX5⟩
  | 6, h => cases h; exact ⟨good inX6, tyX6_ok, nmX6⟩
  | 7, h => cases h; exact ⟨good inX7, tyX7_ok, nmX7⟩
  | 8, h => cases h; exact ⟨good inX8, tyX8_ok, nmX8⟩
  | 9, h => cases h; exact ⟨good inX9, tyX9_ok, nmX9⟩
  | 10, h => cases h; exact ⟨good inX10, tyX10_ok, nmX10⟩
  | 11, h => cases h; exact ⟨good inX11, tyX11_ok, nmX11⟩
  | 12, h => cases h; exact ⟨good inX12, tyX12_ok, nmX12⟩
  | k + 13, h => simp [vwCl] at h
theorem xTe_i (g : xG) (t n : Nat) (f : Nat → Int32) : xTe g (.inl (t, n, .inl f)) = .inl (g.2.2.1 t, n, .inl f) := rfl
theorem xTe_l (g : xG) (t n : Nat) (f : Nat → Int64) : xTe g (.inl (t, n, .inr (.inl f))) = .inl (g.2.2.1 t, n, .inr (.inl f)) := rfl
theorem xTe_q (g : xG) (t n : Nat) (f : Nat → Option Nat) : xTe g (.inl (t, n, .inr (.inr (.inr (.inr f))))) = .inl (g.2.2.1 t, n, .inr (.inr (.inr (.inr (fun j => (f j).map (xad g)))))) := rfl
theorem xTe_o (g : xG) (c : Nat) (fs : List Value) : xTe g (.inr (c, fs)) = .inr (c, fs.map (xTv g)) := rfl
section XS
variable {p : Program} {l : Launch} {e : Env} {R : Room} {s : State} {m : MethodId} {args : Array Value} {below : List Frame} {meth : Method} {c : Code} {H : Heap} {locs : List Loc} {cells slots : Nat} {Q : State → Prop}
variable {g : xG} {ro : xRo} {own mname : String} {cc : ByteArray} {nL pc : Nat} {h : xH} {Ls : Array Slot} {rest : List Value}
/-- a field is written -/
theorem xput (X : xCx p s m args meth c g ro own mname cc nL) {ci k idx a : Nat} {q : vw_C} {fs : List Value} {v : Value} {kd : Int} (hc : vwCl[ci]? = some q) (hk : k < q.2.2) (hl : Jvm.Cond.fieldLink own idx (q.2.1 k).1 (q.2.1 k).2.1 (q.2.1 k).2.2.1 ∈ xTb) (hkd : xKd (xTy ci k) kd = true) (hfin : (!(q.2.1 k).2.2.2 || (decide (mname = "<init>") && decide ((q.2.1 k).1 = own))) = true)
    (hv : xfit kd v = true) (hle : k < fs.length) (ha : h.2.2 a = some (.inr (ci, fs))) (hW : xW g h H) (hS : va_S (xA g) s.heap H locs) (hd : decode cc pc = .ok (.putfield idx, 3))
    (kk : ∀ (H1 : Heap) (locs1 : List Loc), xW g (xUp h a (.inr (ci, fs.set k v))) H1 → va_S (xA g) s.heap H1 locs1 → W p l e R s m args below meth c H1 locs1 cells slots Q (F0 m (pc + 3) Ls rest)) : W p l e R s m args below meth c H locs cells slots Q (F0 m pc Ls (xTv g v :: .ref (xad g a) :: rest)) := by
  obtain ⟨hx, hb, hml, hown, hts, hnm, hK⟩ := X
  obtain ⟨C, T, N⟩ := q
  obtain ⟨i16, ilt, hat⟩ := hW.2.2 a _ ha
  rw [xTe_o] at hat
  obtain ⟨hin, hty, hnmm⟩ := xCls hc
  dsimp only at hk hl hfin hin hty hnmm
  have hap := va_apart (own := own) hts hin (xTy ci) hty hnmm hK.1 hc
  obtain ⟨r, h1, cell, q1, q2, q3, q4⟩ := hat
  have hr : r = (C, T, N) := Option.some.inj (h1.symm.trans hc)
  subst hr
  obtain ⟨hSl, hfc, kC, hkC, hkind⟩ := hK.1.1 ci _ hc
  obtain ⟨cf, kf, fi, f, hi, hsl⟩ := hSl k hk
  have hlay := hts _ (hin _ (u_in_lay hk))
  have hst := (u_facts hfc hkC (u_lays hts hin hk) hi).1
  have hd2 := hty k hk
  have hn : narrow (xTy ci k) (xTv g v) = xTv g v ∧ fits (xTy ci k) (xTv g v) = true := by
    generalize xTy ci k = ty at hkd
    unfold xfit at hv
    cases v with
    | int x =>
      simp only [Bool.or_eq_true, Bool.and_eq_true, beq_iff_eq] at hv
      rcases hv with rfl | ⟨rfl, hv⟩
      · cases ty <;> first | exact ⟨rfl, rfl⟩ | (simp [xKd] at hkd)
      · cases ty <;> first | (simp [xKd] at hkd; done) | (rcases hv with rfl | rfl <;> exact ⟨rfl, rfl⟩)
    | long x =>
      have hv := eq_of_beq hv
      subst hv
      cases ty <;> first | exact ⟨rfl, rfl⟩ | (simp [xKd] at hkd)
    | ref x =>
      have hv := eq_of_beq hv
      subst hv
      cases ty <;> first | exact ⟨rfl, rfl⟩ | (simp [xKd] at hkd)
    | null =>
      have hv := eq_of_beq hv
      subst hv
      cases ty <;> first | exact ⟨rfl, rfl⟩ | (simp [xKd] at hkd)
    | _ => cases hv
  have fin : ∀ H' : Heap, H'[xad g a]? = some (cell.setSlot f.slot (xTv g v)) → H'.size = H.size → (∀ q, q ≠ xad g a → H'[q]? = H[q]?) → W p l e R s m args below meth c H' (locs ++ [⟨xad g a, f.slot⟩]) cells slots Q (F0 m (pc + 3) Ls rest) := by
    intro H' e1 e2 e3
    refine kk H' _ (hW.up i16 ilt e2 e3 ?_) (hS.put e2 e3 (xad_A i16))
    rw [xTe_o, List.map_set]
    rw [hsl] at e1
    exact ⟨_, hc, t_OB.to (V := updV (vp_V (fs.map (xTv g))) k (xTv g v)) ⟨_, e1, q2, q3, t_set q4 hap hk _⟩ (fun j _ => vp_updV_set (by rw [List.length_map]; exact hle) _ j)⟩
  unfold u_lay at hlay
  by_cases hf : (T k).2.2.2 = true
  · rw [if_pos hf] at hlay
    rw [hf] at hfin
    simp only [Bool.not_true, Bool.false_or, Bool.and_eq_true, decide_eq_true_eq] at hfin
    have hcf : m.cls = cf := by
      obtain ⟨_, _, c', _, _, _, -, -, hf', -, -, -, hown2, -⟩ := Cond.laysFinal_spec hlay
      have e1 : c' = cf := by have := hi.symm.trans hf'; simp at this; exact this.1.symm
      rw [hfin.2] at hown2
      rw [← e1]; exact Option.some.inj (hown.symm.trans hown2)
    have h6 := u_fits hfc hkC hkind (Or.inr hlay) hi hd2 hn.1 hn.2
    exact W.putFinK hx hb hown (hts _ hl) hi hst hcf (hnm hfin.1) (by rw [q2]; exact h6) q1 q3 (by rw [hsl]; exact k2_hasslot (q4 k hk)) rfl rfl hd fin
  · rw [if_neg hf] at hlay
    have h6 := u_store hfc hkC hkind hlay hi hd2 hn.1 hn.2
    exact W.putK hx hb (f := f) ⟨hown, hts _ hl, ⟨_, _, _, hi⟩, hst⟩ (by rw [q2]; exact h6) q1 q3 (by rw [hsl]; exact k2_hasslot (q4 k hk)) rfl rfl hd fin
/-- a field is read -/
theorem xget (X : xCx p s m args meth c g ro own mname cc nL) {ci k idx a : Nat} {q : vw_C} {fs : List Value} {v : Value} (hc : vwCl[ci]? = some q) (hk : k < q.2.2) (hl : Jvm.Cond.fieldLink own idx (q.2.1 k).1 (q.2.1 k).2.1 (q.2.1 k).2.2.1 ∈ xTb)
    (hv : fs[k]? = some v) (ha : h.2.2 a = some (.inr (ci, fs))) (hW : xW g h H) (hd : decode cc pc = .ok (.getfield idx, 3))
    (kk : W p l e R s m args below meth c H locs cells slots Q (F0 m (pc + 3) Ls (xTv g v :: rest))) : W p l e R s m args below meth c H locs cells slots Q (F0 m pc Ls (.ref (xad g a) :: rest)) := by
  obtain ⟨hx, hb, hml, hown, hts, hnm, hK⟩ := X
  obtain ⟨C, T, N⟩ := q
  obtain ⟨i16, ilt, hat⟩ := hW.2.2 a _ ha
  rw [xTe_o] at hat
  obtain ⟨hin, hty, hnmm⟩ := xCls hc
  exact va_get (ref := (T k).1) hx hb hts hin hown hK.1 (xOne hat) 0 rfl hc k hk (hts _ hl) (fun _ h => h) (by rw [List.getElem?_map, hv]; rfl) hd kk
end XS
end
section
/-! ===== arrays and new cells ===== -/
section XA
variable {p : Program} {l : Launch} {e : Env} {R : Room} {s : State} {m : MethodId} {args : Array Value} {below : List Frame} {meth : Method} {c : Code} {H : Heap} {locs : List Loc} {cells slots : Nat} {Q : State → Prop}
variable {g : xG} {ro : xRo} {own mname : String} {cc : ByteArray} {nL pc : Nat} {h : xH} {Ls : Array Slot} {rest : List Value} {a n : Nat}
theorem xiald (X : xCx p s m args meth c g ro own mname cc nL) (hW : xW g h H) {f : Nat → Int32} (ha : h.2.2 a = some (.inl (0, n, .inl f))) {i : Int32} (hin : vp_in i n) (hd : decode cc pc = .ok (.iaload, 1))
    (kk : W p l e R s m args below meth c H locs cells slots Q (F0 m (pc + 1) Ls (.int (f i.toNatClampNeg) :: rest))) : W p l e R s m args below meth c H locs cells slots Q (F0 m pc Ls (.int i :: .ref (xad g a) :: rest)) := by
  obtain ⟨hx, hb, hml, hown, hts, hnm, hK⟩ := X
  obtain ⟨i16, ilt, hat⟩ := hW.2.2 a _ ha
  exact va_iald (tys := xTys g) hx hb hK.1 (xOne hat) 0 0 rfl rfl hin hd kk
theorem xzald (X : xCx p s m args meth c g ro own mname cc nL) (hW : xW g h H) {f : Nat → Int32} (ha : h.2.2 a = some (.inl (2, n, .inl f))) {i : Int32} (hin : vp_in i n) (hd : decode cc pc = .ok (.baload, 1))
    (kk : W p l e R s m args below meth c H locs cells slots Q (F0 m (pc + 1) Ls (.int (f i.toNatClampNeg) :: rest))) : W p l e R s m args below meth c H locs cells slots Q (F0 m pc Ls (.int i :: .ref (xad g a) :: rest)) := by
  obtain ⟨hx, hb, hml, hown, hts, hnm, hK⟩ := X
  obtain ⟨i16, ilt, hat⟩ := hW.2.2 a _ ha
  exact va_zald (tys := xTys g) hx hb hK.1 (xOne hat) 0 2 rfl rfl hin hd kk
theorem xlald (X : xCx p s m args meth c g ro own mname cc nL) (hW : xW g h H) {f : Nat → Int64} (ha : h.2.2 a = some (.inl (1, n, .inr (.inl f)))) {i : Int32} (hin : vp_in i n) (hd : decode cc pc = .ok (.laload, 1))
    (kk : W p l e R s m args below meth c H locs cells slots Q (F0 m (pc + 1) Ls (.long (f i.toNatClampNeg) :: rest))) : W p l e R s m args below meth c H locs cells slots Q (F0 m pc Ls (.int i :: .ref (xad g a) :: rest)) := by
  obtain ⟨hx, hb, hml, hown, hts, hnm, hK⟩ := X
  obtain ⟨i16, ilt, hat⟩ := hW.2.2 a _ ha
  exact va_lald (tys := xTys g) hx hb hK.1 (xOne hat) 0 1 rfl rfl hin hd kk
theorem xaald (X : xCx p s m args meth c g ro own mname cc nL) (hW : xW g h H) {t : Nat} (ht : t = 3 ∨ t = 4) {f : Nat → Option Nat} (ha : h.2.2 a = some (.inl (t, n, .inr (.inr (.inr (.inr f)))))) {i : Int32} (hin : vp_in i n) (hd : decode cc pc = .ok (.aaload, 1))
    (kk : W p l e R s m args below meth c H locs cells slots Q (F0 m (pc + 1) Ls (xTv g (va_rf (f i.toNatClampNeg)) :: rest))) : W p l e R s m args below meth c H locs cells slots Q (F0 m pc Ls (.int i :: .ref (xad g a) :: rest)) := by
  obtain ⟨hx, hb, hml, hown, hts, hnm, hK⟩ := X
  obtain ⟨i16, ilt, hat⟩ := hW.2.2 a _ ha
  rw [xTv_rf] at kk
  rcases ht with rfl | rfl
  · exact va_aldq (tys := xTys g) (C := RX2) hx hb hK.1 (xOne hat) 0 3 rfl rfl hin hd kk
  · exact va_aldq (tys := xTys g) (C := RX10) hx hb hK.1 (xOne hat) 0 4 rfl rfl hin hd kk
theorem xiast (X : xCx p s m args meth c g ro own mname cc nL) (hW : xW g h H) (hS : va_S (xA g) s.heap H locs) {f : Nat → Int32} (ha : h.2.2 a = some (.inl (0, n, .inl f))) {i x : Int32} (hin : vp_in i n) (hd : decode cc pc = .ok (.iastore, 1))
    (kk : ∀ (H1 : Heap) (locs1 : List Loc), xW g (xUp h a (.inl (0, n, .inl (upd f i.toNatClampNeg x)))) H1 → va_S (xA g) s.heap H1 locs1 → W p l e R s m args below meth c H1 locs1 cells slots Q (F0 m (pc + 1) Ls rest)) : W p l e R s m args below meth c H locs cells slots Q (F0 m pc Ls (.int x :: .int i :: .ref (xad g a) :: rest)) := by
  obtain ⟨hx, hb, hml, hown, hts, hnm, hK⟩ := X
  obtain ⟨i16, ilt, hat⟩ := hW.2.2 a _ ha
  have ht : (xTys g)[0]? = some (g.2.2.1 0, .int) := rfl
  refine W.iast hx hb (show H[xad g a]? = some (vp_cell (g.2.2.1 0) (n, .inl f)) from hat) ((hK.1.2 0 _ ht).1 n (fun j => .int (f j))) (fun q => by cases q) (by show ¬ (i < 0 ∨ (arrV _ _ _).slots.size ≤ _); rw [arrV_size]; exact hin) rfl rfl hd fun H1 e z oq => ?_
  refine kk H1 _ (hW.up i16 ilt z oq ?_) (hS.put z oq (xad_A i16))
  show H1[xad g a]? = some (vp_cell _ _)
  rw [e, vp_cell_i, vp_cell_i, arrV_store]
  congr 2
  funext q
  by_cases hq : q = i.toNatClampNeg
  · subst hq
    simp [updV, upd]
  · simp [updV, upd, hq]
theorem xzast (X : xCx p s m args meth c g ro own mname cc nL) (hW : xW g h H) (hS : va_S (xA g) s.heap H locs) {f : Nat → Int32} (ha : h.2.2 a = some (.inl (2, n, .inl f))) {i x : Int32} (hx01 : x = 0 ∨ x = 1) (hin : vp_in i n) (hd : decode cc pc = .ok (.bastore, 1))
    (kk : ∀ (H1 : Heap) (locs1 : List Loc), xW g (xUp h a (.inl (2, n, .inl (upd f i.toNatClampNeg x)))) H1 → va_S (xA g) s.heap H1 locs1 → W p l e R s m args below meth c H1 locs1 cells slots Q (F0 m (pc + 1) Ls rest)) : W p l e R s m args below meth c H locs cells slots Q (F0 m pc Ls (.int x :: .int i :: .ref (xad g a) :: rest)) := by
  obtain ⟨hx, hb, hml, hown, hts, hnm, hK⟩ := X
  obtain ⟨i16, ilt, hat⟩ := hW.2.2 a _ ha
  have ht : (xTys g)[2]? = some (g.2.2.1 2, .boolean) := rfl
  refine W.zast hx hb (show H[xad g a]? = some (vp_cell (g.2.2.1 2) (n, .inl f)) from hat) ((hK.1.2 2 _ ht).1 n (fun j => .int (f j))) (fun q => by cases q) (by show ¬ (i < 0 ∨ (arrV _ _ _).slots.size ≤ _); rw [arrV_size]; exact hin) rfl rfl hd fun H1 e z oq => ?_
  refine kk H1 _ (hW.up i16 ilt z oq ?_) (hS.put z oq (xad_A i16))
  show H1[xad g a]? = some (vp_cell _ _)
  rw [e, vp_cell_i, vp_cell_i, arrV_store]
  congr 2
  funext q
  by_cases hq : q = i.toNatClampNeg
  · subst hq
    rcases hx01 with rfl | rfl <;> simp [updV, upd] <;> rfl
  · simp [updV, upd, hq]
theorem xlast (X : xCx p s m args meth c g ro own mname cc nL) (hW : xW g h H) (hS : va_S (xA g) s.heap H locs) {f : Nat → Int64} (ha : h.2.2 a = some (.inl (1, n, .inr (.inl f)))) {i : Int32} {x : Int64} (hin : vp_in i n) (hd : decode cc pc = .ok (.lastore, 1))
    (kk : ∀ (H1 : Heap) (locs1 : List Loc), xW g (xUp h a (.inl (1, n, .inr (.inl (vp_updL f i.toNatClampNeg x))))) H1 → va_S (xA g) s.heap H1 locs1 → W p l e R s m args below meth c H1 locs1 cells slots Q (F0 m (pc + 1) Ls rest)) : W p l e R s m args below meth c H locs cells slots Q (F0 m pc Ls (.long x :: .int i :: .ref (xad g a) :: rest)) := by
  obtain ⟨hx, hb, hml, hown, hts, hnm, hK⟩ := X
  obtain ⟨i16, ilt, hat⟩ := hW.2.2 a _ ha
  have ht : (xTys g)[1]? = some (g.2.2.1 1, .long) := rfl
  refine W.last hx hb (show H[xad g a]? = some (vp_cell (g.2.2.1 1) (n, .inr (.inl f))) from hat) ((hK.1.2 1 _ ht).1 n (fun j => .long (f j))) (fun q => by cases q) (by show ¬ (i < 0 ∨ (arrV _ _ _).slots.size ≤ _); rw [arrV_size]; exact hin) rfl rfl hd fun H1 e z oq => ?_
  refine kk H1 _ (hW.up i16 ilt z oq ?_) (hS.put z oq (xad_A i16))
  show H1[xad g a]? = some (vp_cell _ _)
  rw [e, vp_cell_l, vp_cell_l, arrV_store]
  congr 2
  funext q
  by_cases hq : q = i.toNatClampNeg
  · subst hq
    simp [updV, vp_updL]
  · simp [updV, vp_updL, hq]
theorem xaast (X : xCx p s m args meth c g ro own mname cc nL) (hW : xW g h H) (hS : va_S (xA g) s.heap H locs) {t o : Nat} (ht : t = 3 ∨ t = 4) {f : Nat → Option Nat} {fs : List Value} (ha : h.2.2 a = some (.inl (t, n, .inr (.inr (.inr (.inr f)))))) (ho : h.2.2 o = some (.inr (xEl t, fs))) {i : Int32} (hin : vp_in i n) (hd : decode cc pc = .ok (.aastore, 1))
    (kk : ∀ (H1 : Heap) (locs1 : List Loc), xW g (xUp h a (.inl (t, n, .inr (.inr (.inr (.inr (va_up f i.toNatClampNeg (some o)))))))) H1 → va_S (xA g) s.heap H1 locs1 → W p l e R s m args below meth c H1 locs1 cells slots Q (F0 m (pc + 1) Ls rest)) : W p l e R s m args below meth c H locs cells slots Q (F0 m pc Ls (.ref (xad g o) :: .int i :: .ref (xad g a) :: rest)) := by
  obtain ⟨hx, hb, hml, hown, hts, hnm, hK⟩ := X
  obtain ⟨i16, ilt, hat⟩ := hW.2.2 a _ ha
  obtain ⟨-, -, hov⟩ := hW.2.2 o _ ho
  have hlt : i.toNatClampNeg < n := Nat.not_le.mp fun q => hin (Or.inr q)
  have h0 : ¬ i < 0 := fun q => hin (Or.inl q)
  obtain ⟨q, hcq, htq⟩ : ∃ q : vw_C, vwCl[xEl t]? = some q ∧ (xTys g)[t]? = some (g.2.2.1 t, .object q.1) := by
    rcases ht with rfl | rfl
    · exact ⟨_, rfl, rfl⟩
    · exact ⟨_, rfl, rfl⟩
  obtain ⟨r', hr', cellV, g1, g2, g3, -⟩ := hov
  have hcls := (hK.1.1 _ q hcq).2
  obtain ⟨kA, comp, k1, k2, k3, -⟩ := (hK.1.2 t _ htq).2
  have hcomp : comp = g.2.2.2.1 (xEl t) := Option.some.inj (k3.symm.trans hcls.1)
  subst hcomp
  obtain ⟨kC, hkC, -⟩ := hcls.2
  refine W.aast hx hb (show H[xad g a]? = some (vp_cell (g.2.2.1 t) (n, .inr (.inr (.inr (.inr (fun j => (f j).map (xad g))))))) from hat) (fun q h => by cases h) (fun h => by cases h) k1 k2 rfl hkC ⟨h0, by show _ < (arrV _ _ _).slots.size; rw [arrV_size]; exact hlt⟩ g1 (fun q h => by rw [g3] at h; cases h) (by rw [g2]; exact hkC) (by rw [g2]; exact va_assign hcls) rfl rfl hd fun H1 e z oq => ?_
  refine kk H1 _ (hW.up i16 ilt z oq ?_) (hS.put z oq (xad_A i16))
  rw [xTe_q]
  show H1[xad g a]? = some (vp_cell _ _)
  rw [e, vp_cell_q, vp_cell_q, arrV_store]
  congr 2
  funext q
  by_cases hq : q = i.toNatClampNeg
  · subst hq
    simp [updV, va_up, va_rf]
  · simp [updV, va_up, hq]
theorem xaastN (X : xCx p s m args meth c g ro own mname cc nL) (hW : xW g h H) (hS : va_S (xA g) s.heap H locs) {t : Nat} (ht : t = 3 ∨ t = 4) {f : Nat → Option Nat} (ha : h.2.2 a = some (.inl (t, n, .inr (.inr (.inr (.inr f)))))) {i : Int32} (hin : vp_in i n) (hd : decode cc pc = .ok (.aastore, 1))
    (kk : ∀ (H1 : Heap) (locs1 : List Loc), xW g (xUp h a (.inl (t, n, .inr (.inr (.inr (.inr (va_up f i.toNatClampNeg none))))))) H1 → va_S (xA g) s.heap H1 locs1 → W p l e R s m args below meth c H1 locs1 cells slots Q (F0 m (pc + 1) Ls rest)) : W p l e R s m args below meth c H locs cells slots Q (F0 m pc Ls (.null :: .int i :: .ref (xad g a) :: rest)) := by
  obtain ⟨hx, hb, hml, hown, hts, hnm, hK⟩ := X
  obtain ⟨i16, ilt, hat⟩ := hW.2.2 a _ ha
  obtain ⟨C, htq⟩ : ∃ C : String, (xTys g)[t]? = some (g.2.2.1 t, .object C) := by
    rcases ht with rfl | rfl
    · exact ⟨_, rfl⟩
    · exact ⟨_, rfl⟩
  refine va_WaastN (C := C) hx hb (show H[xad g a]? = some (vp_cell (g.2.2.1 t) (n, .inr (.inr (.inr (.inr (fun j => (f j).map (xad g))))))) from hat) ((hK.1.2 t _ htq).1 n (fun j => va_rf ((f j).map (xad g)))) (fun h => by cases h) (by show ¬ (i < 0 ∨ (arrV _ _ _).slots.size ≤ _); rw [arrV_size]; exact hin) rfl rfl hd fun H1 e z oq => ?_
  refine kk H1 _ (hW.up i16 ilt z oq ?_) (hS.put z oq (xad_A i16))
  rw [xTe_q]
  show H1[xad g a]? = some (vp_cell _ _)
  rw [e, vp_cell_q, vp_cell_q, arrV_store]
  congr 2
  funext q
  by_cases hq : q = i.toNatClampNeg
  · subst hq
    simp [updV, va_up, va_rf]
  · simp [updV, va_up, hq]
theorem xalen (X : xCx p s m args meth c g ro own mname cc nL) (hW : xW g h H) {t : Nat} (ht : t < 5) {x : (Nat → Int32) ⊕ (Nat → Int64) ⊕ (Nat → UInt32) ⊕ (Nat → UInt64) ⊕ (Nat → Option Nat)} (ha : h.2.2 a = some (.inl (t, n, x))) (hd : decode cc pc = .ok (.arraylength, 1))
    (kk : W p l e R s m args below meth c H locs cells slots Q (F0 m (pc + 1) Ls (.int (Int32.ofNat n) :: rest))) : W p l e R s m args below meth c H locs cells slots Q (F0 m pc Ls (.ref (xad g a) :: rest)) := by
  obtain ⟨hx, hb, hml, hown, hts, hnm, hK⟩ := X
  obtain ⟨i16, ilt, hat⟩ := hW.2.2 a _ ha
  obtain ⟨ty, htq⟩ : ∃ ty : FieldType, (xTys g)[t]? = some (g.2.2.1 t, ty) := by
    match t, ht with
    | 0, _ => exact ⟨_, rfl⟩
    | 1, _ => exact ⟨_, rfl⟩
    | 2, _ => exact ⟨_, rfl⟩
    | 3, _ => exact ⟨_, rfl⟩
    | 4, _ => exact ⟨_, rfl⟩
  obtain f | f | f | f | f := x
  · exact va_alen (tys := xTys g) (x := (n, .inl f)) hx hb hK.1 (xOne hat) 0 t rfl htq rfl hd kk
  · exact va_alen (tys := xTys g) (x := (n, .inr (.inl f))) hx hb hK.1 (xOne hat) 0 t rfl htq rfl hd kk
  · exact va_alen (tys := xTys g) (x := (n, .inr (.inr (.inl f)))) hx hb hK.1 (xOne hat) 0 t rfl htq rfl hd kk
  · exact va_alen (tys := xTys g) (x := (n, .inr (.inr (.inr (.inl f))))) hx hb hK.1 (xOne hat) 0 t rfl htq rfl hd kk
  · exact va_alen (tys := xTys g) (x := (n, .inr (.inr (.inr (.inr (fun j => (f j).map (xad g))))))) hx hb hK.1 (xOne hat) 0 t rfl htq rfl hd kk
theorem xS_nw {A : Nat → Prop} {H0 H H1 : Heap} {locs : List Loc} (hS : va_S A H0 H locs) (z : H1.size = H.size + 1) (oq : ∀ q : Nat, q < H.size → H1[q]? = H[q]?) : va_S A H0 H1 locs :=
  ⟨Nat.le_trans hS.1 (by omega), fun x h1 h2 => (oq x (Nat.lt_of_lt_of_le h1 hS.1)).trans (hS.2.1 x h1 h2), hS.2.2⟩
theorem xnewa (X : xCx p s m args meth c g ro own mname cc nL) (hW : xW g h H) (hS : va_S (xA g) s.heap H locs) {at_ : ArrayType} {t : Nat} (ht : xTag at_ = some t) (hw : Jvm.Cond.arrayClass (newarray.typeOf at_) ∈ xTb) {x : Int32} (h0 : ¬ x < 0) (hle : x.toNatClampNeg ≤ 100000) (hcells : cells + 1 ≤ R.cells) (hslots : slots + x.toNatClampNeg ≤ R.slots) (hd : decode cc pc = .ok (.newarray at_, 2))
    (kk : ∀ H1 : Heap, xW g (xNw h x.toNatClampNeg (.inl (t, xZero t x.toNatClampNeg))) H1 → va_S (xA g) s.heap H1 locs → W p l e R s m args below meth c H1 locs (cells + 1) (slots + x.toNatClampNeg) Q (F0 m (pc + 2) Ls (.ref (xad g h.1) :: rest))) : W p l e R s m args below meth c H locs cells slots Q (F0 m pc Ls (.int x :: rest)) := by
  obtain ⟨hx, hb, hml, hown, hts, hnm, hK⟩ := X
  obtain ⟨ty, hty, hK2, hz⟩ : ∃ ty : FieldType, newarray.typeOf at_ = ty ∧ s.vm.findClass ("[" ++ ty.toString) = some (g.2.2.1 t) ∧ (∀ n : Nat, vp_cell (g.2.2.1 t) (xZero t n) = arrV (g.2.2.1 t) n (fun _ => defaultValue ty)) ∧ xTe g (.inl (t, xZero t x.toNatClampNeg)) = .inl (g.2.2.1 t, xZero t x.toNatClampNeg) ∧ componentBytes ty ≤ 8 := by
    cases at_ <;> cases ht
    · exact ⟨_, rfl, (hK.1.2 2 _ rfl).2, fun n => rfl, rfl, by decide⟩
    · exact ⟨_, rfl, (hK.1.2 0 _ rfl).2, fun n => rfl, rfl, by decide⟩
    · exact ⟨_, rfl, (hK.1.2 1 _ rfl).2, fun n => rfl, rfl, by decide⟩
  have hbytes : x.toNatClampNeg * componentBytes (newarray.typeOf at_) ≤ 536870912 := by
    rw [hty]
    have := Nat.mul_le_mul hle hz.2.2
    omega
  refine va_newaK hx hb (hts _ hw) rfl hd rfl h0 rfl hbytes hcells hslots rfl fun H1 cA e1 z1 o1 hAr hNm => ?_
  rw [hty, hK2] at hNm
  cases hNm
  have hk := kk H1 (hW.nw z1 o1 ?_) (xS_nw hS z1 o1)
  · rw [← hW.size] at hk
    exact hk
  · rw [hz.2.1]
    show H1[H.size]? = some (vp_cell _ _)
    rw [hz.1, e1, hty]
theorem xnewq (X : xCx p s m args meth c g ro own mname cc nL) (hW : xW g h H) (hS : va_S (xA g) s.heap H locs) {t idx : Nat} (hw : (t = 3 ∧ Jvm.Cond.classLink own idx RX2 ∈ xTb) ∨ (t = 4 ∧ Jvm.Cond.classLink own idx RX10 ∈ xTb)) {x : Int32} (h0 : ¬ x < 0) (hle : x.toNatClampNeg ≤ 100000) (hcells : cells + 1 ≤ R.cells) (hslots : slots + x.toNatClampNeg ≤ R.slots) (hd : decode cc pc = .ok (.anewarray idx, 3))
    (kk : ∀ H1 : Heap, xW g (xNw h x.toNatClampNeg (.inl (t, x.toNatClampNeg, .inr (.inr (.inr (.inr (fun _ => none))))))) H1 → va_S (xA g) s.heap H1 locs → W p l e R s m args below meth c H1 locs (cells + 1) (slots + x.toNatClampNeg) Q (F0 m (pc + 3) Ls (.ref (xad g h.1) :: rest))) : W p l e R s m args below meth c H locs cells slots Q (F0 m pc Ls (.int x :: rest)) := by
  obtain ⟨hx, hb, hml, hown, hts, hnm, hK⟩ := X
  obtain ⟨C, hC, hao, kA0, comp0, q1, q2, q3, q4⟩ : ∃ C : String, Jvm.Cond.classLink own idx C ∈ xTb ∧ va_AO C s ∧ ∃ (kA : Class) (comp : ClassId), s.vm.classes[g.2.2.1 t]? = some kA ∧ kA.kind = .array comp (.object C) ∧ s.vm.findClass C = some comp ∧ s.vm.findClass ("[" ++ (FieldType.object C).toString) = some (g.2.2.1 t) := by
    rcases hw with ⟨rfl, hw⟩ | ⟨rfl, hw⟩
    · exact ⟨_, hw, hK.2.2.1, (hK.1.2 3 _ rfl).2⟩
    · exact ⟨_, hw, hK.2.2.2.1, (hK.1.2 4 _ rfl).2⟩
  refine W.anew hx hb hown (hts _ hC) (va_AO.use hao) rfl hd rfl h0 (by omega) hcells hslots fun cA kA comp f1 f2 f3 f4 => ?_
  rw [q4] at f1
  cases f1
  generalize hH1 : H.push ({ cls := g.2.2.1 t, slots := Array.replicate x.toNatClampNeg .null, vm := .none } : Cell) = H1
  have z1 : H1.size = H.size + 1 := by rw [← hH1, Array.size_push]
  have e1 : H1[H.size]? = some (arrV (g.2.2.1 t) x.toNatClampNeg (fun _ => .null)) := by rw [← hH1, Array.getElem?_push_size, ← arrV_new]
  have o1 : ∀ q : Nat, q < H.size → H1[q]? = H[q]? := fun q hq => by rw [← hH1, Array.getElem?_push, if_neg (Nat.ne_of_lt hq)]
  have hk := kk H1 (hW.nw z1 o1 e1) (xS_nw hS z1 o1)
  rw [← hW.size] at hk
  exact hk
theorem xnew (X : xCx p s m args meth c g ro own mname cc nL) (hW : xW g h H) (hS : va_S (xA g) s.heap H locs) {ci idx : Nat} {q : vw_C} (hc : vwCl[ci]? = some q) (hw1 : Jvm.Cond.classLink own idx q.1 ∈ xTb) (hw2 : Jvm.Cond.instantiable q.1 q.2.2 ∈ xTb) (hw3 : Jvm.Cond.initialized q.1 ∈ xTb) (hcells : cells + 1 ≤ R.cells) (hslots : slots + q.2.2 ≤ R.slots) (hd : decode cc pc = .ok (.new idx, 3))
    (kk : ∀ H1 : Heap, xW g (xNw h q.2.2 (.inr (ci, xNew ci q.2.2))) H1 → va_S (xA g) s.heap H1 locs → W p l e R s m args below meth c H1 locs (cells + 1) (slots + q.2.2) Q (F0 m (pc + 3) Ls (.ref (xad g h.1) :: rest))) : W p l e R s m args below meth c H locs cells slots Q (F0 m pc Ls rest) := by
  obtain ⟨hx, hb, hml, hown, hts, hnm, hK⟩ := X
  obtain ⟨C, T, N⟩ := q
  obtain ⟨hin, hty, hnmm⟩ := xCls hc
  have hKn := hK.1.1 ci _ hc
  refine W.newcK hx hb hown (hts _ hw1) (hts _ hw2) (hts _ hw3) rfl hd hcells hslots hKn.2.1 rfl fun H1 kC hkC e1 z1 o1 => ?_
  have hk := kk H1 (hW.nw z1 o1 ?_) (xS_nw hS z1 o1)
  · rw [← hW.size] at hk
    exact hk
  · refine ⟨_, hc, (u_born (xTy ci) hts hin hKn hkC e1 hty).to fun j hj => ?_⟩
    show _ = vp_V ((xNew ci N).map (xTv g)) j
    have hdv : ∀ ty : FieldType, xTv g (defaultValue ty) = defaultValue ty := fun ty => by cases ty <;> rfl
    unfold vp_V xNew
    rw [List.map_map, List.getD_eq_getElem?_getD, List.getElem?_map, List.getElem?_range hj]
    exact (hdv _).symm
end XA
end
section
/-! ===== arraycopy, and all plain instructions together ===== -/
section XB
variable {p : Program} {l : Launch} {e : Env} {R : Room} {s : State} {m : MethodId} {args : Array Value} {below : List Frame} {meth : Method} {c : Code} {H : Heap} {locs : List Loc} {cells slots : Nat} {Q : State → Prop}
variable {g : xG} {ro : xRo} {own mname : String} {cc : ByteArray} {nL pc : Nat} {h : xH} {Ls : Array Slot} {rest : List Value} {a : Nat}
theorem xcopy (X : xCx p s m args meth c g ro own mname cc nL) (hW : xW g h H) (hS : va_S (xA g) s.heap H locs) (hLs : Ls.size = nL) {idx a0 n0 n1 : Nat} {f f1 : Nat → Int32} (ha0 : h.2.2 a0 = some (.inl (0, n0, .inl f))) (ha1 : h.2.2 a = some (.inl (0, n1, .inl f1)))
    (w0 : Jvm.Cond.methodLink own idx arraycopyName ∈ xTb) (w1 : Jvm.Cond.native arraycopyName ∈ xTb) (w2 : Jvm.Cond.static arraycopyName ∈ xTb) (w3 : Jvm.Cond.initialized "java/lang/System" ∈ xTb)
    {sp dp n : Int32} (h1 : ¬ sp < 0) (h2 : ¬ dp < 0) (h3 : ¬ n < 0) (h4 : sp.toNatClampNeg + n.toNatClampNeg ≤ n0) (h5 : dp.toNatClampNeg + n.toNatClampNeg ≤ n1) (hframes : 1 ≤ R.frames) (hlocals : (rest.map fun v => v.category).sum + (nativeFrameWords "java/lang/System" "arraycopy" 5 + 11) ≤ R.locals) (hdg : decode cc pc = .ok (.invokestatic idx, 3))
    (kk : ∀ (H1 : Heap) (locs1 : List Loc), xW g (xUp h a (.inl (0, n1, .inl (va_cpy f f1 sp.toNatClampNeg dp.toNatClampNeg n.toNatClampNeg)))) H1 → va_S (xA g) s.heap H1 locs1 → W p l e R s m args below meth c H1 locs1 cells slots Q (F0 m (pc + 3) Ls rest)) : W p l e R s m args below meth c H locs cells slots Q (F0 m pc Ls (.int n :: .int dp :: .ref (xad g a) :: .int sp :: .ref (xad g a0) :: rest)) := by
  obtain ⟨hx, hb, hml, hown, hts, hnm, hK⟩ := X
  obtain ⟨-, -, hat0⟩ := hW.2.2 a0 _ ha0
  obtain ⟨i16, ilt, hat1⟩ := hW.2.2 a _ ha1
  have nn : ∀ z : Int32, ¬ z < 0 → z.toInt = (z.toNatClampNeg : Int) := by
    intro z hz
    have hz0 : (0 : Int) ≤ z.toInt := by
      have := Int32.not_lt.mp hz
      simpa using Int32.le_iff_toInt_le.mp this
    show z.toInt = ((z.toInt.toNat : Nat) : Int)
    omega
  intro T hT X
  have hc0 : H[xad g a0]? = some (vp_cell (g.2.2.1 0) (n0, .inl f)) := hat0
  have hc1 : H[xad g a]? = some (vp_cell (g.2.2.1 0) (n1, .inl f1)) := hat1
  have ht : (xTys g)[0]? = some (g.2.2.1 0, .int) := rfl
  obtain ⟨-, k0, hk0, cm0, hkk0⟩ := (hK.1.2 0 _ ht).1 n0 (fun j => .int (f j))
  obtain ⟨-, k1, hk1, cm1, hkk1⟩ := (hK.1.2 0 _ ht).1 n1 (fun j => .int (f1 j))
  obtain ⟨vm', X', step⟩ := X.arraycopy hx hown (hts _ w0) (hts _ w1) (hts _ w2) (hts _ w3) (src := xad g a0) (dst := xad g a) (cs := vp_cell (g.2.2.1 0) (n0, .inl f)) (cd := vp_cell (g.2.2.1 0) (n1, .inl f1)) (srcPos := sp) (destPos := dp) (n := n) (by rw [hT]; exact hc0) (by rw [hT]; exact hc1)
    (fun _ h => by cases h) (fun _ h => by cases h) (fun h => by cases h) (fun h => by cases h) hk0 hk1 hkk0 hkk1 (by simp [refKind]) h1 h2 h3
    (by rw [nn sp h1, nn n h3]; show ¬ _ > ((arrV (g.2.2.1 0) n0 (fun j => .int (f j))).slots.size : Int); rw [arrV_size]; omega)
    (by rw [nn dp h2, nn n h3]; show ¬ _ > ((arrV (g.2.2.1 0) n1 (fun j => .int (f1 j))).slots.size : Int); rw [arrV_size]; omega)
    (fun vm₁ _ i hi => by
      have e : (vp_cell (g.2.2.1 0) (n0, .inl f)).slots.getD (sp.toNatClampNeg + i) .null = .int (f (sp.toNatClampNeg + i)) := by
        show (arrV (g.2.2.1 0) n0 (fun j => .int (f j))).slots.getD _ _ = _
        rw [Array.getD_eq_getD_getElem?, arrV_read _ _ (by omega)]
        rfl
      refine ⟨?_, ?_⟩
      · rw [e]
        rfl
      · rw [e]
        exact trivial)
    (g := F0 m pc Ls (.int n :: .int dp :: .ref (xad g a) :: .int sp :: .ref (xad g a0) :: rest)) rfl (by rw [hml]; exact hLs) (rest := rest) rfl (by rw [hb]; exact hdg) hframes (by show 2 * 0 + _ + _ ≤ _; omega)
  have e1 : copied (vp_cell (g.2.2.1 0) (n0, .inl f)) (vp_cell (g.2.2.1 0) (n1, .inl f1)) sp dp n = vp_cell (g.2.2.1 0) (n1, .inl (va_cpy f f1 sp.toNatClampNeg dp.toNatClampNeg n.toNatClampNeg)) := va_copied (fun z => .int z) _ _ f f1 h4
  rw [e1] at X' step
  generalize hce : vp_cell (g.2.2.1 0) (n1, .inl (va_cpy f f1 sp.toNatClampNeg dp.toNatClampNeg n.toNatClampNeg)) = ce at X' step
  have hl : xad g a < H.size := (Array.getElem?_eq_some_iff.mp hc1).1
  have hheap : ((T.setVm vm').setCell (xad g a) ce).heap = H.setIfInBounds (xad g a) ce := by rw [← hT]; rfl
  have oq : ∀ q : Nat, q ≠ xad g a → (H.setIfInBounds (xad g a) ce)[q]? = H[q]? := fun q hq => by simp [Array.getElem?_setIfInBounds, Ne.symm hq]
  obtain ⟨t, a1, b1⟩ := kk _ _ (hW.up i16 ilt (by simp) oq (show (H.setIfInBounds (xad g a) ce)[xad g a]? = some _ by rw [← hce]; simp [Array.getElem?_setIfInBounds, hl])) ⟨by simp; exact hS.1, fun q g1 g2 => by
      rw [oq q (fun e => g2 (by rw [e]; exact xad_A i16))]
      exact hS.2.1 q g1 g2, fun q hq => by
      rcases List.mem_append.mp hq with h | h
      · exact hS.2.2 q h
      · obtain ⟨z, -, hz⟩ := List.mem_map.mp h
        rw [← hz]
        exact xad_A i16⟩ _ hheap X'
  exact ⟨t, step t a1, b1⟩
theorem xclone (X : xCx p s m args meth c g ro own mname cc nL) (hW : xW g h H) (hS : va_S (xA g) s.heap H locs) (hLs : Ls.size = nL) {idx n : Nat} {f : Nat → Int32} (ha : h.2.2 a = some (.inl (0, n, .inl f)))
    (w0 : Jvm.Cond.methodLink own idx ⟨"[I", "clone", "()Ljava/lang/Object;"⟩ ∈ xTb) (w1 : Jvm.Cond.sameMethod "[I" "java/lang/Object" "clone" "()Ljava/lang/Object;" ∈ xTb) (w2 : Jvm.Cond.native ⟨"java/lang/Object", "clone", "()Ljava/lang/Object;"⟩ ∈ xTb) (w3 : Jvm.Cond.instanceMethod ⟨"java/lang/Object", "clone", "()Ljava/lang/Object;"⟩ ∈ xTb)
    (w4 : Jvm.Cond.selects "[I" ⟨"[I", "clone", "()Ljava/lang/Object;"⟩ ⟨"java/lang/Object", "clone", "()Ljava/lang/Object;"⟩ ∈ xTb)
    (hframes : 1 ≤ R.frames) (hlocals : (rest.map fun v => v.category).sum + 14 ≤ R.locals) (hcells : cells + 1 ≤ R.cells) (hslots : slots + n ≤ R.slots) (hdg : decode cc pc = .ok (.invokevirtual idx, 3))
    (kk : ∀ H1 : Heap, xW g (xNw h n (.inl (0, n, .inl f))) H1 → va_S (xA g) s.heap H1 locs → W p l e R s m args below meth c H1 locs (cells + 1) (slots + n) Q (F0 m (pc + 3) Ls (.ref (xad g h.1) :: rest))) : W p l e R s m args below meth c H locs cells slots Q (F0 m pc Ls (.ref (xad g a) :: rest)) := by
  obtain ⟨hx, hb, hml, hown, hts, hnm, hK⟩ := X
  obtain ⟨-, -, hat⟩ := hW.2.2 a _ ha
  have hc0 : H[xad g a]? = some (vp_cell (g.2.2.1 0) (n, .inl f)) := hat
  have ht : (xTys g)[0]? = some (g.2.2.1 0, .int) := rfl
  have hnmA : s.vm.findClass "[I" = some (g.2.2.1 0) := (hK.1.2 0 _ ht).2
  have hsz : (vp_cell (g.2.2.1 0) (n, .inl f)).slots.size = n := arrV_size _ _ _
  obtain ⟨c0, t0', f1, f2, f3⟩ := Cond.castable_spec (va_Nw.use (A := args) rfl hK.2.2.2.2.2.2.2.2.2.2.2.2)
  cases hnmA.symm.trans f1
  intro T hT X
  have hcellT : T.heap[xad g a]? = some (vp_cell (g.2.2.1 0) (n, .inl f)) := by rw [hT]; exact hc0
  obtain ⟨-, kA, hkA, comp, hkind⟩ := State.isArrayOf_alike X.warmed.alike ((hK.1.2 0 _ ht).1 0 (fun _ => .null))
  obtain ⟨-, kS, hkS, compS, hkindS⟩ := (hK.1.2 0 _ ht).1 0 (fun _ => .null)
  obtain ⟨vm', X', st⟩ := X.cloneArray hx hown (hts _ w0) (hts _ w1) (hts _ w2) (hts _ w3) (hts _ w4) (a := xad g a) (cell := vp_cell (g.2.2.1 0) (n, .inl f)) hcellT (fun k h => by cases h) (fun h => by cases h) hnmA f2 f3
    (fun i v hv => by
      have hk' : T.vm.classes[g.2.2.1 0]? = some kA := hkA
      have hv2 : (arrV (g.2.2.1 0) n (fun j => Value.int (f j))).slots[i]? = some v := hv
      have hi : i < n := by
        have := (Array.getElem?_eq_some_iff.mp hv2).1
        rw [arrV_size] at this
        exact this
      rw [arrV_read _ _ hi] at hv2
      cases hv2
      simp [State.fitsSlot, State.slotType?, hk', hkind, vp_cell, arrV, fits])
    (g := F0 m pc Ls (.ref (xad g a) :: rest)) rfl (by rw [hml]; exact hLs) rfl (by rw [hb]; exact hdg) hframes (by show 2 * 0 + _ + 14 ≤ _; omega) hcells (by rw [hsz]; exact hslots) (hloader := Vm.clonesLoader_of_array hkS hkindS)
  have hcellE : ({ cls := (vp_cell (g.2.2.1 0) (n, .inl f)).cls, slots := (vp_cell (g.2.2.1 0) (n, .inl f)).slots } : Cell) = vp_cell (g.2.2.1 0) (n, .inl f) := rfl
  rw [hcellE, hsz] at X'
  generalize hH1 : H.push (vp_cell (g.2.2.1 0) (n, .inl f)) = H1
  have z1 : H1.size = H.size + 1 := by rw [← hH1, Array.size_push]
  have e1 : H1[H.size]? = some (vp_cell (g.2.2.1 0) (n, .inl f)) := by rw [← hH1, Array.getElem?_push_size]
  have o1 : ∀ q : Nat, q < H.size → H1[q]? = H[q]? := fun q hq => by rw [← hH1, Array.getElem?_push, if_neg (Nat.ne_of_lt hq)]
  have hk := kk H1 (hW.nw z1 o1 e1) (xS_nw hS z1 o1)
  rw [← hW.size] at hk
  obtain ⟨t, b1, b2⟩ := hk _ (by rw [← hH1, ← hT]; rfl) X'
  refine ⟨t, ?_, b2⟩
  refine st t ?_
  rw [← hT] at b1
  exact b1
theorem xcast (X : xCx p s m args meth c g ro own mname cc nL) (hW : xW g h H) {idx n : Nat} {f : Nat → Int32} (ha : h.2.2 a = some (.inl (0, n, .inl f))) (w0 : Jvm.Cond.classLink own idx "[I" ∈ xTb) (hdg : decode cc pc = .ok (.checkcast idx, 3))
    (kk : W p l e R s m args below meth c H locs cells slots Q (F0 m (pc + 3) Ls (.ref (xad g a) :: rest))) : W p l e R s m args below meth c H locs cells slots Q (F0 m pc Ls (.ref (xad g a) :: rest)) := by
  obtain ⟨hx, hb, hml, hown, hts, hnm, hK⟩ := X
  obtain ⟨-, -, hat⟩ := hW.2.2 a _ ha
  have ht : (xTys g)[0]? = some (g.2.2.1 0, .int) := rfl
  exact va_castA hx hb hown (hts _ w0) (xOne hat) 0 rfl (hK.1.2 0 _ ht).2 hdg kk
end XB
end
section
/-! ===== every plain instruction: the small machine's step is the JVM's ===== -/
theorem xoff_ok {pc : Nat} {d k : Int} : ∀ {ps : List (Int × Int)}, xNn pc d = true → ps.all (fun q => xNn pc q.2) = true → xNn pc (Op.lookupswitch.offset ps d k) = true
  | [], hd, _ => hd
  | (a, o) :: r, hd, h => by
    rw [Op.lookupswitch.offset_cons]
    simp only [List.all_cons, Bool.and_eq_true] at h
    split
    · exact h.1
    · exact xoff_ok hd h.2
theorem xstr_at {g : xG} {a : Nat} (h2 : 2 ≤ a) (h4 : a ≤ 4) : a - 2 < 3 ∧ xad g a = g.2.1 (2 + (a - 2)) ∧ xad g (a + 3) = g.2.1 (5 + (a - 2)) := by
  refine ⟨by omega, ?_, ?_⟩
  · unfold xad
    rw [if_pos (show a < 16 by omega), show 2 + (a - 2) = a by omega]
  · unfold xad
    rw [if_pos (show a + 3 < 16 by omega), show 5 + (a - 2) = a + 3 by omega]
theorem xstb_at {g : xG} {ro : xRo} {s : State} {H : Heap} {a n : Nat} {f : Nat → Int32} (hK : xK g ro s H) (h : xStB a = some (n, f)) : va_T .byte (xad g a) n (fun j => .int (f j)) (xA g) s H ∧ xad g a = xad g a := by
  have hv := hK.2.2.2.2.2.2.2.2.2.1.1
  refine ⟨?_, rfl⟩
  unfold xStB at h
  split at h
  · cases h; exact (hv 0 (by decide)).2.2.2
  · cases h; exact (hv 1 (by decide)).2.2.2
  · cases h; exact (hv 2 (by decide)).2.2.2
  · cases h
theorem xnfw : nativeFrameWords "java/lang/System" "arraycopy" 5 + 11 ≤ 80 := by decide +kernel
section XM
variable {p : Program} {l : Launch} {e : Env} {R : Room} {s : State} {m : MethodId} {args : Array Value} {below : List Frame} {meth : Method} {c : Code} {H : Heap} {locs : List Loc} {cells slots : Nat} {Q : State → Prop}
variable {g : xG} {ro : xRo} {own mname : String} {cc : ByteArray} {nL pc : Nat} {h : xH} {Ls : Array Slot}
set_option maxHeartbeats 8000000 in
theorem xmain (X : xCx p s m args meth c g ro own mname cc nL) (hRm : 1 ≤ R.frames ∧ 120 ≤ R.locals) {i : xI} (hc : xChk own mname cc nL pc i = true) {ls ls' : xL} {st st' : List Value} {h' : xH} {pc' : Nat} (hs : xStep ro i pc ls st h = some (pc', ls', st', h')) (hW : xW g h H) (hL : lv_has Ls nL (xTl g ls)) (hS : va_S (xA g) s.heap H locs)
    (hcell : cells + h'.1 ≤ R.cells + h.1) (hslot : slots + h'.2.1 ≤ R.slots + h.2.1)
    (kk : ∀ (H1 : Heap) (locs1 : List Loc) (Ls1 : Array Slot) (cells1 slots1 : Nat), xW g h' H1 → lv_has Ls1 nL (xTl g ls') → va_S (xA g) s.heap H1 locs1 → cells1 + h.1 = cells + h'.1 → slots1 + h.2.1 = slots + h'.2.1 → W p l e R s m args below meth c H1 locs1 cells1 slots1 Q (F0 m pc' Ls1 (st'.map (xTv g)))) :
    W p l e R s m args below meth c H locs cells slots Q (F0 m pc Ls (st.map (xTv g))) := by
  obtain ⟨op, len, A, B, k, ps⟩ := i
  unfold xChk at hc
  simp only [Bool.and_eq_true, decide_eq_true_eq] at hc
  obtain ⟨⟨hd, hlen⟩, h2⟩ := hc
  obtain ⟨hx, hb, hml, hown, hts, hnm, hK⟩ := id X
  unfold xStep at hs
  dsimp only at hs hd hlen
  cases op with
  | iadd =>
    obtain rfl : len = 1 := xbeq hlen
    obtain ⟨x, y, r, rfl, he⟩ := xii_inv hs
    cases he
    exact lv_iadd hx hb hd (kk _ _ _ _ _ hW hL hS rfl rfl)
  | isub =>
    obtain rfl : len = 1 := xbeq hlen
    obtain ⟨x, y, r, rfl, he⟩ := xii_inv hs
    cases he
    exact lv_isub hx hb hd (kk _ _ _ _ _ hW hL hS rfl rfl)
  | imul =>
    obtain rfl : len = 1 := xbeq hlen
    obtain ⟨x, y, r, rfl, he⟩ := xii_inv hs
    cases he
    exact lv_imul hx hb hd (kk _ _ _ _ _ hW hL hS rfl rfl)
  | iand =>
    obtain rfl : len = 1 := xbeq hlen
    obtain ⟨x, y, r, rfl, he⟩ := xii_inv hs
    cases he
    exact lv_iand hx hb hd (kk _ _ _ _ _ hW hL hS rfl rfl)
  | ior =>
    obtain rfl : len = 1 := xbeq hlen
    obtain ⟨x, y, r, rfl, he⟩ := xii_inv hs
    cases he
    exact lv_ior hx hb hd (kk _ _ _ _ _ hW hL hS rfl rfl)
  | ixor =>
    obtain rfl : len = 1 := xbeq hlen
    obtain ⟨x, y, r, rfl, he⟩ := xii_inv hs
    cases he
    exact lv_ixor hx hb hd (kk _ _ _ _ _ hW hL hS rfl rfl)
  | ishl =>
    obtain rfl : len = 1 := xbeq hlen
    obtain ⟨x, y, r, rfl, he⟩ := xii_inv hs
    cases he
    exact lv_ishl hx hb hd (kk _ _ _ _ _ hW hL hS rfl rfl)
  | ishr =>
    obtain rfl : len = 1 := xbeq hlen
    obtain ⟨x, y, r, rfl, he⟩ := xii_inv hs
    cases he
    exact lv_ishr hx hb hd (kk _ _ _ _ _ hW hL hS rfl rfl)
  | iushr =>
    obtain rfl : len = 1 := xbeq hlen
    obtain ⟨x, y, r, rfl, he⟩ := xii_inv hs
    cases he
    exact lv_iushr hx hb hd rfl (kk _ _ _ _ _ hW hL hS rfl rfl)
  | idiv =>
    obtain rfl : len = 1 := xbeq hlen
    obtain ⟨x, y, r, rfl, he⟩ := xii_inv hs
    split at he
    · cases he
    · rename_i hy
      cases he
      exact lv_idiv hx hb hd hy (kk _ _ _ _ _ hW hL hS rfl rfl)
  | irem =>
    obtain rfl : len = 1 := xbeq hlen
    obtain ⟨x, y, r, rfl, he⟩ := xii_inv hs
    split at he
    · cases he
    · rename_i hy
      cases he
      exact lv_irem hx hb hd hy (kk _ _ _ _ _ hW hL hS rfl rfl)
  | ldiv =>
    obtain rfl : len = 1 := xbeq hlen
    obtain ⟨x, y, r, rfl, he⟩ := xll_inv hs
    split at he
    · cases he
    · rename_i hy
      cases he
      exact lv_ldiv hx hb hd hy (kk _ _ _ _ _ hW hL hS rfl rfl)
  | lrem =>
    obtain rfl : len = 1 := xbeq hlen
    obtain ⟨x, y, r, rfl, he⟩ := xll_inv hs
    split at he
    · cases he
    · rename_i hy
      cases he
      exact lv_lrem hx hb hd hy (kk _ _ _ _ _ hW hL hS rfl rfl)
  | ladd =>
    obtain rfl : len = 1 := xbeq hlen
    obtain ⟨x, y, r, rfl, he⟩ := xll_inv hs
    cases he
    exact lv_ladd hx hb hd (kk _ _ _ _ _ hW hL hS rfl rfl)
  | lsub =>
    obtain rfl : len = 1 := xbeq hlen
    obtain ⟨x, y, r, rfl, he⟩ := xll_inv hs
    cases he
    exact lv_lsub hx hb hd (kk _ _ _ _ _ hW hL hS rfl rfl)
  | lmul =>
    obtain rfl : len = 1 := xbeq hlen
    obtain ⟨x, y, r, rfl, he⟩ := xll_inv hs
    cases he
    exact lv_lmul hx hb hd (kk _ _ _ _ _ hW hL hS rfl rfl)
  | lor =>
    obtain rfl : len = 1 := xbeq hlen
    obtain ⟨x, y, r, rfl, he⟩ := xll_inv hs
    cases he
    exact lv_lor hx hb hd (kk _ _ _ _ _ hW hL hS rfl rfl)
  | lcmp =>
    obtain rfl : len = 1 := xbeq hlen
    obtain ⟨x, y, r, rfl, he⟩ := xll_inv hs
    cases he
    exact W.lcmp hx hb hd (kk _ _ _ _ _ hW hL hS rfl rfl)
  | ineg =>
    obtain rfl : len = 1 := xbeq hlen
    obtain ⟨x, r, rfl, he⟩ := xi_inv hs
    cases he
    exact lv_ineg hx hb hd (kk _ _ _ _ _ hW hL hS rfl rfl)
  | lneg =>
    obtain rfl : len = 1 := xbeq hlen
    obtain ⟨x, r, rfl, he⟩ := xl_inv hs
    cases he
    exact lv_lneg hx hb hd (kk _ _ _ _ _ hW hL hS rfl rfl)
  | lshl =>
    obtain rfl : len = 1 := xbeq hlen
    obtain ⟨x, y, r, rfl, he⟩ := xli_inv hs
    cases he
    exact lv_lshl hx hb hd rfl (kk _ _ _ _ _ hW hL hS rfl rfl)
  | lshr =>
    obtain rfl : len = 1 := xbeq hlen
    obtain ⟨x, y, r, rfl, he⟩ := xli_inv hs
    cases he
    exact lv_lshr hx hb hd rfl (kk _ _ _ _ _ hW hL hS rfl rfl)
  | i2l =>
    obtain rfl : len = 1 := xbeq hlen
    obtain ⟨x, r, rfl, he⟩ := xi_inv hs
    cases he
    exact lv_i2l hx hb hd rfl (kk _ _ _ _ _ hW hL hS rfl rfl)
  | i2c =>
    obtain rfl : len = 1 := xbeq hlen
    obtain ⟨x, r, rfl, he⟩ := xi_inv hs
    cases he
    exact lv_i2c hx hb hd rfl (kk _ _ _ _ _ hW hL hS rfl rfl)
  | i2b =>
    obtain rfl : len = 1 := xbeq hlen
    obtain ⟨x, r, rfl, he⟩ := xi_inv hs
    cases he
    exact lv_i2b hx hb hd rfl (kk _ _ _ _ _ hW hL hS rfl rfl)
  | l2i =>
    obtain rfl : len = 1 := xbeq hlen
    obtain ⟨x, r, rfl, he⟩ := xl_inv hs
    cases he
    exact lv_l2i hx hb hd rfl (kk _ _ _ _ _ hW hL hS rfl rfl)
  | aconst_null =>
    obtain rfl : len = 1 := xbeq hlen
    cases hs
    exact lv_null hx hb hd (kk _ _ _ _ _ hW hL hS rfl rfl)
  | iconst n =>
    obtain rfl : len = 1 := xbeq hlen
    cases hs
    exact lv_iconst hx hb hd rfl (kk _ _ _ _ _ hW hL hS rfl rfl)
  | bipush n =>
    obtain rfl : len = 2 := xbeq hlen
    cases hs
    exact lv_bipush hx hb hd (of_decide_eq_true h2) (kk _ _ _ _ _ hW hL hS rfl rfl)
  | sipush n =>
    obtain rfl : len = 3 := xbeq hlen
    cases hs
    exact lv_sipush hx hb hd (of_decide_eq_true h2) (kk _ _ _ _ _ hW hL hS rfl rfl)
  | lconst n =>
    obtain rfl : len = 1 := xbeq hlen
    cases hs
    exact lv_lconst hx hb hd rfl (kk _ _ _ _ _ hW hL hS rfl rfl)
  | iload n =>
    obtain rfl : len = 2 := xbeq hlen
    obtain ⟨v, hv, he⟩ := Option.bind_eq_some_iff.mp hs
    cases v with
    | int x => cases he; exact lv_iload hx hb hd (xL_at hL hv) (kk _ _ _ _ _ hW hL hS rfl rfl)
    | _ => cases he
  | iload_n n =>
    obtain rfl : len = 1 := xbeq hlen
    obtain ⟨v, hv, he⟩ := Option.bind_eq_some_iff.mp hs
    cases v with
    | int x => cases he; exact lv_iload_n hx hb hd rfl (xL_at hL hv) (kk _ _ _ _ _ hW hL hS rfl rfl)
    | _ => cases he
  | lload n =>
    obtain rfl : len = 2 := xbeq hlen
    obtain ⟨v, hv, he⟩ := Option.bind_eq_some_iff.mp hs
    cases v with
    | long x => cases he; exact lv_lload hx hb hd (xL_at hL hv) (kk _ _ _ _ _ hW hL hS rfl rfl)
    | _ => cases he
  | lload_n n =>
    obtain rfl : len = 1 := xbeq hlen
    obtain ⟨v, hv, he⟩ := Option.bind_eq_some_iff.mp hs
    cases v with
    | long x => cases he; exact lv_lload_n hx hb hd rfl (xL_at hL hv) (kk _ _ _ _ _ hW hL hS rfl rfl)
    | _ => cases he
  | aload n =>
    obtain rfl : len = 2 := xbeq hlen
    obtain ⟨v, hv, he⟩ := Option.bind_eq_some_iff.mp hs
    cases v with
    | ref x => cases he; exact lv_aload hx hb hd (xL_at hL hv) (kk _ _ _ _ _ hW hL hS rfl rfl)
    | null => cases he; exact lv_aloadN hx hb hd (xL_at hL hv) (kk _ _ _ _ _ hW hL hS rfl rfl)
    | _ => cases he
  | aload_n n =>
    obtain rfl : len = 1 := xbeq hlen
    obtain ⟨v, hv, he⟩ := Option.bind_eq_some_iff.mp hs
    cases v with
    | ref x => cases he; exact lv_aload_n hx hb hd rfl (xL_at hL hv) (kk _ _ _ _ _ hW hL hS rfl rfl)
    | null => cases he; exact lv_aload_nN hx hb hd rfl (xL_at hL hv) (kk _ _ _ _ _ hW hL hS rfl rfl)
    | _ => cases he
  | istore n =>
    obtain rfl : len = 2 := xbeq hlen
    obtain ⟨x, r, rfl, he⟩ := xi_inv hs
    cases he
    exact lv_istore hx hb hd hL (of_decide_eq_true h2) (xP1_map g ls n (.int x)) (fun Ls1 hL1 => kk _ _ _ _ _ hW hL1 hS rfl rfl)
  | istore_n n =>
    obtain rfl : len = 1 := xbeq hlen
    obtain ⟨x, r, rfl, he⟩ := xi_inv hs
    cases he
    exact lv_istore_n hx hb hd rfl hL (of_decide_eq_true h2) (xP1_map g ls n (.int x)) (fun Ls1 hL1 => kk _ _ _ _ _ hW hL1 hS rfl rfl)
  | lstore n =>
    obtain rfl : len = 2 := xbeq hlen
    obtain ⟨x, r, rfl, he⟩ := xl_inv hs
    cases he
    exact lv_lstore hx hb hd hL (of_decide_eq_true h2) (xP2_map g ls n (.long x)) (fun Ls1 hL1 => kk _ _ _ _ _ hW hL1 hS rfl rfl)
  | lstore_n n =>
    obtain rfl : len = 1 := xbeq hlen
    obtain ⟨x, r, rfl, he⟩ := xl_inv hs
    cases he
    exact lv_lstore_n hx hb hd rfl hL (of_decide_eq_true h2) (xP2_map g ls n (.long x)) (fun Ls1 hL1 => kk _ _ _ _ _ hW hL1 hS rfl rfl)
  | astore n =>
    obtain rfl : len = 2 := xbeq hlen
    obtain ⟨x, r, rfl, he⟩ := xq_inv hs
    cases he
    cases x with
    | some x => exact lv_astore hx hb hd hL (of_decide_eq_true h2) (xP1_map g ls n (.ref x)) (fun Ls1 hL1 => kk _ _ _ _ _ hW hL1 hS rfl rfl)
    | none => exact lv_astoreN hx hb hd hL (of_decide_eq_true h2) (xP1_map g ls n .null) (fun Ls1 hL1 => kk _ _ _ _ _ hW hL1 hS rfl rfl)
  | astore_n n =>
    obtain rfl : len = 1 := xbeq hlen
    obtain ⟨x, r, rfl, he⟩ := xq_inv hs
    cases he
    cases x with
    | some x => exact lv_astore_n hx hb hd rfl hL (of_decide_eq_true h2) (xP1_map g ls n (.ref x)) (fun Ls1 hL1 => kk _ _ _ _ _ hW hL1 hS rfl rfl)
    | none => exact lv_astore_nN hx hb hd rfl hL (of_decide_eq_true h2) (xP1_map g ls n .null) (fun Ls1 hL1 => kk _ _ _ _ _ hW hL1 hS rfl rfl)
  | iinc n z =>
    obtain rfl : len = 3 := xbeq hlen
    obtain ⟨v, hv, he⟩ := Option.bind_eq_some_iff.mp hs
    cases v with
    | int x =>
      cases he
      obtain ⟨j, hj⟩ := xL_idx (g := g) hv
      exact lv_iinc hx hb hd hL hj rfl (of_decide_eq_true h2) (xP1_map g ls n (.int (x + Int32.ofInt z))) (fun Ls1 hL1 => kk _ _ _ _ _ hW hL1 hS rfl rfl)
    | _ => cases he
  | dup =>
    obtain rfl : len = 1 := xbeq hlen
    dsimp only at hs
    split at hs
    · cases hs; exact lv_dup hx hb hd rfl (kk _ _ _ _ _ hW hL hS rfl rfl)
    · cases hs; exact lv_dup hx hb hd rfl (kk _ _ _ _ _ hW hL hS rfl rfl)
    · cases hs
  | dup2 =>
    obtain rfl : len = 1 := xbeq hlen
    dsimp only at hs
    split at hs
    · cases hs; exact lv_dup2_11 hx hb hd rfl rfl (kk _ _ _ _ _ hW hL hS rfl rfl)
    · cases hs
  | pop =>
    obtain rfl : len = 1 := xbeq hlen
    dsimp only at hs
    split at hs
    · cases hs; exact lv_pop hx hb hd rfl (kk _ _ _ _ _ hW hL hS rfl rfl)
    · cases hs; exact lv_pop hx hb hd rfl (kk _ _ _ _ _ hW hL hS rfl rfl)
    · cases hs
  | goto off =>
    obtain rfl : len = 3 := xbeq hlen
    cases hs
    exact lv_goto hx hb hd (xTgt_eq h2) (kk _ _ _ _ _ hW hL hS rfl rfl)
  | ifCond cd off =>
    obtain rfl : len = 3 := xbeq hlen
    obtain ⟨x, r, rfl, he⟩ := xi_inv hs
    cases cd with
    | eq =>
      cases he
      refine lv_if_eq hx hb hd (xTgt_eq h2) (fun hc => ?_) (fun hc => ?_)
      · have := kk _ _ _ _ _ hW hL hS rfl rfl; rw [if_pos hc] at this; exact this
      · have := kk _ _ _ _ _ hW hL hS rfl rfl; rw [if_neg hc] at this; exact this
    | ne =>
      cases he
      refine lv_if_ne hx hb hd (xTgt_eq h2) (fun hc => ?_) (fun hc => ?_)
      · have := kk _ _ _ _ _ hW hL hS rfl rfl; rw [if_pos hc] at this; exact this
      · have := kk _ _ _ _ _ hW hL hS rfl rfl; rw [if_neg (fun q => q hc)] at this; exact this
    | lt =>
      cases he
      refine lv_if_lt hx hb hd (xTgt_eq h2) (fun hc => ?_) (fun hc => ?_)
      · have := kk _ _ _ _ _ hW hL hS rfl rfl; rw [if_pos hc] at this; exact this
      · have := kk _ _ _ _ _ hW hL hS rfl rfl; rw [if_neg hc] at this; exact this
    | ge =>
      cases he
      refine lv_if_ge hx hb hd (xTgt_eq h2) (fun hc => ?_) (fun hc => ?_)
      · have := kk _ _ _ _ _ hW hL hS rfl rfl; rw [if_pos hc] at this; exact this
      · have := kk _ _ _ _ _ hW hL hS rfl rfl; rw [if_neg hc] at this; exact this
    | gt =>
      cases he
      refine lv_if_gt hx hb hd (xTgt_eq h2) (fun hc => ?_) (fun hc => ?_)
      · have := kk _ _ _ _ _ hW hL hS rfl rfl; rw [if_pos hc] at this; exact this
      · have := kk _ _ _ _ _ hW hL hS rfl rfl; rw [if_neg hc] at this; exact this
    | le =>
      cases he
      refine lv_if_le hx hb hd (xTgt_eq h2) (fun hc => ?_) (fun hc => ?_)
      · have := kk _ _ _ _ _ hW hL hS rfl rfl; rw [if_pos hc] at this; exact this
      · have := kk _ _ _ _ _ hW hL hS rfl rfl; rw [if_neg hc] at this; exact this
  | if_icmp cd off =>
    obtain rfl : len = 3 := xbeq hlen
    obtain ⟨x, y, r, rfl, he⟩ := xii_inv hs
    cases cd with
    | eq =>
      cases he
      refine lv_icmp_eq hx hb hd (xTgt_eq h2) (fun hc => ?_) (fun hc => ?_)
      · have := kk _ _ _ _ _ hW hL hS rfl rfl; rw [if_pos hc] at this; exact this
      · have := kk _ _ _ _ _ hW hL hS rfl rfl; rw [if_neg hc] at this; exact this
    | ne =>
      cases he
      refine lv_icmp_ne hx hb hd (xTgt_eq h2) (fun hc => ?_) (fun hc => ?_)
      · have := kk _ _ _ _ _ hW hL hS rfl rfl; rw [if_pos hc] at this; exact this
      · have := kk _ _ _ _ _ hW hL hS rfl rfl; rw [if_neg (fun q => q hc)] at this; exact this
    | lt =>
      cases he
      refine lv_icmp_lt hx hb hd (xTgt_eq h2) (fun hc => ?_) (fun hc => ?_)
      · have := kk _ _ _ _ _ hW hL hS rfl rfl; rw [if_pos hc] at this; exact this
      · have := kk _ _ _ _ _ hW hL hS rfl rfl; rw [if_neg hc] at this; exact this
    | ge =>
      cases he
      refine lv_icmp_ge hx hb hd (xTgt_eq h2) (fun hc => ?_) (fun hc => ?_)
      · have := kk _ _ _ _ _ hW hL hS rfl rfl; rw [if_pos hc] at this; exact this
      · have := kk _ _ _ _ _ hW hL hS rfl rfl; rw [if_neg hc] at this; exact this
    | gt =>
      cases he
      refine lv_icmp_gt hx hb hd (xTgt_eq h2) (fun hc => ?_) (fun hc => ?_)
      · have := kk _ _ _ _ _ hW hL hS rfl rfl; rw [if_pos hc] at this; exact this
      · have := kk _ _ _ _ _ hW hL hS rfl rfl; rw [if_neg hc] at this; exact this
    | le =>
      cases he
      refine lv_icmp_le hx hb hd (xTgt_eq h2) (fun hc => ?_) (fun hc => ?_)
      · have := kk _ _ _ _ _ hW hL hS rfl rfl; rw [if_pos hc] at this; exact this
      · have := kk _ _ _ _ _ hW hL hS rfl rfl; rw [if_neg hc] at this; exact this
  | ifnull off =>
    obtain rfl : len = 3 := xbeq hlen
    obtain ⟨x, r, rfl, he⟩ := xq_inv hs
    cases x with
    | some x => cases he; exact lv_ifnull hx hb hd (kk _ _ _ _ _ hW hL hS rfl rfl)
    | none => cases he; exact lv_ifnullN hx hb hd (xTgt_eq h2) (kk _ _ _ _ _ hW hL hS rfl rfl)
  | ifnonnull off =>
    obtain rfl : len = 3 := xbeq hlen
    obtain ⟨x, r, rfl, he⟩ := xq_inv hs
    cases x with
    | some x => cases he; exact lv_ifnonnull hx hb hd (xTgt_eq h2) (kk _ _ _ _ _ hW hL hS rfl rfl)
    | none => cases he; exact lv_ifnonnullN hx hb hd (kk _ _ _ _ _ hW hL hS rfl rfl)
  | tableswitch d lo hi offs =>
    obtain ⟨x, r, rfl, he⟩ := xi_inv hs
    unfold xChk2 at h2
    simp only [Bool.and_eq_true] at h2
    split at he
    · rename_i hr
      cases he
      exact lv_tableOut hx hb hd hr (xTgt_eq h2.1) (kk _ _ _ _ _ hW hL hS rfl rfl)
    · rename_i hr
      obtain ⟨off, ho, he⟩ := Option.bind_eq_some_iff.mp he
      cases he
      have hm : xNn pc off = true := by
        refine List.all_eq_true.mp h2.2 off ?_
        rw [← Array.getElem?_toList] at ho
        exact List.mem_of_getElem? ho
      exact lv_tableIn hx hb hd (fun q => hr (Or.inl q)) (fun q => hr (Or.inr q)) ho (xTgt_eq hm) (kk _ _ _ _ _ hW hL hS rfl rfl)
  | lookupswitch d prs =>
    obtain ⟨x, r, rfl, he⟩ := xi_inv hs
    cases he
    unfold xChk2 at h2
    simp only [Bool.and_eq_true] at h2
    exact lv_lookup hx hb hd h2.2 rfl (xTgt_eq (xoff_ok h2.1.1 h2.1.2)) (kk _ _ _ _ _ hW hL hS rfl rfl)
  | ldc idx =>
    obtain rfl : len = 2 := xbeq hlen
    dsimp only at hs
    unfold xChk2 at h2
    dsimp only at h2
    cases hA : Nat.beq A 0 with
    | true =>
      rw [hA] at hs h2
      cases hs
      exact lv_ldc hx hb hown (hts _ (xwd_in h2)) hd (kk _ _ _ _ _ hW hL hS rfl rfl)
    | false =>
      rw [hA] at hs h2
      cases hs
      simp only [cond_false, Bool.or_eq_true, Bool.and_eq_true, decide_eq_true_eq] at h2
      obtain ⟨s1, s2, s3, -⟩ := hK.2.2.2.2.2.2
      rcases h2 with (⟨⟨ho, hi⟩, hB⟩ | ⟨⟨ho, hi⟩, hB⟩) | ⟨⟨ho, hi⟩, hB⟩
      · have hi := xbeq hi; have hB := xbeq hB; subst hi; subst hB; subst ho; obtain ⟨tx, s1⟩ := s1; exact va_ldcS hx hb hown s1 hd (kk _ _ _ _ _ hW hL hS rfl rfl)
      · have hi := xbeq hi; have hB := xbeq hB; subst hi; subst hB; subst ho; obtain ⟨tx, s2⟩ := s2; exact va_ldcS hx hb hown s2 hd (kk _ _ _ _ _ hW hL hS rfl rfl)
      · have hi := xbeq hi; have hB := xbeq hB; subst hi; subst hB; subst ho; obtain ⟨tx, s3⟩ := s3; exact va_ldcS hx hb hown s3 hd (kk _ _ _ _ _ hW hL hS rfl rfl)
  | ldc_w idx =>
    obtain rfl : len = 3 := xbeq hlen
    cases hs
    exact lv_ldcw hx hb hown (hts _ (xwd_in h2)) hd (kk _ _ _ _ _ hW hL hS rfl rfl)
  | ldc2_w idx =>
    obtain rfl : len = 3 := xbeq hlen
    cases hs
    exact lv_ldc2 hx hb hown (hts _ (xwd_in h2)) hd (kk _ _ _ _ _ hW hL hS rfl rfl)
  | getfield idx =>
    obtain rfl : len = 3 := xbeq hlen
    dsimp only at hs
    unfold xChk2 at h2
    dsimp only at h2
    cases hk5 : (k == 5) with
    | true =>
      rw [hk5] at hs h2
      dsimp only [cond_true] at hs h2
      obtain ⟨a, r, rfl, he⟩ := xa_inv hs
      cases hA : (Nat.ble 2 a && Nat.ble a 4) with
      | true =>
        rw [hA] at he
        cases he
        simp only [Bool.and_eq_true] at hA
        obtain ⟨z1, z2, z3⟩ := xstr_at (g := g) (Nat.le_of_ble_eq_true hA.1) (Nat.le_of_ble_eq_true hA.2)
        have hz := (hK.2.2.2.2.2.2.2.2.2.1.1 (a - 2) z1).2.2.1
        have hk0 : W p l e R s m args below meth c H locs cells slots Q (F0 m (pc + 3) Ls (.ref (xad g (a + 3)) :: r.map (xTv g))) := kk _ _ _ _ _ hW hL hS rfl rfl
        rw [z3] at hk0
        have hk := vk_getf hx hb hz hS hown (hts _ (xwd_in h2)) (fun _ h => h) hd hk0
        show W p l e R s m args below meth c H locs cells slots Q (F0 m pc Ls (.ref (xad g a) :: r.map (xTv g)))
        rw [z2]
        exact hk
      | false => rw [hA] at he; cases he
    | false =>
      rw [hk5] at hs h2
      dsimp only [cond_false] at hs h2
      cases hk6 : (k == 6) with
      | true =>
        rw [hk6] at hs h2
        dsimp only [cond_true] at hs h2
        obtain ⟨a, r, rfl, he⟩ := xa_inv hs
        cases hA : (Nat.ble 2 a && Nat.ble a 4) with
        | true =>
          rw [hA] at he
          cases he
          simp only [Bool.and_eq_true] at hA
          obtain ⟨z1, z2, z3⟩ := xstr_at (g := g) (Nat.le_of_ble_eq_true hA.1) (Nat.le_of_ble_eq_true hA.2)
          have hz := (hK.2.2.2.2.2.2.2.2.2.1.1 (a - 2) z1).2.1
          have hk := vk_getf hx hb hz hS hown (hts _ (xwd_in h2)) (fun _ h => h) hd (kk _ _ _ _ _ hW hL hS rfl rfl)
          show W p l e R s m args below meth c H locs cells slots Q (F0 m pc Ls (.ref (xad g a) :: r.map (xTv g)))
          rw [z2]
          exact hk
        | false => rw [hA] at he; cases he
      | false =>
        rw [hk6] at hs h2
        dsimp only [cond_false] at hs h2
        obtain ⟨a, r, rfl, he⟩ := xa_inv hs
        obtain ⟨fs, ha, he⟩ := xob_inv he
        obtain ⟨v, hv, he⟩ := Option.bind_eq_some_iff.mp he
        cases he
        split at h2
        · rename_i q hq
          simp only [Bool.and_eq_true, decide_eq_true_eq] at h2
          exact xget X hq h2.1 (xwd_in h2.2) hv ha hW hd (kk _ _ _ _ _ hW hL hS rfl rfl)
        · cases h2
  | putfield idx =>
    obtain rfl : len = 3 := xbeq hlen
    dsimp only at hs
    unfold xChk2 at h2
    dsimp only at h2
    split at hs
    · rename_i v a r
      obtain ⟨fs, ha, he⟩ := xob_inv hs
      cases hf : (xfit k v && Nat.blt B fs.length) with
      | true =>
        rw [hf] at he
        cases he
        simp only [Bool.and_eq_true] at hf
        split at h2
        · rename_i q hq
          simp only [Bool.and_eq_true, decide_eq_true_eq] at h2
          exact xput X hq h2.1.1.1 (xwd_in h2.1.1.2) h2.1.2 (by simpa using h2.2) hf.1 (Nat.le_of_ble_eq_true hf.2) ha hW hS hd (fun H1 locs1 hW1 hS1 => kk _ _ _ _ _ hW1 hL hS1 rfl rfl)
        · cases h2
      | false => rw [hf] at he; cases he
    · cases hs
  | getstatic idx =>
    obtain rfl : len = 3 := xbeq hlen
    dsimp only at hs
    unfold xChk2 at h2
    dsimp only at h2
    cases hk1 : (k == 1) with
    | true =>
      rw [hk1] at hs h2
      cases hs
      exact va_gets hx hb hK.2.2.2.2.2.2.2.2.2.2.1 hS hown (hts _ (xwd_in h2)) (fun _ h => h) hd (kk _ _ _ _ _ hW hL hS rfl rfl)
    | false =>
      rw [hk1] at hs h2
      dsimp only [cond_false] at hs h2
      cases hk2 : (k == 2) with
      | true =>
        rw [hk2] at hs h2
        dsimp only [cond_true] at hs h2
        have hz := hK.2.2.2.2.2.2.2.2.2.2.2.1
        split at hs
        · rename_i q hq
          cases hs
          rw [hq] at hz
          exact va_gets hx hb hz hS hown (hts _ (xwd_in h2)) (fun _ h => h) hd (kk _ _ _ _ _ hW hL hS rfl rfl)
        · rename_i hq
          cases hs
          rw [hq] at hz
          exact va_gets hx hb hz hS hown (hts _ (xwd_in h2)) (fun _ h => h) hd (kk _ _ _ _ _ hW hL hS rfl rfl)
      | false =>
        rw [hk2] at hs h2
        cases hs
        simp only [cond_false, Bool.and_eq_true] at h2
        have hB := xbeq h2.1
        subst hB
        exact va_gets hx hb hK.2.2.2.2.2.1 hS hown (hts _ (xwd_in h2.2)) (fun _ h => h) hd (kk _ _ _ _ _ hW hL hS rfl rfl)
  | iaload =>
    obtain rfl : len = 1 := xbeq hlen
    obtain ⟨a, j, r, rfl, he⟩ := xai_inv hs
    cases hA : Nat.blt a 2 with
    | true =>
      rw [hA] at he
      obtain ⟨⟨n, f⟩, hr, he⟩ := Option.bind_eq_some_iff.mp he
      obtain ⟨hin, he⟩ := xin_inv he
      cases he
      have h2a : a < 2 := Nat.le_of_ble_eq_true hA
      have ha : xad g a = g.2.1 a := by unfold xad; rw [if_pos (Nat.lt_of_lt_of_le h2a (by decide))]
      have hk := va_ti hx hb (hK.2.2.2.2.1 a n f h2a hr) hS hin rfl hd (kk _ _ _ _ _ hW hL hS rfl rfl)
      rw [← ha] at hk
      exact hk
    | false =>
      rw [hA] at he
      obtain ⟨n, f, ha, he⟩ := xar_inv he
      obtain ⟨hin, he⟩ := xin_inv he
      cases he
      exact xiald X hW ha hin hd (kk _ _ _ _ _ hW hL hS rfl rfl)
  | baload =>
    obtain rfl : len = 1 := xbeq hlen
    obtain ⟨a, j, r, rfl, he⟩ := xai_inv hs
    cases hA : Nat.blt a 16 with
    | true =>
      rw [hA] at he
      obtain ⟨⟨n, f⟩, hr, he⟩ := Option.bind_eq_some_iff.mp he
      obtain ⟨hin, he⟩ := xin_inv he
      cases he
      obtain ⟨z1, z2⟩ := xstb_at (g := g) (ro := ro) hK hr
      have hk := va_tb hx hb z1 hS hin rfl hd (kk _ _ _ _ _ hW hL hS rfl rfl)
      rw [← z2] at hk
      exact hk
    | false =>
      rw [hA] at he
      obtain ⟨n, f, ha, he⟩ := xar_inv he
      obtain ⟨hin, he⟩ := xin_inv he
      cases he
      exact xzald X hW ha hin hd (kk _ _ _ _ _ hW hL hS rfl rfl)
  | laload =>
    obtain rfl : len = 1 := xbeq hlen
    obtain ⟨a, j, r, rfl, he⟩ := xai_inv hs
    obtain ⟨n, f, ha, he⟩ := xarl_inv he
    obtain ⟨hin, he⟩ := xin_inv he
    cases he
    exact xlald X hW ha hin hd (kk _ _ _ _ _ hW hL hS rfl rfl)
  | aaload =>
    obtain rfl : len = 1 := xbeq hlen
    obtain ⟨a, j, r, rfl, he⟩ := xai_inv hs
    obtain ⟨t, n, f, ht, ha, he⟩ := xarq_inv he
    obtain ⟨hin, he⟩ := xin_inv he
    cases he
    exact xaald X hW ht ha hin hd (kk _ _ _ _ _ hW hL hS rfl rfl)
  | iastore =>
    obtain rfl : len = 1 := xbeq hlen
    obtain ⟨x, r, rfl, he⟩ := xi_inv hs
    obtain ⟨a, j, r, rfl, he⟩ := xai_inv he
    obtain ⟨n, f, ha, he⟩ := xar_inv he
    obtain ⟨hin, he⟩ := xin_inv he
    cases he
    exact xiast X hW hS ha hin hd (fun H1 locs1 hW1 hS1 => kk _ _ _ _ _ hW1 hL hS1 rfl rfl)
  | bastore =>
    obtain rfl : len = 1 := xbeq hlen
    obtain ⟨x, r, rfl, he⟩ := xi_inv hs
    obtain ⟨a, j, r, rfl, he⟩ := xai_inv he
    obtain ⟨n, f, ha, he⟩ := xar_inv he
    obtain ⟨hin, he⟩ := xin_inv he
    split at he
    · rename_i h01
      cases he
      exact xzast X hW hS ha h01 hin hd (fun H1 locs1 hW1 hS1 => kk _ _ _ _ _ hW1 hL hS1 rfl rfl)
    · cases he
  | lastore =>
    obtain rfl : len = 1 := xbeq hlen
    obtain ⟨x, r, rfl, he⟩ := xl_inv hs
    obtain ⟨a, j, r, rfl, he⟩ := xai_inv he
    obtain ⟨n, f, ha, he⟩ := xarl_inv he
    obtain ⟨hin, he⟩ := xin_inv he
    cases he
    exact xlast X hW hS ha hin hd (fun H1 locs1 hW1 hS1 => kk _ _ _ _ _ hW1 hL hS1 rfl rfl)
  | aastore =>
    obtain rfl : len = 1 := xbeq hlen
    obtain ⟨v, r, rfl, he⟩ := xq_inv hs
    obtain ⟨a, j, r, rfl, he⟩ := xai_inv he
    obtain ⟨t, n, f, ht, ha, he⟩ := xarq_inv he
    obtain ⟨hin, he⟩ := xin_inv he
    cases v with
    | none => cases he; exact xaastN X hW hS ht ha hin hd (fun H1 locs1 hW1 hS1 => kk _ _ _ _ _ hW1 hL hS1 rfl rfl)
    | some o =>
      obtain ⟨fs, ho, he⟩ := xob_inv he
      cases he
      exact xaast X hW hS ht ha ho hin hd (fun H1 locs1 hW1 hS1 => kk _ _ _ _ _ hW1 hL hS1 rfl rfl)
  | arraylength =>
    obtain rfl : len = 1 := xbeq hlen
    obtain ⟨a, r, rfl, he⟩ := xa_inv hs
    cases hA : Nat.blt a 16 with
    | true =>
      rw [hA] at he
      obtain ⟨n, hr, he⟩ := Option.bind_eq_some_iff.mp he
      cases he
      unfold xLn at hr
      split at hr
      · rename_i q hq
        cases hr
        obtain ⟨n, f⟩ := q
        obtain ⟨z1, z2⟩ := xstb_at (g := g) (ro := ro) hK hq
        have hk := va_tlen hx hb z1 hS rfl hd (kk _ _ _ _ _ hW hL hS rfl rfl)
        rw [← z2] at hk
        exact hk
      · cases hB : Nat.blt a 2 with
        | true =>
          rw [hB] at hr
          obtain ⟨⟨n, f⟩, hr2, he⟩ := Option.map_eq_some_iff.mp hr
          cases he
          have h2a : a < 2 := Nat.le_of_ble_eq_true hB
          have ha : xad g a = g.2.1 a := by unfold xad; rw [if_pos (Nat.lt_of_lt_of_le h2a (by decide))]
          have hk := va_tlen hx hb (hK.2.2.2.2.1 a n f h2a hr2) hS rfl hd (kk _ _ _ _ _ hW hL hS rfl rfl)
          rw [← ha] at hk
          exact hk
        | false => rw [hB] at hr; cases hr
    | false =>
      rw [hA] at he
      dsimp only [cond_false] at he
      split at he
      · rename_i t n x ha
        cases hB : Nat.blt t 5 with
        | true => rw [hB] at he; cases he; exact xalen X hW (Nat.le_of_ble_eq_true hB) ha hd (kk _ _ _ _ _ hW hL hS rfl rfl)
        | false => rw [hB] at he; cases he
      · cases he
  | newarray t0 =>
    obtain rfl : len = 2 := xbeq hlen
    obtain ⟨x, r, rfl, he⟩ := xi_inv hs
    obtain ⟨t, ht, he⟩ := Option.bind_eq_some_iff.mp he
    split at he
    · cases he
    · rename_i hr
      cases he
      have hc1 : cells + (h.1 + 1) ≤ R.cells + h.1 := hcell
      have hs1 : slots + (h.2.1 + x.toNatClampNeg) ≤ R.slots + h.2.1 := hslot
      exact xnewa X hW hS ht (xwd_in h2) (fun q => hr (Or.inl q)) (Nat.not_lt.mp fun q => hr (Or.inr q)) (by omega) (by omega) hd (fun H1 hW1 hS1 => kk _ _ _ _ _ hW1 hL hS1 (show cells + 1 + h.1 = cells + (h.1 + 1) by omega) (show slots + x.toNatClampNeg + h.2.1 = slots + (h.2.1 + x.toNatClampNeg) by omega))
  | anewarray idx =>
    obtain rfl : len = 3 := xbeq hlen
    unfold xChk2 at h2
    obtain ⟨x, r, rfl, he⟩ := xi_inv hs
    split at he
    · cases he
    · rename_i hr
      cases he
      have hc1 : cells + (h.1 + 1) ≤ R.cells + h.1 := hcell
      have hs1 : slots + (h.2.1 + x.toNatClampNeg) ≤ R.slots + h.2.1 := hslot
      simp only [Bool.or_eq_true, Bool.and_eq_true] at h2
      have hw : (A = 3 ∧ Jvm.Cond.classLink own idx RX2 ∈ xTb) ∨ (A = 4 ∧ Jvm.Cond.classLink own idx RX10 ∈ xTb) := by
        rcases h2 with h2 | h2
        · exact Or.inl ⟨xbeq h2.1, xwd_in h2.2⟩
        · exact Or.inr ⟨xbeq h2.1, xwd_in h2.2⟩
      exact xnewq X hW hS hw (fun q => hr (Or.inl q)) (Nat.not_lt.mp fun q => hr (Or.inr q)) (by omega) (by omega) hd (fun H1 hW1 hS1 => kk _ _ _ _ _ hW1 hL hS1 (show cells + 1 + h.1 = cells + (h.1 + 1) by omega) (show slots + x.toNatClampNeg + h.2.1 = slots + (h.2.1 + x.toNatClampNeg) by omega))
  | new idx =>
    obtain rfl : len = 3 := xbeq hlen
    unfold xChk2 at h2
    dsimp only at h2
    cases hs
    split at h2
    · rename_i q hq
      simp only [Bool.and_eq_true] at h2
      have hB := xbeq h2.1.1.1
      subst hB
      have hc1 : cells + (h.1 + 1) ≤ R.cells + h.1 := hcell
      have hs1 : slots + (h.2.1 + q.2.2) ≤ R.slots + h.2.1 := hslot
      exact xnew X hW hS hq (xwd_in h2.1.1.2) (xwd_in h2.1.2) (xwd_in h2.2) (by omega) (by omega) hd (fun H1 hW1 hS1 => kk _ _ _ _ _ hW1 hL hS1 (show cells + 1 + h.1 = cells + (h.1 + 1) by omega) (show slots + q.2.2 + h.2.1 = slots + (h.2.1 + q.2.2) by omega))
    · cases h2
  | invokevirtual idx =>
    obtain rfl : len = 3 := xbeq hlen
    dsimp only at hs
    unfold xChk2 at h2
    dsimp only at h2
    cases hk : (k == 8) with
    | true =>
      rw [hk] at hs h2
      dsimp only [cond_true] at hs h2
      obtain ⟨a, r, rfl, he⟩ := xa_inv hs
      obtain ⟨n, f, ha, he⟩ := xar_inv he
      split at he
      · cases he
      · rename_i hr
        cases he
        simp only [Bool.and_eq_true] at h2
        simp only [not_or] at hr
        have hc1 : cells + (h.1 + 1) ≤ R.cells + h.1 := hcell
        have hs1 : slots + (h.2.1 + n) ≤ R.slots + h.2.1 := hslot
        exact xclone X hW hS hL.1 ha (xwd_in h2.1.1.1.1) (xwd_in h2.1.1.1.2) (xwd_in h2.1.1.2) (xwd_in h2.1.2) (xwd_in h2.2) hRm.1 (by rw [xCat_map]; omega) (by omega) (by omega) hd (fun H1 hW1 hS1 => kk _ _ _ _ _ hW1 hL hS1 (show cells + 1 + h.1 = cells + (h.1 + 1) by omega) (show slots + n + h.2.1 = slots + (h.2.1 + n) by omega))
    | false => rw [hk] at hs; cases hs
  | checkcast idx =>
    obtain rfl : len = 3 := xbeq hlen
    obtain ⟨a, r, rfl, he⟩ := xa_inv hs
    obtain ⟨n, f, ha, he⟩ := xar_inv he
    cases he
    exact xcast X hW ha (xwd_in h2) hd (kk _ _ _ _ _ hW hL hS rfl rfl)
  | invokestatic idx =>
    obtain rfl : len = 3 := xbeq hlen
    dsimp only at hs
    unfold xChk2 at h2
    dsimp only at h2
    cases hk : (k == 9) with
    | true =>
      rw [hk] at hs h2
      dsimp only [cond_true] at hs
      split at hs
      · rename_i n dp a sp a0 r
        obtain ⟨n0, f, ha0, he⟩ := xar_inv hs
        obtain ⟨n1, f1, ha1, he⟩ := xar_inv he
        split at he
        · cases he
        · rename_i hr
          cases he
          simp only [cond_true, Bool.and_eq_true] at h2
          simp only [not_or] at hr
          obtain ⟨r1, r2, r3, r4, r5, r6⟩ := hr
          have := xnfw
          exact xcopy X hW hS hL.1 ha0 ha1 (xwd_in h2.1.1.1) (xwd_in h2.1.1.2) (xwd_in h2.1.2) (xwd_in h2.2) r1 r2 r3 (by omega) (by omega) hRm.1 (by rw [xCat_map]; omega) hd (fun H1 locs1 hW1 hS1 => kk _ _ _ _ _ hW1 hL hS1 rfl rfl)
      · cases hs
    | false =>
      rw [hk] at hs h2
      dsimp only [cond_false] at hs h2
      cases hk10 : (k == 10) with
      | true =>
        rw [hk10] at hs h2
        dsimp only [cond_true] at hs h2
        obtain ⟨x, y, r, rfl, he⟩ := xii_inv hs
        split at he
        · cases he
        · rename_i hr
          cases he
          simp only [Bool.and_eq_true] at h2
          exact va_mmax hx hb (hml.trans hL.1.symm) hown (hts _ (xwd_in h2.1.1.1)) (hts _ (xwd_in h2.1.1.2)) (hts _ (xwd_in h2.1.2)) (hts _ (xwd_in h2.2)) hRm.1 (by rw [xCat_map]; omega) (by omega) (by omega) hd (kk _ _ _ _ _ hW hL hS rfl rfl)
      | false =>
        rw [hk10] at hs h2
        dsimp only [cond_false] at hs h2
        cases hk11 : (k == 11) with
        | true =>
          rw [hk11] at hs h2
          dsimp only [cond_true] at hs h2
          obtain ⟨x, y, r, rfl, he⟩ := xii_inv hs
          split at he
          · cases he
          · rename_i hr
            cases he
            simp only [Bool.and_eq_true] at h2
            exact va_mmin hx hb (hml.trans hL.1.symm) hown (hts _ (xwd_in h2.1.1.1)) (hts _ (xwd_in h2.1.1.2)) (hts _ (xwd_in h2.1.2)) (hts _ (xwd_in h2.2)) hRm.1 (by rw [xCat_map]; omega) (by omega) (by omega) hd (kk _ _ _ _ _ hW hL hS rfl rfl)
        | false =>
          rw [hk11] at hs h2
          dsimp only [cond_false] at hs h2
          cases hk12 : (k == 12) with
          | true =>
            rw [hk12] at hs h2
            dsimp only [cond_true] at hs h2
            obtain ⟨x, y, r, rfl, he⟩ := xll_inv hs
            split at he
            · cases he
            · rename_i hr
              cases he
              simp only [Bool.and_eq_true] at h2
              exact va_mmax_long hx hb (hml.trans hL.1.symm) hown (hts _ (xwd_in h2.1.1.1)) (hts _ (xwd_in h2.1.1.2)) (hts _ (xwd_in h2.1.2)) (hts _ (xwd_in h2.2)) hRm.1 (by rw [xCat_map]; omega) (by omega) (by omega) hd (kk _ _ _ _ _ hW hL hS rfl rfl)
          | false =>
            rw [hk12] at hs h2
            dsimp only [cond_false] at hs h2
            cases hk13 : (k == 13) with
            | true =>
              rw [hk13] at hs h2
              dsimp only [cond_true] at hs h2
              obtain ⟨x, y, r, rfl, he⟩ := xll_inv hs
              split at he
              · cases he
              · rename_i hr
                cases he
                simp only [Bool.and_eq_true] at h2
                exact va_mmin_long hx hb (hml.trans hL.1.symm) hown (hts _ (xwd_in h2.1.1.1)) (hts _ (xwd_in h2.1.1.2)) (hts _ (xwd_in h2.1.2)) (hts _ (xwd_in h2.2)) hRm.1 (by rw [xCat_map]; omega) (by omega) (by omega) hd (kk _ _ _ _ _ hW hL hS rfl rfl)
            | false =>
              rw [hk13] at hs h2
              dsimp only [cond_false] at hs h2
              cases hs
  | invokespecial idx =>
    obtain rfl : len = 3 := xbeq hlen
    dsimp only at hs
    unfold xChk2 at h2
    dsimp only at h2
    cases hk : (k == 8) with
    | true =>
      rw [hk] at hs h2
      dsimp only [cond_true] at hs
      obtain ⟨a, r, rfl, he⟩ := xa_inv hs
      split at he
      · cases he
      · rename_i hr
        cases he
        simp only [cond_true, Bool.and_eq_true] at h2
        exact W.objInit hx hb hown (hts _ (xwd_in h2.1.1)) (hts _ (xwd_in h2.1.2)) (hts _ (xwd_in h2.2)) rfl (hL.1.trans hml.symm) rfl hd hRm.1 (by show 2 * 0 + _ + 12 ≤ _; rw [xCat_map]; omega) (kk _ _ _ _ _ hW hL hS rfl rfl)
    | false => rw [hk] at hs; cases hs
  | _ => cases hs
end XM
end
section
/-! ===== runs of the small machine ===== -/
def xMo (h : xH) (o : Option xS) : Prop := ∀ s, o = some s → h.1 ≤ s.2.2.2.1 ∧ h.2.1 ≤ s.2.2.2.2.1
theorem xMo_no {h : xH} : xMo h none := fun _ h => by cases h
theorem xMo_at {h : xH} {pc : Nat} {ls : xL} {st : List Value} : xMo h (some (pc, ls, st, h)) := fun s hs => by cases hs; exact ⟨Nat.le_refl _, Nat.le_refl _⟩
theorem xMo_up {h : xH} {pc i : Nat} {ls : xL} {st : List Value} {e : va_E} : xMo h (some (pc, ls, st, xUp h i e)) := fun s hs => by cases hs; exact ⟨Nat.le_refl _, Nat.le_refl _⟩
theorem xMo_nw {h : xH} {pc n : Nat} {ls : xL} {st : List Value} {e : va_E} : xMo h (some (pc, ls, st, xNw h n e)) := fun s hs => by cases hs; exact ⟨Nat.le_succ _, Nat.le_add_right _ _⟩
theorem xMo_i {h : xH} {st : List Value} {k : Int32 → List Value → Option xS} (hk : ∀ x r, xMo h (k x r)) : xMo h (xi st k) := fun s hs => by
  obtain ⟨x, r, -, he⟩ := xi_inv hs; exact hk x r s he
theorem xMo_ii {h : xH} {st : List Value} {k : Int32 → Int32 → List Value → Option xS} (hk : ∀ x y r, xMo h (k x y r)) : xMo h (xii st k) := fun s hs => by
  obtain ⟨x, y, r, -, he⟩ := xii_inv hs; exact hk x y r s he
theorem xMo_l {h : xH} {st : List Value} {k : Int64 → List Value → Option xS} (hk : ∀ x r, xMo h (k x r)) : xMo h (xl st k) := fun s hs => by
  obtain ⟨x, r, -, he⟩ := xl_inv hs; exact hk x r s he
theorem xMo_ll {h : xH} {st : List Value} {k : Int64 → Int64 → List Value → Option xS} (hk : ∀ x y r, xMo h (k x y r)) : xMo h (xll st k) := fun s hs => by
  obtain ⟨x, y, r, -, he⟩ := xll_inv hs; exact hk x y r s he
theorem xMo_li {h : xH} {st : List Value} {k : Int64 → Int32 → List Value → Option xS} (hk : ∀ x y r, xMo h (k x y r)) : xMo h (xli st k) := fun s hs => by
  obtain ⟨x, y, r, -, he⟩ := xli_inv hs; exact hk x y r s he
theorem xMo_a {h : xH} {st : List Value} {k : Nat → List Value → Option xS} (hk : ∀ x r, xMo h (k x r)) : xMo h (xa st k) := fun s hs => by
  obtain ⟨x, r, -, he⟩ := xa_inv hs; exact hk x r s he
theorem xMo_ai {h : xH} {st : List Value} {k : Nat → Int32 → List Value → Option xS} (hk : ∀ x y r, xMo h (k x y r)) : xMo h (xai st k) := fun s hs => by
  obtain ⟨x, y, r, -, he⟩ := xai_inv hs; exact hk x y r s he
theorem xMo_q {h : xH} {st : List Value} {k : Option Nat → List Value → Option xS} (hk : ∀ x r, xMo h (k x r)) : xMo h (xq st k) := fun s hs => by
  obtain ⟨x, r, -, he⟩ := xq_inv hs; exact hk x r s he
theorem xMo_ob {h : xH} {a ci : Nat} {k : List Value → Option xS} (hk : ∀ x, xMo h (k x)) : xMo h (xob h a ci k) := fun s hs => by
  obtain ⟨x, -, he⟩ := xob_inv hs; exact hk x s he
theorem xMo_ar {h : xH} {a t : Nat} {k : Nat → (Nat → Int32) → Option xS} (hk : ∀ x y, xMo h (k x y)) : xMo h (xar h a t k) := fun s hs => by
  obtain ⟨x, y, -, he⟩ := xar_inv hs; exact hk x y s he
theorem xMo_arl {h : xH} {a : Nat} {k : Nat → (Nat → Int64) → Option xS} (hk : ∀ x y, xMo h (k x y)) : xMo h (xarl h a k) := fun s hs => by
  obtain ⟨x, y, -, he⟩ := xarl_inv hs; exact hk x y s he
theorem xMo_arq {h : xH} {a : Nat} {k : Nat → Nat → (Nat → Option Nat) → Option xS} (hk : ∀ x y z, xMo h (k x y z)) : xMo h (xarq h a k) := fun s hs => by
  obtain ⟨x, y, z, -, -, he⟩ := xarq_inv hs; exact hk x y z s he
theorem xMo_in {h : xH} {i : Int32} {n : Nat} {k : Nat → Option xS} (hk : ∀ x, xMo h (k x)) : xMo h (xin i n k) := fun s hs => by
  obtain ⟨-, he⟩ := xin_inv hs; exact hk _ s he
theorem xMo_b {h : xH} {α : Type} {o : Option α} {k : α → Option xS} (hk : ∀ x, xMo h (k x)) : xMo h (o.bind k) := fun s hs => by
  obtain ⟨x, -, he⟩ := Option.bind_eq_some_iff.mp hs; exact hk _ s he
theorem xMo_c {h : xH} {b : Bool} {x y : Option xS} (hx : xMo h x) (hy : xMo h y) : xMo h (bif b then x else y) := by cases b <;> assumption
set_option maxHeartbeats 4000000 in
theorem xStep_mono {ro : xRo} {i : xI} {pc : Nat} {ls : xL} {st : List Value} {h : xH} : xMo h (xStep ro i pc ls st h) := by
  obtain ⟨op, len, A, B, k, ps⟩ := i
  unfold xStep
  dsimp only
  cases op <;> dsimp only <;> repeat (first
    | exact xMo_no | exact xMo_at | exact xMo_up | exact xMo_nw
    | (refine xMo_i fun _ _ => ?_) | (refine xMo_ii fun _ _ _ => ?_) | (refine xMo_l fun _ _ => ?_) | (refine xMo_ll fun _ _ _ => ?_) | (refine xMo_li fun _ _ _ => ?_)
    | (refine xMo_a fun _ _ => ?_) | (refine xMo_ai fun _ _ _ => ?_) | (refine xMo_q fun _ _ => ?_) | (refine xMo_ob fun _ => ?_) | (refine xMo_ar fun _ _ => ?_) | (refine xMo_arl fun _ _ => ?_) | (refine xMo_arq fun _ _ _ => ?_)
    | (refine xMo_in fun _ => ?_) | (refine xMo_b fun _ => ?_) | (refine xMo_c ?_ ?_) | split)
abbrev xR : Type := Option Value × xH
/-- the receiver of a call is of the class that the words speak of: its number is the sixth place; 99: a text -/
def xRcv (i : xI) (as : List Value) (h : xH) : Bool := match i.1 with
  | .invokevirtual _ => match as with
    | .ref a :: _ => match h.2.2 a with
      | some (.inr (c, _)) => Nat.beq c (i.2.2.2.2.2.getD 5 0)
      | _ => Nat.ble 2 a && Nat.ble a 4 && Nat.beq (i.2.2.2.2.2.getD 5 0) 99
    | _ => false
  | .invokespecial _ => match as with
    | .ref _ :: _ => true
    | _ => false
  | _ => true
def xRetV (ret : Option FieldType) (op : Instr) (st : List Value) : Option (Option Value) := match op with
  | .ireturn => match st with
    | [.int x] => match ret with
      | some .int => some (some (.int x))
      | some .boolean => if x = 0 ∨ x = 1 then some (some (.int x)) else none
      | some .char => if narrow .char (.int x) = .int x then some (some (.int x)) else none
      | some .byte => if narrow .byte (.int x) = .int x then some (some (.int x)) else none
      | _ => none
    | _ => none
  | .lreturn => match st with
    | [.long x] => match ret with
      | some .long => some (some (.long x))
      | _ => none
    | _ => none
  | .areturn => match st with
    | [.ref x] => match ret with
      | some (.object _) => some (some (.ref x))
      | some (.array _) => some (some (.ref x))
      | _ => none
    | [.null] => match ret with
      | some (.object _) => some (some .null)
      | some (.array _) => some (some .null)
      | _ => none
    | _ => none
  | .return_ => match st with
    | [] => match ret with
      | none => some none
      | _ => none
    | _ => none
  | _ => none
def xRun (ro : xRo) (E : Nat → List Value → xH → xR → Prop) (ret : Option FieldType) (code : xC) : Nat → Nat → xL → List Value → xH → xR → Prop
  | 0, _, _, _, _, _ => False
  | n + 1, pc, ls, st, h, r => ∃ i, xAt code pc = some i ∧
      ((∃ pc' ls' st' h', xStep ro i pc ls st h = some (pc', ls', st', h') ∧ xRun ro E ret code n pc' ls' st' h' r)
      ∨ (∃ j k v h', xCallee i = some (j, k) ∧ k ≤ st.length ∧ ((st.drop k).map fun v => v.category).sum ≤ 8 ∧ xRcv i (st.take k).reverse h = true ∧ E j (st.take k).reverse h (v, h') ∧ xRun ro E ret code n (pc + 3) ls (v.toList ++ st.drop k) h' r)
      ∨ (∃ v, xRetV ret i.1 st = some v ∧ r = (v, h)))
/-- a method's run at a depth of calls: built-in ones by B -/
def xEv (ro : xRo) (P : Nat → Option xMeth) (B : Nat → List Value → xH → xR → Prop) : Nat → Nat → List Value → xH → xR → Prop
  | 0, _, _, _, _ => False
  | d + 1, j, as, h, r => (10 ≤ d ∧ B j as h r) ∨ ∃ M n, P j = some M ∧ Nat.ble (lg_sl as).length M.2.2.1 = true ∧ xRun ro (xEv ro P B d) M.2.2.2.1 M.2.2.2.2 n 0 (lv_args 0 as) [] h r
def xLe (h : xH) (r : xR) : Prop := h.1 ≤ r.2.1 ∧ h.2.1 ≤ r.2.2.1
theorem xRun_mono {ro : xRo} {E : Nat → List Value → xH → xR → Prop} {ret : Option FieldType} {code : xC} (hE : ∀ j as h r, E j as h r → xLe h r) : ∀ n pc ls st h r, xRun ro E ret code n pc ls st h r → xLe h r := by
  intro n
  induction n with
  | zero => intro pc ls st h r hr; cases hr
  | succ n ih =>
    intro pc ls st h r hr
    obtain ⟨i, -, hr⟩ := hr
    rcases hr with ⟨pc', ls', st', h', hs, hr⟩ | ⟨j, k, v, h', -, -, -, -, he, hr⟩ | ⟨v, -, rfl⟩
    · have h1 := xStep_mono _ hs
      have h2 := ih _ _ _ _ _ hr
      exact ⟨Nat.le_trans h1.1 h2.1, Nat.le_trans h1.2 h2.2⟩
    · have h1 := hE _ _ _ _ he
      have h2 := ih _ _ _ _ _ hr
      exact ⟨Nat.le_trans h1.1 h2.1, Nat.le_trans h1.2 h2.2⟩
    · exact ⟨Nat.le_refl _, Nat.le_refl _⟩
theorem xEv_mono {ro : xRo} {P : Nat → Option xMeth} {B : Nat → List Value → xH → xR → Prop} (hB : ∀ j as h r, B j as h r → xLe h r) : ∀ d j as h r, xEv ro P B d j as h r → xLe h r := by
  intro d
  induction d with
  | zero => intro j as h r hr; cases hr
  | succ d ih =>
    intro j as h r hr
    rcases hr with ⟨-, hr⟩ | ⟨M, n, -, -, hr⟩
    · exact hB _ _ _ _ hr
    · exact xRun_mono ih _ _ _ _ _ _ hr
end
section
/-! ===== a run of the small machine is a contract of the JVM's method ===== -/
def xPre (g : xG) (ro : xRo) (as : List Value) (h : xH) : Array Value → State → Prop := va_Pc (as.map (xTv g)) (fun U => xW g h U.heap ∧ xK g ro U U.heap)
def xPost (g : xG) (r : xR) : Array Value → State → Outcome → State → Prop := fun _ st o t => o = .returned (r.1.map (xTv g)) ∧ xW g r.2 t.heap ∧ va_F (xA g) st t
def xMet (l : Launch) (g : xG) (ro : xRo) (d : Nat) (M : xMeth) (as : List Value) (h : xH) (r : xR) : Prop :=
  Met l M.1 (Jvm.Cond.code M.1 M.2.1 M.2.2.1 M.2.2.2.1 :: xTb) { frames := d, cells := r.2.1 - h.1, slots := r.2.2.1 - h.2.1, locals := 120 * d } (xPre g ro as h) (xPost g r) (r.2.1 - h.1) (r.2.2.1 - h.2.1) (xA g)
theorem xPre_blind {g : xG} {ro : xRo} {as : List Value} {h : xH} : FrameBlind (xPre g ro as h) := by
  intro a U f mk ⟨h1, h2, h3⟩
  exact ⟨h1, h2, xK.same (u := U) rfl h3⟩
theorem xGoodIn (w : Jvm.Cond) (hw : w ∈ xTb) : GoodIn xTb (w :: xTb) := by
  intro v hv
  have hm : v ∈ xTb := by
    rcases List.mem_cons.mp hv with rfl | h
    · exact hw
    · exact h
  exact ⟨hm, good_of_word (List.mem_filter.mp hm).2⟩
section XC
variable {p : Program} {l : Launch} {e : Env} {R : Room} {s : State} {m : MethodId} {args : Array Value} {below : List Frame} {meth : Method} {c : Code} {H : Heap} {locs : List Loc} {cells slots : Nat} {Q : State → Prop}
variable {g : xG} {ro : xRo} {own mname : String} {cc : ByteArray} {nL pc : Nat} {h h' : xH} {Ls : Array Slot}
theorem xback {mc ms : Nat} {st0 rest : List Value} {a : Array Value} {v : Option Value} (hr : va_Run p l e R s m args below meth c H locs cells slots mc ms (F0 m pc Ls st0) rest (xPost g (v, h') a) (xA g)) (hS : va_S (xA g) s.heap H locs)
    (kk : ∀ (H1 : Heap) (locs1 : List Loc), xW g h' H1 → va_S (xA g) s.heap H1 locs1 → W p l e R s m args below meth c H1 locs1 (cells + mc) (slots + ms) Q (F0 m (pc + 3) Ls ((v.map (xTv g)).toList ++ rest))) : W p l e R s m args below meth c H locs cells slots Q (F0 m pc Ls st0) := by
  intro T hT X
  obtain ⟨v', st₀, t, T', L, h0, X', hL, e1, e2, ⟨q1, q2, q3⟩, st⟩ := hr T hT X
  cases q1
  rw [va_F, h0] at q3
  obtain ⟨t2, a1, b1⟩ := kk T'.heap (locs ++ L) (by rw [e1]; exact q2) ⟨Nat.le_trans hS.1 (by rw [e1]; exact q3.1), fun q z1 z2 => by rw [e1, q3.2 q (Nat.lt_of_lt_of_le z1 hS.1) z2]; exact hS.2.1 q z1 z2, fun q hq => by
      rcases List.mem_append.mp hq with z | z
      · exact hS.2.2 q z
      · exact hL q z⟩ T' rfl X'
  exact ⟨t2, st t2 a1, b1⟩
theorem xcall (X : xCx p s m args meth c g ro own mname cc nL) {d : Nat} (hRf : d + 1 ≤ R.frames) (hRl : 120 * (d + 1) ≤ R.locals) {P : Nat → Option xMeth} {i : xI} {j k : Nat} (hd : decode cc pc = .ok (i.1, i.2.1)) (hlen : (match xLen i.1 with
    | some n => Nat.beq i.2.1 n
    | none => true) = true) (hC : xChkC P own i = true) (hj : xCallee i = some (j, k)) {M : xMeth} (hP : P j = some M) (hcw : Jvm.Cond.code M.1 M.2.1 M.2.2.1 M.2.2.2.1 ∈ xTb) {st : List Value} {v : Option Value} (hk : k ≤ st.length) (hcat : ((st.drop k).map fun v => v.category).sum ≤ 8) (hrc : xRcv i (st.take k).reverse h = true)
    (hM : xMet l g ro d M (st.take k).reverse h (v, h')) (hW : xW g h H) (hLs : Ls.size = nL) (hS : va_S (xA g) s.heap H locs) (hcell : cells + (h'.1 - h.1) ≤ R.cells) (hslot : slots + (h'.2.1 - h.2.1) ≤ R.slots)
    (kk : ∀ (H1 : Heap) (locs1 : List Loc), xW g h' H1 → va_S (xA g) s.heap H1 locs1 → W p l e R s m args below meth c H1 locs1 (cells + (h'.1 - h.1)) (slots + (h'.2.1 - h.2.1)) Q (F0 m (pc + 3) Ls ((v.toList ++ st.drop k).map (xTv g)))) :
    W p l e R s m args below meth c H locs cells slots Q (F0 m pc Ls (st.map (xTv g))) := by
  obtain ⟨hx, hb, hml, hown, hts, hnm, hK⟩ := id X
  have hst : st.map (xTv g) = ((st.take k).reverse.map (xTv g)).reverse ++ (st.drop k).map (xTv g) := by
    rw [← List.map_reverse, List.reverse_reverse, ← List.map_append, List.take_append_drop]
  have hal : ((st.take k).reverse.map (xTv g)).length = k := by rw [List.length_map, List.length_reverse, List.length_take]; omega
  have hr8 : ((st.drop k).map (xTv g) |>.map fun v => v.category).sum ≤ 8 := by rw [xCat_map]; exact hcat
  have hkk : ∀ (H1 : Heap) (locs1 : List Loc), xW g h' H1 → va_S (xA g) s.heap H1 locs1 → W p l e R s m args below meth c H1 locs1 (cells + (h'.1 - h.1)) (slots + (h'.2.1 - h.2.1)) Q (F0 m (pc + 3) Ls ((v.map (xTv g)).toList ++ (st.drop k).map (xTv g))) := by
    intro H1 locs1 w1 w2
    have := kk H1 locs1 w1 w2
    rw [List.map_append] at this
    cases v <;> exact this
  rw [hst]
  generalize (st.take k).reverse = as at *
  generalize st.drop k = rs at *
  unfold xChkC at hC
  rw [hj] at hC
  dsimp only at hC
  rw [hP] at hC
  dsimp only at hC
  simp only [Bool.and_eq_true, decide_eq_true_eq] at hC
  obtain ⟨⟨⟨⟨c1, c2⟩, c3⟩, c5⟩, c6⟩ := hC
  have hmax : M.2.2.1 ≤ 100 := Nat.le_of_ble_eq_true c3
  have hR2 : d + 1 ≤ R.frames ∧ 8 + (M.2.2.1 + 11) + 120 * d ≤ R.locals := ⟨by omega, by omega⟩
  have hPc : ∀ U : State, U.heap = H → s.WarmedH U.vm → xPre g ro as h (as.map (xTv g)).toArray U := by
    intro U hU hWm
    refine ⟨rfl, by rw [hU]; exact hW, ?_⟩
    rw [hU]
    exact (hK.kept (fun q z1 z2 => hS.2.1 q z1 z2)).warm hWm
  have hG := xGoodIn _ hcw
  have nest : ∀ {idx : Nat}, Jvm.Cond.methodLinkNest own idx M.1 "MagpieAccounts" ∈ xNests → va_Nw (.methodLinkNest own idx M.1 "MagpieAccounts") s := fun h => hK.2.1 _ h
  obtain ⟨op, len, A, B, cst, ps⟩ := i
  dsimp only at hd hlen c6
  unfold xRcv at hrc
  dsimp only at hrc
  cases op with
  | invokevirtual idx =>
    obtain rfl : len = 3 := xbeq hlen
    dsimp only at hrc c6
    simp only [Bool.and_eq_true, decide_eq_true_eq] at c6
    obtain ⟨⟨⟨⟨w0, w3⟩, w4⟩, w5⟩, w6⟩ := c6
    split at hrc
    · rename_i a as0
      have hn : (as0.map (xTv g)).length + 1 = k := by rw [← hal]; rfl
      have hpar : (parseMethodDescriptor M.1.desc).map (fun d => d.parameters.length) = some (as0.map (xTv g)).length := by
        cases hp : parseMethodDescriptor M.1.desc with
        | none => rw [hp] at w5; cases w5
        | some q => rw [hp] at w5; have : q.parameters.length + 1 = k := Option.some.inj w5; show some q.parameters.length = _; congr 1; omega
      have hrv : ∃ cell : Cell, H[xad g a]? = some cell ∧ cell.vm.isStatics = false ∧ s.vm.findClass M.1.cls = some cell.cls := by
        split at hrc
        · rename_i c' fs hent
          have hcc := xbeq hrc
          obtain ⟨-, -, hat⟩ := hW.2.2 a _ hent
          rw [xTe_o] at hat
          rw [← hcc] at w6
          split at w6
          · rename_i q hq
            rw [← of_decide_eq_true w6]
            exact va_recv (q0 := 0) hK.1 (xOne hat) hq rfl
          · obtain ⟨r, hr, -⟩ := hat
            rename_i hno
            rw [hno] at hr
            cases hr
        · simp only [Bool.and_eq_true] at hrc
          have h99 := xbeq hrc.2
          rw [h99] at w6
          have w6 : (Nat.beq 99 99 && decide (M.1.cls = "java/lang/String")) = true := w6
          simp only [Bool.and_eq_true, decide_eq_true_eq] at w6
          rw [w6.2]
          obtain ⟨-, -, -, hv, -⟩ := hK.2.2.2.2.2.2
          have h2a : 2 ≤ a := Nat.le_of_ble_eq_true hrc.1.1
          have ha4 : a ≤ 4 := Nat.le_of_ble_eq_true hrc.1.2
          obtain ⟨z1, z2, -⟩ := xstr_at (g := g) h2a ha4
          rw [z2]
          exact vk_recv (adK := fun i => g.2.1 (2 + i)) (i := a - 2) hv z1 hS
      have run := va_runV (e := e) (below := below) (meth := meth) (As := as0.map (xTv g)) (rest := rs.map (xTv g)) (b := xad g a) (cc := cc) (Ts := xTb) (own := own) (C := M.1.cls) (g := F0 m pc Ls ((List.map (xTv g) (Value.ref a :: as0)).reverse ++ rs.map (xTv g))) (locs := locs) (cells := cells) (slots := slots) (n := (as0.map (xTv g)).length)
        ⟨hx, hb, hml, hown, hts⟩ hM ⟨callB_of _ hts hG rfl rfl rfl (hts _ (xwd_in c5)) (hts _ (xwd_in w0)) ⟨c1, c2, hpar⟩ hR2, hts _ (xwd_in w3), hts _ (xwd_in w4)⟩ ⟨xPre_blind, hrv, hPc⟩ rfl rfl hLs (by simp [xTv]) (by show 2 * 0 + _ ≤ 8; omega) hd ⟨hcell, hslot⟩
      exact xback run hS hkk
    · cases hrc
  | invokestatic idx =>
    obtain rfl : len = 3 := xbeq hlen
    dsimp only at c6
    simp only [Bool.and_eq_true, decide_eq_true_eq] at c6
    obtain ⟨⟨w3, w5⟩, w0⟩ := c6
    rw [← hal] at w5
    cases hcst : (cst == 0) with
    | true =>
      rw [hcst] at w0
      have run := va_runS (e := e) (below := below) (meth := meth) (As := as.map (xTv g)) (rest := rs.map (xTv g)) (cc := cc) (Ts := xTb) (own := own) (g := F0 m pc Ls ((as.map (xTv g)).reverse ++ rs.map (xTv g))) (locs := locs) (cells := cells) (slots := slots) (n := (as.map (xTv g)).length)
        ⟨hx, hb, hml, hown, hts⟩ hM ⟨callB_of _ hts hG rfl rfl rfl (hts _ (xwd_in c5)) (hts _ (xwd_in w0)) ⟨c1, c2, w5⟩ hR2, hts _ (xwd_in w3)⟩ ⟨xPre_blind, hPc⟩ rfl rfl hLs rfl (by show 2 * 0 + _ ≤ 8; omega) hd ⟨hcell, hslot⟩
      exact xback run hS hkk
    | false =>
      rw [hcst] at w0
      have run := va_runSN (e := e) (below := below) (meth := meth) (As := as.map (xTv g)) (rest := rs.map (xTv g)) (cc := cc) (Ts := xTb) (own := own) (g := F0 m pc Ls ((as.map (xTv g)).reverse ++ rs.map (xTv g))) (locs := locs) (cells := cells) (slots := slots) (n := (as.map (xTv g)).length)
        ⟨hx, hb, hml, hown, hts⟩ hM ⟨va_cnB _ hts hG rfl rfl rfl (nest (of_decide_eq_true w0)) (hts _ (xwd_in c5)) ⟨c1, c2, w5⟩ hR2, hts _ (xwd_in w3), trivial⟩ ⟨xPre_blind, hPc⟩ rfl rfl hLs rfl (by show 2 * 0 + _ ≤ 8; omega) hd ⟨hcell, hslot⟩
      exact xback run hS hkk
  | invokespecial idx =>
    obtain rfl : len = 3 := xbeq hlen
    dsimp only at hrc c6
    simp only [Bool.and_eq_true, decide_eq_true_eq] at c6
    obtain ⟨⟨⟨w3, w4⟩, w5⟩, w0⟩ := c6
    split at hrc
    · rename_i a as0
      have hn : (as0.map (xTv g)).length + 1 = k := by rw [← hal]; rfl
      have hpar : (parseMethodDescriptor M.1.desc).map (fun d => d.parameters.length) = some (as0.map (xTv g)).length := by
        cases hp : parseMethodDescriptor M.1.desc with
        | none => rw [hp] at w5; cases w5
        | some q => rw [hp] at w5; have : q.parameters.length + 1 = k := Option.some.inj w5; show some q.parameters.length = _; congr 1; omega
      obtain ⟨y, bytes, maxL, ret, code⟩ := M
      obtain ⟨w4, hret⟩ := w4
      dsimp only at hret
      subst hret
      cases hcst : (cst == 0) with
      | true =>
        rw [hcst] at w0
        have run := va_runI (e := e) (below := below) (meth := meth) (As := as0.map (xTv g)) (rest := rs.map (xTv g)) (b := xad g a) (cc := cc) (Ts := xTb) (own := own) (g := F0 m pc Ls ((List.map (xTv g) (Value.ref a :: as0)).reverse ++ rs.map (xTv g))) (locs := locs) (cells := cells) (slots := slots) (n := (as0.map (xTv g)).length)
          ⟨hx, hb, hml, hown, hts⟩ hM ⟨callB_of _ hts hG rfl rfl rfl (hts _ (xwd_in c5)) (hts _ (xwd_in w0)) ⟨c1, c2, hpar⟩ hR2, w4, hts _ (xwd_in w3)⟩ ⟨xPre_blind, hPc⟩ rfl rfl hLs (by simp [xTv]) (by show 2 * 0 + _ ≤ 8; omega) hd ⟨hcell, hslot⟩
        exact xback run hS hkk
      | false =>
        rw [hcst] at w0
        have run := va_runIN (e := e) (below := below) (meth := meth) (As := as0.map (xTv g)) (rest := rs.map (xTv g)) (b := xad g a) (cc := cc) (Ts := xTb) (own := own) (g := F0 m pc Ls ((List.map (xTv g) (Value.ref a :: as0)).reverse ++ rs.map (xTv g))) (locs := locs) (cells := cells) (slots := slots) (n := (as0.map (xTv g)).length)
          ⟨hx, hb, hml, hown, hts⟩ hM ⟨va_cnB _ hts hG rfl rfl rfl (nest (of_decide_eq_true w0)) (hts _ (xwd_in c5)) ⟨c1, c2, hpar⟩ hR2, w4, hts _ (xwd_in w3)⟩ ⟨xPre_blind, hPc⟩ rfl rfl hLs (by simp [xTv]) (by show 2 * 0 + _ ≤ 8; omega) hd ⟨hcell, hslot⟩
        exact xback run hS hkk
    · cases hrc
  | _ => cases c6
end XC
end
section
/-! ===== every run of a checked program is a contract ===== -/
theorem xargs_map (g : xG) : ∀ (as : List Value) (k : Nat), xTl g (lv_args k as) = lv_args k (as.map (xTv g))
  | [], _ => rfl
  | v :: as, k => by
    show (k, xTv g v) :: xTl g (lv_args _ as) = (k, xTv g v) :: lv_args _ (as.map (xTv g))
    rw [xargs_map g as, xTv_cat]
theorem xsl_map (g : xG) (as : List Value) : (lg_sl (as.map (xTv g))).length = (lg_sl as).length := by
  unfold lg_sl
  induction as with
  | nil => rfl
  | cons v as ih =>
    rw [List.map_cons, List.flatMap_cons, List.flatMap_cons, List.length_append, List.length_append, ih, xTv_cat]
    congr 1
    split <;> rfl
theorem xAt_mem {c : xC} {pc : Nat} {i : xI} (h : xAt c pc = some i) : ∃ l ∈ c, (pc, i) ∈ l := by
  unfold xAt at h
  split at h
  · cases h
  · rename_i l hl
    exact ⟨l, List.mem_of_getElem? hl, xFind_mem h⟩
section XV
variable {p : Program} {l : Launch} {e : Env} {R : Room} {s : State} {m : MethodId} {args : Array Value} {below : List Frame} {meth : Method} {c : Code}
variable {g : xG} {ro : xRo} {own mname : String} {cc : ByteArray} {nL : Nat} {Ls : Array Slot}
set_option maxHeartbeats 4000000 in
theorem xrun_gen (X : xCx p s m args meth c g ro own mname cc nL) {d : Nat} (hRf : d + 1 ≤ R.frames) (hRl : 120 * (d + 1) ≤ R.locals) {K1 K2 : Nat} (hK1 : K1 ≤ R.cells) (hK2 : K2 ≤ R.slots) {Q : State → Prop} {P : Nat → Option xMeth} {E : Nat → List Value → xH → xR → Prop} {ret : Option FieldType} {code : xC}
    (hE : ∀ j as h r, E j as h r → xLe h r ∧ ∀ M, P j = some M → xMet l g ro d M as h r) (hck : ∀ l ∈ code, ∀ q ∈ l, xChk own mname cc nL q.1 q.2 = true ∧ xChkC P own q.2 = true) (hcw : ∀ j M, P j = some M → Jvm.Cond.code M.1 M.2.1 M.2.2.1 M.2.2.2.1 ∈ xTb) {r : xR} (hfin : ∀ (pc : Nat) (i : xI) (st : List Value) (H : Heap) (locs : List Loc) (cells slots : Nat) (Ls : Array Slot), decode cc pc = .ok (i.1, i.2.1) → (match xLen i.1 with
    | some n => Nat.beq i.2.1 n
    | none => true) = true → xRetV ret i.1 st = some r.1 → xW g r.2 H → va_S (xA g) s.heap H locs → cells = K1 → slots = K2 → W p l e R s m args below meth c H locs cells slots Q (F0 m pc Ls (st.map (xTv g)))) :
    ∀ (n pc : Nat) (ls : xL) (st : List Value) (h : xH), xRun ro E ret code n pc ls st h r → ∀ (H : Heap) (locs : List Loc) (cells slots : Nat) (Ls : Array Slot), xW g h H → lv_has Ls nL (xTl g ls) → va_S (xA g) s.heap H locs → cells + r.2.1 = K1 + h.1 → slots + r.2.2.1 = K2 + h.2.1 →
      W p l e R s m args below meth c H locs cells slots Q (F0 m pc Ls (st.map (xTv g))) := by
  intro n
  induction n with
  | zero => intro pc ls st h hr; cases hr
  | succ n ih =>
    intro pc ls st h hr H locs cells slots Ls hW hL hS hc1 hc2
    obtain ⟨i, hi, hr⟩ := hr
    obtain ⟨lst, hl1, hl2⟩ := xAt_mem hi
    obtain ⟨k1, k2⟩ := hck lst hl1 _ hl2
    dsimp only at k1 k2
    have hEm : ∀ j as h r, E j as h r → xLe h r := fun j as h r q => (hE j as h r q).1
    rcases hr with ⟨pc', ls', st', h', hs, hr⟩ | ⟨j, k, v, h', hj, hk, hcat, hrc, he, hr⟩ | ⟨v, hv, hrv⟩
    · have hm := xRun_mono hEm _ _ _ _ _ _ hr
      have hm2 := xStep_mono _ hs
      unfold xLe at hm
      dsimp only at hm2
      refine xmain X ⟨by omega, by omega⟩ k1 hs hW hL hS (by omega) (by omega) fun H1 locs1 Ls1 cells1 slots1 w1 w2 w3 w4 w5 => ?_
      exact ih _ _ _ _ hr H1 locs1 cells1 slots1 Ls1 w1 w2 w3 (by omega) (by omega)
    · have hm := xRun_mono hEm _ _ _ _ _ _ hr
      obtain ⟨hle, hmet⟩ := hE _ _ _ _ he
      unfold xLe at hm hle
      dsimp only at hle
      have kd := k1
      unfold xChk at kd
      simp only [Bool.and_eq_true, decide_eq_true_eq] at kd
      obtain ⟨M, hP⟩ : ∃ M, P j = some M := by
        cases hP : P j with
        | some M => exact ⟨M, rfl⟩
        | none => unfold xChkC at k2; rw [hj] at k2; dsimp only at k2; rw [hP] at k2; cases k2
      refine xcall X hRf hRl kd.1.1 kd.1.2 k2 hj hP (hcw j M hP) hk hcat hrc (hmet M hP) hW hL.1 hS (by omega) (by omega) fun H1 locs1 w1 w2 => ?_
      exact ih _ _ _ _ hr H1 locs1 _ _ Ls w1 hL w2 (by omega) (by omega)
    · subst hrv
      have kd := k1
      unfold xChk at kd
      simp only [Bool.and_eq_true, decide_eq_true_eq] at kd
      exact hfin pc i st H locs cells slots Ls kd.1.1 kd.1.2 hv hW hS (by dsimp only at hc1; omega) (by dsimp only at hc2; omega)
set_option maxHeartbeats 4000000 in
theorem xret_sound (X : xCx p s m args meth c g ro own mname cc nL) {ret : Option FieldType} (hret : meth.sig.returnType = ret) (hlocks : meth.locks = false) {r : xR} {pc : Nat} {i : xI} {st : List Value} {H : Heap} {locs : List Loc} {cells slots : Nat} {Ls : Array Slot} (hd : decode cc pc = .ok (i.1, i.2.1)) (hlen : (match xLen i.1 with
    | some n => Nat.beq i.2.1 n
    | none => true) = true) (hv : xRetV ret i.1 st = some r.1) (hW : xW g r.2 H) (hS : va_S (xA g) s.heap H locs) : W p l e R s m args below meth c H locs cells slots (MQ below (xPost g r) args s cells slots (xA g)) (F0 m pc Ls (st.map (xTv g))) := by
  obtain ⟨hx, hb, hml, hown, hts, hnm, hK⟩ := X
  obtain ⟨v, h⟩ := r
  obtain ⟨op, len, A, B, k, ps⟩ := i
  dsimp only at hd hlen hv hW
  have hq : ∀ t : State, t.heap = H → s.WarmedH t.vm → ∀ o, o = Outcome.returned (v.map (xTv g)) → xPost g (v, h) args s o t := fun t ht _ o ho => ⟨ho, by rw [ht]; exact hW, hS.F ht⟩
  unfold xRetV at hv
  cases op with
  | ireturn =>
    obtain rfl : len = 1 := xbeq hlen
    dsimp only at hv
    split at hv
    · rename_i x
      split at hv
      · cases hv
        exact W.iret hx hb hret (fun t ht hw => hq t ht hw _ rfl) hS.2.2 hd hlocks
      · split at hv
        · rename_i h01
          cases hv
          exact W.zret (ty := .boolean) hx hb hret (by rcases h01 with rfl | rfl <;> rfl) (fun t ht hw => hq t ht hw _ rfl) hS.2.2 hd hlocks
        · cases hv
      · split at hv
        · rename_i h01
          cases hv
          exact W.zret (ty := .char) hx hb hret h01 (fun t ht hw => hq t ht hw _ rfl) hS.2.2 hd hlocks
        · cases hv
      · split at hv
        · rename_i h01
          cases hv
          exact W.zret (ty := .byte) hx hb hret h01 (fun t ht hw => hq t ht hw _ rfl) hS.2.2 hd hlocks
        · cases hv
      · cases hv
    · cases hv
  | lreturn =>
    obtain rfl : len = 1 := xbeq hlen
    dsimp only at hv
    split at hv
    · rename_i x
      split at hv
      · cases hv
        exact W.lret hx hb hret (fun t ht hw => hq t ht hw _ rfl) hS.2.2 hd hlocks
      · cases hv
    · cases hv
  | areturn =>
    obtain rfl : len = 1 := xbeq hlen
    dsimp only at hv
    split at hv
    · rename_i x
      split at hv
      · cases hv
        exact W.aret hx hb hret (Or.inl ⟨_, rfl⟩) (Or.inr ⟨_, rfl⟩) (fun t ht hw => hq t ht hw _ rfl) hS.2.2 hd hlocks
      · cases hv
        exact W.aret hx hb hret (Or.inr ⟨_, rfl⟩) (Or.inr ⟨_, rfl⟩) (fun t ht hw => hq t ht hw _ rfl) hS.2.2 hd hlocks
      · cases hv
    · split at hv
      · cases hv
        exact W.aret hx hb hret (Or.inl ⟨_, rfl⟩) (Or.inl rfl) (fun t ht hw => hq t ht hw _ rfl) hS.2.2 hd hlocks
      · cases hv
        exact W.aret hx hb hret (Or.inr ⟨_, rfl⟩) (Or.inl rfl) (fun t ht hw => hq t ht hw _ rfl) hS.2.2 hd hlocks
      · cases hv
    · cases hv
  | return_ =>
    obtain rfl : len = 1 := xbeq hlen
    dsimp only at hv
    split at hv
    · split at hv
      · cases hv
        exact W.vret hx hb hret (fun t ht hw => hq t ht hw _ rfl) hS.2.2 hd hlocks
      · cases hv
    · cases hv
  | _ => cases hv
theorem xev_sound {P : Nat → Option xMeth} {B : Nat → List Value → xH → xR → Prop} (hB : ∀ j as h r, B j as h r → xLe h r ∧ ∀ d M, 10 ≤ d → P j = some M → xMet l g ro (d + 1) M as h r) (hP : ∀ j M, P j = some M → M.2.2.2.2 ≠ [] → xChkM P M = true) (hcw : ∀ j M, P j = some M → Jvm.Cond.code M.1 M.2.1 M.2.2.1 M.2.2.2.1 ∈ xTb) :
    ∀ (d j : Nat) (as : List Value) (h : xH) (r : xR), xEv ro P B d j as h r → xLe h r ∧ ∀ M, P j = some M → xMet l g ro d M as h r := by
  intro d
  induction d with
  | zero => intro j as h r hr; cases hr
  | succ d ih =>
    intro j as h r hr
    refine ⟨xEv_mono (fun j as h r q => (hB j as h r q).1) _ _ _ _ _ hr, fun M hM => ?_⟩
    rcases hr with ⟨hd, hr⟩ | ⟨M', n, hM', hsl, hr⟩
    · exact (hB j as h r hr).2 d M hd hM
    · cases hM.symm.trans hM'
      have hne : M.2.2.2.2 ≠ [] := by
        intro h0
        rw [h0] at hr
        cases n with
        | zero => cases hr
        | succ n => obtain ⟨i, hi, -⟩ := hr; cases hi
      have hck := hP j M hM hne
      unfold xChkM at hck
      simp only [Bool.and_eq_true, decide_eq_true_eq, List.all_eq_true] at hck
      obtain ⟨hpl, hck⟩ := hck
      have hle := xEv_mono (fun j as h r q => (hB j as h r q).1) (d + 1) j as h r (Or.inr ⟨M, n, hM, hsl, hr⟩)
      unfold xLe at hle
      unfold xMet
      refine Met.ofW (cc := M.2.1) (maxL := M.2.2.1) (ret := M.2.2.2.1) hpl rfl ?_
      intro p e s m args below meth c s₁ B0 hml hv
      obtain ⟨rfl, hW, hK⟩ := hv
      have hts := atoms_spec (ws := Jvm.Cond.code M.1 M.2.1 M.2.2.1 M.2.2.2.1 :: xTb) B0.pre
      have X : xCx p s m (as.map (xTv g)).toArray meth c g ro M.1.cls M.1.name M.2.1 M.2.2.1 := ⟨B0.exec, B0.bytes, hml, findClass_of_methodNamed B0.named, fun w hw => hts w (List.mem_cons_of_mem _ hw), fun hq => (name_of_methodNamed B0.named B0.method).1.trans hq, hK⟩
      have hl := lv_entry (as.map (xTv g)) (n := M.2.2.1) (by rw [xsl_map]; exact Nat.le_of_ble_eq_true hsl)
      rw [lg_entry_eq]
      rw [← xargs_map] at hl
      exact xrun_gen (R := { frames := d + 1, cells := r.2.1 - h.1, slots := r.2.2.1 - h.2.1, locals := 120 * (d + 1) }) X (Nat.le_refl _) (Nat.le_refl _) (K1 := r.2.1 - h.1) (K2 := r.2.2.1 - h.2.1) (Nat.le_refl _) (Nat.le_refl _) (fun j as h r q => ih j as h r q) (fun l hl q hq => hck l hl q hq) hcw
        (fun pc i st H locs cells slots Ls z1 z2 z3 z4 z5 z6 z7 => by subst z6; subst z7; exact xret_sound X B0.returns B0.notSynchronized z1 z2 z3 z4 z5) n 0 _ [] h hr s.heap [] 0 0 _ hW hl va_S.rf (by omega) (by omega)
end XV
end
section
/-! THE CLAIM OUT OF ONE WALK OF THE LAW'S BODY. Your part is whole_start (and what it stands on); all else here is the same for every law, but numbers. -/
def R_law : String := "MagpieAccountsLaw"
def lw_P (b : Addr) (xs : List Int32) (args : Array Value) (s : State) : Prop := args = #[.ref b] ∧ s.IntsAt b xs ∧ xs.length ≤ 3072 ∧ (Jvm.Cond.and given_1 narrow_1).before args s = true
def lw_Q (_ : Array Value) (s : State) (o : Outcome) (t : State) : Prop := o = .returned (some (.int 1)) ∧ Framed s o t [] 600000 7302250
def lw_Z (below : List Frame) (a : Array Value) (s : State) : State → Prop := fun t => ∃ o, t.status = .running ∧ Ended t below o ∧ lw_Q a s o t
/-- the law's own end, with 1 on the stack, nothing written that was there before, its room as the claim has it -/
theorem lw_ret {p : Program} {l : Launch} {e : Env} {s : State} {m : MethodId} {below : List Frame} {meth : Method} {c : Code} {b : Nat} (hx : p.tables.exec = Jvm.exec) (hb : c.code = code) (hr : meth.sig.returnType = ret) (hlocks : meth.locks = false) {pc : Nat} {H : Heap} {ls : Array Slot} (hdg : decode code pc = .ok (.ireturn, 1)) : W p l e room_1 s m #[Value.ref b] below meth c H [] 600000 7302250 (lw_Z below #[Value.ref b] s) (F0 m pc ls [.int 1]) := by
  intro T hT X
  obtain ⟨fs, hret, hrun, hended, hW, hframe⟩ := X.leave (v := some (.int 1)) (hlocks := hlocks) (fun h => by rw [hr] at h; cases h)
  have hmeth' : T.vm.method? m = some meth := X.method'
  refine ⟨T.setFrames fs, ?_, .returned (some (.int 1)), hrun, hended, rfl, ⟨_, rfl⟩, hW, hframe⟩
  jvm_step X.here [X.here.top, hx, hb, hdg, hmeth', hr, ret, narrow_b1]
  (try refine ⟨rfl, ?_⟩); (try refine ⟨rfl, ?_⟩)
  first | (intro acts; rw [hret _ acts rfl rfl rfl]) | rw [hret _ _ rfl rfl rfl]
  exact Steps.refl _
/-- what holds at the law's entry: the machine, the code, the tables' words (any of lw_tbl by 'hts w (by decide +kernel)'), the script of L ints xs at the cell b, what the Statement gives of the start (any of its parts by flat_of_before) -/
def lw_At (p : Program) (s : State) (m : MethodId) (meth : Method) (c : Code) (b L : Nat) (xs : Nat → Int32) : Prop :=
  p.tables.exec = Jvm.exec ∧ c.code = code ∧ meth.sig.returnType = ret ∧ c.maxLocals = 4 ∧ s.vm.findClass R_law = some m.cls ∧ (∀ w ∈ lw_tbl, w.before #[Value.ref b] s = true) ∧ va_X b L xs s s.heap ∧ b < s.heap.size ∧ meth.locks = false ∧ (Jvm.Cond.and given_1 narrow_1).before #[Value.ref b] s = true
/-! ===== the law's start: what the Statement gives, as the small machine's world ===== -/
def xGp : Nat → Int32 := fun j => ([34, 21, 13, 8, 5, 3, 2, 1] : List Int32).getD j 0
def xRoL (L : Nat) (xs : Nat → Int32) (F : Bool) : xRo := fun i => match i with
  | 0 => some (L, xs)
  | 1 => some (8, xGp)
  | 8 => bif F then some (0, fun _ => 0) else none
  | _ => none
def xSt0 : String := "day   fund  last  gone  numberodds  periodcount thing rhyme came  not   and   or    if    then  else  end   chancebringsbird  thin  call  grant by    "
def xSt1 : String := "<>=#+-*/();"
def xSt2 : String := "012301320213023103120321102310321203123013021320201320312103213023012310301230213102312032013210"
def xTm : Nat → Term := fun i => match i with
  | 0 => .string RX9 71
  | 1 => .string RX9 64
  | _ => .string RX4 50
def xFl : List Jvm.Cond := flatC (Jvm.Cond.and given_1 narrow_1)
def xEl2 (i j : Nat) : Jvm.Cond := Cond.eq (.elem (.field (xTm i) "java/lang/String" "value" "[B") (.int (Int32.ofNat j))) (.int (([xBy0, xBy1, xBy2].getD i []).getD j 0))
theorem xfl0 : (xFl.drop 50).take 150 = (List.range 150).map (xEl2 0) := by decide +kernel
theorem xfl1 : (xFl.drop 204).take 11 = (List.range 11).map (xEl2 1) := by decide +kernel
theorem xfl2 : (xFl.drop 220).take 96 = (List.range 96).map (xEl2 2) := by decide +kernel
theorem xflg : (xFl.drop 12).take 8 = (List.range 8).map (fun j => Cond.eq (.elem (.static "MagpieAccounts" "GAME_PARTS" "[I") (.int (Int32.ofNat j))) (.int (xGp j))) := by decide +kernel
theorem xflm {K N : Nat} {f : Nat → Jvm.Cond} (h : (xFl.drop K).take N = (List.range N).map f) {j : Nat} (hj : j < N) : f j ∈ xFl := by
  have h1 : f j ∈ (xFl.drop K).take N := by rw [h]; exact List.mem_map.mpr ⟨j, List.mem_range.mpr hj, rfl⟩
  exact List.mem_of_mem_drop (List.mem_of_mem_take h1)
theorem xfla {k : Nat} {w : Jvm.Cond} (h : xFl[k]? = some w) : w ∈ xFl := List.mem_of_getElem? h
theorem x3 {P : Nat → Prop} (h0 : P 0) (h1 : P 1) (h2 : P 2) : ∀ i, i < 3 → P i := fun i hi => match i, hi with
  | 0, _ => h0
  | 1, _ => h1
  | 2, _ => h2
set_option maxRecDepth 100000 in
set_option maxHeartbeats 4000000 in
theorem xworld {p : Program} {s : State} {m : MethodId} {meth : Method} {c : Code} {b L : Nat} {xs : Nat → Int32} (C0 : lw_At p s m meth c b L xs) : ∃ g : xG, g.1 = s.heap.size ∧ g.2.1 0 = b ∧ ∃ F : Bool, xK g (xRoL L xs F) s s.heap := by
  obtain ⟨hx, hb, hr, hml, hown, hts, hX, hbl, hlocks, hgv⟩ := id C0
  have hfl : ∀ w ∈ xFl, w.before #[Value.ref b] s = true := fun w hw => flat_of_before _ hgv w hw
  have hA : ∀ a : Nat, a < s.heap.size → ¬ (fun q : Nat => s.heap.size ≤ q) a := fun a h => Nat.not_le.mpr h
  obtain ⟨c0, i0, k0⟩ := u_known (C := RX0) (T := TX0) (N := 16) (n := 16) hts inX0 (hts (.instantiable RX0 16) (List.mem_of_getElem? (i := 149) (by decide +kernel)))
  obtain ⟨c1, i1, k1⟩ := u_known (C := RX1) (T := TX1) (N := 4) (n := 4) hts inX1 (hts (.instantiable RX1 4) (List.mem_of_getElem? (i := 143) (by decide +kernel)))
  obtain ⟨c2, i2, k2⟩ := u_known (C := RX2) (T := TX2) (N := 9) (n := 9) hts inX2 (hts (.instantiable RX2 9) (List.mem_of_getElem? (i := 155) (by decide +kernel)))
  obtain ⟨c3, i3, k3⟩ := u_known (C := RX3) (T := TX3) (N := 3) (n := 3) hts inX3 (hts (.instantiable RX3 3) (List.mem_of_getElem? (i := 226) (by decide +kernel)))
  obtain ⟨c4, i4, k4⟩ := u_known (C := RX4) (T := TX4) (N := 5) (n := 5) hts inX4 (hts (.instantiable RX4 5) (List.mem_of_getElem? (i := 255) (by decide +kernel)))
  obtain ⟨c5, i5, k5⟩ := u_known (C := RX5) (T := TX5) (N := 16) (n := 16) hts inX5 (hts (.instantiable RX5 16) (List.mem_of_getElem? (i := 365) (by decide +kernel)))
  obtain ⟨c6, i6, k6⟩ := u_known (C := RX6) (T := TX6) (N := 1) (n := 1) hts inX6 (hts (.instantiable RX6 1) (List.mem_of_getElem? (i := 244) (by decide +kernel)))
  obtain ⟨c7, i7, k7⟩ := u_known (C := RX7) (T := TX7) (N := 3) (n := 3) hts inX7 (hts (.instantiable RX7 3) (List.mem_of_getElem? (i := 464) (by decide +kernel)))
  obtain ⟨c8, i8, k8⟩ := u_known (C := RX8) (T := TX8) (N := 3) (n := 3) hts inX8 (hts (.instantiable RX8 3) (List.mem_of_getElem? (i := 204) (by decide +kernel)))
  obtain ⟨c9, i9, k9⟩ := u_known (C := RX9) (T := TX9) (N := 6) (n := 6) hts inX9 (hts (.instantiable RX9 6) (List.mem_of_getElem? (i := 371) (by decide +kernel)))
  obtain ⟨c10, i10, k10⟩ := u_known (C := RX10) (T := TX10) (N := 9) (n := 9) hts inX10 (hts (.instantiable RX10 9) (List.mem_of_getElem? (i := 781) (by decide +kernel)))
  obtain ⟨c11, i11, k11⟩ := u_known (C := RX11) (T := TX11) (N := 11) (n := 11) hts inX11 (hts (.instantiable RX11 11) (List.mem_of_getElem? (i := 135) (by decide +kernel)))
  obtain ⟨c12, i12, k12⟩ := u_known (C := RX12) (T := TX12) (N := 32) (n := 32) hts inX12 (hts (.instantiable RX12 32) (List.mem_of_getElem? (i := 1475) (by decide +kernel)))
  obtain ⟨dC, dI, hKc⟩ : ∃ (dC : Nat → ClassId) (dI : Nat → Nat → Nat), ∀ (k : Nat) (q : vw_C), vwCl[k]? = some q → u_Kn s q.1 q.2.1 q.2.2 (dC k) (dI k) := by
    refine ⟨fun k => [c0, c1, c2, c3, c4, c5, c6, c7, c8, c9, c10, c11, c12].getD k 0, fun k => [i0, i1, i2, i3, i4, i5, i6, i7, i8, i9, i10, i11, i12].getD k (fun _ => 0), ?_⟩
    intro k q hq
    match k, hq with
    | 0, hq => cases hq; exact k0
    | 1, hq => cases hq; exact k1
    | 2, hq => cases hq; exact k2
    | 3, hq => cases hq; exact k3
    | 4, hq => cases hq; exact k4
    | 5, hq => cases hq; exact k5
    | 6, hq => cases hq; exact k6
    | 7, hq => cases hq; exact k7
    | 8, hq => cases hq; exact k8
    | 9, hq => cases hq; exact k9
    | 10, hq => cases hq; exact k10
    | 11, hq => cases hq; exact k11
    | 12, hq => cases hq; exact k12
    | k + 13, hq => simp [vwCl] at hq
  obtain ⟨a0, kA0, cm0, f0, e0, d0⟩ := Cond.arrayClass_spec (args := #[Value.ref b]) (first := s) (o := none) (s := s) (idx := []) (hts (.arrayClass .int) (List.mem_of_getElem? (i := 202) (by decide +kernel)))
  obtain ⟨a1, kA1, cm1, f1, e1, d1⟩ := Cond.arrayClass_spec (args := #[Value.ref b]) (first := s) (o := none) (s := s) (idx := []) (hts (.arrayClass .long) (List.mem_of_getElem? (i := 480) (by decide +kernel)))
  obtain ⟨a2, kA2, cm2, f2, e2, d2⟩ := Cond.arrayClass_spec (args := #[Value.ref b]) (first := s) (o := none) (s := s) (idx := []) (hts (.arrayClass .boolean) (List.mem_of_getElem? (i := 242) (by decide +kernel)))
  obtain ⟨cm3, a3, kA3, f3, -, e3, d3, n3⟩ := Cond.arrayOver_spec (args := #[Value.ref b]) (first := s) (o := none) (s := s) (idx := []) (hts (.arrayOver (.object RX2)) (List.mem_of_getElem? (i := 210) (by decide +kernel)))
  obtain ⟨cm4, a4, kA4, f4, -, e4, d4, n4⟩ := Cond.arrayOver_spec (args := #[Value.ref b]) (first := s) (o := none) (s := s) (idx := []) (hts (.arrayOver (.object RX10)) (List.mem_of_getElem? (i := 224) (by decide +kernel)))
  obtain ⟨t, ht, hT⟩ := va_Tof (args := #[Value.ref b]) (s := s) (tm := .static "MagpieAccounts" "GAME_PARTS" "[I") (ty := .int) (N := 8) (f := fun j => .int (xGp j)) (A := fun q : Nat => s.heap.size ≤ q) (by decide) (hfl _ (xfla (k := 10) (by decide +kernel))) (va_eqt (hfl _ (xfla (k := 11) (by decide +kernel)))) (fun j hj => va_eqt (hfl _ (xflm xflg hj))) hA
  obtain ⟨adK, adV, hS, hev⟩ := vk_Sof (args := #[Value.ref b]) (s := s) (N := 3) (tm := xTm) (len := [150, 11, 96]) (byt := [xBy0, xBy1, xBy2]) (A := fun q : Nat => s.heap.size ≤ q) (by decide)
    (x3 (hfl _ (xfla (k := 46) (by decide +kernel))) (hfl _ (xfla (k := 200) (by decide +kernel))) (hfl _ (xfla (k := 216) (by decide +kernel))))
    (x3 (hfl _ (xfla (k := 47) (by decide +kernel))) (hfl _ (xfla (k := 201) (by decide +kernel))) (hfl _ (xfla (k := 217) (by decide +kernel))))
    (x3 (hfl _ (xfla (k := 48) (by decide +kernel))) (hfl _ (xfla (k := 202) (by decide +kernel))) (hfl _ (xfla (k := 218) (by decide +kernel))))
    (x3 (hfl _ (xfla (k := 49) (by decide +kernel))) (hfl _ (xfla (k := 203) (by decide +kernel))) (hfl _ (xfla (k := 219) (by decide +kernel))))
    (x3 (fun j hj => hfl _ (xflm xfl0 hj)) (fun j hj => hfl _ (xflm xfl1 hj)) (fun j hj => hfl _ (xflm xfl2 hj)))
    (by
      have n01 : (Cond.not (Cond.eq (xTm 0) (xTm 1))).before #[Value.ref b] s = true := hfl _ (xfla (k := 215) (by decide +kernel))
      have n02 : (Cond.not (Cond.eq (xTm 0) (xTm 2))).before #[Value.ref b] s = true := hfl _ (xfla (k := 316) (by decide +kernel))
      have n12 : (Cond.not (Cond.eq (xTm 1) (xTm 2))).before #[Value.ref b] s = true := hfl _ (xfla (k := 317) (by decide +kernel))
      intro i j hi hj hij
      match i, j, hi, hj, hij with
      | 0, 0, _, _, h => exact absurd rfl h
      | 0, 1, _, _, _ => exact Or.inl n01
      | 0, 2, _, _, _ => exact Or.inl n02
      | 1, 0, _, _, _ => exact Or.inr n01
      | 1, 1, _, _, h => exact absurd rfl h
      | 1, 2, _, _, _ => exact Or.inl n12
      | 2, 0, _, _, _ => exact Or.inr n02
      | 2, 1, _, _, _ => exact Or.inr n12
      | 2, 2, _, _, h => exact absurd rfl h
    ) hA
  obtain ⟨tf, F, hF⟩ : ∃ (tf : Nat) (F : Bool), va_Z "jdk/internal/util/Preconditions" "SIOOBE_FORMATTER" "Ljava/util/function/BiFunction;" (match xRoL L xs F 8 with
    | some _ => .ref tf
    | none => .null) (fun q : Nat => s.heap.size ≤ q) s s.heap := by
    rcases va_Zqof (hts (.laysStatic "jdk/internal/util/Preconditions" "SIOOBE_FORMATTER" "Ljava/util/function/BiFunction;") (List.mem_of_getElem? (i := 591) (by decide +kernel))) (hts (.initialized "jdk/internal/util/Preconditions") (List.mem_of_getElem? (i := 126) (by decide +kernel))) (hfl _ (xfla (k := 5) (by decide +kernel))) hA with h | ⟨tf, h⟩
    · exact ⟨0, false, h⟩
    · exact ⟨tf, true, h⟩
  refine ⟨(s.heap.size, (fun i : Nat => if i = 0 then b else if i = 1 then t else if i < 5 then adK (i - 2) else if i < 8 then adV (i - 5) else tf), fun k => [a0, a1, a2, a3, a4].getD k 0, dC, dI), rfl, rfl, F, ⟨hKc, fun k q hk => ?_⟩, fun w hw => ?_, va_AO.of (hts (.arrayOver (.object RX2)) (List.mem_of_getElem? (i := 210) (by decide +kernel))), va_AO.of (hts (.arrayOver (.object RX10)) (List.mem_of_getElem? (i := 224) (by decide +kernel))), fun i n f hi2 hro => ?_, va_Zof (hts (.laysStatic "MagpieAccounts" "GAME_PARTS" "[I") (List.mem_of_getElem? (i := 1400) (by decide +kernel))) (hts (.initialized "MagpieAccounts") (List.mem_of_getElem? (i := 112) (by decide +kernel))) ht hA, ?_⟩
  · match k, hk with
    | 0, hk => cases hk; exact ⟨fun N z => ⟨(fun k h => by cases h), kA0, e0, cm0, d0⟩, f0⟩
    | 1, hk => cases hk; exact ⟨fun N z => ⟨(fun k h => by cases h), kA1, e1, cm1, d1⟩, f1⟩
    | 2, hk => cases hk; exact ⟨fun N z => ⟨(fun k h => by cases h), kA2, e2, cm2, d2⟩, f2⟩
    | 3, hk => cases hk; exact ⟨fun N z => ⟨(fun k h => by cases h), kA3, e3, cm3, d3⟩, kA3, cm3, e3, d3, f3, n3⟩
    | 4, hk => cases hk; exact ⟨fun N z => ⟨(fun k h => by cases h), kA4, e4, cm4, d4⟩, kA4, cm4, e4, d4, f4, n4⟩
    | k + 5, hk => simp [xTys] at hk
  · have h := hts w (List.mem_filter.mp hw).1
    obtain ⟨a, i, y, z, rfl⟩ := xNests_ok hw
    exact va_Nw.of rfl h
  · match i, hro with
    | 0, hro =>
      cases hro
      obtain ⟨scr, h1, h2, h3, h4, h5⟩ := hX
      exact ⟨scr, h1, h2, h3, by omega, by rw [h4]; rfl, h5, hA b hbl⟩
    | 1, hro => cases hro; exact hT
    | i + 2, _ => omega
  · refine ⟨⟨xSt0, vk_R.of (hts (.stringRef RX9 71 xSt0) (List.mem_of_getElem? (i := 573) (by decide +kernel))) (hev 0 (by decide))⟩, ⟨xSt1, vk_R.of (hts (.stringRef RX9 64 xSt1) (List.mem_of_getElem? (i := 632) (by decide +kernel))) (hev 1 (by decide))⟩, ⟨xSt2, vk_R.of (hts (.stringRef RX4 50 xSt2) (List.mem_of_getElem? (i := 1326) (by decide +kernel))) (hev 2 (by decide))⟩, ?_, va_Zof (hts (.laysStatic "java/lang/String" "COMPACT_STRINGS" "Z") (List.mem_of_getElem? (i := 583) (by decide +kernel))) (hts (.initialized "java/lang/String") (List.mem_of_getElem? (i := 124) (by decide +kernel))) (va_eqi (hfl _ (xfla (k := 4) (by decide +kernel)))) hA, hF, va_Nw.of rfl (hts (.castable "[I" "java/lang/Cloneable") (List.mem_of_getElem? (i := 794) (by decide +kernel)))⟩
    obtain ⟨hS1, hS2⟩ := hS
    exact ⟨x3 (hS1 0 (by decide)) (hS1 1 (by decide)) (hS1 2 (by decide)), fun i j hi hj e => hS2 i j hi hj (by
      revert e
      show (if 2 + i = 0 then b else if 2 + i = 1 then t else if 2 + i < 5 then adK (2 + i - 2) else if 2 + i < 8 then adV (2 + i - 5) else tf) = (if 2 + j = 0 then b else if 2 + j = 1 then t else if 2 + j < 5 then adK (2 + j - 2) else if 2 + j < 8 then adV (2 + j - 5) else tf) → _
      rw [if_neg (by omega), if_neg (by omega), if_pos (by omega), if_neg (by omega), if_neg (by omega), if_pos (by omega), show 2 + i - 2 = i by omega, show 2 + j - 2 = j by omega]
      exact id)⟩
/-- what is left of the claim: the small machine's run of the law -/
def xNo : Nat → List Value → xH → xR → Prop := fun _ _ _ _ => False
def xLawRuns : Prop := ∀ (L : Nat) (xs : Nat → Int32) (F : Bool), L ≤ 3072 → ∃ (n : Nat) (h' : xH), xRun (xRoL L xs F) (xEv (xRoL L xs F) xP xNo 690) (some .boolean) kL_law n 0 [(0, .ref 0)] [] (16, 0, fun _ => none) (some (.int 1), h') ∧ h'.1 ≤ 600016 ∧ h'.2.1 ≤ 7302250
theorem xstart (hLaw : xLawRuns) {p : Program} {e : Env} {s : State} {m : MethodId} {below : List Frame} {meth : Method} {c : Code} (l : Launch) {b L : Nat} {xs : Nat → Int32} (hL : L ≤ 3072) (C0 : lw_At p s m meth c b L xs) : W p l e room_1 s m #[Value.ref b] below meth c s.heap [] 0 0 (lw_Z below #[Value.ref b] s) (entryFrame m ([Value.ref b] : List Value).toArray 4) := by
  obtain ⟨g, hg1, hg0, F, hK⟩ := xworld C0
  obtain ⟨hx, hb, hr, hml, hown, hts, hX, hbl, hlocks, hgv⟩ := id C0
  obtain ⟨n, h', hrun, hc1, hc2⟩ := hLaw L xs F hL
  have hts2 : ∀ w ∈ xTb, w.before #[Value.ref b] s = true := fun w hw => hts w (List.mem_filter.mp hw).1
  have hE : ∀ j as h r, xEv (xRoL L xs F) xP xNo 690 j as h r → xLe h r ∧ ∀ M, xP j = some M → xMet l g (xRoL L xs F) 690 M as h r := fun j as h r q => xev_sound (fun j as h r z => absurd z id) xP_ok xP_cw 690 j as h r q
  have hck : ∀ l ∈ kL_law, ∀ q ∈ l, xChk RL "law" cL_law 4 q.1 q.2 = true ∧ xChkC xP RL q.2 = true := by
    intro l hl q hq
    have h1 := ck_law l hl q hq
    simp only [Bool.and_eq_true] at h1
    exact h1
  have hnm : meth.name = meth.name := rfl
  have hl := lv_entry ([.ref b]) (n := 4) (Nat.le_of_ble_eq_true rfl)
  rw [lg_entry_eq]
  have hW0 : xW g (16, 0, fun _ => none) s.heap := ⟨Nat.le_refl _, by rw [hg1], fun i e h => by cases h⟩
  have hlE : lv_has ((lg_sl [Value.ref b] ++ List.replicate (4 - (lg_sl [Value.ref b]).length) Slot.unset).toArray) 4 (xTl g [(0, .ref 0)]) := by
    have : xTl g [(0, Value.ref 0)] = [(0, Value.ref b)] := by
      show [(0, Value.ref (xad g 0))] = _
      unfold xad
      rw [if_pos (by decide), hg0]
    rw [this]
    exact hl
  have X : xCx p s m #[Value.ref b] meth c g (xRoL L xs F) RL "law" cL_law 4 := ⟨hx, hb, hml, hown, hts2, fun h => absurd h (by decide), hK⟩
  refine xrun_gen (R := room_1) X (d := 690) (Nat.le_of_ble_eq_true rfl) (Nat.le_of_ble_eq_true rfl) (K1 := h'.1 - 16) (K2 := h'.2.1) (show h'.1 - 16 ≤ 600000 by omega) (show h'.2.1 ≤ 7302250 by omega) hE hck xP_cw (r := (some (.int 1), h')) ?_ n 0 [(0, .ref 0)] [] (16, 0, fun _ => none) hrun s.heap [] 0 0 _ hW0 hlE va_S.rf ?_ ?_
  · intro pc i st H locs cells slots Ls hd hlen hv hW hS e1 e2
    have hst : i.1 = .ireturn ∧ st = [.int 1] := by
      obtain ⟨op, len, A, B, k, ps⟩ := i
      unfold xRetV at hv
      dsimp only at hv ⊢
      cases op with
      | ireturn =>
        dsimp only at hv
        split at hv
        · split at hv
          · cases hv; exact ⟨rfl, rfl⟩
          · cases hv
        · cases hv
      | lreturn => dsimp only at hv; split at hv <;> cases hv
      | areturn => dsimp only at hv; split at hv <;> cases hv
      | return_ => dsimp only at hv; split at hv <;> cases hv
      | _ => cases hv
    obtain ⟨hi1, hst⟩ := hst
    subst hst
    rw [hi1] at hd hlen
    have hlen1 : i.2.1 = 1 := xbeq hlen
    rw [hlen1] at hd
    refine va_forget (fun q hq => ?_) ?_
    · have := hS.2.2 q hq
      rw [← hg1]
      exact this
    · refine W.widen (k := 600000) (n := 7302250) (by omega) (by omega) ?_
      exact lw_ret hx hb hr hlocks hd
  · have hle : 16 ≤ h'.1 := (xRun_mono (fun j as h r q => (hE j as h r q).1) _ _ _ _ _ _ hrun).1
    show 0 + h'.1 = h'.1 - 16 + 16
    omega
  · show 0 + h'.2.1 = h'.2.1 + 0
    omega
end
section
/-! ===== A heap of a fixed shape: what its objects and arrays hold, as functions ===== -/
/-- the shape: an object's class and the kinds of its fields (0 an int, 1 a long, n + 2 the cell n); an array's kind and length -/
abbrev yK : Type := Nat → Option ((Nat × List Nat) ⊕ (Nat × Nat))
/-- ints of objects, longs of objects, ints of arrays, longs of arrays, references of arrays -/
abbrev yS : Type := (Nat → Nat → Int32) × (Nat → Nat → Int64) × (Nat → Nat → Int32) × (Nat → Nat → Int64) × (Nat → Nat → Option Nat)
def yF (S : yS) (i : Nat) : Nat → List Nat → List Value
  | _, [] => []
  | k, 0 :: r => .int (S.1 i k) :: yF S i (k + 1) r
  | k, 1 :: r => .long (S.2.1 i k) :: yF S i (k + 1) r
  | k, (n + 2) :: r => .ref n :: yF S i (k + 1) r
def yA (S : yS) (i t n : Nat) : vp_A := bif Nat.beq t 1 then (n, .inr (.inl (S.2.2.2.1 i))) else bif Nat.beq t 3 || Nat.beq t 4 then (n, .inr (.inr (.inr (.inr (S.2.2.2.2 i))))) else (n, .inl (S.2.2.1 i))
def yE (K : yK) (S : yS) (i : Nat) : Option va_E := match K i with
  | none => none
  | some (.inl (ci, ks)) => some (.inr (ci, yF S i 0 ks))
  | some (.inr (t, n)) => some (.inl (t, yA S i t n))
def yH (K : yK) (z : Nat × Nat) (S : yS) : xH := (z.1, z.2, yE K S)
def yU {α : Type} (f : Nat → α) (k : Nat) (x : α) : Nat → α := fun j => if j = k then x else f j
def ySi (S : yS) (i k : Nat) (v : Int32) : yS := (yU S.1 i (yU (S.1 i) k v), S.2)
def ySj (S : yS) (i k : Nat) (v : Int64) : yS := (S.1, yU S.2.1 i (yU (S.2.1 i) k v), S.2.2)
def ySa (S : yS) (a : Nat) (f : Nat → Int32) : yS := (S.1, S.2.1, yU S.2.2.1 a f, S.2.2.2)
def ySl (S : yS) (a : Nat) (f : Nat → Int64) : yS := (S.1, S.2.1, S.2.2.1, yU S.2.2.2.1 a f, S.2.2.2.2)
def ySq (S : yS) (a : Nat) (f : Nat → Option Nat) : yS := (S.1, S.2.1, S.2.2.1, S.2.2.2.1, yU S.2.2.2.2 a f)
def yob {α : Type} (K : yK) (a ci : Nat) (k : List Nat → Option α) : Option α := match K a with
  | some (.inl (c, ks)) => bif Nat.beq c ci then k ks else none
  | _ => none
def yar {α : Type} (K : yK) (a t : Nat) (k : Nat → Option α) : Option α := match K a with
  | some (.inr (c, n)) => bif Nat.beq c t then k n else none
  | _ => none
def yarq {α : Type} (K : yK) (a : Nat) (k : Nat → Nat → Option α) : Option α := match K a with
  | some (.inr (c, n)) => bif Nat.beq c 3 || Nat.beq c 4 then k c n else none
  | _ => none
abbrev yT : Type := Nat × xL × List Value × yS
/-- one instruction that calls and makes nothing, over a shape -/
def yStep (ro : xRo) (K : yK) (i : xI) (pc : Nat) (ls : xL) (st : List Value) (S : yS) : Option yT :=
  match i.1 with
  | .aconst_null => some (pc + 1, ls, .null :: st, S)
  | .aload n => (xgt ls n).bind fun v => match v with
    | .ref a => some (pc + 2, ls, .ref a :: st, S)
    | .null => some (pc + 2, ls, .null :: st, S)
    | _ => none
  | .aload_n n => (xgt ls n).bind fun v => match v with
    | .ref a => some (pc + 1, ls, .ref a :: st, S)
    | .null => some (pc + 1, ls, .null :: st, S)
    | _ => none
  | .iload n => (xgt ls n).bind fun v => match v with
    | .int a => some (pc + 2, ls, .int a :: st, S)
    | _ => none
  | .iload_n n => (xgt ls n).bind fun v => match v with
    | .int a => some (pc + 1, ls, .int a :: st, S)
    | _ => none
  | .lload n => (xgt ls n).bind fun v => match v with
    | .long a => some (pc + 2, ls, .long a :: st, S)
    | _ => none
  | .lload_n n => (xgt ls n).bind fun v => match v with
    | .long a => some (pc + 1, ls, .long a :: st, S)
    | _ => none
  | .istore n => xi st fun x r => some (pc + 2, xP1 ls n (.int x), r, S)
  | .istore_n n => xi st fun x r => some (pc + 1, xP1 ls n (.int x), r, S)
  | .lstore n => xl st fun x r => some (pc + 2, xP2 ls n (.long x), r, S)
  | .lstore_n n => xl st fun x r => some (pc + 1, xP2 ls n (.long x), r, S)
  | .astore n => xq st fun x r => some (pc + 2, xP1 ls n (va_rf x), r, S)
  | .astore_n n => xq st fun x r => some (pc + 1, xP1 ls n (va_rf x), r, S)
  | .iinc n k => (xgt ls n).bind fun v => match v with
    | .int x => some (pc + 3, xP1 ls n (.int (x + Int32.ofInt k)), st, S)
    | _ => none
  | .iconst n => some (pc + 1, ls, .int (Int32.ofInt n) :: st, S)
  | .bipush n => some (pc + 2, ls, .int (Int32.ofInt n) :: st, S)
  | .sipush n => some (pc + 3, ls, .int (Int32.ofInt n) :: st, S)
  | .lconst n => some (pc + 1, ls, .long (Int64.ofNat n) :: st, S)
  | .ldc _ => bif Nat.beq i.2.2.1 0 then some (pc + 2, ls, .int (Int32.ofInt i.2.2.2.2.1) :: st, S) else some (pc + 2, ls, .ref i.2.2.2.1 :: st, S)
  | .ldc_w _ => some (pc + 3, ls, .int (Int32.ofInt i.2.2.2.2.1) :: st, S)
  | .ldc2_w _ => some (pc + 3, ls, .long (Int64.ofInt i.2.2.2.2.1) :: st, S)
  | .iadd => xii st fun x y r => some (pc + 1, ls, .int (x + y) :: r, S)
  | .isub => xii st fun x y r => some (pc + 1, ls, .int (x - y) :: r, S)
  | .imul => xii st fun x y r => some (pc + 1, ls, .int (x * y) :: r, S)
  | .iand => xii st fun x y r => some (pc + 1, ls, .int (x &&& y) :: r, S)
  | .ior => xii st fun x y r => some (pc + 1, ls, .int (x ||| y) :: r, S)
  | .ixor => xii st fun x y r => some (pc + 1, ls, .int (x ^^^ y) :: r, S)
  | .ishl => xii st fun x y r => some (pc + 1, ls, .int (x <<< (y &&& 31)) :: r, S)
  | .ishr => xii st fun x y r => some (pc + 1, ls, .int (x >>> (y &&& 31)) :: r, S)
  | .iushr => xii st fun x y r => some (pc + 1, ls, .int (x.toUInt32 >>> (y.toUInt32 &&& Int32.toUInt32 31)).toInt32 :: r, S)
  | .idiv => xii st fun x y r => if y = 0 then none else some (pc + 1, ls, .int (x / y) :: r, S)
  | .irem => xii st fun x y r => if y = 0 then none else some (pc + 1, ls, .int (x - x / y * y) :: r, S)
  | .ineg => xi st fun x r => some (pc + 1, ls, .int (-x) :: r, S)
  | .ladd => xll st fun x y r => some (pc + 1, ls, .long (x + y) :: r, S)
  | .lsub => xll st fun x y r => some (pc + 1, ls, .long (x - y) :: r, S)
  | .lmul => xll st fun x y r => some (pc + 1, ls, .long (x * y) :: r, S)
  | .lor => xll st fun x y r => some (pc + 1, ls, .long (x ||| y) :: r, S)
  | .ldiv => xll st fun x y r => if y = 0 then none else some (pc + 1, ls, .long (x / y) :: r, S)
  | .lrem => xll st fun x y r => if y = 0 then none else some (pc + 1, ls, .long (x - x / y * y) :: r, S)
  | .lneg => xl st fun x r => some (pc + 1, ls, .long (-x) :: r, S)
  | .lshl => xli st fun x y r => some (pc + 1, ls, .long (x <<< (y.toInt64 &&& 63)) :: r, S)
  | .lshr => xli st fun x y r => some (pc + 1, ls, .long (x >>> (y.toInt64 &&& 63)) :: r, S)
  | .lcmp => xll st fun x y r => some (pc + 1, ls, .int (lg_cmp x y) :: r, S)
  | .i2l => xi st fun x r => some (pc + 1, ls, .long x.toInt64 :: r, S)
  | .l2i => xl st fun x r => some (pc + 1, ls, .int x.toInt32 :: r, S)
  | .i2c => xi st fun x r => some (pc + 1, ls, .int (x.toUInt32 % 65536).toInt32 :: r, S)
  | .i2b => xi st fun x r => some (pc + 1, ls, .int x.toInt8.toInt32 :: r, S)
  | .dup => match st with
    | .int x :: r => some (pc + 1, ls, .int x :: .int x :: r, S)
    | .ref x :: r => some (pc + 1, ls, .ref x :: .ref x :: r, S)
    | _ => none
  | .dup2 => match st with
    | .int x :: .ref y :: r => some (pc + 1, ls, .int x :: .ref y :: .int x :: .ref y :: r, S)
    | _ => none
  | .pop => match st with
    | .int _ :: r => some (pc + 1, ls, r, S)
    | .ref _ :: r => some (pc + 1, ls, r, S)
    | _ => none
  | .goto off => some (xTgt pc off, ls, st, S)
  | .ifCond c off => xi st fun x r => match c with
    | .eq => some (if x = 0 then xTgt pc off else pc + 3, ls, r, S)
    | .ne => some (if ¬ x = 0 then xTgt pc off else pc + 3, ls, r, S)
    | .lt => some (if x < 0 then xTgt pc off else pc + 3, ls, r, S)
    | .ge => some (if 0 ≤ x then xTgt pc off else pc + 3, ls, r, S)
    | .gt => some (if 0 < x then xTgt pc off else pc + 3, ls, r, S)
    | .le => some (if x ≤ 0 then xTgt pc off else pc + 3, ls, r, S)
  | .if_icmp c off => xii st fun x y r => match c with
    | .eq => some (if x = y then xTgt pc off else pc + 3, ls, r, S)
    | .ne => some (if ¬ x = y then xTgt pc off else pc + 3, ls, r, S)
    | .lt => some (if x < y then xTgt pc off else pc + 3, ls, r, S)
    | .ge => some (if y ≤ x then xTgt pc off else pc + 3, ls, r, S)
    | .gt => some (if y < x then xTgt pc off else pc + 3, ls, r, S)
    | .le => some (if x ≤ y then xTgt pc off else pc + 3, ls, r, S)
  | .ifnull off => xq st fun a r => match a with
    | some _ => some (pc + 3, ls, r, S)
    | none => some (xTgt pc off, ls, r, S)
  | .ifnonnull off => xq st fun a r => match a with
    | some _ => some (xTgt pc off, ls, r, S)
    | none => some (pc + 3, ls, r, S)
  | .tableswitch d lo hi offs => xi st fun x r =>
    if x.toInt < lo ∨ hi < x.toInt then some (xTgt pc d, ls, r, S) else (offs[(x.toInt - lo).toNat]?).bind fun off => some (xTgt pc off, ls, r, S)
  | .lookupswitch d ps => xi st fun x r => some (xTgt pc (Op.lookupswitch.offset ps.toList d x.toInt), ls, r, S)
  | .getstatic _ => bif i.2.2.2.2.1 == 1 then some (pc + 3, ls, .int 1 :: st, S)
    else bif i.2.2.2.2.1 == 2 then match ro 8 with
      | some _ => some (pc + 3, ls, .ref 8 :: st, S)
      | none => some (pc + 3, ls, .null :: st, S)
    else some (pc + 3, ls, .ref i.2.2.2.1 :: st, S)
  | .invokespecial _ => bif i.2.2.2.2.1 == 8 then xa st fun _ r => if 8 < (r.map fun v => v.category).sum then none else some (pc + 3, ls, r, S) else none
  | .getfield _ => bif i.2.2.2.2.1 == 5 then xa st fun a r => bif Nat.ble 2 a && Nat.ble a 4 then some (pc + 3, ls, .ref (a + 3) :: r, S) else none
    else bif i.2.2.2.2.1 == 6 then xa st fun a r => bif Nat.ble 2 a && Nat.ble a 4 then some (pc + 3, ls, .int 0 :: r, S) else none
    else xa st fun a r => yob K a i.2.2.1 fun ks => match ks[i.2.2.2.1]? with
    | some 0 => some (pc + 3, ls, .int (S.1 a i.2.2.2.1) :: r, S)
    | some 1 => some (pc + 3, ls, .long (S.2.1 a i.2.2.2.1) :: r, S)
    | some (n + 2) => some (pc + 3, ls, .ref n :: r, S)
    | none => none
  | .putfield _ => match st with
    | .int v :: .ref a :: r => yob K a i.2.2.1 fun ks => match ks[i.2.2.2.1]? with
      | some 0 => bif xfit i.2.2.2.2.1 (.int v) then some (pc + 3, ls, r, ySi S a i.2.2.2.1 v) else none
      | _ => none
    | .long v :: .ref a :: r => yob K a i.2.2.1 fun ks => match ks[i.2.2.2.1]? with
      | some 1 => bif i.2.2.2.2.1 == 1 then some (pc + 3, ls, r, ySj S a i.2.2.2.1 v) else none
      | _ => none
    | _ => none
  | .checkcast _ => xa st fun a r => yar K a 0 fun _ => some (pc + 3, ls, .ref a :: r, S)
  | .iaload => xai st fun a k r => bif Nat.blt a 2 then (ro a).bind fun q => xin k q.1 fun j => some (pc + 1, ls, .int (q.2 j) :: r, S)
      else yar K a 0 fun n => xin k n fun j => some (pc + 1, ls, .int (S.2.2.1 a j) :: r, S)
  | .baload => xai st fun a k r => bif Nat.blt a 16 then (xStB a).bind fun q => xin k q.1 fun j => some (pc + 1, ls, .int (q.2 j) :: r, S)
      else yar K a 2 fun n => xin k n fun j => some (pc + 1, ls, .int (S.2.2.1 a j) :: r, S)
  | .laload => xai st fun a k r => yar K a 1 fun n => xin k n fun j => some (pc + 1, ls, .long (S.2.2.2.1 a j) :: r, S)
  | .aaload => xai st fun a k r => yarq K a fun _ n => xin k n fun j => some (pc + 1, ls, va_rf (S.2.2.2.2 a j) :: r, S)
  | .iastore => xi st fun x r => xai r fun a k r => yar K a 0 fun n => xin k n fun j => some (pc + 1, ls, r, ySa S a (upd (S.2.2.1 a) j x))
  | .bastore => xi st fun x r => xai r fun a k r => yar K a 2 fun n => xin k n fun j => if x = 0 ∨ x = 1 then some (pc + 1, ls, r, ySa S a (upd (S.2.2.1 a) j x)) else none
  | .lastore => xl st fun x r => xai r fun a k r => yar K a 1 fun n => xin k n fun j => some (pc + 1, ls, r, ySl S a (vp_updL (S.2.2.2.1 a) j x))
  | .aastore => xq st fun v r => xai r fun a k r => yarq K a fun t n => xin k n fun j => match v with
    | none => some (pc + 1, ls, r, ySq S a (va_up (S.2.2.2.2 a) j none))
    | some o => yob K o (xEl t) fun _ => some (pc + 1, ls, r, ySq S a (va_up (S.2.2.2.2 a) j (some o)))
  | .arraylength => xa st fun a r => bif Nat.blt a 16 then (xLn ro a).bind fun n => some (pc + 1, ls, .int (Int32.ofNat n) :: r, S)
      else match K a with
        | some (.inr (t, n)) => bif Nat.blt t 5 then some (pc + 1, ls, .int (Int32.ofNat n) :: r, S) else none
        | _ => none
  | .invokestatic _ => bif i.2.2.2.2.1 == 9 then match st with
      | .int n :: .int dp :: .ref a :: .int sp :: .ref a0 :: r => yar K a0 0 fun n0 => yar K a 0 fun n1 =>
          if sp < 0 ∨ dp < 0 ∨ n < 0 ∨ n0 < sp.toNatClampNeg + n.toNatClampNeg ∨ n1 < dp.toNatClampNeg + n.toNatClampNeg ∨ 8 < (r.map fun v => v.category).sum then none
          else some (pc + 3, ls, r, ySa S a (va_cpy (S.2.2.1 a0) (S.2.2.1 a) sp.toNatClampNeg dp.toNatClampNeg n.toNatClampNeg))
      | _ => none
    else bif i.2.2.2.2.1 == 10 then xii st fun x y r => if 8 < (r.map fun v => v.category).sum then none else some (pc + 3, ls, .int (if x < y then y else x) :: r, S)
    else bif i.2.2.2.2.1 == 11 then xii st fun x y r => if 8 < (r.map fun v => v.category).sum then none else some (pc + 3, ls, .int (if y < x then y else x) :: r, S)
    else bif i.2.2.2.2.1 == 12 then xll st fun x y r => if 8 < (r.map fun v => v.category).sum then none else some (pc + 3, ls, .long (if y < x then x else y) :: r, S)
    else bif i.2.2.2.2.1 == 13 then xll st fun x y r => if 8 < (r.map fun v => v.category).sum then none else some (pc + 3, ls, .long (if y < x then y else x) :: r, S)
    else none
  | _ => none
theorem yU_ne {α : Type} {f : Nat → α} {k j : Nat} {x : α} (h : j ≠ k) : yU f k x j = f j := if_neg h
theorem yU_eq {α : Type} {f : Nat → α} {k : Nat} {x : α} : yU f k x k = x := if_pos rfl
theorem yob_inv {α : Type} {K : yK} {a ci : Nat} {k : List Nat → Option α} {s : α} (hh : yob K a ci k = some s) : ∃ ks, K a = some (.inl (ci, ks)) ∧ k ks = some s := by
  unfold yob at hh
  split at hh
  · rename_i c fs he
    cases hc : Nat.beq c ci with
    | true => rw [hc] at hh; exact ⟨fs, by rw [he, xbeq hc], hh⟩
    | false => rw [hc] at hh; cases hh
  · cases hh
theorem yar_inv {α : Type} {K : yK} {a t : Nat} {k : Nat → Option α} {s : α} (hh : yar K a t k = some s) : ∃ n, K a = some (.inr (t, n)) ∧ k n = some s := by
  unfold yar at hh
  split at hh
  · rename_i c n he
    cases hc : Nat.beq c t with
    | true => rw [hc] at hh; exact ⟨n, by rw [he, xbeq hc], hh⟩
    | false => rw [hc] at hh; cases hh
  · cases hh
theorem yarq_inv {α : Type} {K : yK} {a : Nat} {k : Nat → Nat → Option α} {s : α} (hh : yarq K a k = some s) : ∃ t n, (t = 3 ∨ t = 4) ∧ K a = some (.inr (t, n)) ∧ k t n = some s := by
  unfold yarq at hh
  split at hh
  · rename_i c n he
    cases hc : (Nat.beq c 3 || Nat.beq c 4) with
    | true =>
      rw [hc] at hh
      refine ⟨c, n, ?_, he, hh⟩
      rcases Bool.or_eq_true_iff.mp hc with h1 | h1
      · exact Or.inl (xbeq h1)
      · exact Or.inr (xbeq h1)
    | false => rw [hc] at hh; cases hh
  · cases hh
theorem yF_len (S : yS) (i : Nat) : ∀ (ks : List Nat) (k : Nat), (yF S i k ks).length = ks.length
  | [], _ => rfl
  | 0 :: r, k => by show (yF S i (k + 1) r).length + 1 = r.length + 1; rw [yF_len S i r]
  | 1 :: r, k => by show (yF S i (k + 1) r).length + 1 = r.length + 1; rw [yF_len S i r]
  | (n + 2) :: r, k => by show (yF S i (k + 1) r).length + 1 = r.length + 1; rw [yF_len S i r]
def yV (S : yS) (i k : Nat) : Nat → Value
  | 0 => .int (S.1 i k)
  | 1 => .long (S.2.1 i k)
  | n + 2 => .ref n
theorem yF_get (S : yS) (i : Nat) : ∀ (ks : List Nat) (k j : Nat), (yF S i k ks)[j]? = (ks[j]?).map (yV S i (k + j))
  | [], _, _ => by simp [yF]
  | 0 :: r, k, 0 => rfl
  | 1 :: r, k, 0 => rfl
  | (n + 2) :: r, k, 0 => rfl
  | 0 :: r, k, j + 1 => by show (yF S i (k + 1) r)[j]? = _; rw [yF_get S i r, show k + 1 + j = k + (j + 1) by omega]; rfl
  | 1 :: r, k, j + 1 => by show (yF S i (k + 1) r)[j]? = _; rw [yF_get S i r, show k + 1 + j = k + (j + 1) by omega]; rfl
  | (n + 2) :: r, k, j + 1 => by show (yF S i (k + 1) r)[j]? = _; rw [yF_get S i r, show k + 1 + j = k + (j + 1) by omega]; rfl
theorem yH_ext {z : Nat × Nat} {h : xH} {K : yK} {S : yS} (h1 : h.1 = z.1) (h2 : h.2.1 = z.2) (h3 : ∀ j, h.2.2 j = yE K S j) : h = yH K z S := by
  obtain ⟨a, b, f⟩ := h
  obtain ⟨c, d⟩ := z
  dsimp only at h1 h2 h3
  subst h1; subst h2
  show (a, b, f) = (a, b, yE K S)
  rw [show f = yE K S from funext h3]
theorem yE_other {K : yK} {S S' : yS} {j : Nat} (h1 : S'.1 j = S.1 j) (h2 : S'.2.1 j = S.2.1 j) (h3 : S'.2.2.1 j = S.2.2.1 j) (h4 : S'.2.2.2.1 j = S.2.2.2.1 j) (h5 : S'.2.2.2.2 j = S.2.2.2.2 j) : yE K S' j = yE K S j := by
  have hF : ∀ (ks : List Nat) (k : Nat), yF S' j k ks = yF S j k ks := by
    intro ks k
    apply List.ext_getElem?
    intro q
    rw [yF_get, yF_get]
    cases hq : ks[q]? with
    | none => rfl
    | some v =>
      show some (yV S' j (k + q) v) = some (yV S j (k + q) v)
      match v with
      | 0 => simp only [yV, h1]
      | 1 => simp only [yV, h2]
      | n + 2 => rfl
  unfold yE yA
  rw [h3, h4, h5]
  simp only [hF]
theorem yUp_i {K : yK} {z : Nat × Nat} {S : yS} {a ci k : Nat} {ks : List Nat} {v : Int32} (hk : K a = some (.inl (ci, ks))) (hks : ks[k]? = some 0) : xUp (yH K z S) a (.inr (ci, (yF S a 0 ks).set k (.int v))) = yH K z (ySi S a k v) := by
  refine yH_ext rfl rfl fun j => ?_
  show (if j = a then _ else yE K S j) = _
  by_cases hj : j = a
  · subst hj
    rw [if_pos rfl]
    unfold yE
    rw [hk]
    congr 3
    apply List.ext_getElem?
    intro q
    rw [yF_get, List.getElem?_set, yF_get, yF_len]
    have hlt : k < ks.length := (List.getElem?_eq_some_iff.mp hks).1
    by_cases hq : k = q
    · subst hq
      rw [if_pos rfl, if_pos hlt, hks]
      show some (Value.int v) = some (Value.int ((ySi S j k v).1 j (0 + k)))
      simp [ySi, yU]
    · rw [if_neg hq]
      cases hx : ks[q]? with
      | none => rfl
      | some w =>
        match w with
        | 0 =>
          show some (Value.int (S.1 j (0 + q))) = some (Value.int ((ySi S j k v).1 j (0 + q)))
          simp [ySi, yU, Ne.symm hq]
        | 1 => rfl
        | n + 2 => rfl
  · rw [if_neg hj]
    exact (yE_other (S := S) (S' := ySi S a k v) (yU_ne hj) rfl rfl rfl rfl).symm
theorem yUp_j {K : yK} {z : Nat × Nat} {S : yS} {a ci k : Nat} {ks : List Nat} {v : Int64} (hk : K a = some (.inl (ci, ks))) (hks : ks[k]? = some 1) : xUp (yH K z S) a (.inr (ci, (yF S a 0 ks).set k (.long v))) = yH K z (ySj S a k v) := by
  refine yH_ext rfl rfl fun j => ?_
  show (if j = a then _ else yE K S j) = _
  by_cases hj : j = a
  · subst hj
    rw [if_pos rfl]
    unfold yE
    rw [hk]
    congr 3
    apply List.ext_getElem?
    intro q
    rw [yF_get, List.getElem?_set, yF_get, yF_len]
    have hlt : k < ks.length := (List.getElem?_eq_some_iff.mp hks).1
    by_cases hq : k = q
    · subst hq
      rw [if_pos rfl, if_pos hlt, hks]
      show some (Value.long v) = some (Value.long ((ySj S j k v).2.1 j (0 + k)))
      simp [ySj, yU]
    · rw [if_neg hq]
      cases hx : ks[q]? with
      | none => rfl
      | some w =>
        match w with
        | 0 => rfl
        | 1 =>
          show some (Value.long (S.2.1 j (0 + q))) = some (Value.long ((ySj S j k v).2.1 j (0 + q)))
          simp [ySj, yU, Ne.symm hq]
        | n + 2 => rfl
  · rw [if_neg hj]
    exact (yE_other (S := S) (S' := ySj S a k v) rfl (yU_ne hj) rfl rfl rfl).symm
theorem yUp_a {K : yK} {z : Nat × Nat} {S : yS} {a t n : Nat} {f : Nat → Int32} (ht : t = 0 ∨ t = 2) (hk : K a = some (.inr (t, n))) : xUp (yH K z S) a (.inl (t, n, .inl f)) = yH K z (ySa S a f) := by
  refine yH_ext rfl rfl fun j => ?_
  show (if j = a then _ else yE K S j) = _
  by_cases hj : j = a
  · subst hj
    rw [if_pos rfl]
    unfold yE
    rw [hk]
    have hf : (ySa S j f).2.2.1 j = f := yU_eq
    rcases ht with rfl | rfl
    · show _ = some (Sum.inl (0, n, Sum.inl ((ySa S j f).2.2.1 j)))
      rw [hf]
    · show _ = some (Sum.inl (2, n, Sum.inl ((ySa S j f).2.2.1 j)))
      rw [hf]
  · rw [if_neg hj]
    exact (yE_other (S := S) (S' := ySa S a f) rfl rfl (yU_ne hj) rfl rfl).symm
theorem yUp_l {K : yK} {z : Nat × Nat} {S : yS} {a n : Nat} {f : Nat → Int64} (hk : K a = some (.inr (1, n))) : xUp (yH K z S) a (.inl (1, n, .inr (.inl f))) = yH K z (ySl S a f) := by
  refine yH_ext rfl rfl fun j => ?_
  show (if j = a then _ else yE K S j) = _
  by_cases hj : j = a
  · subst hj
    rw [if_pos rfl]
    unfold yE
    rw [hk]
    have hf : (ySl S j f).2.2.2.1 j = f := yU_eq
    show _ = some (Sum.inl (1, n, Sum.inr (Sum.inl ((ySl S j f).2.2.2.1 j))))
    rw [hf]
  · rw [if_neg hj]
    exact (yE_other (S := S) (S' := ySl S a f) rfl rfl rfl (yU_ne hj) rfl).symm
theorem yUp_q {K : yK} {z : Nat × Nat} {S : yS} {a t n : Nat} {f : Nat → Option Nat} (ht : t = 3 ∨ t = 4) (hk : K a = some (.inr (t, n))) : xUp (yH K z S) a (.inl (t, n, .inr (.inr (.inr (.inr f))))) = yH K z (ySq S a f) := by
  refine yH_ext rfl rfl fun j => ?_
  show (if j = a then _ else yE K S j) = _
  by_cases hj : j = a
  · subst hj
    rw [if_pos rfl]
    unfold yE
    rw [hk]
    have hf : (ySq S j f).2.2.2.2 j = f := yU_eq
    rcases ht with rfl | rfl
    · show _ = some (Sum.inl (3, n, Sum.inr (Sum.inr (Sum.inr (Sum.inr ((ySq S j f).2.2.2.2 j))))))
      rw [hf]
    · show _ = some (Sum.inl (4, n, Sum.inr (Sum.inr (Sum.inr (Sum.inr ((ySq S j f).2.2.2.2 j))))))
      rw [hf]
  · rw [if_neg hj]
    exact (yE_other (S := S) (S' := ySq S a f) rfl rfl rfl rfl (yU_ne hj)).symm
theorem yE_o {K : yK} {S : yS} {a ci : Nat} {ks : List Nat} (hk : K a = some (.inl (ci, ks))) : yE K S a = some (.inr (ci, yF S a 0 ks)) := by unfold yE; rw [hk]
theorem yE_i {K : yK} {S : yS} {a t n : Nat} (ht : t = 0 ∨ t = 2) (hk : K a = some (.inr (t, n))) : yE K S a = some (.inl (t, n, .inl (S.2.2.1 a))) := by unfold yE; rw [hk]; rcases ht with rfl | rfl <;> rfl
theorem yE_l {K : yK} {S : yS} {a n : Nat} (hk : K a = some (.inr (1, n))) : yE K S a = some (.inl (1, n, .inr (.inl (S.2.2.2.1 a)))) := by unfold yE; rw [hk]; rfl
theorem yE_q {K : yK} {S : yS} {a t n : Nat} (ht : t = 3 ∨ t = 4) (hk : K a = some (.inr (t, n))) : yE K S a = some (.inl (t, n, .inr (.inr (.inr (.inr (S.2.2.2.2 a)))))) := by unfold yE; rw [hk]; rcases ht with rfl | rfl <;> rfl
theorem xob_of {α : Type} {h : xH} {a ci : Nat} {k : List Value → Option α} {fs : List Value} (hh : h.2.2 a = some (.inr (ci, fs))) : xob h a ci k = k fs := by
  unfold xob; rw [hh]; show (bif Nat.beq ci ci then k fs else none) = k fs; rw [Nat.beq_refl]; rfl
theorem xar_of {α : Type} {h : xH} {a t n : Nat} {f : Nat → Int32} {k : Nat → (Nat → Int32) → Option α} (hh : h.2.2 a = some (.inl (t, n, .inl f))) : xar h a t k = k n f := by
  unfold xar; rw [hh]; show (bif Nat.beq t t then k n f else none) = k n f; rw [Nat.beq_refl]; rfl
theorem xarl_of {α : Type} {h : xH} {a n : Nat} {f : Nat → Int64} {k : Nat → (Nat → Int64) → Option α} (hh : h.2.2 a = some (.inl (1, n, .inr (.inl f)))) : xarl h a k = k n f := by
  unfold xarl; rw [hh]; rfl
theorem xarq_of {α : Type} {h : xH} {a t n : Nat} {f : Nat → Option Nat} {k : Nat → Nat → (Nat → Option Nat) → Option α} (ht : t = 3 ∨ t = 4) (hh : h.2.2 a = some (.inl (t, n, .inr (.inr (.inr (.inr f)))))) : xarq h a k = k t n f := by
  unfold xarq; rw [hh]; rcases ht with rfl | rfl <;> rfl
theorem xin_of {α : Type} {i : Int32} {n : Nat} {k : Nat → Option α} (h : vp_in i n) : xin i n k = k i.toNatClampNeg := by
  unfold xin; rw [if_neg h]
end
section
/-! ===== a step over a shape is a step over the heap that it says ===== -/
section YS
variable {ro : xRo} {K : yK} {z : Nat × Nat} {pc : Nat} {ls : xL} {st : List Value} {S : yS}
set_option maxHeartbeats 8000000 in
theorem yStep_x {i : xI} {pc' : Nat} {ls' : xL} {st' : List Value} {S' : yS} (hs : yStep ro K i pc ls st S = some (pc', ls', st', S')) : xStep ro i pc ls st (yH K z S) = some (pc', ls', st', yH K z S') := by
  obtain ⟨op, len, A, B, k, ps⟩ := i
  unfold yStep at hs
  unfold xStep
  dsimp only at hs ⊢
  cases op with
  | iadd =>
    dsimp only at hs ⊢
    obtain ⟨x, y, r, rfl, he⟩ := xii_inv hs
    cases he
    rfl
  | isub =>
    dsimp only at hs ⊢
    obtain ⟨x, y, r, rfl, he⟩ := xii_inv hs
    cases he
    rfl
  | imul =>
    dsimp only at hs ⊢
    obtain ⟨x, y, r, rfl, he⟩ := xii_inv hs
    cases he
    rfl
  | iand =>
    dsimp only at hs ⊢
    obtain ⟨x, y, r, rfl, he⟩ := xii_inv hs
    cases he
    rfl
  | ior =>
    dsimp only at hs ⊢
    obtain ⟨x, y, r, rfl, he⟩ := xii_inv hs
    cases he
    rfl
  | ixor =>
    dsimp only at hs ⊢
    obtain ⟨x, y, r, rfl, he⟩ := xii_inv hs
    cases he
    rfl
  | ishl =>
    dsimp only at hs ⊢
    obtain ⟨x, y, r, rfl, he⟩ := xii_inv hs
    cases he
    rfl
  | ishr =>
    dsimp only at hs ⊢
    obtain ⟨x, y, r, rfl, he⟩ := xii_inv hs
    cases he
    rfl
  | iushr =>
    dsimp only at hs ⊢
    obtain ⟨x, y, r, rfl, he⟩ := xii_inv hs
    cases he
    rfl
  | idiv =>
    dsimp only at hs ⊢
    obtain ⟨x, y, r, rfl, he⟩ := xii_inv hs
    split at he
    · cases he
    · rename_i hy
      cases he
      show (if y = 0 then none else _) = _
      rw [if_neg hy]
  | irem =>
    dsimp only at hs ⊢
    obtain ⟨x, y, r, rfl, he⟩ := xii_inv hs
    split at he
    · cases he
    · rename_i hy
      cases he
      show (if y = 0 then none else _) = _
      rw [if_neg hy]
  | ldiv =>
    dsimp only at hs ⊢
    obtain ⟨x, y, r, rfl, he⟩ := xll_inv hs
    split at he
    · cases he
    · rename_i hy
      cases he
      show (if y = 0 then none else _) = _
      rw [if_neg hy]
  | lrem =>
    dsimp only at hs ⊢
    obtain ⟨x, y, r, rfl, he⟩ := xll_inv hs
    split at he
    · cases he
    · rename_i hy
      cases he
      show (if y = 0 then none else _) = _
      rw [if_neg hy]
  | ladd =>
    dsimp only at hs ⊢
    obtain ⟨x, y, r, rfl, he⟩ := xll_inv hs
    cases he
    rfl
  | lsub =>
    dsimp only at hs ⊢
    obtain ⟨x, y, r, rfl, he⟩ := xll_inv hs
    cases he
    rfl
  | lmul =>
    dsimp only at hs ⊢
    obtain ⟨x, y, r, rfl, he⟩ := xll_inv hs
    cases he
    rfl
  | lor =>
    dsimp only at hs ⊢
    obtain ⟨x, y, r, rfl, he⟩ := xll_inv hs
    cases he
    rfl
  | lcmp =>
    dsimp only at hs ⊢
    obtain ⟨x, y, r, rfl, he⟩ := xll_inv hs
    cases he
    rfl
  | ineg =>
    dsimp only at hs ⊢
    obtain ⟨x, r, rfl, he⟩ := xi_inv hs
    cases he
    rfl
  | i2l =>
    dsimp only at hs ⊢
    obtain ⟨x, r, rfl, he⟩ := xi_inv hs
    cases he
    rfl
  | i2c =>
    dsimp only at hs ⊢
    obtain ⟨x, r, rfl, he⟩ := xi_inv hs
    cases he
    rfl
  | i2b =>
    dsimp only at hs ⊢
    obtain ⟨x, r, rfl, he⟩ := xi_inv hs
    cases he
    rfl
  | lneg =>
    dsimp only at hs ⊢
    obtain ⟨x, r, rfl, he⟩ := xl_inv hs
    cases he
    rfl
  | l2i =>
    dsimp only at hs ⊢
    obtain ⟨x, r, rfl, he⟩ := xl_inv hs
    cases he
    rfl
  | lshl =>
    dsimp only at hs ⊢
    obtain ⟨x, y, r, rfl, he⟩ := xli_inv hs
    cases he
    rfl
  | lshr =>
    dsimp only at hs ⊢
    obtain ⟨x, y, r, rfl, he⟩ := xli_inv hs
    cases he
    rfl
  | aconst_null => cases hs; rfl
  | iconst n => cases hs; rfl
  | bipush n => cases hs; rfl
  | sipush n => cases hs; rfl
  | lconst n => cases hs; rfl
  | ldc_w idx => cases hs; rfl
  | ldc2_w idx => cases hs; rfl
  | goto off => cases hs; rfl
  | ldc idx =>
    dsimp only at hs ⊢
    cases hA : Nat.beq A 0 with
    | true => rw [hA] at hs; cases hs; rfl
    | false => rw [hA] at hs; cases hs; rfl
  | iload n =>
    dsimp only at hs ⊢
    obtain ⟨v, hv, he⟩ := Option.bind_eq_some_iff.mp hs
    rw [hv]
    cases v with
    | int x => cases he; rfl
    | _ => cases he
  | iload_n n =>
    dsimp only at hs ⊢
    obtain ⟨v, hv, he⟩ := Option.bind_eq_some_iff.mp hs
    rw [hv]
    cases v with
    | int x => cases he; rfl
    | _ => cases he
  | lload n =>
    dsimp only at hs ⊢
    obtain ⟨v, hv, he⟩ := Option.bind_eq_some_iff.mp hs
    rw [hv]
    cases v with
    | long x => cases he; rfl
    | _ => cases he
  | lload_n n =>
    dsimp only at hs ⊢
    obtain ⟨v, hv, he⟩ := Option.bind_eq_some_iff.mp hs
    rw [hv]
    cases v with
    | long x => cases he; rfl
    | _ => cases he
  | aload n =>
    dsimp only at hs ⊢
    obtain ⟨v, hv, he⟩ := Option.bind_eq_some_iff.mp hs
    rw [hv]
    cases v with
    | ref x => cases he; rfl
    | null => cases he; rfl
    | _ => cases he
  | aload_n n =>
    dsimp only at hs ⊢
    obtain ⟨v, hv, he⟩ := Option.bind_eq_some_iff.mp hs
    rw [hv]
    cases v with
    | ref x => cases he; rfl
    | null => cases he; rfl
    | _ => cases he
  | istore n =>
    dsimp only at hs ⊢
    obtain ⟨x, r, rfl, he⟩ := xi_inv hs
    cases he
    rfl
  | istore_n n =>
    dsimp only at hs ⊢
    obtain ⟨x, r, rfl, he⟩ := xi_inv hs
    cases he
    rfl
  | lstore n =>
    dsimp only at hs ⊢
    obtain ⟨x, r, rfl, he⟩ := xl_inv hs
    cases he
    rfl
  | lstore_n n =>
    dsimp only at hs ⊢
    obtain ⟨x, r, rfl, he⟩ := xl_inv hs
    cases he
    rfl
  | astore n =>
    dsimp only at hs ⊢
    obtain ⟨x, r, rfl, he⟩ := xq_inv hs
    cases he
    cases x <;> rfl
  | astore_n n =>
    dsimp only at hs ⊢
    obtain ⟨x, r, rfl, he⟩ := xq_inv hs
    cases he
    cases x <;> rfl
  | iinc n q =>
    dsimp only at hs ⊢
    obtain ⟨v, hv, he⟩ := Option.bind_eq_some_iff.mp hs
    rw [hv]
    cases v with
    | int x => cases he; rfl
    | _ => cases he
  | dup =>
    dsimp only at hs ⊢
    split at hs
    · cases hs; rfl
    · cases hs; rfl
    · cases hs
  | dup2 =>
    dsimp only at hs ⊢
    split at hs
    · cases hs; rfl
    · cases hs
  | pop =>
    dsimp only at hs ⊢
    split at hs
    · cases hs; rfl
    · cases hs; rfl
    · cases hs
  | ifCond cd off =>
    dsimp only at hs ⊢
    obtain ⟨x, r, rfl, he⟩ := xi_inv hs
    cases cd <;> (cases he; rfl)
  | if_icmp cd off =>
    dsimp only at hs ⊢
    obtain ⟨x, y, r, rfl, he⟩ := xii_inv hs
    cases cd <;> (cases he; rfl)
  | ifnull off =>
    dsimp only at hs ⊢
    obtain ⟨x, r, rfl, he⟩ := xq_inv hs
    cases x <;> (cases he; rfl)
  | ifnonnull off =>
    dsimp only at hs ⊢
    obtain ⟨x, r, rfl, he⟩ := xq_inv hs
    cases x <;> (cases he; rfl)
  | tableswitch d lo hi offs =>
    dsimp only at hs ⊢
    obtain ⟨x, r, rfl, he⟩ := xi_inv hs
    show (if _ then _ else _) = _
    split at he
    · rename_i hr; cases he; rw [if_pos hr]
    · rename_i hr
      obtain ⟨off, ho, he⟩ := Option.bind_eq_some_iff.mp he
      cases he
      rw [if_neg hr, ho]; rfl
  | lookupswitch d prs =>
    dsimp only at hs ⊢
    obtain ⟨x, r, rfl, he⟩ := xi_inv hs
    cases he
    rfl
  | getstatic idx =>
    dsimp only at hs ⊢
    cases hk1 : (k == 1) with
    | true => rw [hk1] at hs; cases hs; rfl
    | false =>
      rw [hk1] at hs
      dsimp only [cond_false] at hs ⊢
      cases hk2 : (k == 2) with
      | true =>
        rw [hk2] at hs
        dsimp only [cond_true] at hs ⊢
        cases hq : ro 8 with
        | some q => rw [hq] at hs; cases hs; rfl
        | none => rw [hq] at hs; cases hs; rfl
      | false => rw [hk2] at hs; cases hs; rfl
  | checkcast idx =>
    dsimp only at hs ⊢
    obtain ⟨a, r, rfl, he⟩ := xa_inv hs
    obtain ⟨n, hk, he⟩ := yar_inv he
    cases he
    show xar (yH K z S) a 0 _ = _
    rw [xar_of (yE_i (Or.inl rfl) hk)]
  | getfield idx =>
    dsimp only at hs ⊢
    cases hk5 : (k == 5) with
    | true =>
      rw [hk5] at hs
      dsimp only [cond_true] at hs ⊢
      obtain ⟨a, r, rfl, he⟩ := xa_inv hs
      cases hA : (Nat.ble 2 a && Nat.ble a 4) with
      | true =>
        rw [hA] at he
        cases he
        show (bif (Nat.ble 2 a && Nat.ble a 4) then _ else _) = _
        rw [hA]
        rfl
      | false => rw [hA] at he; cases he
    | false =>
      rw [hk5] at hs
      dsimp only [cond_false] at hs ⊢
      cases hk6 : (k == 6) with
      | true =>
        rw [hk6] at hs
        dsimp only [cond_true] at hs ⊢
        obtain ⟨a, r, rfl, he⟩ := xa_inv hs
        cases hA : (Nat.ble 2 a && Nat.ble a 4) with
        | true =>
          rw [hA] at he
          cases he
          show (bif (Nat.ble 2 a && Nat.ble a 4) then _ else _) = _
          rw [hA]
          rfl
        | false => rw [hA] at he; cases he
      | false =>
        rw [hk6] at hs
        dsimp only [cond_false] at hs ⊢
        obtain ⟨a, r, rfl, he⟩ := xa_inv hs
        obtain ⟨ks, hk, he⟩ := yob_inv he
        show xob (yH K z S) a A _ = _
        rw [xob_of (yE_o hk), yF_get]
        split at he
        · rename_i hq; cases he; rw [hq]; show some (pc + 3, ls, Value.int (S.1 a (0 + B)) :: r, yH K z S) = _; rw [Nat.zero_add]
        · rename_i hq; cases he; rw [hq]; show some (pc + 3, ls, Value.long (S.2.1 a (0 + B)) :: r, yH K z S) = _; rw [Nat.zero_add]
        · rename_i hq; cases he; rw [hq]; rfl
        · cases he
  | putfield idx =>
    dsimp only at hs ⊢
    split at hs
    · rename_i v a r
      obtain ⟨ks, hk, he⟩ := yob_inv hs
      split at he
      · rename_i hq
        cases hf : xfit k (.int v) with
        | true =>
          rw [hf] at he
          cases he
          show xob (yH K z S) a A _ = _
          rw [xob_of (yE_o hk), hf, yF_len]
          have hlt : Nat.blt B ks.length = true := Nat.ble_eq_true_of_le (List.getElem?_eq_some_iff.mp hq).1
          rw [hlt]
          show some (pc + 3, ls, _, xUp (yH K z S) a (.inr (A, (yF S a 0 ks).set B (.int v)))) = _
          rw [yUp_i hk hq]
        | false => rw [hf] at he; cases he
      · cases he
    · rename_i v a r
      obtain ⟨ks, hk, he⟩ := yob_inv hs
      split at he
      · rename_i hq
        cases hf : (k == 1) with
        | true =>
          rw [hf] at he
          cases he
          show xob (yH K z S) a A _ = _
          rw [xob_of (yE_o hk), yF_len]
          have hlt : Nat.blt B ks.length = true := Nat.ble_eq_true_of_le (List.getElem?_eq_some_iff.mp hq).1
          rw [hlt]
          have hf2 : xfit k (.long v) = true := hf
          rw [hf2]
          show some (pc + 3, ls, _, xUp (yH K z S) a (.inr (A, (yF S a 0 ks).set B (.long v)))) = _
          rw [yUp_j hk hq]
        | false => rw [hf] at he; cases he
      · cases he
    · cases hs
  | iaload =>
    dsimp only at hs ⊢
    obtain ⟨a, j, r, rfl, he⟩ := xai_inv hs
    show (bif Nat.blt a 2 then _ else _) = _
    cases hA : Nat.blt a 2 with
    | true =>
      rw [hA] at he
      obtain ⟨⟨n, f⟩, hr, he⟩ := Option.bind_eq_some_iff.mp he
      obtain ⟨hin, he⟩ := xin_inv he
      cases he
      show (ro a).bind _ = _
      rw [hr]
      exact xin_of (k := fun j => some (pc + 1, ls, Value.int (f j) :: r, yH K z S)) hin
    | false =>
      rw [hA] at he
      obtain ⟨n, hk, he⟩ := yar_inv he
      obtain ⟨hin, he⟩ := xin_inv he
      cases he
      show xar (yH K z S) a 0 _ = _
      rw [xar_of (yE_i (Or.inl rfl) hk), xin_of hin]
  | baload =>
    dsimp only at hs ⊢
    obtain ⟨a, j, r, rfl, he⟩ := xai_inv hs
    show (bif Nat.blt a 16 then _ else _) = _
    cases hA : Nat.blt a 16 with
    | true =>
      rw [hA] at he
      obtain ⟨⟨n, f⟩, hr, he⟩ := Option.bind_eq_some_iff.mp he
      obtain ⟨hin, he⟩ := xin_inv he
      cases he
      show (xStB a).bind _ = _
      rw [hr]
      exact xin_of (k := fun j => some (pc + 1, ls, Value.int (f j) :: r, yH K z S)) hin
    | false =>
      rw [hA] at he
      obtain ⟨n, hk, he⟩ := yar_inv he
      obtain ⟨hin, he⟩ := xin_inv he
      cases he
      show xar (yH K z S) a 2 _ = _
      rw [xar_of (yE_i (Or.inr rfl) hk), xin_of hin]
  | laload =>
    dsimp only at hs ⊢
    obtain ⟨a, j, r, rfl, he⟩ := xai_inv hs
    obtain ⟨n, hk, he⟩ := yar_inv he
    obtain ⟨hin, he⟩ := xin_inv he
    cases he
    show xarl (yH K z S) a _ = _
    rw [xarl_of (yE_l hk), xin_of hin]
  | aaload =>
    dsimp only at hs ⊢
    obtain ⟨a, j, r, rfl, he⟩ := xai_inv hs
    obtain ⟨t, n, ht, hk, he⟩ := yarq_inv he
    obtain ⟨hin, he⟩ := xin_inv he
    cases he
    show xarq (yH K z S) a _ = _
    rw [xarq_of ht (yE_q ht hk), xin_of hin]
  | iastore =>
    dsimp only at hs ⊢
    obtain ⟨x, r, rfl, he⟩ := xi_inv hs
    obtain ⟨a, j, r, rfl, he⟩ := xai_inv he
    obtain ⟨n, hk, he⟩ := yar_inv he
    obtain ⟨hin, he⟩ := xin_inv he
    cases he
    show xar (yH K z S) a 0 _ = _
    rw [xar_of (yE_i (Or.inl rfl) hk), xin_of hin, yUp_a (Or.inl rfl) hk]
  | bastore =>
    dsimp only at hs ⊢
    obtain ⟨x, r, rfl, he⟩ := xi_inv hs
    obtain ⟨a, j, r, rfl, he⟩ := xai_inv he
    obtain ⟨n, hk, he⟩ := yar_inv he
    obtain ⟨hin, he⟩ := xin_inv he
    split at he
    · rename_i h01
      cases he
      show xar (yH K z S) a 2 _ = _
      rw [xar_of (yE_i (Or.inr rfl) hk), xin_of hin, if_pos h01, yUp_a (Or.inr rfl) hk]
    · cases he
  | lastore =>
    dsimp only at hs ⊢
    obtain ⟨x, r, rfl, he⟩ := xl_inv hs
    obtain ⟨a, j, r, rfl, he⟩ := xai_inv he
    obtain ⟨n, hk, he⟩ := yar_inv he
    obtain ⟨hin, he⟩ := xin_inv he
    cases he
    show xarl (yH K z S) a _ = _
    rw [xarl_of (yE_l hk), xin_of hin, yUp_l hk]
  | aastore =>
    dsimp only at hs ⊢
    obtain ⟨v, r, rfl, he⟩ := xq_inv hs
    obtain ⟨a, j, r, rfl, he⟩ := xai_inv he
    obtain ⟨t, n, ht, hk, he⟩ := yarq_inv he
    obtain ⟨hin, he⟩ := xin_inv he
    cases v with
    | none =>
      cases he
      show xarq (yH K z S) a _ = _
      rw [xarq_of ht (yE_q ht hk), xin_of hin, yUp_q ht hk]
    | some o =>
      obtain ⟨ks, hk2, he⟩ := yob_inv he
      cases he
      show xarq (yH K z S) a _ = _
      rw [xarq_of ht (yE_q ht hk), xin_of hin]
      show xob (yH K z S) o (xEl t) _ = _
      rw [xob_of (yE_o hk2), yUp_q ht hk]
  | arraylength =>
    dsimp only at hs ⊢
    obtain ⟨a, r, rfl, he⟩ := xa_inv hs
    show (bif Nat.blt a 16 then _ else _) = _
    cases hA : Nat.blt a 16 with
    | true =>
      rw [hA] at he
      obtain ⟨n, hr, he⟩ := Option.bind_eq_some_iff.mp he
      cases he
      show (xLn ro a).bind _ = _
      rw [hr]
      rfl
    | false =>
      rw [hA] at he
      dsimp only [cond_false] at he ⊢
      split at he
      · rename_i t n hk
        cases hB : Nat.blt t 5 with
        | true =>
          rw [hB] at he
          cases he
          have he2 : (yH K z S).2.2 a = some (.inl (t, yA S a t n)) := by show yE K S a = _; unfold yE; rw [hk]
          have hn : yA S a t n = (n, (yA S a t n).2) := by unfold yA; cases Nat.beq t 1 <;> cases (Nat.beq t 3 || Nat.beq t 4) <;> rfl
          rw [hn] at he2
          rw [he2]
          show (bif Nat.blt t 5 then _ else _) = _
          rw [hB]
          rfl
        | false => rw [hB] at he; cases he
      · cases he
  | invokestatic idx =>
    dsimp only at hs ⊢
    cases hk : (k == 9) with
    | true =>
      rw [hk] at hs
      dsimp only [cond_true] at hs ⊢
      split at hs
      · rename_i n dp a sp a0 r
        obtain ⟨n0, hk0, he⟩ := yar_inv hs
        obtain ⟨n1, hk1, he⟩ := yar_inv he
        split at he
        · cases he
        · rename_i hr
          cases he
          show xar (yH K z S) a0 0 _ = _
          rw [xar_of (yE_i (Or.inl rfl) hk0), xar_of (yE_i (Or.inl rfl) hk1), if_neg hr, yUp_a (Or.inl rfl) hk1]
      · cases hs
    | false =>
      rw [hk] at hs
      dsimp only [cond_false] at hs ⊢
      cases hk10 : (k == 10) with
      | true =>
        rw [hk10] at hs
        dsimp only [cond_true] at hs ⊢
        obtain ⟨x, y, r, rfl, he⟩ := xii_inv hs
        split at he
        · cases he
        · rename_i hr
          cases he
          show (if _ then none else _) = _
          rw [if_neg hr]
      | false =>
        rw [hk10] at hs
        dsimp only [cond_false] at hs ⊢
        cases hk11 : (k == 11) with
        | true =>
          rw [hk11] at hs
          dsimp only [cond_true] at hs ⊢
          obtain ⟨x, y, r, rfl, he⟩ := xii_inv hs
          split at he
          · cases he
          · rename_i hr
            cases he
            show (if _ then none else _) = _
            rw [if_neg hr]
        | false =>
          rw [hk11] at hs
          dsimp only [cond_false] at hs ⊢
          cases hk12 : (k == 12) with
          | true =>
            rw [hk12] at hs
            dsimp only [cond_true] at hs ⊢
            obtain ⟨x, y, r, rfl, he⟩ := xll_inv hs
            split at he
            · cases he
            · rename_i hr
              cases he
              show (if _ then none else _) = _
              rw [if_neg hr]
          | false =>
            rw [hk12] at hs
            dsimp only [cond_false] at hs ⊢
            cases hk13 : (k == 13) with
            | true =>
              rw [hk13] at hs
              dsimp only [cond_true] at hs ⊢
              obtain ⟨x, y, r, rfl, he⟩ := xll_inv hs
              split at he
              · cases he
              · rename_i hr
                cases he
                show (if _ then none else _) = _
                rw [if_neg hr]
            | false =>
              rw [hk13] at hs
              dsimp only [cond_false] at hs ⊢
              cases hs
  | invokespecial idx =>
    dsimp only at hs ⊢
    cases hk : (k == 8) with
    | true =>
      rw [hk] at hs
      dsimp only [cond_true] at hs ⊢
      obtain ⟨a, r, rfl, he⟩ := xa_inv hs
      split at he
      · cases he
      · rename_i hr
        cases he
        show (if _ then none else _) = _
        rw [if_neg hr]
    | false => rw [hk] at hs; cases hs
  | _ => cases hs
end YS
end
section
/-! ===== rules for walking a method over a shape ===== -/
theorem xRun_more {ro : xRo} {E E' : Nat → List Value → xH → xR → Prop} {ret : Option FieldType} {code : xC} (hE : ∀ j as h r, E j as h r → E' j as h r) : ∀ n pc ls st h r, xRun ro E ret code n pc ls st h r → xRun ro E' ret code n pc ls st h r := by
  intro n
  induction n with
  | zero => intro pc ls st h r hr; exact hr
  | succ n ih =>
    intro pc ls st h r hr
    obtain ⟨i, hi, hr⟩ := hr
    refine ⟨i, hi, ?_⟩
    rcases hr with ⟨pc', ls', st', h', hs, hr⟩ | ⟨j, k, v, h', q1, q2, q3, q4, he, hr⟩ | hr
    · exact Or.inl ⟨pc', ls', st', h', hs, ih _ _ _ _ _ hr⟩
    · exact Or.inr (Or.inl ⟨j, k, v, h', q1, q2, q3, q4, hE _ _ _ _ he, ih _ _ _ _ _ hr⟩)
    · exact Or.inr (Or.inr hr)
theorem xEv_succ {ro : xRo} {P : Nat → Option xMeth} {B : Nat → List Value → xH → xR → Prop} : ∀ d j as h r, xEv ro P B d j as h r → xEv ro P B (d + 1) j as h r := by
  intro d
  induction d with
  | zero => intro j as h r hr; cases hr
  | succ d ih =>
    intro j as h r hr
    rcases hr with ⟨hd, hr⟩ | ⟨M, n, q1, q2, hr⟩
    · exact Or.inl ⟨Nat.le_succ_of_le hd, hr⟩
    · exact Or.inr ⟨M, n, q1, q2, xRun_more ih _ _ _ _ _ _ hr⟩
theorem xEv_le {ro : xRo} {P : Nat → Option xMeth} {B : Nat → List Value → xH → xR → Prop} {d d' j : Nat} {as : List Value} {h : xH} {r : xR} (hd : d ≤ d') (hr : xEv ro P B d j as h r) : xEv ro P B d' j as h r := by
  induction hd with
  | refl => exact hr
  | step _ ih => exact xEv_succ _ _ _ _ _ ih
/-- a walk of method M at depth d, from a place on -/
def Ry (ro : xRo) (B : Nat → List Value → xH → xR → Prop) (K : yK) (z : Nat × Nat) (d : Nat) (M : xMeth) (pc : Nat) (ls : xL) (st : List Value) (S : yS) (r : xR) : Prop := ∃ n, xRun ro (xEv ro xP B d) M.2.2.2.1 M.2.2.2.2 n pc ls st (yH K z S) r
/-- a call that keeps the shape: its answer, what it leaves -/
def yEv (ro : xRo) (B : Nat → List Value → xH → xR → Prop) (K : yK) (d j : Nat) (as : List Value) (S : yS) (v : Option Value) (S' : yS) : Prop := ∀ z, xEv ro xP B d j as (yH K z S) (v, yH K z S')
section RY
variable {ro : xRo} {B : Nat → List Value → xH → xR → Prop} {K K' : yK} {z z' : Nat × Nat} {d : Nat} {M : xMeth} {pc pc' : Nat} {ls ls' : xL} {st st' : List Value} {S S' : yS} {r : xR}
theorem ry_step {i : xI} (h1 : xAt M.2.2.2.2 pc = some i) (h2 : yStep ro K i pc ls st S = some (pc', ls', st', S')) (k : Ry ro B K z d M pc' ls' st' S' r) : Ry ro B K z d M pc ls st S r := by
  obtain ⟨n, hn⟩ := k
  exact ⟨n + 1, i, h1, Or.inl ⟨pc', ls', st', _, yStep_x h2, hn⟩⟩
theorem ry_call {i : xI} {j k : Nat} {v : Option Value} (h1 : xAt M.2.2.2.2 pc = some i) (h2 : xCallee i = some (j, k)) (h3 : Nat.ble k st.length = true) (h4 : Nat.ble ((st.drop k).map fun v => v.category).sum 8 = true) (h5 : xRcv i (st.take k).reverse (yH K z S) = true) (h6 : yEv ro B K d j (st.take k).reverse S v S') (kk : Ry ro B K z d M (pc + 3) ls (v.toList ++ st.drop k) S' r) : Ry ro B K z d M pc ls st S r := by
  obtain ⟨n, hn⟩ := kk
  exact ⟨n + 1, i, h1, Or.inr (Or.inl ⟨j, k, v, _, h2, Nat.le_of_ble_eq_true h3, Nat.le_of_ble_eq_true h4, h5, h6 z, hn⟩)⟩
theorem ry_callx {i : xI} {j k : Nat} {v : Option Value} (h1 : xAt M.2.2.2.2 pc = some i) (h2 : xCallee i = some (j, k)) (h3 : Nat.ble k st.length = true) (h4 : Nat.ble ((st.drop k).map fun v => v.category).sum 8 = true) (h5 : xRcv i (st.take k).reverse (yH K z S) = true) (h6 : xEv ro xP B d j (st.take k).reverse (yH K z S) (v, yH K' z' S')) (kk : Ry ro B K' z' d M (pc + 3) ls (v.toList ++ st.drop k) S' r) : Ry ro B K z d M pc ls st S r := by
  obtain ⟨n, hn⟩ := kk
  exact ⟨n + 1, i, h1, Or.inr (Or.inl ⟨j, k, v, _, h2, Nat.le_of_ble_eq_true h3, Nat.le_of_ble_eq_true h4, h5, h6, hn⟩)⟩
theorem ry_ret {i : xI} {v : Option Value} (h1 : xAt M.2.2.2.2 pc = some i) (h2 : xRetV M.2.2.2.1 i.1 st = some v) : Ry ro B K z d M pc ls st S (v, yH K z S) := ⟨1, i, h1, Or.inr (Or.inr ⟨v, h2, rfl⟩)⟩
theorem ry_meth {j : Nat} {as : List Value} {v : Option Value} (hP : xP j = some M) (hs : Nat.ble (lg_sl as).length M.2.2.1 = true) (h : ∀ z, Ry ro B K z d M 0 (lv_args 0 as) [] S (v, yH K z S')) : yEv ro B K (d + 1) j as S v S' := by
  intro z
  obtain ⟨n, hn⟩ := h z
  exact Or.inr ⟨M, n, hP, hs, hn⟩
theorem ry_methx {j : Nat} {as : List Value} (hP : xP j = some M) (hs : Nat.ble (lg_sl as).length M.2.2.1 = true) (h : Ry ro B K z d M 0 (lv_args 0 as) [] S r) : xEv ro xP B (d + 1) j as (yH K z S) r := by
  obtain ⟨n, hn⟩ := h
  exact Or.inr ⟨M, n, hP, hs, hn⟩
theorem yEv_le {d' j : Nat} {as : List Value} {v : Option Value} (hd : d ≤ d') (h : yEv ro B K d j as S v S') : yEv ro B K d' j as S v S' := fun z => xEv_le hd (h z)
end RY
end
