section
-- ===== PART A: goes FIRST, ahead of the names: the tables' words, and 'selects' of the private methods out of them =====
/-- a private method of a class that the tables say can be made, by its rows of tables_1 -/
def lw_okq (q : MethodName × Nat) : Prop := (q.1.cls ≠ "java/lang/invoke/MethodHandle" ∧ q.1.cls ≠ "java/lang/invoke/VarHandle") ∧ Cond.instantiable q.1.cls q.2 ∈ tables_1 ∧ Cond.privateMethod q.1 ∈ tables_1 ∧ Cond.instanceMethod q.1 ∈ tables_1
theorem lw_p0 : lw_okq (⟨"MagpieAccounts$Tape", "scanToken", "(I)I"⟩, 6) := ⟨⟨by decide +kernel, by decide +kernel⟩, List.mem_of_getElem? (i := 260) (by decide +kernel), List.mem_of_getElem? (i := 447) (by decide +kernel), List.mem_of_getElem? (i := 448) (by decide +kernel)⟩
theorem lw_p1 : lw_okq (⟨"MagpieAccounts$Tape", "scanWord", "(I)I"⟩, 6) := ⟨⟨by decide +kernel, by decide +kernel⟩, List.mem_of_getElem? (i := 260) (by decide +kernel), List.mem_of_getElem? (i := 455) (by decide +kernel), List.mem_of_getElem? (i := 456) (by decide +kernel)⟩
theorem lw_p2 : lw_okq (⟨"MagpieAccounts$Tape", "kindOfWord", "(II)I"⟩, 6) := ⟨⟨by decide +kernel, by decide +kernel⟩, List.mem_of_getElem? (i := 260) (by decide +kernel), List.mem_of_getElem? (i := 459) (by decide +kernel), List.mem_of_getElem? (i := 460) (by decide +kernel)⟩
theorem lw_p3 : lw_okq (⟨"MagpieAccounts$Tape", "put", "(III)V"⟩, 6) := ⟨⟨by decide +kernel, by decide +kernel⟩, List.mem_of_getElem? (i := 260) (by decide +kernel), List.mem_of_getElem? (i := 504) (by decide +kernel), List.mem_of_getElem? (i := 505) (by decide +kernel)⟩
theorem lw_p4 : lw_okq (⟨"MagpieAccounts$Tape", "scanNumber", "(I)I"⟩, 6) := ⟨⟨by decide +kernel, by decide +kernel⟩, List.mem_of_getElem? (i := 260) (by decide +kernel), List.mem_of_getElem? (i := 511) (by decide +kernel), List.mem_of_getElem? (i := 512) (by decide +kernel)⟩
theorem lw_p5 : lw_okq (⟨"MagpieAccounts$Tape", "scanSign", "(I)I"⟩, 6) := ⟨⟨by decide +kernel, by decide +kernel⟩, List.mem_of_getElem? (i := 260) (by decide +kernel), List.mem_of_getElem? (i := 518) (by decide +kernel), List.mem_of_getElem? (i := 519) (by decide +kernel)⟩
theorem lw_p6 : lw_okq (⟨"MagpieAccounts$Reader", "kind", "()I"⟩, 16) := ⟨⟨by decide +kernel, by decide +kernel⟩, List.mem_of_getElem? (i := 254) (by decide +kernel), List.mem_of_getElem? (i := 587) (by decide +kernel), List.mem_of_getElem? (i := 588) (by decide +kernel)⟩
theorem lw_p7 : lw_okq (⟨"MagpieAccounts$Reader", "readClause", "()V"⟩, 16) := ⟨⟨by decide +kernel, by decide +kernel⟩, List.mem_of_getElem? (i := 254) (by decide +kernel), List.mem_of_getElem? (i := 591) (by decide +kernel), List.mem_of_getElem? (i := 592) (by decide +kernel)⟩
theorem lw_p8 : lw_okq (⟨"MagpieAccounts$Reader", "fail", "(I)V"⟩, 16) := ⟨⟨by decide +kernel, by decide +kernel⟩, List.mem_of_getElem? (i := 254) (by decide +kernel), List.mem_of_getElem? (i := 599) (by decide +kernel), List.mem_of_getElem? (i := 600) (by decide +kernel)⟩
theorem lw_p9 : lw_okq (⟨"MagpieAccounts$Reader", "readLaw", "(I)V"⟩, 16) := ⟨⟨by decide +kernel, by decide +kernel⟩, List.mem_of_getElem? (i := 254) (by decide +kernel), List.mem_of_getElem? (i := 603) (by decide +kernel), List.mem_of_getElem? (i := 604) (by decide +kernel)⟩
theorem lw_p10 : lw_okq (⟨"MagpieAccounts$Reader", "readSum", "(I)V"⟩, 16) := ⟨⟨by decide +kernel, by decide +kernel⟩, List.mem_of_getElem? (i := 254) (by decide +kernel), List.mem_of_getElem? (i := 607) (by decide +kernel), List.mem_of_getElem? (i := 608) (by decide +kernel)⟩
theorem lw_p11 : lw_okq (⟨"MagpieAccounts$Reader", "readProduct", "(I)V"⟩, 16) := ⟨⟨by decide +kernel, by decide +kernel⟩, List.mem_of_getElem? (i := 254) (by decide +kernel), List.mem_of_getElem? (i := 611) (by decide +kernel), List.mem_of_getElem? (i := 612) (by decide +kernel)⟩
theorem lw_p12 : lw_okq (⟨"MagpieAccounts$Reader", "readOne", "(I)V"⟩, 16) := ⟨⟨by decide +kernel, by decide +kernel⟩, List.mem_of_getElem? (i := 254) (by decide +kernel), List.mem_of_getElem? (i := 615) (by decide +kernel), List.mem_of_getElem? (i := 616) (by decide +kernel)⟩
theorem lw_p13 : lw_okq (⟨"MagpieAccounts$Reader", "readNumber", "(II)I"⟩, 16) := ⟨⟨by decide +kernel, by decide +kernel⟩, List.mem_of_getElem? (i := 254) (by decide +kernel), List.mem_of_getElem? (i := 619) (by decide +kernel), List.mem_of_getElem? (i := 620) (by decide +kernel)⟩
theorem lw_p14 : lw_okq (⟨"MagpieAccounts$Reader", "emit", "(II)V"⟩, 16) := ⟨⟨by decide +kernel, by decide +kernel⟩, List.mem_of_getElem? (i := 254) (by decide +kernel), List.mem_of_getElem? (i := 623) (by decide +kernel), List.mem_of_getElem? (i := 624) (by decide +kernel)⟩
theorem lw_p15 : lw_okq (⟨"MagpieAccounts$Reader", "readName", "(I)V"⟩, 16) := ⟨⟨by decide +kernel, by decide +kernel⟩, List.mem_of_getElem? (i := 254) (by decide +kernel), List.mem_of_getElem? (i := 627) (by decide +kernel), List.mem_of_getElem? (i := 628) (by decide +kernel)⟩
def lw_privs_1 : List (MethodName × Nat) := [(⟨"MagpieAccounts$Tape", "scanToken", "(I)I"⟩, 6), (⟨"MagpieAccounts$Tape", "scanWord", "(I)I"⟩, 6), (⟨"MagpieAccounts$Tape", "kindOfWord", "(II)I"⟩, 6), (⟨"MagpieAccounts$Tape", "put", "(III)V"⟩, 6), (⟨"MagpieAccounts$Tape", "scanNumber", "(I)I"⟩, 6), (⟨"MagpieAccounts$Tape", "scanSign", "(I)I"⟩, 6), (⟨"MagpieAccounts$Reader", "kind", "()I"⟩, 16), (⟨"MagpieAccounts$Reader", "readClause", "()V"⟩, 16), (⟨"MagpieAccounts$Reader", "fail", "(I)V"⟩, 16), (⟨"MagpieAccounts$Reader", "readLaw", "(I)V"⟩, 16), (⟨"MagpieAccounts$Reader", "readSum", "(I)V"⟩, 16), (⟨"MagpieAccounts$Reader", "readProduct", "(I)V"⟩, 16), (⟨"MagpieAccounts$Reader", "readOne", "(I)V"⟩, 16), (⟨"MagpieAccounts$Reader", "readNumber", "(II)I"⟩, 16), (⟨"MagpieAccounts$Reader", "emit", "(II)V"⟩, 16), (⟨"MagpieAccounts$Reader", "readName", "(I)V"⟩, 16)]
theorem lw_r1 : ∀ q ∈ lw_privs_1, lw_okq q := List.forall_mem_cons.mpr ⟨lw_p0, List.forall_mem_cons.mpr ⟨lw_p1, List.forall_mem_cons.mpr ⟨lw_p2, List.forall_mem_cons.mpr ⟨lw_p3, List.forall_mem_cons.mpr ⟨lw_p4, List.forall_mem_cons.mpr ⟨lw_p5, List.forall_mem_cons.mpr ⟨lw_p6, List.forall_mem_cons.mpr ⟨lw_p7, List.forall_mem_cons.mpr ⟨lw_p8, List.forall_mem_cons.mpr ⟨lw_p9, List.forall_mem_cons.mpr ⟨lw_p10, List.forall_mem_cons.mpr ⟨lw_p11, List.forall_mem_cons.mpr ⟨lw_p12, List.forall_mem_cons.mpr ⟨lw_p13, List.forall_mem_cons.mpr ⟨lw_p14, List.forall_mem_cons.mpr ⟨lw_p15, fun _ h => absurd h List.not_mem_nil⟩⟩⟩⟩⟩⟩⟩⟩⟩⟩⟩⟩⟩⟩⟩⟩
theorem lw_p16 : lw_okq (⟨"MagpieAccounts$Reader", "readOpened", "(II)V"⟩, 16) := ⟨⟨by decide +kernel, by decide +kernel⟩, List.mem_of_getElem? (i := 254) (by decide +kernel), List.mem_of_getElem? (i := 634) (by decide +kernel), List.mem_of_getElem? (i := 635) (by decide +kernel)⟩
theorem lw_p17 : lw_okq (⟨"MagpieAccounts$Reader", "expect", "(I)V"⟩, 16) := ⟨⟨by decide +kernel, by decide +kernel⟩, List.mem_of_getElem? (i := 254) (by decide +kernel), List.mem_of_getElem? (i := 638) (by decide +kernel), List.mem_of_getElem? (i := 639) (by decide +kernel)⟩
theorem lw_p18 : lw_okq (⟨"MagpieAccounts$Reader", "readChoice", "(I)V"⟩, 16) := ⟨⟨by decide +kernel, by decide +kernel⟩, List.mem_of_getElem? (i := 254) (by decide +kernel), List.mem_of_getElem? (i := 642) (by decide +kernel), List.mem_of_getElem? (i := 643) (by decide +kernel)⟩
theorem lw_p19 : lw_okq (⟨"MagpieAccounts$Reader", "readEither", "(I)V"⟩, 16) := ⟨⟨by decide +kernel, by decide +kernel⟩, List.mem_of_getElem? (i := 254) (by decide +kernel), List.mem_of_getElem? (i := 646) (by decide +kernel), List.mem_of_getElem? (i := 647) (by decide +kernel)⟩
theorem lw_p20 : lw_okq (⟨"MagpieAccounts$Reader", "readBoth", "(I)V"⟩, 16) := ⟨⟨by decide +kernel, by decide +kernel⟩, List.mem_of_getElem? (i := 254) (by decide +kernel), List.mem_of_getElem? (i := 650) (by decide +kernel), List.mem_of_getElem? (i := 651) (by decide +kernel)⟩
theorem lw_p21 : lw_okq (⟨"MagpieAccounts$Reader", "readAsk", "(I)V"⟩, 16) := ⟨⟨by decide +kernel, by decide +kernel⟩, List.mem_of_getElem? (i := 254) (by decide +kernel), List.mem_of_getElem? (i := 654) (by decide +kernel), List.mem_of_getElem? (i := 655) (by decide +kernel)⟩
theorem lw_p22 : lw_okq (⟨"MagpieAccounts$Reader", "readCompared", "(I)V"⟩, 16) := ⟨⟨by decide +kernel, by decide +kernel⟩, List.mem_of_getElem? (i := 254) (by decide +kernel), List.mem_of_getElem? (i := 658) (by decide +kernel), List.mem_of_getElem? (i := 659) (by decide +kernel)⟩
theorem lw_p23 : lw_okq (⟨"MagpieAccounts$Reader", "aim", "(I)V"⟩, 16) := ⟨⟨by decide +kernel, by decide +kernel⟩, List.mem_of_getElem? (i := 254) (by decide +kernel), List.mem_of_getElem? (i := 662) (by decide +kernel), List.mem_of_getElem? (i := 663) (by decide +kernel)⟩
theorem lw_p24 : lw_okq (⟨"MagpieAccounts$Reader", "readNumbers", "(I)V"⟩, 16) := ⟨⟨by decide +kernel, by decide +kernel⟩, List.mem_of_getElem? (i := 254) (by decide +kernel), List.mem_of_getElem? (i := 666) (by decide +kernel), List.mem_of_getElem? (i := 667) (by decide +kernel)⟩
theorem lw_p25 : lw_okq (⟨"MagpieAccounts", "passSteps", "(I)I"⟩, 11) := ⟨⟨by decide +kernel, by decide +kernel⟩, List.mem_of_getElem? (i := 24) (by decide +kernel), List.mem_of_getElem? (i := 801) (by decide +kernel), List.mem_of_getElem? (i := 802) (by decide +kernel)⟩
theorem lw_p26 : lw_okq (⟨"MagpieAccounts", "passDay", "()I"⟩, 11) := ⟨⟨by decide +kernel, by decide +kernel⟩, List.mem_of_getElem? (i := 24) (by decide +kernel), List.mem_of_getElem? (i := 805) (by decide +kernel), List.mem_of_getElem? (i := 806) (by decide +kernel)⟩
theorem lw_p27 : lw_okq (⟨"MagpieAccounts$Laws", "run", "(LMagpieAccounts$Text;II)I"⟩, 4) := ⟨⟨by decide +kernel, by decide +kernel⟩, List.mem_of_getElem? (i := 32) (by decide +kernel), List.mem_of_getElem? (i := 831) (by decide +kernel), List.mem_of_getElem? (i := 832) (by decide +kernel)⟩
theorem lw_p28 : lw_okq (⟨"MagpieAccounts$Laws", "ofOne", "(II)I"⟩, 4) := ⟨⟨by decide +kernel, by decide +kernel⟩, List.mem_of_getElem? (i := 32) (by decide +kernel), List.mem_of_getElem? (i := 841) (by decide +kernel), List.mem_of_getElem? (i := 842) (by decide +kernel)⟩
theorem lw_p29 : lw_okq (⟨"MagpieAccounts$Laws", "named", "(I)I"⟩, 4) := ⟨⟨by decide +kernel, by decide +kernel⟩, List.mem_of_getElem? (i := 32) (by decide +kernel), List.mem_of_getElem? (i := 868) (by decide +kernel), List.mem_of_getElem? (i := 869) (by decide +kernel)⟩
theorem lw_p30 : lw_okq (⟨"MagpieAccounts", "playClause", "(III)Z"⟩, 11) := ⟨⟨by decide +kernel, by decide +kernel⟩, List.mem_of_getElem? (i := 24) (by decide +kernel), List.mem_of_getElem? (i := 897) (by decide +kernel), List.mem_of_getElem? (i := 898) (by decide +kernel)⟩
theorem lw_p31 : lw_okq (⟨"MagpieAccounts", "drawYear", "()V"⟩, 11) := ⟨⟨by decide +kernel, by decide +kernel⟩, List.mem_of_getElem? (i := 24) (by decide +kernel), List.mem_of_getElem? (i := 911) (by decide +kernel), List.mem_of_getElem? (i := 912) (by decide +kernel)⟩
def lw_privs_2 : List (MethodName × Nat) := [(⟨"MagpieAccounts$Reader", "readOpened", "(II)V"⟩, 16), (⟨"MagpieAccounts$Reader", "expect", "(I)V"⟩, 16), (⟨"MagpieAccounts$Reader", "readChoice", "(I)V"⟩, 16), (⟨"MagpieAccounts$Reader", "readEither", "(I)V"⟩, 16), (⟨"MagpieAccounts$Reader", "readBoth", "(I)V"⟩, 16), (⟨"MagpieAccounts$Reader", "readAsk", "(I)V"⟩, 16), (⟨"MagpieAccounts$Reader", "readCompared", "(I)V"⟩, 16), (⟨"MagpieAccounts$Reader", "aim", "(I)V"⟩, 16), (⟨"MagpieAccounts$Reader", "readNumbers", "(I)V"⟩, 16), (⟨"MagpieAccounts", "passSteps", "(I)I"⟩, 11), (⟨"MagpieAccounts", "passDay", "()I"⟩, 11), (⟨"MagpieAccounts$Laws", "run", "(LMagpieAccounts$Text;II)I"⟩, 4), (⟨"MagpieAccounts$Laws", "ofOne", "(II)I"⟩, 4), (⟨"MagpieAccounts$Laws", "named", "(I)I"⟩, 4), (⟨"MagpieAccounts", "playClause", "(III)Z"⟩, 11), (⟨"MagpieAccounts", "drawYear", "()V"⟩, 11)]
theorem lw_r2 : ∀ q ∈ lw_privs_2, lw_okq q := List.forall_mem_cons.mpr ⟨lw_p16, List.forall_mem_cons.mpr ⟨lw_p17, List.forall_mem_cons.mpr ⟨lw_p18, List.forall_mem_cons.mpr ⟨lw_p19, List.forall_mem_cons.mpr ⟨lw_p20, List.forall_mem_cons.mpr ⟨lw_p21, List.forall_mem_cons.mpr ⟨lw_p22, List.forall_mem_cons.mpr ⟨lw_p23, List.forall_mem_cons.mpr ⟨lw_p24, List.forall_mem_cons.mpr ⟨lw_p25, List.forall_mem_cons.mpr ⟨lw_p26, List.forall_mem_cons.mpr ⟨lw_p27, List.forall_mem_cons.mpr ⟨lw_p28, List.forall_mem_cons.mpr ⟨lw_p29, List.forall_mem_cons.mpr ⟨lw_p30, List.forall_mem_cons.mpr ⟨lw_p31, fun _ h => absurd h List.not_mem_nil⟩⟩⟩⟩⟩⟩⟩⟩⟩⟩⟩⟩⟩⟩⟩⟩
theorem lw_p32 : lw_okq (⟨"MagpieAccounts", "noteChances", "()V"⟩, 11) := ⟨⟨by decide +kernel, by decide +kernel⟩, List.mem_of_getElem? (i := 24) (by decide +kernel), List.mem_of_getElem? (i := 969) (by decide +kernel), List.mem_of_getElem? (i := 970) (by decide +kernel)⟩
theorem lw_p33 : lw_okq (⟨"MagpieAccounts", "spreadOver", "(II)V"⟩, 11) := ⟨⟨by decide +kernel, by decide +kernel⟩, List.mem_of_getElem? (i := 24) (by decide +kernel), List.mem_of_getElem? (i := 973) (by decide +kernel), List.mem_of_getElem? (i := 974) (by decide +kernel)⟩
theorem lw_p34 : lw_okq (⟨"MagpieAccounts", "bestThinned", "(I)I"⟩, 11) := ⟨⟨by decide +kernel, by decide +kernel⟩, List.mem_of_getElem? (i := 24) (by decide +kernel), List.mem_of_getElem? (i := 1010) (by decide +kernel), List.mem_of_getElem? (i := 1011) (by decide +kernel)⟩
theorem lw_p35 : lw_okq (⟨"MagpieAccounts", "canCome", "(II)Z"⟩, 11) := ⟨⟨by decide +kernel, by decide +kernel⟩, List.mem_of_getElem? (i := 24) (by decide +kernel), List.mem_of_getElem? (i := 1077) (by decide +kernel), List.mem_of_getElem? (i := 1078) (by decide +kernel)⟩
theorem lw_p36 : lw_okq (⟨"MagpieAccounts$Rings", "walked", "(II)I"⟩, 1) := ⟨⟨by decide +kernel, by decide +kernel⟩, List.mem_of_getElem? (i := 133) (by decide +kernel), List.mem_of_getElem? (i := 1124) (by decide +kernel), List.mem_of_getElem? (i := 1125) (by decide +kernel)⟩
theorem lw_p37 : lw_okq (⟨"MagpieAccounts", "leastBound", "(II)I"⟩, 11) := ⟨⟨by decide +kernel, by decide +kernel⟩, List.mem_of_getElem? (i := 24) (by decide +kernel), List.mem_of_getElem? (i := 1147) (by decide +kernel), List.mem_of_getElem? (i := 1148) (by decide +kernel)⟩
theorem lw_p38 : lw_okq (⟨"MagpieAccounts$Parishes", "placeOf", "(II)I"⟩, 5) := ⟨⟨by decide +kernel, by decide +kernel⟩, List.mem_of_getElem? (i := 144) (by decide +kernel), List.mem_of_getElem? (i := 1208) (by decide +kernel), List.mem_of_getElem? (i := 1209) (by decide +kernel)⟩
theorem lw_p39 : lw_okq (⟨"MagpieAccounts$Parishes", "causeAt", "(II)I"⟩, 5) := ⟨⟨by decide +kernel, by decide +kernel⟩, List.mem_of_getElem? (i := 144) (by decide +kernel), List.mem_of_getElem? (i := 1212) (by decide +kernel), List.mem_of_getElem? (i := 1213) (by decide +kernel)⟩
theorem lw_p40 : lw_okq (⟨"MagpieAccounts$Parishes", "weakest", "(I)I"⟩, 5) := ⟨⟨by decide +kernel, by decide +kernel⟩, List.mem_of_getElem? (i := 144) (by decide +kernel), List.mem_of_getElem? (i := 1245) (by decide +kernel), List.mem_of_getElem? (i := 1246) (by decide +kernel)⟩
theorem lw_p41 : lw_okq (⟨"MagpieAccounts$Parishes", "firstVotes", "(II)I"⟩, 5) := ⟨⟨by decide +kernel, by decide +kernel⟩, List.mem_of_getElem? (i := 144) (by decide +kernel), List.mem_of_getElem? (i := 1251) (by decide +kernel), List.mem_of_getElem? (i := 1252) (by decide +kernel)⟩
theorem lw_p42 : lw_okq (⟨"MagpieAccounts", "raise", "(II)I"⟩, 11) := ⟨⟨by decide +kernel, by decide +kernel⟩, List.mem_of_getElem? (i := 24) (by decide +kernel), List.mem_of_getElem? (i := 1259) (by decide +kernel), List.mem_of_getElem? (i := 1260) (by decide +kernel)⟩
theorem lw_p43 : lw_okq (⟨"MagpieAccounts", "multiply", "(II)I"⟩, 11) := ⟨⟨by decide +kernel, by decide +kernel⟩, List.mem_of_getElem? (i := 24) (by decide +kernel), List.mem_of_getElem? (i := 1263) (by decide +kernel), List.mem_of_getElem? (i := 1264) (by decide +kernel)⟩
theorem lw_p44 : lw_okq (⟨"MagpieAccounts", "bringsAllTold", "(LMagpieAccounts$Text;)Z"⟩, 11) := ⟨⟨by decide +kernel, by decide +kernel⟩, List.mem_of_getElem? (i := 24) (by decide +kernel), List.mem_of_getElem? (i := 1307) (by decide +kernel), List.mem_of_getElem? (i := 1308) (by decide +kernel)⟩
theorem lw_p45 : lw_okq (⟨"MagpieAccountsModel", "four", "(I)V"⟩, 32) := ⟨⟨by decide +kernel, by decide +kernel⟩, List.mem_of_getElem? (i := 1364) (by decide +kernel), List.mem_of_getElem? (i := 1488) (by decide +kernel), List.mem_of_getElem? (i := 1489) (by decide +kernel)⟩
theorem lw_p46 : lw_okq (⟨"MagpieAccountsModel", "readText", "()I"⟩, 32) := ⟨⟨by decide +kernel, by decide +kernel⟩, List.mem_of_getElem? (i := 1364) (by decide +kernel), List.mem_of_getElem? (i := 1500) (by decide +kernel), List.mem_of_getElem? (i := 1501) (by decide +kernel)⟩
theorem lw_p47 : lw_okq (⟨"MagpieAccountsModel", "nextToken", "()V"⟩, 32) := ⟨⟨by decide +kernel, by decide +kernel⟩, List.mem_of_getElem? (i := 1364) (by decide +kernel), List.mem_of_getElem? (i := 1504) (by decide +kernel), List.mem_of_getElem? (i := 1505) (by decide +kernel)⟩
def lw_privs_3 : List (MethodName × Nat) := [(⟨"MagpieAccounts", "noteChances", "()V"⟩, 11), (⟨"MagpieAccounts", "spreadOver", "(II)V"⟩, 11), (⟨"MagpieAccounts", "bestThinned", "(I)I"⟩, 11), (⟨"MagpieAccounts", "canCome", "(II)Z"⟩, 11), (⟨"MagpieAccounts$Rings", "walked", "(II)I"⟩, 1), (⟨"MagpieAccounts", "leastBound", "(II)I"⟩, 11), (⟨"MagpieAccounts$Parishes", "placeOf", "(II)I"⟩, 5), (⟨"MagpieAccounts$Parishes", "causeAt", "(II)I"⟩, 5), (⟨"MagpieAccounts$Parishes", "weakest", "(I)I"⟩, 5), (⟨"MagpieAccounts$Parishes", "firstVotes", "(II)I"⟩, 5), (⟨"MagpieAccounts", "raise", "(II)I"⟩, 11), (⟨"MagpieAccounts", "multiply", "(II)I"⟩, 11), (⟨"MagpieAccounts", "bringsAllTold", "(LMagpieAccounts$Text;)Z"⟩, 11), (⟨"MagpieAccountsModel", "four", "(I)V"⟩, 32), (⟨"MagpieAccountsModel", "readText", "()I"⟩, 32), (⟨"MagpieAccountsModel", "nextToken", "()V"⟩, 32)]
theorem lw_r3 : ∀ q ∈ lw_privs_3, lw_okq q := List.forall_mem_cons.mpr ⟨lw_p32, List.forall_mem_cons.mpr ⟨lw_p33, List.forall_mem_cons.mpr ⟨lw_p34, List.forall_mem_cons.mpr ⟨lw_p35, List.forall_mem_cons.mpr ⟨lw_p36, List.forall_mem_cons.mpr ⟨lw_p37, List.forall_mem_cons.mpr ⟨lw_p38, List.forall_mem_cons.mpr ⟨lw_p39, List.forall_mem_cons.mpr ⟨lw_p40, List.forall_mem_cons.mpr ⟨lw_p41, List.forall_mem_cons.mpr ⟨lw_p42, List.forall_mem_cons.mpr ⟨lw_p43, List.forall_mem_cons.mpr ⟨lw_p44, List.forall_mem_cons.mpr ⟨lw_p45, List.forall_mem_cons.mpr ⟨lw_p46, List.forall_mem_cons.mpr ⟨lw_p47, fun _ h => absurd h List.not_mem_nil⟩⟩⟩⟩⟩⟩⟩⟩⟩⟩⟩⟩⟩⟩⟩⟩
theorem lw_p48 : lw_okq (⟨"MagpieAccountsModel", "byteAt", "(I)I"⟩, 32) := ⟨⟨by decide +kernel, by decide +kernel⟩, List.mem_of_getElem? (i := 1364) (by decide +kernel), List.mem_of_getElem? (i := 1508) (by decide +kernel), List.mem_of_getElem? (i := 1509) (by decide +kernel)⟩
theorem lw_p49 : lw_okq (⟨"MagpieAccountsModel", "clause", "()I"⟩, 32) := ⟨⟨by decide +kernel, by decide +kernel⟩, List.mem_of_getElem? (i := 1364) (by decide +kernel), List.mem_of_getElem? (i := 1523) (by decide +kernel), List.mem_of_getElem? (i := 1524) (by decide +kernel)⟩
theorem lw_p50 : lw_okq (⟨"MagpieAccountsModel", "sortOf", "()I"⟩, 32) := ⟨⟨by decide +kernel, by decide +kernel⟩, List.mem_of_getElem? (i := 1364) (by decide +kernel), List.mem_of_getElem? (i := 1527) (by decide +kernel), List.mem_of_getElem? (i := 1528) (by decide +kernel)⟩
theorem lw_p51 : lw_okq (⟨"MagpieAccountsModel", "isWord", "(J)Z"⟩, 32) := ⟨⟨by decide +kernel, by decide +kernel⟩, List.mem_of_getElem? (i := 1364) (by decide +kernel), List.mem_of_getElem? (i := 1546) (by decide +kernel), List.mem_of_getElem? (i := 1547) (by decide +kernel)⟩
theorem lw_p52 : lw_okq (⟨"MagpieAccountsModel", "body", "(II)I"⟩, 32) := ⟨⟨by decide +kernel, by decide +kernel⟩, List.mem_of_getElem? (i := 1364) (by decide +kernel), List.mem_of_getElem? (i := 1553) (by decide +kernel), List.mem_of_getElem? (i := 1554) (by decide +kernel)⟩
theorem lw_p53 : lw_okq (⟨"MagpieAccountsModel", "pair", "(IIIJI)I"⟩, 32) := ⟨⟨by decide +kernel, by decide +kernel⟩, List.mem_of_getElem? (i := 1364) (by decide +kernel), List.mem_of_getElem? (i := 1557) (by decide +kernel), List.mem_of_getElem? (i := 1558) (by decide +kernel)⟩
theorem lw_p54 : lw_okq (⟨"MagpieAccountsModel", "figure", "(III)I"⟩, 32) := ⟨⟨by decide +kernel, by decide +kernel⟩, List.mem_of_getElem? (i := 1364) (by decide +kernel), List.mem_of_getElem? (i := 1561) (by decide +kernel), List.mem_of_getElem? (i := 1562) (by decide +kernel)⟩
theorem lw_p55 : lw_okq (⟨"MagpieAccountsModel", "lawClause", "(I)I"⟩, 32) := ⟨⟨by decide +kernel, by decide +kernel⟩, List.mem_of_getElem? (i := 1364) (by decide +kernel), List.mem_of_getElem? (i := 1565) (by decide +kernel), List.mem_of_getElem? (i := 1566) (by decide +kernel)⟩
theorem lw_p56 : lw_okq (⟨"MagpieAccountsModel", "summed", "()I"⟩, 32) := ⟨⟨by decide +kernel, by decide +kernel⟩, List.mem_of_getElem? (i := 1364) (by decide +kernel), List.mem_of_getElem? (i := 1569) (by decide +kernel), List.mem_of_getElem? (i := 1570) (by decide +kernel)⟩
theorem lw_p57 : lw_okq (⟨"MagpieAccountsModel", "behindOne", "()Z"⟩, 32) := ⟨⟨by decide +kernel, by decide +kernel⟩, List.mem_of_getElem? (i := 1364) (by decide +kernel), List.mem_of_getElem? (i := 1573) (by decide +kernel), List.mem_of_getElem? (i := 1574) (by decide +kernel)⟩
theorem lw_p58 : lw_okq (⟨"MagpieAccountsModel", "betweenOf", "()I"⟩, 32) := ⟨⟨by decide +kernel, by decide +kernel⟩, List.mem_of_getElem? (i := 1364) (by decide +kernel), List.mem_of_getElem? (i := 1577) (by decide +kernel), List.mem_of_getElem? (i := 1578) (by decide +kernel)⟩
theorem lw_p59 : lw_okq (⟨"MagpieAccountsModel", "openNow", "()I"⟩, 32) := ⟨⟨by decide +kernel, by decide +kernel⟩, List.mem_of_getElem? (i := 1364) (by decide +kernel), List.mem_of_getElem? (i := 1581) (by decide +kernel), List.mem_of_getElem? (i := 1582) (by decide +kernel)⟩
theorem lw_p60 : lw_okq (⟨"MagpieAccountsModel", "openAt", "()I"⟩, 32) := ⟨⟨by decide +kernel, by decide +kernel⟩, List.mem_of_getElem? (i := 1364) (by decide +kernel), List.mem_of_getElem? (i := 1585) (by decide +kernel), List.mem_of_getElem? (i := 1586) (by decide +kernel)⟩
theorem lw_p61 : lw_okq (⟨"MagpieAccountsModel", "isCompared", "()Z"⟩, 32) := ⟨⟨by decide +kernel, by decide +kernel⟩, List.mem_of_getElem? (i := 1364) (by decide +kernel), List.mem_of_getElem? (i := 1589) (by decide +kernel), List.mem_of_getElem? (i := 1590) (by decide +kernel)⟩
theorem lw_p62 : lw_okq (⟨"MagpieAccountsModel", "compareOf", "()I"⟩, 32) := ⟨⟨by decide +kernel, by decide +kernel⟩, List.mem_of_getElem? (i := 1364) (by decide +kernel), List.mem_of_getElem? (i := 1596) (by decide +kernel), List.mem_of_getElem? (i := 1597) (by decide +kernel)⟩
theorem lw_p63 : lw_okq (⟨"MagpieAccountsModel", "settle", "(I)V"⟩, 32) := ⟨⟨by decide +kernel, by decide +kernel⟩, List.mem_of_getElem? (i := 1364) (by decide +kernel), List.mem_of_getElem? (i := 1600) (by decide +kernel), List.mem_of_getElem? (i := 1601) (by decide +kernel)⟩
def lw_privs_4 : List (MethodName × Nat) := [(⟨"MagpieAccountsModel", "byteAt", "(I)I"⟩, 32), (⟨"MagpieAccountsModel", "clause", "()I"⟩, 32), (⟨"MagpieAccountsModel", "sortOf", "()I"⟩, 32), (⟨"MagpieAccountsModel", "isWord", "(J)Z"⟩, 32), (⟨"MagpieAccountsModel", "body", "(II)I"⟩, 32), (⟨"MagpieAccountsModel", "pair", "(IIIJI)I"⟩, 32), (⟨"MagpieAccountsModel", "figure", "(III)I"⟩, 32), (⟨"MagpieAccountsModel", "lawClause", "(I)I"⟩, 32), (⟨"MagpieAccountsModel", "summed", "()I"⟩, 32), (⟨"MagpieAccountsModel", "behindOne", "()Z"⟩, 32), (⟨"MagpieAccountsModel", "betweenOf", "()I"⟩, 32), (⟨"MagpieAccountsModel", "openNow", "()I"⟩, 32), (⟨"MagpieAccountsModel", "openAt", "()I"⟩, 32), (⟨"MagpieAccountsModel", "isCompared", "()Z"⟩, 32), (⟨"MagpieAccountsModel", "compareOf", "()I"⟩, 32), (⟨"MagpieAccountsModel", "settle", "(I)V"⟩, 32)]
theorem lw_r4 : ∀ q ∈ lw_privs_4, lw_okq q := List.forall_mem_cons.mpr ⟨lw_p48, List.forall_mem_cons.mpr ⟨lw_p49, List.forall_mem_cons.mpr ⟨lw_p50, List.forall_mem_cons.mpr ⟨lw_p51, List.forall_mem_cons.mpr ⟨lw_p52, List.forall_mem_cons.mpr ⟨lw_p53, List.forall_mem_cons.mpr ⟨lw_p54, List.forall_mem_cons.mpr ⟨lw_p55, List.forall_mem_cons.mpr ⟨lw_p56, List.forall_mem_cons.mpr ⟨lw_p57, List.forall_mem_cons.mpr ⟨lw_p58, List.forall_mem_cons.mpr ⟨lw_p59, List.forall_mem_cons.mpr ⟨lw_p60, List.forall_mem_cons.mpr ⟨lw_p61, List.forall_mem_cons.mpr ⟨lw_p62, List.forall_mem_cons.mpr ⟨lw_p63, fun _ h => absurd h List.not_mem_nil⟩⟩⟩⟩⟩⟩⟩⟩⟩⟩⟩⟩⟩⟩⟩⟩
theorem lw_p64 : lw_okq (⟨"MagpieAccountsModel", "emit", "(II)V"⟩, 32) := ⟨⟨by decide +kernel, by decide +kernel⟩, List.mem_of_getElem? (i := 1364) (by decide +kernel), List.mem_of_getElem? (i := 1604) (by decide +kernel), List.mem_of_getElem? (i := 1605) (by decide +kernel)⟩
theorem lw_p65 : lw_okq (⟨"MagpieAccountsModel", "partOf", "(I)I"⟩, 32) := ⟨⟨by decide +kernel, by decide +kernel⟩, List.mem_of_getElem? (i := 1364) (by decide +kernel), List.mem_of_getElem? (i := 1608) (by decide +kernel), List.mem_of_getElem? (i := 1609) (by decide +kernel)⟩
theorem lw_p66 : lw_okq (⟨"MagpieAccountsModel", "beginOne", "()I"⟩, 32) := ⟨⟨by decide +kernel, by decide +kernel⟩, List.mem_of_getElem? (i := 1364) (by decide +kernel), List.mem_of_getElem? (i := 1612) (by decide +kernel), List.mem_of_getElem? (i := 1613) (by decide +kernel)⟩
theorem lw_p67 : lw_okq (⟨"MagpieAccountsModel", "nameOf", "()I"⟩, 32) := ⟨⟨by decide +kernel, by decide +kernel⟩, List.mem_of_getElem? (i := 1364) (by decide +kernel), List.mem_of_getElem? (i := 1616) (by decide +kernel), List.mem_of_getElem? (i := 1617) (by decide +kernel)⟩
theorem lw_p68 : lw_okq (⟨"MagpieAccountsModel", "isOf", "(I)Z"⟩, 32) := ⟨⟨by decide +kernel, by decide +kernel⟩, List.mem_of_getElem? (i := 1364) (by decide +kernel), List.mem_of_getElem? (i := 1620) (by decide +kernel), List.mem_of_getElem? (i := 1621) (by decide +kernel)⟩
theorem lw_p69 : lw_okq (⟨"MagpieAccountsModel", "opened", "(I)I"⟩, 32) := ⟨⟨by decide +kernel, by decide +kernel⟩, List.mem_of_getElem? (i := 1364) (by decide +kernel), List.mem_of_getElem? (i := 1624) (by decide +kernel), List.mem_of_getElem? (i := 1625) (by decide +kernel)⟩
theorem lw_p70 : lw_okq (⟨"MagpieAccountsModel", "isAskAhead", "()Z"⟩, 32) := ⟨⟨by decide +kernel, by decide +kernel⟩, List.mem_of_getElem? (i := 1364) (by decide +kernel), List.mem_of_getElem? (i := 1628) (by decide +kernel), List.mem_of_getElem? (i := 1629) (by decide +kernel)⟩
theorem lw_p71 : lw_okq (⟨"MagpieAccountsModel", "isBird", "(I)Z"⟩, 32) := ⟨⟨by decide +kernel, by decide +kernel⟩, List.mem_of_getElem? (i := 1364) (by decide +kernel), List.mem_of_getElem? (i := 1648) (by decide +kernel), List.mem_of_getElem? (i := 1649) (by decide +kernel)⟩
theorem lw_p72 : lw_okq (⟨"MagpieAccountsModel", "isGone", "(I)Z"⟩, 32) := ⟨⟨by decide +kernel, by decide +kernel⟩, List.mem_of_getElem? (i := 1364) (by decide +kernel), List.mem_of_getElem? (i := 1652) (by decide +kernel), List.mem_of_getElem? (i := 1653) (by decide +kernel)⟩
theorem lw_p73 : lw_okq (⟨"MagpieAccountsModel", "keep", "()V"⟩, 32) := ⟨⟨by decide +kernel, by decide +kernel⟩, List.mem_of_getElem? (i := 1364) (by decide +kernel), List.mem_of_getElem? (i := 1656) (by decide +kernel), List.mem_of_getElem? (i := 1657) (by decide +kernel)⟩
theorem lw_p74 : lw_okq (⟨"MagpieAccountsModel", "canGrant", "(I)Z"⟩, 32) := ⟨⟨by decide +kernel, by decide +kernel⟩, List.mem_of_getElem? (i := 1364) (by decide +kernel), List.mem_of_getElem? (i := 1668) (by decide +kernel), List.mem_of_getElem? (i := 1669) (by decide +kernel)⟩
theorem lw_p75 : lw_okq (⟨"MagpieAccountsModel", "arePassed", "(I)Z"⟩, 32) := ⟨⟨by decide +kernel, by decide +kernel⟩, List.mem_of_getElem? (i := 1364) (by decide +kernel), List.mem_of_getElem? (i := 1676) (by decide +kernel), List.mem_of_getElem? (i := 1677) (by decide +kernel)⟩
theorem lw_p76 : lw_okq (⟨"MagpieAccountsModel", "pass", "()V"⟩, 32) := ⟨⟨by decide +kernel, by decide +kernel⟩, List.mem_of_getElem? (i := 1364) (by decide +kernel), List.mem_of_getElem? (i := 1680) (by decide +kernel), List.mem_of_getElem? (i := 1681) (by decide +kernel)⟩
theorem lw_p77 : lw_okq (⟨"MagpieAccountsModel", "dueNow", "()I"⟩, 32) := ⟨⟨by decide +kernel, by decide +kernel⟩, List.mem_of_getElem? (i := 1364) (by decide +kernel), List.mem_of_getElem? (i := 1684) (by decide +kernel), List.mem_of_getElem? (i := 1685) (by decide +kernel)⟩
theorem lw_p78 : lw_okq (⟨"MagpieAccountsModel", "dueBy", "(I)I"⟩, 32) := ⟨⟨by decide +kernel, by decide +kernel⟩, List.mem_of_getElem? (i := 1364) (by decide +kernel), List.mem_of_getElem? (i := 1688) (by decide +kernel), List.mem_of_getElem? (i := 1689) (by decide +kernel)⟩
theorem lw_p79 : lw_okq (⟨"MagpieAccountsModel", "isDue", "(II)Z"⟩, 32) := ⟨⟨by decide +kernel, by decide +kernel⟩, List.mem_of_getElem? (i := 1364) (by decide +kernel), List.mem_of_getElem? (i := 1692) (by decide +kernel), List.mem_of_getElem? (i := 1693) (by decide +kernel)⟩
def lw_privs_5 : List (MethodName × Nat) := [(⟨"MagpieAccountsModel", "emit", "(II)V"⟩, 32), (⟨"MagpieAccountsModel", "partOf", "(I)I"⟩, 32), (⟨"MagpieAccountsModel", "beginOne", "()I"⟩, 32), (⟨"MagpieAccountsModel", "nameOf", "()I"⟩, 32), (⟨"MagpieAccountsModel", "isOf", "(I)Z"⟩, 32), (⟨"MagpieAccountsModel", "opened", "(I)I"⟩, 32), (⟨"MagpieAccountsModel", "isAskAhead", "()Z"⟩, 32), (⟨"MagpieAccountsModel", "isBird", "(I)Z"⟩, 32), (⟨"MagpieAccountsModel", "isGone", "(I)Z"⟩, 32), (⟨"MagpieAccountsModel", "keep", "()V"⟩, 32), (⟨"MagpieAccountsModel", "canGrant", "(I)Z"⟩, 32), (⟨"MagpieAccountsModel", "arePassed", "(I)Z"⟩, 32), (⟨"MagpieAccountsModel", "pass", "()V"⟩, 32), (⟨"MagpieAccountsModel", "dueNow", "()I"⟩, 32), (⟨"MagpieAccountsModel", "dueBy", "(I)I"⟩, 32), (⟨"MagpieAccountsModel", "isDue", "(II)Z"⟩, 32)]
theorem lw_r5 : ∀ q ∈ lw_privs_5, lw_okq q := List.forall_mem_cons.mpr ⟨lw_p64, List.forall_mem_cons.mpr ⟨lw_p65, List.forall_mem_cons.mpr ⟨lw_p66, List.forall_mem_cons.mpr ⟨lw_p67, List.forall_mem_cons.mpr ⟨lw_p68, List.forall_mem_cons.mpr ⟨lw_p69, List.forall_mem_cons.mpr ⟨lw_p70, List.forall_mem_cons.mpr ⟨lw_p71, List.forall_mem_cons.mpr ⟨lw_p72, List.forall_mem_cons.mpr ⟨lw_p73, List.forall_mem_cons.mpr ⟨lw_p74, List.forall_mem_cons.mpr ⟨lw_p75, List.forall_mem_cons.mpr ⟨lw_p76, List.forall_mem_cons.mpr ⟨lw_p77, List.forall_mem_cons.mpr ⟨lw_p78, List.forall_mem_cons.mpr ⟨lw_p79, fun _ h => absurd h List.not_mem_nil⟩⟩⟩⟩⟩⟩⟩⟩⟩⟩⟩⟩⟩⟩⟩⟩
theorem lw_p80 : lw_okq (⟨"MagpieAccountsModel", "drawnBy", "(I)I"⟩, 32) := ⟨⟨by decide +kernel, by decide +kernel⟩, List.mem_of_getElem? (i := 1364) (by decide +kernel), List.mem_of_getElem? (i := 1696) (by decide +kernel), List.mem_of_getElem? (i := 1697) (by decide +kernel)⟩
theorem lw_p81 : lw_okq (⟨"MagpieAccountsModel", "anew", "()V"⟩, 32) := ⟨⟨by decide +kernel, by decide +kernel⟩, List.mem_of_getElem? (i := 1364) (by decide +kernel), List.mem_of_getElem? (i := 1700) (by decide +kernel), List.mem_of_getElem? (i := 1701) (by decide +kernel)⟩
theorem lw_p82 : lw_okq (⟨"MagpieAccountsModel", "chanceOf", "(I)I"⟩, 32) := ⟨⟨by decide +kernel, by decide +kernel⟩, List.mem_of_getElem? (i := 1364) (by decide +kernel), List.mem_of_getElem? (i := 1707) (by decide +kernel), List.mem_of_getElem? (i := 1708) (by decide +kernel)⟩
theorem lw_p83 : lw_okq (⟨"MagpieAccountsModel", "name", "()V"⟩, 32) := ⟨⟨by decide +kernel, by decide +kernel⟩, List.mem_of_getElem? (i := 1364) (by decide +kernel), List.mem_of_getElem? (i := 1711) (by decide +kernel), List.mem_of_getElem? (i := 1712) (by decide +kernel)⟩
theorem lw_p84 : lw_okq (⟨"MagpieAccountsModel", "says", "(IIIII)I"⟩, 32) := ⟨⟨by decide +kernel, by decide +kernel⟩, List.mem_of_getElem? (i := 1364) (by decide +kernel), List.mem_of_getElem? (i := 1718) (by decide +kernel), List.mem_of_getElem? (i := 1719) (by decide +kernel)⟩
theorem lw_p85 : lw_okq (⟨"MagpieAccountsModel", "summedUp", "(II)J"⟩, 32) := ⟨⟨by decide +kernel, by decide +kernel⟩, List.mem_of_getElem? (i := 1364) (by decide +kernel), List.mem_of_getElem? (i := 1722) (by decide +kernel), List.mem_of_getElem? (i := 1723) (by decide +kernel)⟩
theorem lw_p86 : lw_okq (⟨"MagpieAccountsModel", "ofOne", "(IJ)J"⟩, 32) := ⟨⟨by decide +kernel, by decide +kernel⟩, List.mem_of_getElem? (i := 1364) (by decide +kernel), List.mem_of_getElem? (i := 1726) (by decide +kernel), List.mem_of_getElem? (i := 1727) (by decide +kernel)⟩
theorem lw_p87 : lw_okq (⟨"MagpieAccountsModel", "bringsOf", "(II)I"⟩, 32) := ⟨⟨by decide +kernel, by decide +kernel⟩, List.mem_of_getElem? (i := 1364) (by decide +kernel), List.mem_of_getElem? (i := 1748) (by decide +kernel), List.mem_of_getElem? (i := 1749) (by decide +kernel)⟩
theorem lw_p88 : lw_okq (⟨"MagpieAccountsModel", "write", "(II)V"⟩, 32) := ⟨⟨by decide +kernel, by decide +kernel⟩, List.mem_of_getElem? (i := 1364) (by decide +kernel), List.mem_of_getElem? (i := 1752) (by decide +kernel), List.mem_of_getElem? (i := 1753) (by decide +kernel)⟩
theorem lw_p89 : lw_okq (⟨"MagpieAccountsModel", "isPlayed", "(I)Z"⟩, 32) := ⟨⟨by decide +kernel, by decide +kernel⟩, List.mem_of_getElem? (i := 1364) (by decide +kernel), List.mem_of_getElem? (i := 1760) (by decide +kernel), List.mem_of_getElem? (i := 1761) (by decide +kernel)⟩
theorem lw_p90 : lw_okq (⟨"MagpieAccountsModel", "happens", "(I)V"⟩, 32) := ⟨⟨by decide +kernel, by decide +kernel⟩, List.mem_of_getElem? (i := 1364) (by decide +kernel), List.mem_of_getElem? (i := 1773) (by decide +kernel), List.mem_of_getElem? (i := 1774) (by decide +kernel)⟩
theorem lw_p91 : lw_okq (⟨"MagpieAccountsModel", "lineOf", "(II)I"⟩, 32) := ⟨⟨by decide +kernel, by decide +kernel⟩, List.mem_of_getElem? (i := 1364) (by decide +kernel), List.mem_of_getElem? (i := 1798) (by decide +kernel), List.mem_of_getElem? (i := 1799) (by decide +kernel)⟩
theorem lw_p92 : lw_okq (⟨"MagpieAccountsModel", "layRows", "(I)J"⟩, 32) := ⟨⟨by decide +kernel, by decide +kernel⟩, List.mem_of_getElem? (i := 1364) (by decide +kernel), List.mem_of_getElem? (i := 1823) (by decide +kernel), List.mem_of_getElem? (i := 1824) (by decide +kernel)⟩
theorem lw_p93 : lw_okq (⟨"MagpieAccountsModel", "noRows", "()V"⟩, 32) := ⟨⟨by decide +kernel, by decide +kernel⟩, List.mem_of_getElem? (i := 1364) (by decide +kernel), List.mem_of_getElem? (i := 1827) (by decide +kernel), List.mem_of_getElem? (i := 1828) (by decide +kernel)⟩
theorem lw_p94 : lw_okq (⟨"MagpieAccountsModel", "oneMore", "(I)V"⟩, 32) := ⟨⟨by decide +kernel, by decide +kernel⟩, List.mem_of_getElem? (i := 1364) (by decide +kernel), List.mem_of_getElem? (i := 1831) (by decide +kernel), List.mem_of_getElem? (i := 1832) (by decide +kernel)⟩
theorem lw_p95 : lw_okq (⟨"MagpieAccountsModel", "isHabit", "(II)Z"⟩, 32) := ⟨⟨by decide +kernel, by decide +kernel⟩, List.mem_of_getElem? (i := 1364) (by decide +kernel), List.mem_of_getElem? (i := 1859) (by decide +kernel), List.mem_of_getElem? (i := 1860) (by decide +kernel)⟩
def lw_privs_6 : List (MethodName × Nat) := [(⟨"MagpieAccountsModel", "drawnBy", "(I)I"⟩, 32), (⟨"MagpieAccountsModel", "anew", "()V"⟩, 32), (⟨"MagpieAccountsModel", "chanceOf", "(I)I"⟩, 32), (⟨"MagpieAccountsModel", "name", "()V"⟩, 32), (⟨"MagpieAccountsModel", "says", "(IIIII)I"⟩, 32), (⟨"MagpieAccountsModel", "summedUp", "(II)J"⟩, 32), (⟨"MagpieAccountsModel", "ofOne", "(IJ)J"⟩, 32), (⟨"MagpieAccountsModel", "bringsOf", "(II)I"⟩, 32), (⟨"MagpieAccountsModel", "write", "(II)V"⟩, 32), (⟨"MagpieAccountsModel", "isPlayed", "(I)Z"⟩, 32), (⟨"MagpieAccountsModel", "happens", "(I)V"⟩, 32), (⟨"MagpieAccountsModel", "lineOf", "(II)I"⟩, 32), (⟨"MagpieAccountsModel", "layRows", "(I)J"⟩, 32), (⟨"MagpieAccountsModel", "noRows", "()V"⟩, 32), (⟨"MagpieAccountsModel", "oneMore", "(I)V"⟩, 32), (⟨"MagpieAccountsModel", "isHabit", "(II)Z"⟩, 32)]
theorem lw_r6 : ∀ q ∈ lw_privs_6, lw_okq q := List.forall_mem_cons.mpr ⟨lw_p80, List.forall_mem_cons.mpr ⟨lw_p81, List.forall_mem_cons.mpr ⟨lw_p82, List.forall_mem_cons.mpr ⟨lw_p83, List.forall_mem_cons.mpr ⟨lw_p84, List.forall_mem_cons.mpr ⟨lw_p85, List.forall_mem_cons.mpr ⟨lw_p86, List.forall_mem_cons.mpr ⟨lw_p87, List.forall_mem_cons.mpr ⟨lw_p88, List.forall_mem_cons.mpr ⟨lw_p89, List.forall_mem_cons.mpr ⟨lw_p90, List.forall_mem_cons.mpr ⟨lw_p91, List.forall_mem_cons.mpr ⟨lw_p92, List.forall_mem_cons.mpr ⟨lw_p93, List.forall_mem_cons.mpr ⟨lw_p94, List.forall_mem_cons.mpr ⟨lw_p95, fun _ h => absurd h List.not_mem_nil⟩⟩⟩⟩⟩⟩⟩⟩⟩⟩⟩⟩⟩⟩⟩⟩
theorem lw_p96 : lw_okq (⟨"MagpieAccountsModel", "firstHabit", "()I"⟩, 32) := ⟨⟨by decide +kernel, by decide +kernel⟩, List.mem_of_getElem? (i := 1364) (by decide +kernel), List.mem_of_getElem? (i := 1867) (by decide +kernel), List.mem_of_getElem? (i := 1868) (by decide +kernel)⟩
theorem lw_p97 : lw_okq (⟨"MagpieAccountsModel", "ringOf", "(I)I"⟩, 32) := ⟨⟨by decide +kernel, by decide +kernel⟩, List.mem_of_getElem? (i := 1364) (by decide +kernel), List.mem_of_getElem? (i := 1899) (by decide +kernel), List.mem_of_getElem? (i := 1900) (by decide +kernel)⟩
theorem lw_p98 : lw_okq (⟨"MagpieAccountsModel", "afterOf", "(II)I"⟩, 32) := ⟨⟨by decide +kernel, by decide +kernel⟩, List.mem_of_getElem? (i := 1364) (by decide +kernel), List.mem_of_getElem? (i := 1903) (by decide +kernel), List.mem_of_getElem? (i := 1904) (by decide +kernel)⟩
theorem lw_p99 : lw_okq (⟨"MagpieAccountsModel", "layTest", "(II)J"⟩, 32) := ⟨⟨by decide +kernel, by decide +kernel⟩, List.mem_of_getElem? (i := 1364) (by decide +kernel), List.mem_of_getElem? (i := 1923) (by decide +kernel), List.mem_of_getElem? (i := 1924) (by decide +kernel)⟩
theorem lw_p100 : lw_okq (⟨"MagpieAccountsModel", "rowsFrom", "(I)J"⟩, 32) := ⟨⟨by decide +kernel, by decide +kernel⟩, List.mem_of_getElem? (i := 1364) (by decide +kernel), List.mem_of_getElem? (i := 1927) (by decide +kernel), List.mem_of_getElem? (i := 1928) (by decide +kernel)⟩
theorem lw_p101 : lw_okq (⟨"MagpieAccountsModel", "areSeats", "(I)Z"⟩, 32) := ⟨⟨by decide +kernel, by decide +kernel⟩, List.mem_of_getElem? (i := 1364) (by decide +kernel), List.mem_of_getElem? (i := 1950) (by decide +kernel), List.mem_of_getElem? (i := 1951) (by decide +kernel)⟩
theorem lw_p102 : lw_okq (⟨"MagpieAccountsModel", "allVotes", "()I"⟩, 32) := ⟨⟨by decide +kernel, by decide +kernel⟩, List.mem_of_getElem? (i := 1364) (by decide +kernel), List.mem_of_getElem? (i := 1954) (by decide +kernel), List.mem_of_getElem? (i := 1955) (by decide +kernel)⟩
theorem lw_p103 : lw_okq (⟨"MagpieAccountsModel", "laySeats", "(I)V"⟩, 32) := ⟨⟨by decide +kernel, by decide +kernel⟩, List.mem_of_getElem? (i := 1364) (by decide +kernel), List.mem_of_getElem? (i := 1958) (by decide +kernel), List.mem_of_getElem? (i := 1959) (by decide +kernel)⟩
theorem lw_p104 : lw_okq (⟨"MagpieAccountsModel", "isAhead", "(II)Z"⟩, 32) := ⟨⟨by decide +kernel, by decide +kernel⟩, List.mem_of_getElem? (i := 1364) (by decide +kernel), List.mem_of_getElem? (i := 1962) (by decide +kernel), List.mem_of_getElem? (i := 1963) (by decide +kernel)⟩
theorem lw_p105 : lw_okq (⟨"MagpieAccountsModel", "doesBeat", "(II)Z"⟩, 32) := ⟨⟨by decide +kernel, by decide +kernel⟩, List.mem_of_getElem? (i := 1364) (by decide +kernel), List.mem_of_getElem? (i := 1981) (by decide +kernel), List.mem_of_getElem? (i := 1982) (by decide +kernel)⟩
theorem lw_p106 : lw_okq (⟨"MagpieAccountsModel", "placeBy", "(II)I"⟩, 32) := ⟨⟨by decide +kernel, by decide +kernel⟩, List.mem_of_getElem? (i := 1364) (by decide +kernel), List.mem_of_getElem? (i := 1985) (by decide +kernel), List.mem_of_getElem? (i := 1986) (by decide +kernel)⟩
theorem lw_p107 : lw_okq (⟨"MagpieAccountsModel", "firstVotes", "(II)I"⟩, 32) := ⟨⟨by decide +kernel, by decide +kernel⟩, List.mem_of_getElem? (i := 1364) (by decide +kernel), List.mem_of_getElem? (i := 2007) (by decide +kernel), List.mem_of_getElem? (i := 2008) (by decide +kernel)⟩
theorem lw_p108 : lw_okq (⟨"MagpieAccountsModel", "layFigures", "(II)I"⟩, 32) := ⟨⟨by decide +kernel, by decide +kernel⟩, List.mem_of_getElem? (i := 1364) (by decide +kernel), List.mem_of_getElem? (i := 2018) (by decide +kernel), List.mem_of_getElem? (i := 2019) (by decide +kernel)⟩
theorem lw_p109 : lw_okq (⟨"MagpieAccountsModel", "layWins", "(I)V"⟩, 32) := ⟨⟨by decide +kernel, by decide +kernel⟩, List.mem_of_getElem? (i := 1364) (by decide +kernel), List.mem_of_getElem? (i := 2042) (by decide +kernel), List.mem_of_getElem? (i := 2043) (by decide +kernel)⟩
theorem lw_p110 : lw_okq (⟨"MagpieAccountsModel", "takeOf", "(II)I"⟩, 32) := ⟨⟨by decide +kernel, by decide +kernel⟩, List.mem_of_getElem? (i := 1364) (by decide +kernel), List.mem_of_getElem? (i := 2049) (by decide +kernel), List.mem_of_getElem? (i := 2050) (by decide +kernel)⟩
def lw_privs_7 : List (MethodName × Nat) := [(⟨"MagpieAccountsModel", "firstHabit", "()I"⟩, 32), (⟨"MagpieAccountsModel", "ringOf", "(I)I"⟩, 32), (⟨"MagpieAccountsModel", "afterOf", "(II)I"⟩, 32), (⟨"MagpieAccountsModel", "layTest", "(II)J"⟩, 32), (⟨"MagpieAccountsModel", "rowsFrom", "(I)J"⟩, 32), (⟨"MagpieAccountsModel", "areSeats", "(I)Z"⟩, 32), (⟨"MagpieAccountsModel", "allVotes", "()I"⟩, 32), (⟨"MagpieAccountsModel", "laySeats", "(I)V"⟩, 32), (⟨"MagpieAccountsModel", "isAhead", "(II)Z"⟩, 32), (⟨"MagpieAccountsModel", "doesBeat", "(II)Z"⟩, 32), (⟨"MagpieAccountsModel", "placeBy", "(II)I"⟩, 32), (⟨"MagpieAccountsModel", "firstVotes", "(II)I"⟩, 32), (⟨"MagpieAccountsModel", "layFigures", "(II)I"⟩, 32), (⟨"MagpieAccountsModel", "layWins", "(I)V"⟩, 32), (⟨"MagpieAccountsModel", "takeOf", "(II)I"⟩, 32)]
theorem lw_r7 : ∀ q ∈ lw_privs_7, lw_okq q := List.forall_mem_cons.mpr ⟨lw_p96, List.forall_mem_cons.mpr ⟨lw_p97, List.forall_mem_cons.mpr ⟨lw_p98, List.forall_mem_cons.mpr ⟨lw_p99, List.forall_mem_cons.mpr ⟨lw_p100, List.forall_mem_cons.mpr ⟨lw_p101, List.forall_mem_cons.mpr ⟨lw_p102, List.forall_mem_cons.mpr ⟨lw_p103, List.forall_mem_cons.mpr ⟨lw_p104, List.forall_mem_cons.mpr ⟨lw_p105, List.forall_mem_cons.mpr ⟨lw_p106, List.forall_mem_cons.mpr ⟨lw_p107, List.forall_mem_cons.mpr ⟨lw_p108, List.forall_mem_cons.mpr ⟨lw_p109, List.forall_mem_cons.mpr ⟨lw_p110, fun _ h => absurd h List.not_mem_nil⟩⟩⟩⟩⟩⟩⟩⟩⟩⟩⟩⟩⟩⟩⟩
def lw_privs : List (MethodName × Nat) := lw_privs_1 ++ (lw_privs_2 ++ (lw_privs_3 ++ (lw_privs_4 ++ (lw_privs_5 ++ (lw_privs_6 ++ (lw_privs_7))))))
def lw_tbl : List Cond := k2_sels lw_privs ++ tables_1
theorem lw_privs_ok : ∀ q ∈ lw_privs, lw_okq q := by
  show ∀ q ∈ lw_privs_1 ++ (lw_privs_2 ++ (lw_privs_3 ++ (lw_privs_4 ++ (lw_privs_5 ++ (lw_privs_6 ++ (lw_privs_7)))))), lw_okq q
  exact List.forall_mem_append.mpr ⟨lw_r1, List.forall_mem_append.mpr ⟨lw_r2, List.forall_mem_append.mpr ⟨lw_r3, List.forall_mem_append.mpr ⟨lw_r4, List.forall_mem_append.mpr ⟨lw_r5, List.forall_mem_append.mpr ⟨lw_r6, lw_r7⟩⟩⟩⟩⟩⟩
-- ===== end of PART A; then your names; then what follows =====
end
section
/-! ===== BEGIN words of one list among another's, by their places ===== -/
theorem goodIn_r {big : List Cond} (ws : List Cond) (ps : List Nat) (hp : ws = ps.filterMap (fun i => big[i]?)) (h : ws.all goodWord = true) : GoodIn big ws := by
  intro w hw
  have h1 := List.all_eq_true.mp h w hw
  rw [hp] at hw
  obtain ⟨i, -, hi⟩ := List.mem_filterMap.mp hw
  have hm : w ∈ big := by first | exact List.mem_of_getElem? hi | exact List.getElem?_mem hi
  exact ⟨hm, good_of_word h1⟩
theorem goodIn_app {big a b : List Cond} (ha : GoodIn big a) (hb : GoodIn big b) : GoodIn big (a ++ b) := fun w h => (List.mem_append.mp h).elim (ha w) (hb w)

/-! ===== BEGIN printed: names, fields, word lists, decode rows ===== -/
def RX0 : String := "MagpieAccounts$County"
def TX0 : u_T := fun k => match k with
  | 0 => ("MagpieAccounts$County", "now", "LMagpieAccounts$Moment;", true)
  | 1 => ("MagpieAccounts$County", "steps", "LMagpieAccounts$Steps;", true)
  | 2 => ("MagpieAccounts$County", "periods", "[I", true)
  | 3 => ("MagpieAccounts$County", "phases", "[I", true)
  | 4 => ("MagpieAccounts$County", "odds", "[I", true)
  | 5 => ("MagpieAccounts$County", "birds", "I", false)
  | 6 => ("MagpieAccounts$County", "rhymes", "[I", true)
  | 7 => ("MagpieAccounts$County", "texts", "[LMagpieAccounts$Text;", true)
  | 8 => ("MagpieAccounts$County", "textsRead", "I", false)
  | 9 => ("MagpieAccounts$County", "ruling", "I", false)
  | 10 => ("MagpieAccounts$County", "mornings", "LMagpieAccounts$Mornings;", true)
  | 11 => ("MagpieAccounts$County", "rings", "LMagpieAccounts$Rings;", true)
  | 12 => ("MagpieAccounts$County", "parishes", "LMagpieAccounts$Parishes;", true)
  | 13 => ("MagpieAccounts$County", "toldCounts", "[I", true)
  | 14 => ("MagpieAccounts$County", "toldBrings", "[I", true)
  | _ => ("MagpieAccounts$County", "tolds", "I", false)
def tyX0 : Nat → FieldType := fun k => match k with
  | 0 => .object "MagpieAccounts$Moment"
  | 1 => .object "MagpieAccounts$Steps"
  | 2 => .array .int
  | 3 => .array .int
  | 4 => .array .int
  | 5 => .int
  | 6 => .array .int
  | 7 => .array (.object "MagpieAccounts$Text")
  | 8 => .int
  | 9 => .int
  | 10 => .object "MagpieAccounts$Mornings"
  | 11 => .object "MagpieAccounts$Rings"
  | 12 => .object "MagpieAccounts$Parishes"
  | 13 => .array .int
  | 14 => .array .int
  | _ => .int
abbrev wsX00 : List Cond := u_ws RX0 TX0 16
theorem nmX0 : ∀ a, a < 16 → ∀ b, b < 16 → a ≠ b → (TX0 a).2.1 ≠ (TX0 b).2.1 := by decide +kernel
theorem tyX0_ok : ∀ k, k < 16 → parseFieldDescriptor (TX0 k).2.2.1 = some (tyX0 k) := by decide +kernel
abbrev cX0_init : ByteArray := prog_2_method_1_code
def yX0_init : MethodName := ⟨RX0, "<init>", "()V"⟩
abbrev cX0_copy : ByteArray := prog_2_method_2_code
def yX0_copy : MethodName := ⟨RX0, "copy", "(LMagpieAccounts$County;)V"⟩
abbrev cX0_addBird : ByteArray := prog_2_method_3_code
def yX0_addBird : MethodName := ⟨RX0, "addBird", "(III)I"⟩
abbrev cX0_addText : ByteArray := prog_2_method_4_code
def yX0_addText : MethodName := ⟨RX0, "addText", "(LMagpieAccounts$Text;)I"⟩
abbrev cX0_addTold : ByteArray := prog_2_method_5_code
def yX0_addTold : MethodName := ⟨RX0, "addTold", "(II)I"⟩
abbrev cX0_hasBird : ByteArray := prog_2_method_6_code
def yX0_hasBird : MethodName := ⟨RX0, "hasBird", "(I)Z"⟩
abbrev cX0_hasText : ByteArray := prog_2_method_7_code
def yX0_hasText : MethodName := ⟨RX0, "hasText", "(I)Z"⟩
abbrev cX0_textAt : ByteArray := prog_2_method_8_code
def yX0_textAt : MethodName := ⟨RX0, "textAt", "(I)LMagpieAccounts$Text;"⟩
abbrev cX0_rulingText : ByteArray := prog_2_method_9_code
def yX0_rulingText : MethodName := ⟨RX0, "rulingText", "()LMagpieAccounts$Text;"⟩
abbrev cX0_isDue : ByteArray := prog_2_method_10_code
def yX0_isDue : MethodName := ⟨RX0, "isDue", "(II)Z"⟩
abbrev cX0_dueOn : ByteArray := prog_2_method_11_code
def yX0_dueOn : MethodName := ⟨RX0, "dueOn", "(I)I"⟩
abbrev cX0_canThin : ByteArray := prog_2_method_12_code
def yX0_canThin : MethodName := ⟨RX0, "canThin", "(I)Z"⟩
abbrev cX0_canCall : ByteArray := prog_2_method_13_code
def yX0_canCall : MethodName := ⟨RX0, "canCall", "(I)Z"⟩
abbrev cX0_canGrant : ByteArray := prog_2_method_14_code
def yX0_canGrant : MethodName := ⟨RX0, "canGrant", "(I)Z"⟩
abbrev cX0_canPass : ByteArray := prog_2_method_15_code
def yX0_canPass : MethodName := ⟨RX0, "canPass", "()Z"⟩
def RX1 : String := "MagpieAccounts$Laws"
def TX1 : u_T := fun k => match k with
  | 0 => ("MagpieAccounts$Laws", "county", "LMagpieAccounts$County;", true)
  | 1 => ("MagpieAccounts$Laws", "pile", "[I", true)
  | 2 => ("MagpieAccounts$Laws", "bird", "I", false)
  | _ => ("MagpieAccounts$Laws", "count", "I", false)
def tyX1 : Nat → FieldType := fun k => match k with
  | 0 => .object "MagpieAccounts$County"
  | 1 => .array .int
  | 2 => .int
  | _ => .int
abbrev wsX10 : List Cond := u_ws RX1 TX1 4
theorem nmX1 : ∀ a, a < 4 → ∀ b, b < 4 → a ≠ b → (TX1 a).2.1 ≠ (TX1 b).2.1 := by decide +kernel
theorem tyX1_ok : ∀ k, k < 4 → parseFieldDescriptor (TX1 k).2.2.1 = some (tyX1 k) := by decide +kernel
abbrev cX1_init : ByteArray := prog_3_method_1_code
def yX1_init : MethodName := ⟨RX1, "<init>", "()V"⟩
abbrev cX1_chanceOf : ByteArray := prog_3_method_2_code
def yX1_chanceOf : MethodName := ⟨RX1, "chanceOf", "(I)I"⟩
abbrev cX1_broughtBy : ByteArray := prog_3_method_3_code
def yX1_broughtBy : MethodName := ⟨RX1, "broughtBy", "(LMagpieAccounts$Text;I)I"⟩
abbrev cX1_run : ByteArray := prog_3_method_4_code
def yX1_run : MethodName := ⟨RX1, "run", "(LMagpieAccounts$Text;II)I"⟩
abbrev cX1_isOfOne : ByteArray := prog_3_method_5_code
def yX1_isOfOne : MethodName := ⟨RX1, "isOfOne", "(I)Z"⟩
abbrev cX1_isOfTwo : ByteArray := prog_3_method_6_code
def yX1_isOfTwo : MethodName := ⟨RX1, "isOfTwo", "(I)Z"⟩
abbrev cX1_named : ByteArray := prog_3_method_7_code
def yX1_named : MethodName := ⟨RX1, "named", "(I)I"⟩
abbrev cX1_ofOne : ByteArray := prog_3_method_8_code
def yX1_ofOne : MethodName := ⟨RX1, "ofOne", "(II)I"⟩
abbrev cX1_ofTwo : ByteArray := prog_3_method_9_code
def yX1_ofTwo : MethodName := ⟨RX1, "ofTwo", "(III)I"⟩
abbrev cX1_isSo : ByteArray := prog_3_method_10_code
def yX1_isSo : MethodName := ⟨RX1, "isSo", "(III)Z"⟩
def RX2 : String := "MagpieAccounts$Moment"
def TX2 : u_T := fun k => match k with
  | 0 => ("MagpieAccounts$Moment", "gone", "I", false)
  | 1 => ("MagpieAccounts$Moment", "fund", "I", false)
  | 2 => ("MagpieAccounts$Moment", "count", "I", false)
  | 3 => ("MagpieAccounts$Moment", "thing", "I", false)
  | 4 => ("MagpieAccounts$Moment", "day", "I", false)
  | 5 => ("MagpieAccounts$Moment", "x", "I", false)
  | 6 => ("MagpieAccounts$Moment", "came", "[I", true)
  | 7 => ("MagpieAccounts$Moment", "book", "[I", true)
  | _ => ("MagpieAccounts$Moment", "pages", "I", false)
def tyX2 : Nat → FieldType := fun k => match k with
  | 0 => .int
  | 1 => .int
  | 2 => .int
  | 3 => .int
  | 4 => .int
  | 5 => .int
  | 6 => .array .int
  | 7 => .array .int
  | _ => .int
abbrev wsX20 : List Cond := u_ws RX2 TX2 9
theorem nmX2 : ∀ a, a < 9 → ∀ b, b < 9 → a ≠ b → (TX2 a).2.1 ≠ (TX2 b).2.1 := by decide +kernel
theorem tyX2_ok : ∀ k, k < 9 → parseFieldDescriptor (TX2 k).2.2.1 = some (tyX2 k) := by decide +kernel
abbrev cX2_init : ByteArray := prog_4_method_1_code
def yX2_init : MethodName := ⟨RX2, "<init>", "()V"⟩
abbrev cX2_copy : ByteArray := prog_4_method_2_code
def yX2_copy : MethodName := ⟨RX2, "copy", "(LMagpieAccounts$Moment;)V"⟩
abbrev cX2_isGone : ByteArray := prog_4_method_3_code
def yX2_isGone : MethodName := ⟨RX2, "isGone", "(I)Z"⟩
abbrev cX2_markGone : ByteArray := prog_4_method_4_code
def yX2_markGone : MethodName := ⟨RX2, "markGone", "(I)V"⟩
abbrev cX2_markBack : ByteArray := prog_4_method_5_code
def yX2_markBack : MethodName := ⟨RX2, "markBack", "(I)V"⟩
abbrev cX2_noteCame : ByteArray := prog_4_method_6_code
def yX2_noteCame : MethodName := ⟨RX2, "noteCame", "(I)V"⟩
abbrev cX2_draw : ByteArray := prog_4_method_7_code
def yX2_draw : MethodName := ⟨RX2, "draw", "()I"⟩
abbrev cX2_write : ByteArray := prog_4_method_8_code
def yX2_write : MethodName := ⟨RX2, "write", "(I)V"⟩
abbrev cX2_onPage : ByteArray := prog_4_method_9_code
def yX2_onPage : MethodName := ⟨RX2, "onPage", "(II)I"⟩
abbrev cX2_countWritten : ByteArray := prog_4_method_10_code
def yX2_countWritten : MethodName := ⟨RX2, "countWritten", "(I)I"⟩
def RX3 : String := "MagpieAccounts$Mornings"
def TX3 : u_T := fun k => match k with
  | 0 => ("MagpieAccounts$Mornings", "days", "[I", true)
  | 1 => ("MagpieAccounts$Mornings", "came", "[Z", true)
  | _ => ("MagpieAccounts$Mornings", "many", "I", false)
def tyX3 : Nat → FieldType := fun k => match k with
  | 0 => .array .int
  | 1 => .array .boolean
  | _ => .int
abbrev wsX30 : List Cond := u_ws RX3 TX3 3
theorem nmX3 : ∀ a, a < 3 → ∀ b, b < 3 → a ≠ b → (TX3 a).2.1 ≠ (TX3 b).2.1 := by decide +kernel
theorem tyX3_ok : ∀ k, k < 3 → parseFieldDescriptor (TX3 k).2.2.1 = some (tyX3 k) := by decide +kernel
abbrev cX3_init : ByteArray := prog_5_method_1_code
def yX3_init : MethodName := ⟨RX3, "<init>", "()V"⟩
abbrev cX3_copy : ByteArray := prog_5_method_2_code
def yX3_copy : MethodName := ⟨RX3, "copy", "(LMagpieAccounts$Mornings;)V"⟩
abbrev cX3_add : ByteArray := prog_5_method_3_code
def yX3_add : MethodName := ⟨RX3, "add", "(IZ)I"⟩
abbrev cX3_fits : ByteArray := prog_5_method_4_code
def yX3_fits : MethodName := ⟨RX3, "fits", "(II)Z"⟩
abbrev cX3_countFitting : ByteArray := prog_5_method_5_code
def yX3_countFitting : MethodName := ⟨RX3, "countFitting", "()I"⟩
abbrev cX3_leastPeriod : ByteArray := prog_5_method_6_code
def yX3_leastPeriod : MethodName := ⟨RX3, "leastPeriod", "()I"⟩
abbrev cX3_leastPhase : ByteArray := prog_5_method_7_code
def yX3_leastPhase : MethodName := ⟨RX3, "leastPhase", "(I)I"⟩
abbrev cX3_nextDay : ByteArray := prog_5_method_8_code
def yX3_nextDay : MethodName := ⟨RX3, "nextDay", "(II)I"⟩
def RX4 : String := "MagpieAccounts$Parishes"
def TX4 : u_T := fun k => match k with
  | 0 => ("MagpieAccounts$Parishes", "votes", "[I", true)
  | 1 => ("MagpieAccounts$Parishes", "orders", "[I", true)
  | 2 => ("MagpieAccounts$Parishes", "shared", "[I", true)
  | 3 => ("MagpieAccounts$Parishes", "rested", "[I", true)
  | _ => ("MagpieAccounts$Parishes", "left", "[I", true)
def tyX4 : Nat → FieldType := fun k => match k with
  | 0 => .array .int
  | 1 => .array .int
  | 2 => .array .int
  | 3 => .array .int
  | _ => .array .int
abbrev wsX40 : List Cond := u_ws RX4 TX4 5
theorem nmX4 : ∀ a, a < 5 → ∀ b, b < 5 → a ≠ b → (TX4 a).2.1 ≠ (TX4 b).2.1 := by decide +kernel
theorem tyX4_ok : ∀ k, k < 5 → parseFieldDescriptor (TX4 k).2.2.1 = some (tyX4 k) := by decide +kernel
abbrev cX4_init : ByteArray := prog_6_method_1_code
def yX4_init : MethodName := ⟨RX4, "<init>", "()V"⟩
abbrev cX4_copy : ByteArray := prog_6_method_2_code
def yX4_copy : MethodName := ⟨RX4, "copy", "(LMagpieAccounts$Parishes;)V"⟩
abbrev cX4_allVotes : ByteArray := prog_6_method_3_code
def yX4_allVotes : MethodName := ⟨RX4, "allVotes", "()I"⟩
abbrev cX4_seatsByShares : ByteArray := prog_6_method_4_code
def yX4_seatsByShares : MethodName := ⟨RX4, "seatsByShares", "(I)[I"⟩
abbrev cX4_seatsByRests : ByteArray := prog_6_method_5_code
def yX4_seatsByRests : MethodName := ⟨RX4, "seatsByRests", "(I)[I"⟩
abbrev cX4_differing : ByteArray := prog_6_method_6_code
def yX4_differing : MethodName := ⟨RX4, "differing", "(I)I"⟩
abbrev cX4_causeAt : ByteArray := prog_6_method_7_code
def yX4_causeAt : MethodName := ⟨RX4, "causeAt", "(II)I"⟩
abbrev cX4_placeOf : ByteArray := prog_6_method_8_code
def yX4_placeOf : MethodName := ⟨RX4, "placeOf", "(II)I"⟩
abbrev cX4_isAhead : ByteArray := prog_6_method_9_code
def yX4_isAhead : MethodName := ⟨RX4, "isAhead", "(II)Z"⟩
abbrev cX4_aheadOfAll : ByteArray := prog_6_method_10_code
def yX4_aheadOfAll : MethodName := ⟨RX4, "aheadOfAll", "()I"⟩
abbrev cX4_pointsFor : ByteArray := prog_6_method_11_code
def yX4_pointsFor : MethodName := ⟨RX4, "pointsFor", "(I)I"⟩
abbrev cX4_lastLeft : ByteArray := prog_6_method_12_code
def yX4_lastLeft : MethodName := ⟨RX4, "lastLeft", "()I"⟩
abbrev cX4_weakest : ByteArray := prog_6_method_13_code
def yX4_weakest : MethodName := ⟨RX4, "weakest", "(I)I"⟩
abbrev cX4_firstVotes : ByteArray := prog_6_method_14_code
def yX4_firstVotes : MethodName := ⟨RX4, "firstVotes", "(II)I"⟩
def RX5 : String := "MagpieAccounts$Reader"
def TX5 : u_T := fun k => match k with
  | 0 => ("MagpieAccounts$Reader", "tape", "LMagpieAccounts$Tape;", true)
  | 1 => ("MagpieAccounts$Reader", "at", "I", false)
  | 2 => ("MagpieAccounts$Reader", "inChance", "Z", false)
  | 3 => ("MagpieAccounts$Reader", "fault", "I", false)
  | 4 => ("MagpieAccounts$Reader", "place", "I", false)
  | 5 => ("MagpieAccounts$Reader", "ops", "[I", true)
  | 6 => ("MagpieAccounts$Reader", "args", "[I", true)
  | 7 => ("MagpieAccounts$Reader", "size", "I", false)
  | 8 => ("MagpieAccounts$Reader", "chanceFrom", "I", false)
  | 9 => ("MagpieAccounts$Reader", "chanceTo", "I", false)
  | 10 => ("MagpieAccounts$Reader", "bringsFrom", "I", false)
  | 11 => ("MagpieAccounts$Reader", "bringsTo", "I", false)
  | 12 => ("MagpieAccounts$Reader", "verbs", "[I", true)
  | 13 => ("MagpieAccounts$Reader", "firsts", "[I", true)
  | 14 => ("MagpieAccounts$Reader", "seconds", "[I", true)
  | _ => ("MagpieAccounts$Reader", "clauses", "I", false)
def tyX5 : Nat → FieldType := fun k => match k with
  | 0 => .object "MagpieAccounts$Tape"
  | 1 => .int
  | 2 => .boolean
  | 3 => .int
  | 4 => .int
  | 5 => .array .int
  | 6 => .array .int
  | 7 => .int
  | 8 => .int
  | 9 => .int
  | 10 => .int
  | 11 => .int
  | 12 => .array .int
  | 13 => .array .int
  | 14 => .array .int
  | _ => .int
abbrev wsX50 : List Cond := u_ws RX5 TX5 16
theorem nmX5 : ∀ a, a < 16 → ∀ b, b < 16 → a ≠ b → (TX5 a).2.1 ≠ (TX5 b).2.1 := by decide +kernel
theorem tyX5_ok : ∀ k, k < 16 → parseFieldDescriptor (TX5 k).2.2.1 = some (tyX5 k) := by decide +kernel
abbrev cX5_init : ByteArray := prog_7_method_1_code
def yX5_init : MethodName := ⟨RX5, "<init>", "()V"⟩
abbrev cX5_readTape : ByteArray := prog_7_method_2_code
def yX5_readTape : MethodName := ⟨RX5, "readTape", "()LMagpieAccounts$Text;"⟩
abbrev cX5_kind : ByteArray := prog_7_method_3_code
def yX5_kind : MethodName := ⟨RX5, "kind", "()I"⟩
abbrev cX5_fail : ByteArray := prog_7_method_4_code
def yX5_fail : MethodName := ⟨RX5, "fail", "(I)V"⟩
abbrev cX5_expect : ByteArray := prog_7_method_5_code
def yX5_expect : MethodName := ⟨RX5, "expect", "(I)V"⟩
abbrev cX5_readNumber : ByteArray := prog_7_method_6_code
def yX5_readNumber : MethodName := ⟨RX5, "readNumber", "(II)I"⟩
abbrev cX5_readClause : ByteArray := prog_7_method_7_code
def yX5_readClause : MethodName := ⟨RX5, "readClause", "()V"⟩
abbrev cX5_isVerb : ByteArray := prog_7_method_8_code
def yX5_isVerb : MethodName := ⟨RX5, "isVerb", "(I)Z"⟩
abbrev cX5_readNumbers : ByteArray := prog_7_method_9_code
def yX5_readNumbers : MethodName := ⟨RX5, "readNumbers", "(I)V"⟩
abbrev cX5_readLaw : ByteArray := prog_7_method_10_code
def yX5_readLaw : MethodName := ⟨RX5, "readLaw", "(I)V"⟩
abbrev cX5_emit : ByteArray := prog_7_method_11_code
def yX5_emit : MethodName := ⟨RX5, "emit", "(II)V"⟩
abbrev cX5_readSum : ByteArray := prog_7_method_12_code
def yX5_readSum : MethodName := ⟨RX5, "readSum", "(I)V"⟩
abbrev cX5_readProduct : ByteArray := prog_7_method_13_code
def yX5_readProduct : MethodName := ⟨RX5, "readProduct", "(I)V"⟩
abbrev cX5_readOne : ByteArray := prog_7_method_14_code
def yX5_readOne : MethodName := ⟨RX5, "readOne", "(I)V"⟩
abbrev cX5_opensOne : ByteArray := prog_7_method_15_code
def yX5_opensOne : MethodName := ⟨RX5, "opensOne", "(I)Z"⟩
abbrev cX5_readName : ByteArray := prog_7_method_16_code
def yX5_readName : MethodName := ⟨RX5, "readName", "(I)V"⟩
abbrev cX5_readOpened : ByteArray := prog_7_method_17_code
def yX5_readOpened : MethodName := ⟨RX5, "readOpened", "(II)V"⟩
abbrev cX5_readChoice : ByteArray := prog_7_method_18_code
def yX5_readChoice : MethodName := ⟨RX5, "readChoice", "(I)V"⟩
abbrev cX5_aim : ByteArray := prog_7_method_19_code
def yX5_aim : MethodName := ⟨RX5, "aim", "(I)V"⟩
abbrev cX5_readEither : ByteArray := prog_7_method_20_code
def yX5_readEither : MethodName := ⟨RX5, "readEither", "(I)V"⟩
abbrev cX5_readBoth : ByteArray := prog_7_method_21_code
def yX5_readBoth : MethodName := ⟨RX5, "readBoth", "(I)V"⟩
abbrev cX5_readAsk : ByteArray := prog_7_method_22_code
def yX5_readAsk : MethodName := ⟨RX5, "readAsk", "(I)V"⟩
abbrev cX5_readCompared : ByteArray := prog_7_method_23_code
def yX5_readCompared : MethodName := ⟨RX5, "readCompared", "(I)V"⟩
def RX6 : String := "MagpieAccounts$Rings"
def TX6 : u_T := fun k => match k with
  | _ => ("MagpieAccounts$Rings", "next", "[I", true)
def tyX6 : Nat → FieldType := fun k => match k with
  | _ => .array .int
abbrev wsX60 : List Cond := u_ws RX6 TX6 1
theorem nmX6 : ∀ a, a < 1 → ∀ b, b < 1 → a ≠ b → (TX6 a).2.1 ≠ (TX6 b).2.1 := by decide +kernel
theorem tyX6_ok : ∀ k, k < 1 → parseFieldDescriptor (TX6 k).2.2.1 = some (tyX6 k) := by decide +kernel
abbrev cX6_init : ByteArray := prog_8_method_1_code
def yX6_init : MethodName := ⟨RX6, "<init>", "()V"⟩
abbrev cX6_copy : ByteArray := prog_8_method_2_code
def yX6_copy : MethodName := ⟨RX6, "copy", "(LMagpieAccounts$Rings;)V"⟩
abbrev cX6_selfFollowing : ByteArray := prog_8_method_3_code
def yX6_selfFollowing : MethodName := ⟨RX6, "selfFollowing", "()I"⟩
abbrev cX6_sizeAt : ByteArray := prog_8_method_4_code
def yX6_sizeAt : MethodName := ⟨RX6, "sizeAt", "(I)I"⟩
abbrev cX6_smallest : ByteArray := prog_8_method_5_code
def yX6_smallest : MethodName := ⟨RX6, "smallest", "()I"⟩
abbrev cX6_stepsToRing : ByteArray := prog_8_method_6_code
def yX6_stepsToRing : MethodName := ⟨RX6, "stepsToRing", "(I)I"⟩
abbrev cX6_behind : ByteArray := prog_8_method_7_code
def yX6_behind : MethodName := ⟨RX6, "behind", "(II)I"⟩
abbrev cX6_walked : ByteArray := prog_8_method_8_code
def yX6_walked : MethodName := ⟨RX6, "walked", "(II)I"⟩
def RX7 : String := "MagpieAccounts$Spread"
def TX7 : u_T := fun k => match k with
  | 0 => ("MagpieAccounts$Spread", "ways", "[J", true)
  | 1 => ("MagpieAccounts$Spread", "added", "I", false)
  | _ => ("MagpieAccounts$Spread", "whole", "J", false)
def tyX7 : Nat → FieldType := fun k => match k with
  | 0 => .array .long
  | 1 => .int
  | _ => .long
abbrev wsX70 : List Cond := u_ws RX7 TX7 3
theorem nmX7 : ∀ a, a < 3 → ∀ b, b < 3 → a ≠ b → (TX7 a).2.1 ≠ (TX7 b).2.1 := by decide +kernel
theorem tyX7_ok : ∀ k, k < 3 → parseFieldDescriptor (TX7 k).2.2.1 = some (tyX7 k) := by decide +kernel
abbrev cX7_init : ByteArray := prog_9_method_1_code
def yX7_init : MethodName := ⟨RX7, "<init>", "()V"⟩
abbrev cX7_begin : ByteArray := prog_9_method_2_code
def yX7_begin : MethodName := ⟨RX7, "begin", "()V"⟩
abbrev cX7_addOne : ByteArray := prog_9_method_3_code
def yX7_addOne : MethodName := ⟨RX7, "addOne", "(I)V"⟩
abbrev cX7_ofTrials : ByteArray := prog_9_method_4_code
def yX7_ofTrials : MethodName := ⟨RX7, "ofTrials", "(II)V"⟩
abbrev cX7_just : ByteArray := prog_9_method_5_code
def yX7_just : MethodName := ⟨RX7, "just", "(I)J"⟩
abbrev cX7_orMore : ByteArray := prog_9_method_6_code
def yX7_orMore : MethodName := ⟨RX7, "orMore", "(I)J"⟩
def RX8 : String := "MagpieAccounts$Steps"
def TX8 : u_T := fun k => match k with
  | 0 => ("MagpieAccounts$Steps", "ahead", "[LMagpieAccounts$Moment;", true)
  | 1 => ("MagpieAccounts$Steps", "first", "I", false)
  | _ => ("MagpieAccounts$Steps", "many", "I", false)
def tyX8 : Nat → FieldType := fun k => match k with
  | 0 => .array (.object "MagpieAccounts$Moment")
  | 1 => .int
  | _ => .int
abbrev wsX80 : List Cond := u_ws RX8 TX8 3
theorem nmX8 : ∀ a, a < 3 → ∀ b, b < 3 → a ≠ b → (TX8 a).2.1 ≠ (TX8 b).2.1 := by decide +kernel
theorem tyX8_ok : ∀ k, k < 3 → parseFieldDescriptor (TX8 k).2.2.1 = some (tyX8 k) := by decide +kernel
abbrev cX8_init : ByteArray := prog_10_method_1_code
def yX8_init : MethodName := ⟨RX8, "<init>", "()V"⟩
abbrev cX8_copy : ByteArray := prog_10_method_2_code
def yX8_copy : MethodName := ⟨RX8, "copy", "(LMagpieAccounts$Steps;)V"⟩
abbrev cX8_keep : ByteArray := prog_10_method_3_code
def yX8_keep : MethodName := ⟨RX8, "keep", "(LMagpieAccounts$Moment;)V"⟩
abbrev cX8_takeBack : ByteArray := prog_10_method_4_code
def yX8_takeBack : MethodName := ⟨RX8, "takeBack", "(LMagpieAccounts$Moment;)V"⟩
def RX9 : String := "MagpieAccounts$Tape"
def TX9 : u_T := fun k => match k with
  | 0 => ("MagpieAccounts$Tape", "bytes", "[I", true)
  | 1 => ("MagpieAccounts$Tape", "length", "I", false)
  | 2 => ("MagpieAccounts$Tape", "kinds", "[I", true)
  | 3 => ("MagpieAccounts$Tape", "places", "[I", true)
  | 4 => ("MagpieAccounts$Tape", "values", "[I", true)
  | _ => ("MagpieAccounts$Tape", "tokens", "I", false)
def tyX9 : Nat → FieldType := fun k => match k with
  | 0 => .array .int
  | 1 => .int
  | 2 => .array .int
  | 3 => .array .int
  | 4 => .array .int
  | _ => .int
abbrev wsX90 : List Cond := u_ws RX9 TX9 6
theorem nmX9 : ∀ a, a < 6 → ∀ b, b < 6 → a ≠ b → (TX9 a).2.1 ≠ (TX9 b).2.1 := by decide +kernel
theorem tyX9_ok : ∀ k, k < 6 → parseFieldDescriptor (TX9 k).2.2.1 = some (tyX9 k) := by decide +kernel
abbrev cX9_init : ByteArray := prog_11_method_1_code
def yX9_init : MethodName := ⟨RX9, "<init>", "()V"⟩
abbrev cX9_add : ByteArray := prog_11_method_2_code
def yX9_add : MethodName := ⟨RX9, "add", "(I)V"⟩
abbrev cX9_scan : ByteArray := prog_11_method_3_code
def yX9_scan : MethodName := ⟨RX9, "scan", "()V"⟩
abbrev cX9_put : ByteArray := prog_11_method_4_code
def yX9_put : MethodName := ⟨RX9, "put", "(III)V"⟩
abbrev cX9_scanToken : ByteArray := prog_11_method_5_code
def yX9_scanToken : MethodName := ⟨RX9, "scanToken", "(I)I"⟩
abbrev cX9_scanWord : ByteArray := prog_11_method_6_code
def yX9_scanWord : MethodName := ⟨RX9, "scanWord", "(I)I"⟩
abbrev cX9_scanNumber : ByteArray := prog_11_method_7_code
def yX9_scanNumber : MethodName := ⟨RX9, "scanNumber", "(I)I"⟩
abbrev cX9_scanSign : ByteArray := prog_11_method_8_code
def yX9_scanSign : MethodName := ⟨RX9, "scanSign", "(I)I"⟩
abbrev cX9_kindOfWord : ByteArray := prog_11_method_9_code
def yX9_kindOfWord : MethodName := ⟨RX9, "kindOfWord", "(II)I"⟩
abbrev cX9_isLetter : ByteArray := prog_11_method_10_code
def yX9_isLetter : MethodName := ⟨RX9, "isLetter", "(I)Z"⟩
abbrev cX9_isDigit : ByteArray := prog_11_method_11_code
def yX9_isDigit : MethodName := ⟨RX9, "isDigit", "(I)Z"⟩
def RX10 : String := "MagpieAccounts$Text"
def TX10 : u_T := fun k => match k with
  | 0 => ("MagpieAccounts$Text", "ops", "[I", true)
  | 1 => ("MagpieAccounts$Text", "args", "[I", true)
  | 2 => ("MagpieAccounts$Text", "chanceFrom", "I", true)
  | 3 => ("MagpieAccounts$Text", "chanceTo", "I", true)
  | 4 => ("MagpieAccounts$Text", "bringsFrom", "I", true)
  | 5 => ("MagpieAccounts$Text", "bringsTo", "I", true)
  | 6 => ("MagpieAccounts$Text", "verbs", "[I", true)
  | 7 => ("MagpieAccounts$Text", "firsts", "[I", true)
  | _ => ("MagpieAccounts$Text", "seconds", "[I", true)
def tyX10 : Nat → FieldType := fun k => match k with
  | 0 => .array .int
  | 1 => .array .int
  | 2 => .int
  | 3 => .int
  | 4 => .int
  | 5 => .int
  | 6 => .array .int
  | 7 => .array .int
  | _ => .array .int
abbrev wsX100 : List Cond := u_ws RX10 TX10 9
theorem nmX10 : ∀ a, a < 9 → ∀ b, b < 9 → a ≠ b → (TX10 a).2.1 ≠ (TX10 b).2.1 := by decide +kernel
theorem tyX10_ok : ∀ k, k < 9 → parseFieldDescriptor (TX10 k).2.2.1 = some (tyX10 k) := by decide +kernel
abbrev cX10_init : ByteArray := prog_12_method_1_code
def yX10_init : MethodName := ⟨RX10, "<init>", "(LMagpieAccounts$Reader;)V"⟩
def RX11 : String := "MagpieAccounts"
def TX11 : u_T := fun k => match k with
  | 0 => ("MagpieAccounts", "laws", "LMagpieAccounts$Laws;", true)
  | 1 => ("MagpieAccounts", "county", "LMagpieAccounts$County;", true)
  | 2 => ("MagpieAccounts", "kept", "LMagpieAccounts$County;", true)
  | 3 => ("MagpieAccounts", "spare", "LMagpieAccounts$Moment;", true)
  | 4 => ("MagpieAccounts", "reader", "LMagpieAccounts$Reader;", true)
  | 5 => ("MagpieAccounts", "tape", "LMagpieAccounts$Tape;", true)
  | 6 => ("MagpieAccounts", "spread", "LMagpieAccounts$Spread;", true)
  | 7 => ("MagpieAccounts", "chances", "[I", true)
  | 8 => ("MagpieAccounts", "numeral", "[I", true)
  | 9 => ("MagpieAccounts", "latestFault", "I", false)
  | _ => ("MagpieAccounts", "latestPlace", "I", false)
def tyX11 : Nat → FieldType := fun k => match k with
  | 0 => .object "MagpieAccounts$Laws"
  | 1 => .object "MagpieAccounts$County"
  | 2 => .object "MagpieAccounts$County"
  | 3 => .object "MagpieAccounts$Moment"
  | 4 => .object "MagpieAccounts$Reader"
  | 5 => .object "MagpieAccounts$Tape"
  | 6 => .object "MagpieAccounts$Spread"
  | 7 => .array .int
  | 8 => .array .int
  | 9 => .int
  | _ => .int
abbrev wsX110 : List Cond := u_ws RX11 TX11 11
theorem nmX11 : ∀ a, a < 11 → ∀ b, b < 11 → a ≠ b → (TX11 a).2.1 ≠ (TX11 b).2.1 := by decide +kernel
theorem tyX11_ok : ∀ k, k < 11 → parseFieldDescriptor (TX11 k).2.2.1 = some (tyX11 k) := by decide +kernel
abbrev cX11_init : ByteArray := prog_1_method_1_code
def yX11_init : MethodName := ⟨RX11, "<init>", "()V"⟩
abbrev cX11_bird : ByteArray := prog_1_method_2_code
def yX11_bird : MethodName := ⟨RX11, "bird", "(III)I"⟩
abbrev cX11_rhyme : ByteArray := prog_1_method_3_code
def yX11_rhyme : MethodName := ⟨RX11, "rhyme", "(II)Z"⟩
abbrev cX11_feed : ByteArray := prog_1_method_4_code
def yX11_feed : MethodName := ⟨RX11, "feed", "(IIIII)I"⟩
abbrev cX11_end : ByteArray := prog_1_method_5_code
def yX11_end : MethodName := ⟨RX11, "end", "(I)I"⟩
abbrev cX11_text : ByteArray := prog_1_method_6_code
def yX11_text : MethodName := ⟨RX11, "text", "()I"⟩
abbrev cX11_fault : ByteArray := prog_1_method_7_code
def yX11_fault : MethodName := ⟨RX11, "fault", "(I)I"⟩
abbrev cX11_by : ByteArray := prog_1_method_8_code
def yX11_by : MethodName := ⟨RX11, "by", "(I)Z"⟩
abbrev cX11_thin : ByteArray := prog_1_method_9_code
def yX11_thin : MethodName := ⟨RX11, "thin", "(I)Z"⟩
abbrev cX11_call : ByteArray := prog_1_method_10_code
def yX11_call : MethodName := ⟨RX11, "call", "(I)Z"⟩
abbrev cX11_grant : ByteArray := prog_1_method_11_code
def yX11_grant : MethodName := ⟨RX11, "grant", "(I)Z"⟩
abbrev cX11_day : ByteArray := prog_1_method_12_code
def yX11_day : MethodName := ⟨RX11, "day", "(I)I"⟩
abbrev cX11_played : ByteArray := prog_1_method_13_code
def yX11_played : MethodName := ⟨RX11, "played", "(I)I"⟩
abbrev cX11_years : ByteArray := prog_1_method_14_code
def yX11_years : MethodName := ⟨RX11, "years", "(II)I"⟩
abbrev cX11_undo : ByteArray := prog_1_method_15_code
def yX11_undo : MethodName := ⟨RX11, "undo", "()I"⟩
abbrev cX11_of : ByteArray := prog_1_method_16_code
def yX11_of : MethodName := ⟨RX11, "of", "(II)I"⟩
abbrev cX11_is : ByteArray := prog_1_method_17_code
def yX11_is : MethodName := ⟨RX11, "is", "(I)I"⟩
abbrev cX11_things : ByteArray := prog_1_method_18_code
def yX11_things : MethodName := ⟨RX11, "things", "(I)I"⟩
abbrev cX11_brings : ByteArray := prog_1_method_19_code
def yX11_brings : MethodName := ⟨RX11, "brings", "(I)I"⟩
abbrev cX11_book : ByteArray := prog_1_method_20_code
def yX11_book : MethodName := ⟨RX11, "book", "(II)I"⟩
abbrev cX11_foretold : ByteArray := prog_1_method_21_code
def yX11_foretold : MethodName := ⟨RX11, "foretold", "(II)I"⟩
abbrev cX11_likely : ByteArray := prog_1_method_22_code
def yX11_likely : MethodName := ⟨RX11, "likely", "(IZ)J"⟩
abbrev cX11_mean : ByteArray := prog_1_method_23_code
def yX11_mean : MethodName := ⟨RX11, "mean", "(Z)J"⟩
abbrev cX11_best : ByteArray := prog_1_method_24_code
def yX11_best : MethodName := ⟨RX11, "best", "(IZ)I"⟩
abbrev cX11_morning : ByteArray := prog_1_method_25_code
def yX11_morning : MethodName := ⟨RX11, "morning", "(IZ)I"⟩
abbrev cX11_habits : ByteArray := prog_1_method_26_code
def yX11_habits : MethodName := ⟨RX11, "habits", "()I"⟩
abbrev cX11_habit : ByteArray := prog_1_method_27_code
def yX11_habit : MethodName := ⟨RX11, "habit", "(I)I"⟩
abbrev cX11_whom : ByteArray := prog_1_method_28_code
def yX11_whom : MethodName := ⟨RX11, "whom", "()I"⟩
abbrev cX11_rota : ByteArray := prog_1_method_29_code
def yX11_rota : MethodName := ⟨RX11, "rota", "(I)I"⟩
abbrev cX11_gather : ByteArray := prog_1_method_30_code
def yX11_gather : MethodName := ⟨RX11, "gather", "()I"⟩
abbrev cX11_comes : ByteArray := prog_1_method_31_code
def yX11_comes : MethodName := ⟨RX11, "comes", "(I)I"⟩
abbrev cX11_follows : ByteArray := prog_1_method_32_code
def yX11_follows : MethodName := ⟨RX11, "follows", "(II)Z"⟩
abbrev cX11_agree : ByteArray := prog_1_method_33_code
def yX11_agree : MethodName := ⟨RX11, "agree", "()I"⟩
abbrev cX11_ring : ByteArray := prog_1_method_34_code
def yX11_ring : MethodName := ⟨RX11, "ring", "(Z)I"⟩
abbrev cX11_till : ByteArray := prog_1_method_35_code
def yX11_till : MethodName := ⟨RX11, "till", "(I)I"⟩
abbrev cX11_after : ByteArray := prog_1_method_36_code
def yX11_after : MethodName := ⟨RX11, "after", "(II)I"⟩
abbrev cX11_test : ByteArray := prog_1_method_37_code
def yX11_test : MethodName := ⟨RX11, "test", "(IIIZ)J"⟩
abbrev cX11_bound : ByteArray := prog_1_method_38_code
def yX11_bound : MethodName := ⟨RX11, "bound", "(II)I"⟩
abbrev cX11_sure : ByteArray := prog_1_method_39_code
def yX11_sure : MethodName := ⟨RX11, "sure", "(IIIZ)J"⟩
abbrev cX11_votes : ByteArray := prog_1_method_40_code
def yX11_votes : MethodName := ⟨RX11, "votes", "(II)Z"⟩
abbrev cX11_seats : ByteArray := prog_1_method_41_code
def yX11_seats : MethodName := ⟨RX11, "seats", "(IIZ)I"⟩
abbrev cX11_unlike : ByteArray := prog_1_method_42_code
def yX11_unlike : MethodName := ⟨RX11, "unlike", "(I)I"⟩
abbrev cX11_ranks : ByteArray := prog_1_method_43_code
def yX11_ranks : MethodName := ⟨RX11, "ranks", "(II)Z"⟩
abbrev cX11_beats : ByteArray := prog_1_method_44_code
def yX11_beats : MethodName := ⟨RX11, "beats", "(II)Z"⟩
abbrev cX11_winner : ByteArray := prog_1_method_45_code
def yX11_winner : MethodName := ⟨RX11, "winner", "()I"⟩
abbrev cX11_points : ByteArray := prog_1_method_46_code
def yX11_points : MethodName := ⟨RX11, "points", "(I)I"⟩
abbrev cX11_runoff : ByteArray := prog_1_method_47_code
def yX11_runoff : MethodName := ⟨RX11, "runoff", "()I"⟩
abbrev cX11_digits : ByteArray := prog_1_method_48_code
def yX11_digits : MethodName := ⟨RX11, "digits", "(II)I"⟩
abbrev cX11_digit : ByteArray := prog_1_method_49_code
def yX11_digit : MethodName := ⟨RX11, "digit", "(III)I"⟩
abbrev cX11_depth : ByteArray := prog_1_method_50_code
def yX11_depth : MethodName := ⟨RX11, "depth", "(II)I"⟩
abbrev cX11_rests : ByteArray := prog_1_method_51_code
def yX11_rests : MethodName := ⟨RX11, "rests", "(I)I"⟩
abbrev cX11_game : ByteArray := prog_1_method_52_code
def yX11_game : MethodName := ⟨RX11, "game", "(I)I"⟩
abbrev cX11_take : ByteArray := prog_1_method_53_code
def yX11_take : MethodName := ⟨RX11, "take", "(II)I"⟩
abbrev cX11_told : ByteArray := prog_1_method_54_code
def yX11_told : MethodName := ⟨RX11, "told", "(II)I"⟩
abbrev cX11_whose : ByteArray := prog_1_method_55_code
def yX11_whose : MethodName := ⟨RX11, "whose", "()I"⟩
abbrev cX11_eldest : ByteArray := prog_1_method_56_code
def yX11_eldest : MethodName := ⟨RX11, "eldest", "()I"⟩
abbrev cX11_due : ByteArray := prog_1_method_57_code
def yX11_due : MethodName := ⟨RX11, "due", "()I"⟩
abbrev cX11_ledger : ByteArray := prog_1_method_58_code
def yX11_ledger : MethodName := ⟨RX11, "ledger", "(I)I"⟩
abbrev cX11_image : ByteArray := prog_1_method_59_code
def yX11_image : MethodName := ⟨RX11, "image", "()I"⟩
abbrev cX11_back : ByteArray := prog_1_method_60_code
def yX11_back : MethodName := ⟨RX11, "back", "()I"⟩
abbrev cX11_about : ByteArray := prog_1_method_61_code
def yX11_about : MethodName := ⟨RX11, "about", "(I)I"⟩
abbrev cX11_passSteps : ByteArray := prog_1_method_62_code
def yX11_passSteps : MethodName := ⟨RX11, "passSteps", "(I)I"⟩
abbrev cX11_passDay : ByteArray := prog_1_method_63_code
def yX11_passDay : MethodName := ⟨RX11, "passDay", "()I"⟩
abbrev cX11_playClause : ByteArray := prog_1_method_64_code
def yX11_playClause : MethodName := ⟨RX11, "playClause", "(III)Z"⟩
abbrev cX11_drawYear : ByteArray := prog_1_method_65_code
def yX11_drawYear : MethodName := ⟨RX11, "drawYear", "()V"⟩
abbrev cX11_noteChances : ByteArray := prog_1_method_66_code
def yX11_noteChances : MethodName := ⟨RX11, "noteChances", "()V"⟩
abbrev cX11_spreadOver : ByteArray := prog_1_method_67_code
def yX11_spreadOver : MethodName := ⟨RX11, "spreadOver", "(II)V"⟩
abbrev cX11_bestThinned : ByteArray := prog_1_method_68_code
def yX11_bestThinned : MethodName := ⟨RX11, "bestThinned", "(I)I"⟩
abbrev cX11_canCome : ByteArray := prog_1_method_69_code
def yX11_canCome : MethodName := ⟨RX11, "canCome", "(II)Z"⟩
abbrev cX11_leastBound : ByteArray := prog_1_method_70_code
def yX11_leastBound : MethodName := ⟨RX11, "leastBound", "(II)I"⟩
abbrev cX11_bringsAllTold : ByteArray := prog_1_method_71_code
def yX11_bringsAllTold : MethodName := ⟨RX11, "bringsAllTold", "(LMagpieAccounts$Text;)Z"⟩
abbrev cX11_raise : ByteArray := prog_1_method_72_code
def yX11_raise : MethodName := ⟨RX11, "raise", "(II)I"⟩
abbrev cX11_multiply : ByteArray := prog_1_method_73_code
def yX11_multiply : MethodName := ⟨RX11, "multiply", "(II)I"⟩
abbrev cX11_deeper : ByteArray := prog_1_method_74_code
def yX11_deeper : MethodName := ⟨RX11, "deeper", "(I)I"⟩
abbrev cX11_leastPart : ByteArray := prog_1_method_75_code
def yX11_leastPart : MethodName := ⟨RX11, "leastPart", "(I)I"⟩
abbrev cX11_firstOfHabit : ByteArray := prog_1_method_76_code
def yX11_firstOfHabit : MethodName := ⟨RX11, "firstOfHabit", "(IIII)I"⟩
abbrev cX11_leastCommon : ByteArray := prog_1_method_77_code
def yX11_leastCommon : MethodName := ⟨RX11, "leastCommon", "(II)I"⟩
abbrev cX11_greatestCommon : ByteArray := prog_1_method_78_code
def yX11_greatestCommon : MethodName := ⟨RX11, "greatestCommon", "(JJ)J"⟩
abbrev cX11_lowest : ByteArray := prog_1_method_79_code
def yX11_lowest : MethodName := ⟨RX11, "lowest", "(JJZ)J"⟩
abbrev cX11_within : ByteArray := prog_1_method_80_code
def yX11_within : MethodName := ⟨RX11, "within", "(III)Z"⟩
abbrev cX11_held : ByteArray := prog_1_method_81_code
def yX11_held : MethodName := ⟨RX11, "held", "(III)I"⟩
abbrev cX11_isCount : ByteArray := prog_1_method_82_code
def yX11_isCount : MethodName := ⟨RX11, "isCount", "(I)Z"⟩
abbrev cX11_isParish : ByteArray := prog_1_method_83_code
def yX11_isParish : MethodName := ⟨RX11, "isParish", "(I)Z"⟩
abbrev cX11_isCause : ByteArray := prog_1_method_84_code
def yX11_isCause : MethodName := ⟨RX11, "isCause", "(I)Z"⟩
abbrev cX11_isIn : ByteArray := prog_1_method_85_code
def yX11_isIn : MethodName := ⟨RX11, "isIn", "(II)Z"⟩
def RX12 : String := "MagpieAccountsModel"
def TX12 : u_T := fun k => match k with
  | 0 => ("MagpieAccountsModel", "a", "[I", true)
  | 1 => ("MagpieAccountsModel", "image", "[I", true)
  | 2 => ("MagpieAccountsModel", "texts", "[I", true)
  | 3 => ("MagpieAccountsModel", "tape", "[I", true)
  | 4 => ("MagpieAccountsModel", "taped", "I", false)
  | 5 => ("MagpieAccountsModel", "fault", "I", false)
  | 6 => ("MagpieAccountsModel", "faultPlace", "I", false)
  | 7 => ("MagpieAccountsModel", "at", "I", false)
  | 8 => ("MagpieAccountsModel", "place", "I", false)
  | 9 => ("MagpieAccountsModel", "token", "I", false)
  | 10 => ("MagpieAccountsModel", "number", "I", false)
  | 11 => ("MagpieAccountsModel", "word", "J", false)
  | 12 => ("MagpieAccountsModel", "text0", "I", false)
  | 13 => ("MagpieAccountsModel", "written", "I", false)
  | 14 => ("MagpieAccountsModel", "sort0", "I", false)
  | 15 => ("MagpieAccountsModel", "pile", "[I", true)
  | 16 => ("MagpieAccountsModel", "piled", "I", false)
  | 17 => ("MagpieAccountsModel", "opens", "I", false)
  | 18 => ("MagpieAccountsModel", "isWhole", "Z", false)
  | 19 => ("MagpieAccountsModel", "once", "I", false)
  | 20 => ("MagpieAccountsModel", "named", "[I", true)
  | 21 => ("MagpieAccountsModel", "values", "[J", true)
  | 22 => ("MagpieAccountsModel", "truth", "[Z", true)
  | 23 => ("MagpieAccountsModel", "isWritten", "Z", false)
  | 24 => ("MagpieAccountsModel", "cameAll", "I", false)
  | 25 => ("MagpieAccountsModel", "aside", "[I", true)
  | 26 => ("MagpieAccountsModel", "rows", "[J", true)
  | 27 => ("MagpieAccountsModel", "byDivisors", "[I", true)
  | 28 => ("MagpieAccountsModel", "byRests", "[I", true)
  | 29 => ("MagpieAccountsModel", "left", "[I", true)
  | 30 => ("MagpieAccountsModel", "figures", "[I", true)
  | _ => ("MagpieAccountsModel", "wins", "[Z", true)
def tyX12 : Nat → FieldType := fun k => match k with
  | 0 => .array .int
  | 1 => .array .int
  | 2 => .array .int
  | 3 => .array .int
  | 4 => .int
  | 5 => .int
  | 6 => .int
  | 7 => .int
  | 8 => .int
  | 9 => .int
  | 10 => .int
  | 11 => .long
  | 12 => .int
  | 13 => .int
  | 14 => .int
  | 15 => .array .int
  | 16 => .int
  | 17 => .int
  | 18 => .boolean
  | 19 => .int
  | 20 => .array .int
  | 21 => .array .long
  | 22 => .array .boolean
  | 23 => .boolean
  | 24 => .int
  | 25 => .array .int
  | 26 => .array .long
  | 27 => .array .int
  | 28 => .array .int
  | 29 => .array .int
  | 30 => .array .int
  | _ => .array .boolean
abbrev wsX120 : List Cond := u_ws RX12 TX12 32
theorem nmX12 : ∀ a, a < 32 → ∀ b, b < 32 → a ≠ b → (TX12 a).2.1 ≠ (TX12 b).2.1 := by decide +kernel
theorem tyX12_ok : ∀ k, k < 32 → parseFieldDescriptor (TX12 k).2.2.1 = some (tyX12 k) := by decide +kernel
abbrev cX12_init : ByteArray := prog_14_method_1_code
def yX12_init : MethodName := ⟨RX12, "<init>", "()V"⟩
abbrev cX12_copy : ByteArray := prog_14_method_2_code
def yX12_copy : MethodName := ⟨RX12, "copy", "([I[I)V"⟩
abbrev cX12_isIn : ByteArray := prog_14_method_3_code
def yX12_isIn : MethodName := ⟨RX12, "isIn", "(III)Z"⟩
abbrev cX12_held : ByteArray := prog_14_method_4_code
def yX12_held : MethodName := ⟨RX12, "held", "(JII)I"⟩
abbrev cX12_has : ByteArray := prog_14_method_5_code
def yX12_has : MethodName := ⟨RX12, "has", "(II)Z"⟩
abbrev cX12_bits : ByteArray := prog_14_method_6_code
def yX12_bits : MethodName := ⟨RX12, "bits", "(I)I"⟩
abbrev cX12_isBird : ByteArray := prog_14_method_7_code
def yX12_isBird : MethodName := ⟨RX12, "isBird", "(I)Z"⟩
abbrev cX12_isCount : ByteArray := prog_14_method_8_code
def yX12_isCount : MethodName := ⟨RX12, "isCount", "(I)Z"⟩
abbrev cX12_isGone : ByteArray := prog_14_method_9_code
def yX12_isGone : MethodName := ⟨RX12, "isGone", "(I)Z"⟩
abbrev cX12_isDue : ByteArray := prog_14_method_10_code
def yX12_isDue : MethodName := ⟨RX12, "isDue", "(II)Z"⟩
abbrev cX12_dueBy : ByteArray := prog_14_method_11_code
def yX12_dueBy : MethodName := ⟨RX12, "dueBy", "(I)I"⟩
abbrev cX12_dueNow : ByteArray := prog_14_method_12_code
def yX12_dueNow : MethodName := ⟨RX12, "dueNow", "()I"⟩
abbrev cX12_bird : ByteArray := prog_14_method_13_code
def yX12_bird : MethodName := ⟨RX12, "bird", "(III)I"⟩
abbrev cX12_rhyme : ByteArray := prog_14_method_14_code
def yX12_rhyme : MethodName := ⟨RX12, "rhyme", "(II)Z"⟩
abbrev cX12_four : ByteArray := prog_14_method_15_code
def yX12_four : MethodName := ⟨RX12, "four", "(I)V"⟩
abbrev cX12_feed : ByteArray := prog_14_method_16_code
def yX12_feed : MethodName := ⟨RX12, "feed", "(IIIII)I"⟩
abbrev cX12_end : ByteArray := prog_14_method_17_code
def yX12_end : MethodName := ⟨RX12, "end", "(I)I"⟩
abbrev cX12_byteAt : ByteArray := prog_14_method_18_code
def yX12_byteAt : MethodName := ⟨RX12, "byteAt", "(I)I"⟩
abbrev cX12_isLetterByte : ByteArray := prog_14_method_19_code
def yX12_isLetterByte : MethodName := ⟨RX12, "isLetterByte", "(I)Z"⟩
abbrev cX12_isFigure : ByteArray := prog_14_method_20_code
def yX12_isFigure : MethodName := ⟨RX12, "isFigure", "(I)Z"⟩
abbrev cX12_isSign : ByteArray := prog_14_method_21_code
def yX12_isSign : MethodName := ⟨RX12, "isSign", "(I)Z"⟩
abbrev cX12_nextToken : ByteArray := prog_14_method_22_code
def yX12_nextToken : MethodName := ⟨RX12, "nextToken", "()V"⟩
abbrev cX12_w2 : ByteArray := prog_14_method_23_code
def yX12_w2 : MethodName := ⟨RX12, "w2", "(II)J"⟩
abbrev cX12_w3 : ByteArray := prog_14_method_24_code
def yX12_w3 : MethodName := ⟨RX12, "w3", "(III)J"⟩
abbrev cX12_w4 : ByteArray := prog_14_method_25_code
def yX12_w4 : MethodName := ⟨RX12, "w4", "(IIII)J"⟩
abbrev cX12_w5 : ByteArray := prog_14_method_26_code
def yX12_w5 : MethodName := ⟨RX12, "w5", "(IIIII)J"⟩
abbrev cX12_w6 : ByteArray := prog_14_method_27_code
def yX12_w6 : MethodName := ⟨RX12, "w6", "(IIIIII)J"⟩
abbrev cX12_isWord : ByteArray := prog_14_method_28_code
def yX12_isWord : MethodName := ⟨RX12, "isWord", "(J)Z"⟩
abbrev cX12_emit : ByteArray := prog_14_method_29_code
def yX12_emit : MethodName := ⟨RX12, "emit", "(II)V"⟩
abbrev cX12_nameOf : ByteArray := prog_14_method_30_code
def yX12_nameOf : MethodName := ⟨RX12, "nameOf", "()I"⟩
abbrev cX12_isOf : ByteArray := prog_14_method_31_code
def yX12_isOf : MethodName := ⟨RX12, "isOf", "(I)Z"⟩
abbrev cX12_rank : ByteArray := prog_14_method_32_code
def yX12_rank : MethodName := ⟨RX12, "rank", "(I)I"⟩
abbrev cX12_settle : ByteArray := prog_14_method_33_code
def yX12_settle : MethodName := ⟨RX12, "settle", "(I)V"⟩
abbrev cX12_openAt : ByteArray := prog_14_method_34_code
def yX12_openAt : MethodName := ⟨RX12, "openAt", "()I"⟩
abbrev cX12_openNow : ByteArray := prog_14_method_35_code
def yX12_openNow : MethodName := ⟨RX12, "openNow", "()I"⟩
abbrev cX12_isCompared : ByteArray := prog_14_method_36_code
def yX12_isCompared : MethodName := ⟨RX12, "isCompared", "()Z"⟩
abbrev cX12_isAskAhead : ByteArray := prog_14_method_37_code
def yX12_isAskAhead : MethodName := ⟨RX12, "isAskAhead", "()Z"⟩
abbrev cX12_opened : ByteArray := prog_14_method_38_code
def yX12_opened : MethodName := ⟨RX12, "opened", "(I)I"⟩
abbrev cX12_beginOne : ByteArray := prog_14_method_39_code
def yX12_beginOne : MethodName := ⟨RX12, "beginOne", "()I"⟩
abbrev cX12_compareOf : ByteArray := prog_14_method_40_code
def yX12_compareOf : MethodName := ⟨RX12, "compareOf", "()I"⟩
abbrev cX12_betweenOf : ByteArray := prog_14_method_41_code
def yX12_betweenOf : MethodName := ⟨RX12, "betweenOf", "()I"⟩
abbrev cX12_partOf : ByteArray := prog_14_method_42_code
def yX12_partOf : MethodName := ⟨RX12, "partOf", "(I)I"⟩
abbrev cX12_behindOne : ByteArray := prog_14_method_43_code
def yX12_behindOne : MethodName := ⟨RX12, "behindOne", "()Z"⟩
abbrev cX12_summed : ByteArray := prog_14_method_44_code
def yX12_summed : MethodName := ⟨RX12, "summed", "()I"⟩
abbrev cX12_figure : ByteArray := prog_14_method_45_code
def yX12_figure : MethodName := ⟨RX12, "figure", "(III)I"⟩
abbrev cX12_lawClause : ByteArray := prog_14_method_46_code
def yX12_lawClause : MethodName := ⟨RX12, "lawClause", "(I)I"⟩
abbrev cX12_pair : ByteArray := prog_14_method_47_code
def yX12_pair : MethodName := ⟨RX12, "pair", "(IIIJI)I"⟩
abbrev cX12_body : ByteArray := prog_14_method_48_code
def yX12_body : MethodName := ⟨RX12, "body", "(II)I"⟩
abbrev cX12_sortOf : ByteArray := prog_14_method_49_code
def yX12_sortOf : MethodName := ⟨RX12, "sortOf", "()I"⟩
abbrev cX12_clause : ByteArray := prog_14_method_50_code
def yX12_clause : MethodName := ⟨RX12, "clause", "()I"⟩
abbrev cX12_readText : ByteArray := prog_14_method_51_code
def yX12_readText : MethodName := ⟨RX12, "readText", "()I"⟩
abbrev cX12_text : ByteArray := prog_14_method_52_code
def yX12_text : MethodName := ⟨RX12, "text", "()I"⟩
abbrev cX12_fault : ByteArray := prog_14_method_53_code
def yX12_fault : MethodName := ⟨RX12, "fault", "(I)I"⟩
abbrev cX12_by : ByteArray := prog_14_method_54_code
def yX12_by : MethodName := ⟨RX12, "by", "(I)Z"⟩
abbrev cX12_clip : ByteArray := prog_14_method_55_code
def yX12_clip : MethodName := ⟨RX12, "clip", "(J)J"⟩
abbrev cX12_two : ByteArray := prog_14_method_56_code
def yX12_two : MethodName := ⟨RX12, "two", "(IJJ)J"⟩
abbrev cX12_isAsked : ByteArray := prog_14_method_57_code
def yX12_isAsked : MethodName := ⟨RX12, "isAsked", "(IJJ)Z"⟩
abbrev cX12_ofOne : ByteArray := prog_14_method_58_code
def yX12_ofOne : MethodName := ⟨RX12, "ofOne", "(IJ)J"⟩
abbrev cX12_joined : ByteArray := prog_14_method_59_code
def yX12_joined : MethodName := ⟨RX12, "joined", "(IZZ)Z"⟩
abbrev cX12_summedUp : ByteArray := prog_14_method_60_code
def yX12_summedUp : MethodName := ⟨RX12, "summedUp", "(II)J"⟩
abbrev cX12_says : ByteArray := prog_14_method_61_code
def yX12_says : MethodName := ⟨RX12, "says", "(IIIII)I"⟩
abbrev cX12_name : ByteArray := prog_14_method_62_code
def yX12_name : MethodName := ⟨RX12, "name", "()V"⟩
abbrev cX12_chanceOf : ByteArray := prog_14_method_63_code
def yX12_chanceOf : MethodName := ⟨RX12, "chanceOf", "(I)I"⟩
abbrev cX12_bringsOf : ByteArray := prog_14_method_64_code
def yX12_bringsOf : MethodName := ⟨RX12, "bringsOf", "(II)I"⟩
abbrev cX12_write : ByteArray := prog_14_method_65_code
def yX12_write : MethodName := ⟨RX12, "write", "(II)V"⟩
abbrev cX12_drawnBy : ByteArray := prog_14_method_66_code
def yX12_drawnBy : MethodName := ⟨RX12, "drawnBy", "(I)I"⟩
abbrev cX12_anew : ByteArray := prog_14_method_67_code
def yX12_anew : MethodName := ⟨RX12, "anew", "()V"⟩
abbrev cX12_canGrant : ByteArray := prog_14_method_68_code
def yX12_canGrant : MethodName := ⟨RX12, "canGrant", "(I)Z"⟩
abbrev cX12_pass : ByteArray := prog_14_method_69_code
def yX12_pass : MethodName := ⟨RX12, "pass", "()V"⟩
abbrev cX12_keep : ByteArray := prog_14_method_70_code
def yX12_keep : MethodName := ⟨RX12, "keep", "()V"⟩
abbrev cX12_undo : ByteArray := prog_14_method_71_code
def yX12_undo : MethodName := ⟨RX12, "undo", "()I"⟩
abbrev cX12_thin : ByteArray := prog_14_method_72_code
def yX12_thin : MethodName := ⟨RX12, "thin", "(I)Z"⟩
abbrev cX12_call : ByteArray := prog_14_method_73_code
def yX12_call : MethodName := ⟨RX12, "call", "(I)Z"⟩
abbrev cX12_grant : ByteArray := prog_14_method_74_code
def yX12_grant : MethodName := ⟨RX12, "grant", "(I)Z"⟩
abbrev cX12_arePassed : ByteArray := prog_14_method_75_code
def yX12_arePassed : MethodName := ⟨RX12, "arePassed", "(I)Z"⟩
abbrev cX12_day : ByteArray := prog_14_method_76_code
def yX12_day : MethodName := ⟨RX12, "day", "(I)I"⟩
abbrev cX12_isPlayed : ByteArray := prog_14_method_77_code
def yX12_isPlayed : MethodName := ⟨RX12, "isPlayed", "(I)Z"⟩
abbrev cX12_played : ByteArray := prog_14_method_78_code
def yX12_played : MethodName := ⟨RX12, "played", "(I)I"⟩
abbrev cX12_happens : ByteArray := prog_14_method_79_code
def yX12_happens : MethodName := ⟨RX12, "happens", "(I)V"⟩
abbrev cX12_years : ByteArray := prog_14_method_80_code
def yX12_years : MethodName := ⟨RX12, "years", "(II)I"⟩
abbrev cX12_of : ByteArray := prog_14_method_81_code
def yX12_of : MethodName := ⟨RX12, "of", "(II)I"⟩
abbrev cX12_is : ByteArray := prog_14_method_82_code
def yX12_is : MethodName := ⟨RX12, "is", "(I)I"⟩
abbrev cX12_things : ByteArray := prog_14_method_83_code
def yX12_things : MethodName := ⟨RX12, "things", "(I)I"⟩
abbrev cX12_brings : ByteArray := prog_14_method_84_code
def yX12_brings : MethodName := ⟨RX12, "brings", "(I)I"⟩
abbrev cX12_lineOf : ByteArray := prog_14_method_85_code
def yX12_lineOf : MethodName := ⟨RX12, "lineOf", "(II)I"⟩
abbrev cX12_book : ByteArray := prog_14_method_86_code
def yX12_book : MethodName := ⟨RX12, "book", "(II)I"⟩
abbrev cX12_ledger : ByteArray := prog_14_method_87_code
def yX12_ledger : MethodName := ⟨RX12, "ledger", "(I)I"⟩
abbrev cX12_eldest : ByteArray := prog_14_method_88_code
def yX12_eldest : MethodName := ⟨RX12, "eldest", "()I"⟩
abbrev cX12_due : ByteArray := prog_14_method_89_code
def yX12_due : MethodName := ⟨RX12, "due", "()I"⟩
abbrev cX12_foretold : ByteArray := prog_14_method_90_code
def yX12_foretold : MethodName := ⟨RX12, "foretold", "(II)I"⟩
abbrev cX12_divisor : ByteArray := prog_14_method_91_code
def yX12_divisor : MethodName := ⟨RX12, "divisor", "(JJ)J"⟩
abbrev cX12_part : ByteArray := prog_14_method_92_code
def yX12_part : MethodName := ⟨RX12, "part", "(JJZ)J"⟩
abbrev cX12_noRows : ByteArray := prog_14_method_93_code
def yX12_noRows : MethodName := ⟨RX12, "noRows", "()V"⟩
abbrev cX12_oneMore : ByteArray := prog_14_method_94_code
def yX12_oneMore : MethodName := ⟨RX12, "oneMore", "(I)V"⟩
abbrev cX12_layRows : ByteArray := prog_14_method_95_code
def yX12_layRows : MethodName := ⟨RX12, "layRows", "(I)J"⟩
abbrev cX12_likely : ByteArray := prog_14_method_96_code
def yX12_likely : MethodName := ⟨RX12, "likely", "(IZ)J"⟩
abbrev cX12_mean : ByteArray := prog_14_method_97_code
def yX12_mean : MethodName := ⟨RX12, "mean", "(Z)J"⟩
abbrev cX12_best : ByteArray := prog_14_method_98_code
def yX12_best : MethodName := ⟨RX12, "best", "(IZ)I"⟩
abbrev cX12_morning : ByteArray := prog_14_method_99_code
def yX12_morning : MethodName := ⟨RX12, "morning", "(IZ)I"⟩
abbrev cX12_isHabit : ByteArray := prog_14_method_100_code
def yX12_isHabit : MethodName := ⟨RX12, "isHabit", "(II)Z"⟩
abbrev cX12_habits : ByteArray := prog_14_method_101_code
def yX12_habits : MethodName := ⟨RX12, "habits", "()I"⟩
abbrev cX12_firstHabit : ByteArray := prog_14_method_102_code
def yX12_firstHabit : MethodName := ⟨RX12, "firstHabit", "()I"⟩
abbrev cX12_habit : ByteArray := prog_14_method_103_code
def yX12_habit : MethodName := ⟨RX12, "habit", "(I)I"⟩
abbrev cX12_whom : ByteArray := prog_14_method_104_code
def yX12_whom : MethodName := ⟨RX12, "whom", "()I"⟩
abbrev cX12_rota : ByteArray := prog_14_method_105_code
def yX12_rota : MethodName := ⟨RX12, "rota", "(I)I"⟩
abbrev cX12_gather : ByteArray := prog_14_method_106_code
def yX12_gather : MethodName := ⟨RX12, "gather", "()I"⟩
abbrev cX12_comes : ByteArray := prog_14_method_107_code
def yX12_comes : MethodName := ⟨RX12, "comes", "(I)I"⟩
abbrev cX12_follows : ByteArray := prog_14_method_108_code
def yX12_follows : MethodName := ⟨RX12, "follows", "(II)Z"⟩
abbrev cX12_afterOf : ByteArray := prog_14_method_109_code
def yX12_afterOf : MethodName := ⟨RX12, "afterOf", "(II)I"⟩
abbrev cX12_agree : ByteArray := prog_14_method_110_code
def yX12_agree : MethodName := ⟨RX12, "agree", "()I"⟩
abbrev cX12_ringOf : ByteArray := prog_14_method_111_code
def yX12_ringOf : MethodName := ⟨RX12, "ringOf", "(I)I"⟩
abbrev cX12_ring : ByteArray := prog_14_method_112_code
def yX12_ring : MethodName := ⟨RX12, "ring", "(Z)I"⟩
abbrev cX12_till : ByteArray := prog_14_method_113_code
def yX12_till : MethodName := ⟨RX12, "till", "(I)I"⟩
abbrev cX12_after : ByteArray := prog_14_method_114_code
def yX12_after : MethodName := ⟨RX12, "after", "(II)I"⟩
abbrev cX12_areOdds : ByteArray := prog_14_method_115_code
def yX12_areOdds : MethodName := ⟨RX12, "areOdds", "(I)Z"⟩
abbrev cX12_layTest : ByteArray := prog_14_method_116_code
def yX12_layTest : MethodName := ⟨RX12, "layTest", "(II)J"⟩
abbrev cX12_rowsFrom : ByteArray := prog_14_method_117_code
def yX12_rowsFrom : MethodName := ⟨RX12, "rowsFrom", "(I)J"⟩
abbrev cX12_test : ByteArray := prog_14_method_118_code
def yX12_test : MethodName := ⟨RX12, "test", "(IIIZ)J"⟩
abbrev cX12_bound : ByteArray := prog_14_method_119_code
def yX12_bound : MethodName := ⟨RX12, "bound", "(II)I"⟩
abbrev cX12_sure : ByteArray := prog_14_method_120_code
def yX12_sure : MethodName := ⟨RX12, "sure", "(IIIZ)J"⟩
abbrev cX12_votes : ByteArray := prog_14_method_121_code
def yX12_votes : MethodName := ⟨RX12, "votes", "(II)Z"⟩
abbrev cX12_allVotes : ByteArray := prog_14_method_122_code
def yX12_allVotes : MethodName := ⟨RX12, "allVotes", "()I"⟩
abbrev cX12_isAhead : ByteArray := prog_14_method_123_code
def yX12_isAhead : MethodName := ⟨RX12, "isAhead", "(II)Z"⟩
abbrev cX12_laySeats : ByteArray := prog_14_method_124_code
def yX12_laySeats : MethodName := ⟨RX12, "laySeats", "(I)V"⟩
abbrev cX12_areSeats : ByteArray := prog_14_method_125_code
def yX12_areSeats : MethodName := ⟨RX12, "areSeats", "(I)Z"⟩
abbrev cX12_seats : ByteArray := prog_14_method_126_code
def yX12_seats : MethodName := ⟨RX12, "seats", "(IIZ)I"⟩
abbrev cX12_unlike : ByteArray := prog_14_method_127_code
def yX12_unlike : MethodName := ⟨RX12, "unlike", "(I)I"⟩
abbrev cX12_ranks : ByteArray := prog_14_method_128_code
def yX12_ranks : MethodName := ⟨RX12, "ranks", "(II)Z"⟩
abbrev cX12_isCause : ByteArray := prog_14_method_129_code
def yX12_isCause : MethodName := ⟨RX12, "isCause", "(I)Z"⟩
abbrev cX12_factorial : ByteArray := prog_14_method_130_code
def yX12_factorial : MethodName := ⟨RX12, "factorial", "(I)I"⟩
abbrev cX12_causeAt : ByteArray := prog_14_method_131_code
def yX12_causeAt : MethodName := ⟨RX12, "causeAt", "(II)I"⟩
abbrev cX12_placeBy : ByteArray := prog_14_method_132_code
def yX12_placeBy : MethodName := ⟨RX12, "placeBy", "(II)I"⟩
abbrev cX12_doesBeat : ByteArray := prog_14_method_133_code
def yX12_doesBeat : MethodName := ⟨RX12, "doesBeat", "(II)Z"⟩
abbrev cX12_beats : ByteArray := prog_14_method_134_code
def yX12_beats : MethodName := ⟨RX12, "beats", "(II)Z"⟩
abbrev cX12_winner : ByteArray := prog_14_method_135_code
def yX12_winner : MethodName := ⟨RX12, "winner", "()I"⟩
abbrev cX12_points : ByteArray := prog_14_method_136_code
def yX12_points : MethodName := ⟨RX12, "points", "(I)I"⟩
abbrev cX12_firstVotes : ByteArray := prog_14_method_137_code
def yX12_firstVotes : MethodName := ⟨RX12, "firstVotes", "(II)I"⟩
abbrev cX12_runoff : ByteArray := prog_14_method_138_code
def yX12_runoff : MethodName := ⟨RX12, "runoff", "()I"⟩
abbrev cX12_layFigures : ByteArray := prog_14_method_139_code
def yX12_layFigures : MethodName := ⟨RX12, "layFigures", "(II)I"⟩
abbrev cX12_areTimes : ByteArray := prog_14_method_140_code
def yX12_areTimes : MethodName := ⟨RX12, "areTimes", "(II)Z"⟩
abbrev cX12_digits : ByteArray := prog_14_method_141_code
def yX12_digits : MethodName := ⟨RX12, "digits", "(II)I"⟩
abbrev cX12_digit : ByteArray := prog_14_method_142_code
def yX12_digit : MethodName := ⟨RX12, "digit", "(III)I"⟩
abbrev cX12_isGuess : ByteArray := prog_14_method_143_code
def yX12_isGuess : MethodName := ⟨RX12, "isGuess", "(I)Z"⟩
abbrev cX12_depth : ByteArray := prog_14_method_144_code
def yX12_depth : MethodName := ⟨RX12, "depth", "(II)I"⟩
abbrev cX12_rests : ByteArray := prog_14_method_145_code
def yX12_rests : MethodName := ⟨RX12, "rests", "(I)I"⟩
abbrev cX12_winAt : ByteArray := prog_14_method_146_code
def yX12_winAt : MethodName := ⟨RX12, "winAt", "(II)I"⟩
abbrev cX12_takeOf : ByteArray := prog_14_method_147_code
def yX12_takeOf : MethodName := ⟨RX12, "takeOf", "(II)I"⟩
abbrev cX12_layWins : ByteArray := prog_14_method_148_code
def yX12_layWins : MethodName := ⟨RX12, "layWins", "(I)V"⟩
abbrev cX12_game : ByteArray := prog_14_method_149_code
def yX12_game : MethodName := ⟨RX12, "game", "(I)I"⟩
abbrev cX12_take : ByteArray := prog_14_method_150_code
def yX12_take : MethodName := ⟨RX12, "take", "(II)I"⟩
abbrev cX12_told : ByteArray := prog_14_method_151_code
def yX12_told : MethodName := ⟨RX12, "told", "(II)I"⟩
abbrev cX12_whose : ByteArray := prog_14_method_152_code
def yX12_whose : MethodName := ⟨RX12, "whose", "()I"⟩
abbrev cX12_image : ByteArray := prog_14_method_153_code
def yX12_image : MethodName := ⟨RX12, "image", "()I"⟩
abbrev cX12_back : ByteArray := prog_14_method_154_code
def yX12_back : MethodName := ⟨RX12, "back", "()I"⟩
abbrev cX12_about : ByteArray := prog_14_method_155_code
def yX12_about : MethodName := ⟨RX12, "about", "(I)I"⟩
def RJx145de : String := "java/io/Serializable"
def TJx145de : u_T := fun k => match k with
  | _ => ("", "", "", false)
def tyJx145de : Nat → FieldType := fun k => match k with
  | _ => .int
abbrev wsJx145de0 : List Cond := u_ws RJx145de TJx145de 0
def RJx9f9b0 : String := "java/lang/CharSequence"
def TJx9f9b0 : u_T := fun k => match k with
  | _ => ("", "", "", false)
def tyJx9f9b0 : Nat → FieldType := fun k => match k with
  | _ => .int
abbrev wsJx9f9b00 : List Cond := u_ws RJx9f9b0 TJx9f9b0 0
def RJ11 : String := "java/lang/Character"
def TJ11 : u_T := fun k => match k with
  | _ => ("", "", "", false)
def tyJ11 : Nat → FieldType := fun k => match k with
  | _ => .int
abbrev wsJ110 : List Cond := u_ws RJ11 TJ11 0
abbrev cJ11_isValidCodePoint_9a6ad : ByteArray := prog_15_method_11_code
def yJ11_isValidCodePoint_9a6ad : MethodName := ⟨RJ11, "isValidCodePoint", "(I)Z"⟩
abbrev cJ11_highSurrogate_5068e : ByteArray := prog_15_method_28_code
def yJ11_highSurrogate_5068e : MethodName := ⟨RJ11, "highSurrogate", "(I)C"⟩
abbrev cJ11_lowSurrogate_5068e : ByteArray := prog_15_method_29_code
def yJ11_lowSurrogate_5068e : MethodName := ⟨RJ11, "lowSurrogate", "(I)C"⟩
def RJx8e188 : String := "java/lang/Cloneable"
def TJx8e188 : u_T := fun k => match k with
  | _ => ("", "", "", false)
def tyJx8e188 : Nat → FieldType := fun k => match k with
  | _ => .int
abbrev wsJx8e1880 : List Cond := u_ws RJx8e188 TJx8e188 0
def RJxb160c : String := "java/lang/Comparable"
def TJxb160c : u_T := fun k => match k with
  | _ => ("", "", "", false)
def tyJxb160c : Nat → FieldType := fun k => match k with
  | _ => .int
abbrev wsJxb160c0 : List Cond := u_ws RJxb160c TJxb160c 0
def RJ6 : String := "java/lang/Integer"
def TJ6 : u_T := fun k => match k with
  | _ => ("", "", "", false)
def tyJ6 : Nat → FieldType := fun k => match k with
  | _ => .int
abbrev wsJ60 : List Cond := u_ws RJ6 TJ6 0
abbrev cJ6_bitCount_0f7a4 : ByteArray := prog_17_method_49_code
def yJ6_bitCount_0f7a4 : MethodName := ⟨RJ6, "bitCount", "(I)I"⟩
def RJ9 : String := "java/lang/Math"
def TJ9 : u_T := fun k => match k with
  | _ => ("", "", "", false)
def tyJ9 : Nat → FieldType := fun k => match k with
  | _ => .int
abbrev wsJ90 : List Cond := u_ws RJ9 TJ9 0
abbrev cJ9_max_7cf53 : ByteArray := prog_18_method_65_code
def yJ9_max_7cf53 : MethodName := ⟨RJ9, "max", "(II)I"⟩
abbrev cJ9_max_f86c9 : ByteArray := prog_18_method_66_code
def yJ9_max_f86c9 : MethodName := ⟨RJ9, "max", "(JJ)J"⟩
abbrev cJ9_min_7cf53 : ByteArray := prog_18_method_69_code
def yJ9_min_7cf53 : MethodName := ⟨RJ9, "min", "(II)I"⟩
abbrev cJ9_min_f86c9 : ByteArray := prog_18_method_70_code
def yJ9_min_f86c9 : MethodName := ⟨RJ9, "min", "(JJ)J"⟩
def RJ0 : String := "java/lang/String"
def TJ0 : u_T := fun k => match k with
  | _ => ("", "", "", false)
def tyJ0 : Nat → FieldType := fun k => match k with
  | _ => .int
abbrev wsJ00 : List Cond := u_ws RJ0 TJ0 0
abbrev cJ0_length_8abf5 : ByteArray := prog_19_method_54_code
def yJ0_length_8abf5 : MethodName := ⟨RJ0, "length", "()I"⟩
abbrev cJ0_charAt_5068e : ByteArray := prog_19_method_56_code
def yJ0_charAt_5068e : MethodName := ⟨RJ0, "charAt", "(I)C"⟩
abbrev cJ0_indexOf_0f7a4 : ByteArray := prog_19_method_79_code
def yJ0_indexOf_0f7a4 : MethodName := ⟨RJ0, "indexOf", "(I)I"⟩
abbrev cJ0_indexOf_7cf53 : ByteArray := prog_19_method_80_code
def yJ0_indexOf_7cf53 : MethodName := ⟨RJ0, "indexOf", "(II)I"⟩
abbrev cJ0_coder_7d493 : ByteArray := prog_19_method_152_code
def yJ0_coder_7d493 : MethodName := ⟨RJ0, "coder", "()B"⟩
abbrev cJ0_isLatin1_aae02 : ByteArray := prog_19_method_154_code
def yJ0_isLatin1_aae02 : MethodName := ⟨RJ0, "isLatin1", "()Z"⟩
abbrev cJ0_checkIndex_df160 : ByteArray := prog_19_method_155_code
def yJ0_checkIndex_df160 : MethodName := ⟨RJ0, "checkIndex", "(II)V"⟩
abbrev cJ0_checkBoundsBeginEnd_23922 : ByteArray := prog_19_method_158_code
def yJ0_checkBoundsBeginEnd_23922 : MethodName := ⟨RJ0, "checkBoundsBeginEnd", "(III)V"⟩
def RJ1 : String := "java/lang/StringLatin1"
def TJ1 : u_T := fun k => match k with
  | _ => ("", "", "", false)
def tyJ1 : Nat → FieldType := fun k => match k with
  | _ => .int
abbrev wsJ10 : List Cond := u_ws RJ1 TJ1 0
abbrev cJ1_charAt_3b067 : ByteArray := prog_20_method_2_code
def yJ1_charAt_3b067 : MethodName := ⟨RJ1, "charAt", "([BI)C"⟩
abbrev cJ1_canEncode_9a6ad : ByteArray := prog_20_method_4_code
def yJ1_canEncode_9a6ad : MethodName := ⟨RJ1, "canEncode", "(I)Z"⟩
abbrev cJ1_indexOf_4cfef : ByteArray := prog_20_method_22_code
def yJ1_indexOf_4cfef : MethodName := ⟨RJ1, "indexOf", "([BIII)I"⟩
abbrev cJ1_indexOfChar_4cfef : ByteArray := prog_20_method_23_code
def yJ1_indexOfChar_4cfef : MethodName := ⟨RJ1, "indexOfChar", "([BIII)I"⟩
def RJ2 : String := "java/lang/StringUTF16"
def TJ2 : u_T := fun k => match k with
  | _ => ("", "", "", false)
def tyJ2 : Nat → FieldType := fun k => match k with
  | _ => .int
abbrev wsJ20 : List Cond := u_ws RJ2 TJ2 0
abbrev cJ2_getChar_3b067 : ByteArray := prog_21_method_5_code
def yJ2_getChar_3b067 : MethodName := ⟨RJ2, "getChar", "([BI)C"⟩
abbrev cJ2_length_9d52b : ByteArray := prog_21_method_6_code
def yJ2_length_9d52b : MethodName := ⟨RJ2, "length", "([B)I"⟩
abbrev cJ2_indexOf_4cfef : ByteArray := prog_21_method_40_code
def yJ2_indexOf_4cfef : MethodName := ⟨RJ2, "indexOf", "([BIII)I"⟩
abbrev cJ2_indexOfChar_4cfef : ByteArray := prog_21_method_47_code
def yJ2_indexOfChar_4cfef : MethodName := ⟨RJ2, "indexOfChar", "([BIII)I"⟩
abbrev cJ2_indexOfCharUnsafe_4cfef : ByteArray := prog_21_method_48_code
def yJ2_indexOfCharUnsafe_4cfef : MethodName := ⟨RJ2, "indexOfCharUnsafe", "([BIII)I"⟩
abbrev cJ2_indexOfSupplementary_4cfef : ByteArray := prog_21_method_49_code
def yJ2_indexOfSupplementary_4cfef : MethodName := ⟨RJ2, "indexOfSupplementary", "([BIII)I"⟩
abbrev cJ2_charAt_3b067 : ByteArray := prog_21_method_83_code
def yJ2_charAt_3b067 : MethodName := ⟨RJ2, "charAt", "([BI)C"⟩
abbrev cJ2_checkIndex_2214a : ByteArray := prog_21_method_91_code
def yJ2_checkIndex_2214a : MethodName := ⟨RJ2, "checkIndex", "(I[B)V"⟩
abbrev cJ2_checkBoundsBeginEnd_d044e : ByteArray := prog_21_method_93_code
def yJ2_checkBoundsBeginEnd_d044e : MethodName := ⟨RJ2, "checkBoundsBeginEnd", "(II[B)V"⟩
def RJ10 : String := "java/lang/System"
def TJ10 : u_T := fun k => match k with
  | _ => ("", "", "", false)
def tyJ10 : Nat → FieldType := fun k => match k with
  | _ => .int
abbrev wsJ100 : List Cond := u_ws RJ10 TJ10 0
def RJxfd54e : String := "java/lang/constant/Constable"
def TJxfd54e : u_T := fun k => match k with
  | _ => ("", "", "", false)
def tyJxfd54e : Nat → FieldType := fun k => match k with
  | _ => .int
abbrev wsJxfd54e0 : List Cond := u_ws RJxfd54e TJxfd54e 0
def RJx3cf43 : String := "java/lang/constant/ConstantDesc"
def TJx3cf43 : u_T := fun k => match k with
  | _ => ("", "", "", false)
def tyJx3cf43 : Nat → FieldType := fun k => match k with
  | _ => .int
abbrev wsJx3cf430 : List Cond := u_ws RJx3cf43 TJx3cf43 0
def RJ7 : String := "java/util/Arrays"
def TJ7 : u_T := fun k => match k with
  | _ => ("", "", "", false)
def tyJ7 : Nat → FieldType := fun k => match k with
  | _ => .int
abbrev wsJ70 : List Cond := u_ws RJ7 TJ7 0
abbrev cJ7_fill_d0a16 : ByteArray := prog_23_method_101_code
def yJ7_fill_d0a16 : MethodName := ⟨RJ7, "fill", "([JJ)V"⟩
abbrev cJ7_fill_53178 : ByteArray := prog_23_method_103_code
def yJ7_fill_53178 : MethodName := ⟨RJ7, "fill", "([II)V"⟩
abbrev cJ7_copyOf_59c91 : ByteArray := prog_23_method_123_code
def yJ7_copyOf_59c91 : MethodName := ⟨RJ7, "copyOf", "([II)[I"⟩
def RJ3 : String := "jdk/internal/util/Preconditions"
def TJ3 : u_T := fun k => match k with
  | _ => ("", "", "", false)
def tyJ3 : Nat → FieldType := fun k => match k with
  | _ => .int
abbrev wsJ30 : List Cond := u_ws RJ3 TJ3 0
abbrev cJ3_checkIndex_8e157 : ByteArray := prog_24_method_11_code
def yJ3_checkIndex_8e157 : MethodName := ⟨RJ3, "checkIndex", "(IILjava/util/function/BiFunction;)I"⟩
abbrev cJ3_checkFromToIndex_8c36e : ByteArray := prog_24_method_12_code
def yJ3_checkFromToIndex_8c36e : MethodName := ⟨RJ3, "checkFromToIndex", "(IIILjava/util/function/BiFunction;)I"⟩
def RL : String := "MagpieAccountsLaw"
abbrev cL_law : ByteArray := code
def yL_law : MethodName := ⟨RL, "law", "([I)Z"⟩
abbrev vwCl : List vw_C := [(RX0, TX0, 16), (RX1, TX1, 4), (RX2, TX2, 9), (RX3, TX3, 3), (RX4, TX4, 5), (RX5, TX5, 16), (RX6, TX6, 1), (RX7, TX7, 3), (RX8, TX8, 3), (RX9, TX9, 6), (RX10, TX10, 9), (RX11, TX11, 11), (RX12, TX12, 32)]
theorem xMem {ws : List Cond} (ps : List Nat) (h : ws = ps.filterMap (fun i => lw_tbl[i]?)) : ∀ w ∈ ws, w ∈ lw_tbl := by
  intro w hw
  rw [h] at hw
  obtain ⟨i, -, hi⟩ := List.mem_filterMap.mp hw
  exact List.mem_of_getElem? hi
theorem inX0 : ∀ w ∈ wsX00, w ∈ lw_tbl := xMem [313, 315, 317, 319, 321, 323, 325, 327, 329, 331, 333, 335, 337, 339, 341, 343] (by decide +kernel)
theorem inX1 : ∀ w ∈ wsX10, w ∈ lw_tbl := xMem [351, 353, 355, 357] (by decide +kernel)
theorem inX2 : ∀ w ∈ wsX20, w ∈ lw_tbl := xMem [183, 185, 187, 189, 191, 193, 195, 197, 199] (by decide +kernel)
theorem inX3 : ∀ w ∈ wsX30, w ∈ lw_tbl := xMem [235, 237, 239] (by decide +kernel)
theorem inX4 : ∀ w ∈ wsX40, w ∈ lw_tbl := xMem [267, 269, 271, 273, 275] (by decide +kernel)
theorem inX5 : ∀ w ∈ wsX50, w ∈ lw_tbl := xMem [430, 432, 434, 436, 438, 440, 442, 444, 446, 448, 450, 452, 454, 456, 458, 460] (by decide +kernel)
theorem inX6 : ∀ w ∈ wsX60, w ∈ lw_tbl := xMem [251] (by decide +kernel)
theorem inX7 : ∀ w ∈ wsX70, w ∈ lw_tbl := xMem [473, 475, 477] (by decide +kernel)
theorem inX8 : ∀ w ∈ wsX80, w ∈ lw_tbl := xMem [216, 218, 220] (by decide +kernel)
theorem inX9 : ∀ w ∈ wsX90, w ∈ lw_tbl := xMem [387, 389, 391, 393, 395, 397] (by decide +kernel)
theorem inX10 : ∀ w ∈ wsX100, w ∈ lw_tbl := xMem [818, 820, 822, 824, 826, 828, 830, 832, 834] (by decide +kernel)
theorem inX11 : ∀ w ∈ wsX110, w ∈ lw_tbl := xMem [492, 494, 496, 498, 500, 502, 504, 506, 508, 510, 512] (by decide +kernel)
theorem inX12 : ∀ w ∈ wsX120, w ∈ lw_tbl := xMem [1515, 1517, 1519, 1521, 1523, 1525, 1527, 1529, 1531, 1533, 1535, 1537, 1539, 1541, 1543, 1545, 1547, 1549, 1551, 1553, 1555, 1557, 1559, 1561, 1563, 1565, 1567, 1569, 1571, 1573, 1575, 1577] (by decide +kernel)
def xTb : List Cond := lw_tbl.filter goodWord
end
section
/-! ===== A small machine over an abstract heap: what a method's resolved instructions do. Later: it is what the JVM does. ===== -/
/-- the abstract heap: the next number, slots used, what each number holds. Numbers below 16 are cells that were there before. -/
abbrev xH : Type := Nat × Nat × (Nat → Option va_E)
abbrev xL : Type := List (Nat × Value)
/-- an instruction, its length, two numbers, a constant, places of its words in lw_tbl -/
abbrev xI : Type := Instr × Nat × Nat × Nat × Int × List Nat
abbrev xC : Type := List (List (Nat × xI))
abbrev xS : Type := Nat × xL × List Value × xH
abbrev xRo : Type := Nat → Option (Nat × (Nat → Int32))
def xFind {α : Type} : List (Nat × α) → Nat → Option α
  | [], _ => none
  | q :: l, k => bif Nat.beq q.1 k then some q.2 else xFind l k
def xAt (c : xC) (pc : Nat) : Option xI := match c[pc / 32]? with
  | none => none
  | some l => xFind l pc
def xP1 (ls : xL) (i : Nat) (v : Value) : xL := (i, v) :: ls.filter (fun q => !(q.1 == i) && !(q.1 + 1 == i && q.2.category == 2))
def xP2 (ls : xL) (i : Nat) (v : Value) : xL := (i, v) :: ls.filter (fun q => !(q.1 == i) && (!(q.1 == i + 1) && !(q.1 + 1 == i && q.2.category == 2)))
def xUp (h : xH) (i : Nat) (e : va_E) : xH := (h.1, h.2.1, fun j => if j = i then some e else h.2.2 j)
def xNw (h : xH) (n : Nat) (e : va_E) : xH := (h.1 + 1, h.2.1 + n, fun j => if j = h.1 then some e else h.2.2 j)
def xi {α : Type} (st : List Value) (k : Int32 → List Value → Option α) : Option α := match st with
  | .int x :: r => k x r
  | _ => none
def xii {α : Type} (st : List Value) (k : Int32 → Int32 → List Value → Option α) : Option α := match st with
  | .int y :: .int x :: r => k x y r
  | _ => none
def xl {α : Type} (st : List Value) (k : Int64 → List Value → Option α) : Option α := match st with
  | .long x :: r => k x r
  | _ => none
def xll {α : Type} (st : List Value) (k : Int64 → Int64 → List Value → Option α) : Option α := match st with
  | .long y :: .long x :: r => k x y r
  | _ => none
def xli {α : Type} (st : List Value) (k : Int64 → Int32 → List Value → Option α) : Option α := match st with
  | .int y :: .long x :: r => k x y r
  | _ => none
def xa {α : Type} (st : List Value) (k : Nat → List Value → Option α) : Option α := match st with
  | .ref a :: r => k a r
  | _ => none
def xai {α : Type} (st : List Value) (k : Nat → Int32 → List Value → Option α) : Option α := match st with
  | .int i :: .ref a :: r => k a i r
  | _ => none
/-- a reference or null on top -/
def xq {α : Type} (st : List Value) (k : Option Nat → List Value → Option α) : Option α := match st with
  | .ref a :: r => k (some a) r
  | .null :: r => k none r
  | _ => none
/-- the object at a number, of class ci -/
def xob {α : Type} (h : xH) (a ci : Nat) (k : List Value → Option α) : Option α := match h.2.2 a with
  | some (.inr (c, fs)) => bif Nat.beq c ci then k fs else none
  | _ => none
/-- an int (or boolean) array at a number, of kind t -/
def xar {α : Type} (h : xH) (a t : Nat) (k : Nat → (Nat → Int32) → Option α) : Option α := match h.2.2 a with
  | some (.inl (c, n, .inl f)) => bif Nat.beq c t then k n f else none
  | _ => none
def xarl {α : Type} (h : xH) (a : Nat) (k : Nat → (Nat → Int64) → Option α) : Option α := match h.2.2 a with
  | some (.inl (c, n, .inr (.inl f))) => bif Nat.beq c 1 then k n f else none
  | _ => none
def xarq {α : Type} (h : xH) (a : Nat) (k : Nat → Nat → (Nat → Option Nat) → Option α) : Option α := match h.2.2 a with
  | some (.inl (c, n, .inr (.inr (.inr (.inr f))))) => bif Nat.beq c 3 || Nat.beq c 4 then k c n f else none
  | _ => none
def xin {α : Type} (i : Int32) (n : Nat) (k : Nat → Option α) : Option α := if i < 0 ∨ n ≤ i.toNatClampNeg then none else k i.toNatClampNeg
def xgt (ls : xL) (k : Nat) : Option Value := xFind ls k
def xTgt (pc : Nat) (off : Int) : Nat := ((pc : Int) + off).toNat
/-- the value fits its field: kind 0 int, 1 long, 2 a reference, 3 boolean -/
def xfit (k : Int) (v : Value) : Bool := match v with
  | .int x => k == 0 || (k == 3 && (x == 0 || x == 1))
  | .long _ => k == 1
  | .ref _ => k == 2
  | .null => k == 2
  | _ => false
def xTy (ci : Nat) : Nat → FieldType := match ci with
  | 0 => tyX0
  | 1 => tyX1
  | 2 => tyX2
  | 3 => tyX3
  | 4 => tyX4
  | 5 => tyX5
  | 6 => tyX6
  | 7 => tyX7
  | 8 => tyX8
  | 9 => tyX9
  | 10 => tyX10
  | 11 => tyX11
  | _ => tyX12
/-- the fields of a new object, by its class -/
def xNew (ci N : Nat) : List Value := (List.range N).map (fun k => defaultValue (xTy ci k))
/-- the element class of an array kind -/
def xEl (t : Nat) : Nat := bif Nat.beq t 3 then 2 else 10
def xTag (a : ArrayType) : Option Nat := match a with
  | .int => some 0
  | .long => some 1
  | .boolean => some 2
  | _ => none
def xZero (t n : Nat) : vp_A := bif Nat.beq t 1 then (n, .inr (.inl (fun _ => 0))) else (n, .inl (fun _ => 0))
/-- the bytes of the three texts -/
def xBy0 : List Int32 := [100, 97, 121, 32, 32, 32, 102, 117, 110, 100, 32, 32, 108, 97, 115, 116, 32, 32, 103, 111, 110, 101, 32, 32, 110, 117, 109, 98, 101, 114, 111, 100, 100, 115, 32, 32, 112, 101, 114, 105, 111, 100, 99, 111, 117, 110, 116, 32, 116, 104, 105, 110, 103, 32, 114, 104, 121, 109, 101, 32, 99, 97, 109, 101, 32, 32, 110, 111, 116, 32, 32, 32, 97, 110, 100, 32, 32, 32, 111, 114, 32, 32, 32, 32, 105, 102, 32, 32, 32, 32, 116, 104, 101, 110, 32, 32, 101, 108, 115, 101, 32, 32, 101, 110, 100, 32, 32, 32, 99, 104, 97, 110, 99, 101, 98, 114, 105, 110, 103, 115, 98, 105, 114, 100, 32, 32, 116, 104, 105, 110, 32, 32, 99, 97, 108, 108, 32, 32, 103, 114, 97, 110, 116, 32, 98, 121, 32, 32, 32, 32]
def xBy1 : List Int32 := [60, 62, 61, 35, 43, 45, 42, 47, 40, 41, 59]
def xBy2 : List Int32 := [48, 49, 50, 51, 48, 49, 51, 50, 48, 50, 49, 51, 48, 50, 51, 49, 48, 51, 49, 50, 48, 51, 50, 49, 49, 48, 50, 51, 49, 48, 51, 50, 49, 50, 48, 51, 49, 50, 51, 48, 49, 51, 48, 50, 49, 51, 50, 48, 50, 48, 49, 51, 50, 48, 51, 49, 50, 49, 48, 51, 50, 49, 51, 48, 50, 51, 48, 49, 50, 51, 49, 48, 51, 48, 49, 50, 51, 48, 50, 49, 51, 49, 48, 50, 51, 49, 50, 48, 51, 50, 48, 49, 51, 50, 49, 48]
def xStB (a : Nat) : Option (Nat × (Nat → Int32)) := match a with
  | 5 => some (150, fun j => xBy0.getD j 0)
  | 6 => some (11, fun j => xBy1.getD j 0)
  | 7 => some (96, fun j => xBy2.getD j 0)
  | _ => none
def xLn (ro : xRo) (a : Nat) : Option Nat := match xStB a with
  | some q => some q.1
  | none => bif Nat.blt a 2 then (ro a).map (fun q => q.1) else none
/-- one instruction that calls nothing -/
def xStep (ro : xRo) (i : xI) (pc : Nat) (ls : xL) (st : List Value) (h : xH) : Option xS :=
  match i.1 with
  | .aconst_null => some (pc + 1, ls, .null :: st, h)
  | .aload n => (xgt ls n).bind fun v => match v with
    | .ref a => some (pc + 2, ls, .ref a :: st, h)
    | .null => some (pc + 2, ls, .null :: st, h)
    | _ => none
  | .aload_n n => (xgt ls n).bind fun v => match v with
    | .ref a => some (pc + 1, ls, .ref a :: st, h)
    | .null => some (pc + 1, ls, .null :: st, h)
    | _ => none
  | .iload n => (xgt ls n).bind fun v => match v with
    | .int a => some (pc + 2, ls, .int a :: st, h)
    | _ => none
  | .iload_n n => (xgt ls n).bind fun v => match v with
    | .int a => some (pc + 1, ls, .int a :: st, h)
    | _ => none
  | .lload n => (xgt ls n).bind fun v => match v with
    | .long a => some (pc + 2, ls, .long a :: st, h)
    | _ => none
  | .lload_n n => (xgt ls n).bind fun v => match v with
    | .long a => some (pc + 1, ls, .long a :: st, h)
    | _ => none
  | .istore n => xi st fun x r => some (pc + 2, xP1 ls n (.int x), r, h)
  | .istore_n n => xi st fun x r => some (pc + 1, xP1 ls n (.int x), r, h)
  | .lstore n => xl st fun x r => some (pc + 2, xP2 ls n (.long x), r, h)
  | .lstore_n n => xl st fun x r => some (pc + 1, xP2 ls n (.long x), r, h)
  | .astore n => xq st fun x r => some (pc + 2, xP1 ls n (va_rf x), r, h)
  | .astore_n n => xq st fun x r => some (pc + 1, xP1 ls n (va_rf x), r, h)
  | .iinc n k => (xgt ls n).bind fun v => match v with
    | .int x => some (pc + 3, xP1 ls n (.int (x + Int32.ofInt k)), st, h)
    | _ => none
  | .iconst n => some (pc + 1, ls, .int (Int32.ofInt n) :: st, h)
  | .bipush n => some (pc + 2, ls, .int (Int32.ofInt n) :: st, h)
  | .sipush n => some (pc + 3, ls, .int (Int32.ofInt n) :: st, h)
  | .lconst n => some (pc + 1, ls, .long (Int64.ofNat n) :: st, h)
  | .ldc _ => bif Nat.beq i.2.2.1 0 then some (pc + 2, ls, .int (Int32.ofInt i.2.2.2.2.1) :: st, h) else some (pc + 2, ls, .ref i.2.2.2.1 :: st, h)
  | .ldc_w _ => some (pc + 3, ls, .int (Int32.ofInt i.2.2.2.2.1) :: st, h)
  | .ldc2_w _ => some (pc + 3, ls, .long (Int64.ofInt i.2.2.2.2.1) :: st, h)
  | .iadd => xii st fun x y r => some (pc + 1, ls, .int (x + y) :: r, h)
  | .isub => xii st fun x y r => some (pc + 1, ls, .int (x - y) :: r, h)
  | .imul => xii st fun x y r => some (pc + 1, ls, .int (x * y) :: r, h)
  | .iand => xii st fun x y r => some (pc + 1, ls, .int (x &&& y) :: r, h)
  | .ior => xii st fun x y r => some (pc + 1, ls, .int (x ||| y) :: r, h)
  | .ixor => xii st fun x y r => some (pc + 1, ls, .int (x ^^^ y) :: r, h)
  | .ishl => xii st fun x y r => some (pc + 1, ls, .int (x <<< (y &&& 31)) :: r, h)
  | .ishr => xii st fun x y r => some (pc + 1, ls, .int (x >>> (y &&& 31)) :: r, h)
  | .iushr => xii st fun x y r => some (pc + 1, ls, .int (x.toUInt32 >>> (y.toUInt32 &&& Int32.toUInt32 31)).toInt32 :: r, h)
  | .idiv => xii st fun x y r => if y = 0 then none else some (pc + 1, ls, .int (x / y) :: r, h)
  | .irem => xii st fun x y r => if y = 0 then none else some (pc + 1, ls, .int (x - x / y * y) :: r, h)
  | .ineg => xi st fun x r => some (pc + 1, ls, .int (-x) :: r, h)
  | .ladd => xll st fun x y r => some (pc + 1, ls, .long (x + y) :: r, h)
  | .lsub => xll st fun x y r => some (pc + 1, ls, .long (x - y) :: r, h)
  | .lmul => xll st fun x y r => some (pc + 1, ls, .long (x * y) :: r, h)
  | .lor => xll st fun x y r => some (pc + 1, ls, .long (x ||| y) :: r, h)
  | .ldiv => xll st fun x y r => if y = 0 then none else some (pc + 1, ls, .long (x / y) :: r, h)
  | .lrem => xll st fun x y r => if y = 0 then none else some (pc + 1, ls, .long (x - x / y * y) :: r, h)
  | .lneg => xl st fun x r => some (pc + 1, ls, .long (-x) :: r, h)
  | .lshl => xli st fun x y r => some (pc + 1, ls, .long (x <<< (y.toInt64 &&& 63)) :: r, h)
  | .lshr => xli st fun x y r => some (pc + 1, ls, .long (x >>> (y.toInt64 &&& 63)) :: r, h)
  | .lcmp => xll st fun x y r => some (pc + 1, ls, .int (lg_cmp x y) :: r, h)
  | .i2l => xi st fun x r => some (pc + 1, ls, .long x.toInt64 :: r, h)
  | .l2i => xl st fun x r => some (pc + 1, ls, .int x.toInt32 :: r, h)
  | .i2c => xi st fun x r => some (pc + 1, ls, .int (x.toUInt32 % 65536).toInt32 :: r, h)
  | .i2b => xi st fun x r => some (pc + 1, ls, .int x.toInt8.toInt32 :: r, h)
  | .dup => match st with
    | .int x :: r => some (pc + 1, ls, .int x :: .int x :: r, h)
    | .ref x :: r => some (pc + 1, ls, .ref x :: .ref x :: r, h)
    | _ => none
  | .dup2 => match st with
    | .int x :: .ref y :: r => some (pc + 1, ls, .int x :: .ref y :: .int x :: .ref y :: r, h)
    | _ => none
  | .pop => match st with
    | .int _ :: r => some (pc + 1, ls, r, h)
    | .ref _ :: r => some (pc + 1, ls, r, h)
    | _ => none
  | .goto off => some (xTgt pc off, ls, st, h)
  | .ifCond c off => xi st fun x r => match c with
    | .eq => some (if x = 0 then xTgt pc off else pc + 3, ls, r, h)
    | .ne => some (if ¬ x = 0 then xTgt pc off else pc + 3, ls, r, h)
    | .lt => some (if x < 0 then xTgt pc off else pc + 3, ls, r, h)
    | .ge => some (if 0 ≤ x then xTgt pc off else pc + 3, ls, r, h)
    | .gt => some (if 0 < x then xTgt pc off else pc + 3, ls, r, h)
    | .le => some (if x ≤ 0 then xTgt pc off else pc + 3, ls, r, h)
  | .if_icmp c off => xii st fun x y r => match c with
    | .eq => some (if x = y then xTgt pc off else pc + 3, ls, r, h)
    | .ne => some (if ¬ x = y then xTgt pc off else pc + 3, ls, r, h)
    | .lt => some (if x < y then xTgt pc off else pc + 3, ls, r, h)
    | .ge => some (if y ≤ x then xTgt pc off else pc + 3, ls, r, h)
    | .gt => some (if y < x then xTgt pc off else pc + 3, ls, r, h)
    | .le => some (if x ≤ y then xTgt pc off else pc + 3, ls, r, h)
  | .ifnull off => xq st fun a r => match a with
    | some _ => some (pc + 3, ls, r, h)
    | none => some (xTgt pc off, ls, r, h)
  | .ifnonnull off => xq st fun a r => match a with
    | some _ => some (xTgt pc off, ls, r, h)
    | none => some (pc + 3, ls, r, h)
  | .tableswitch d lo hi offs => xi st fun x r =>
    if x.toInt < lo ∨ hi < x.toInt then some (xTgt pc d, ls, r, h) else (offs[(x.toInt - lo).toNat]?).bind fun off => some (xTgt pc off, ls, r, h)
  | .lookupswitch d ps => xi st fun x r => some (xTgt pc (Op.lookupswitch.offset ps.toList d x.toInt), ls, r, h)
  | .getfield _ => bif i.2.2.2.2.1 == 5 then xa st fun a r => bif Nat.ble 2 a && Nat.ble a 4 then some (pc + 3, ls, .ref (a + 3) :: r, h) else none
    else bif i.2.2.2.2.1 == 6 then xa st fun a r => bif Nat.ble 2 a && Nat.ble a 4 then some (pc + 3, ls, .int 0 :: r, h) else none
    else xa st fun a r => xob h a i.2.2.1 fun fs => (fs[i.2.2.2.1]?).bind fun v => some (pc + 3, ls, v :: r, h)
  | .putfield _ => match st with
    | v :: .ref a :: r => xob h a i.2.2.1 fun fs => bif xfit i.2.2.2.2.1 v && Nat.blt i.2.2.2.1 fs.length then some (pc + 3, ls, r, xUp h a (.inr (i.2.2.1, fs.set i.2.2.2.1 v))) else none
    | _ => none
  | .getstatic _ => bif i.2.2.2.2.1 == 1 then some (pc + 3, ls, .int 1 :: st, h)
    else bif i.2.2.2.2.1 == 2 then match ro 8 with
      | some _ => some (pc + 3, ls, .ref 8 :: st, h)
      | none => some (pc + 3, ls, .null :: st, h)
    else some (pc + 3, ls, .ref i.2.2.2.1 :: st, h)
  | .iaload => xai st fun a k r => bif Nat.blt a 2 then (ro a).bind fun q => xin k q.1 fun j => some (pc + 1, ls, .int (q.2 j) :: r, h)
      else xar h a 0 fun n f => xin k n fun j => some (pc + 1, ls, .int (f j) :: r, h)
  | .baload => xai st fun a k r => bif Nat.blt a 16 then (xStB a).bind fun q => xin k q.1 fun j => some (pc + 1, ls, .int (q.2 j) :: r, h)
      else xar h a 2 fun n f => xin k n fun j => some (pc + 1, ls, .int (f j) :: r, h)
  | .laload => xai st fun a k r => xarl h a fun n f => xin k n fun j => some (pc + 1, ls, .long (f j) :: r, h)
  | .aaload => xai st fun a k r => xarq h a fun _ n f => xin k n fun j => some (pc + 1, ls, va_rf (f j) :: r, h)
  | .iastore => xi st fun x r => xai r fun a k r => xar h a 0 fun n f => xin k n fun j => some (pc + 1, ls, r, xUp h a (.inl (0, n, .inl (upd f j x))))
  | .bastore => xi st fun x r => xai r fun a k r => xar h a 2 fun n f => xin k n fun j => if x = 0 ∨ x = 1 then some (pc + 1, ls, r, xUp h a (.inl (2, n, .inl (upd f j x)))) else none
  | .lastore => xl st fun x r => xai r fun a k r => xarl h a fun n f => xin k n fun j => some (pc + 1, ls, r, xUp h a (.inl (1, n, .inr (.inl (vp_updL f j x)))))
  | .aastore => xq st fun v r => xai r fun a k r => xarq h a fun t n f => xin k n fun j => match v with
    | none => some (pc + 1, ls, r, xUp h a (.inl (t, n, .inr (.inr (.inr (.inr (va_up f j none)))))))
    | some o => xob h o (xEl t) fun _ => some (pc + 1, ls, r, xUp h a (.inl (t, n, .inr (.inr (.inr (.inr (va_up f j (some o))))))))
  | .arraylength => xa st fun a r => bif Nat.blt a 16 then (xLn ro a).bind fun n => some (pc + 1, ls, .int (Int32.ofNat n) :: r, h)
      else match h.2.2 a with
        | some (.inl (t, n, _)) => bif Nat.blt t 5 then some (pc + 1, ls, .int (Int32.ofNat n) :: r, h) else none
        | _ => none
  | .newarray at_ => xi st fun x r => (xTag at_).bind fun t => if x < 0 ∨ 100000 < x.toNatClampNeg then none else some (pc + 2, ls, .ref h.1 :: r, xNw h x.toNatClampNeg (.inl (t, xZero t x.toNatClampNeg)))
  | .anewarray _ => xi st fun x r => if x < 0 ∨ 100000 < x.toNatClampNeg then none else some (pc + 3, ls, .ref h.1 :: r, xNw h x.toNatClampNeg (.inl (i.2.2.1, x.toNatClampNeg, .inr (.inr (.inr (.inr (fun _ => none)))))))
  | .new _ => some (pc + 3, ls, .ref h.1 :: st, xNw h i.2.2.2.1 (.inr (i.2.2.1, xNew i.2.2.1 i.2.2.2.1)))
  | .invokestatic _ => bif i.2.2.2.2.1 == 9 then match st with
      | .int n :: .int dp :: .ref a :: .int sp :: .ref a0 :: r => xar h a0 0 fun n0 f => xar h a 0 fun n1 f1 =>
          if sp < 0 ∨ dp < 0 ∨ n < 0 ∨ n0 < sp.toNatClampNeg + n.toNatClampNeg ∨ n1 < dp.toNatClampNeg + n.toNatClampNeg ∨ 8 < (r.map fun v => v.category).sum then none
          else some (pc + 3, ls, r, xUp h a (.inl (0, n1, .inl (va_cpy f f1 sp.toNatClampNeg dp.toNatClampNeg n.toNatClampNeg))))
      | _ => none
    else bif i.2.2.2.2.1 == 10 then xii st fun x y r => if 8 < (r.map fun v => v.category).sum then none else some (pc + 3, ls, .int (if x < y then y else x) :: r, h)
    else bif i.2.2.2.2.1 == 11 then xii st fun x y r => if 8 < (r.map fun v => v.category).sum then none else some (pc + 3, ls, .int (if y < x then y else x) :: r, h)
    else bif i.2.2.2.2.1 == 12 then xll st fun x y r => if 8 < (r.map fun v => v.category).sum then none else some (pc + 3, ls, .long (if y < x then x else y) :: r, h)
    else bif i.2.2.2.2.1 == 13 then xll st fun x y r => if 8 < (r.map fun v => v.category).sum then none else some (pc + 3, ls, .long (if y < x then y else x) :: r, h)
    else none
  | .invokevirtual _ => bif i.2.2.2.2.1 == 8 then xa st fun a r => xar h a 0 fun n f => if 8 < (r.map fun v => v.category).sum ∨ 100000 < n then none else some (pc + 3, ls, .ref h.1 :: r, xNw h n (.inl (0, n, .inl f))) else none
  | .checkcast _ => xa st fun a r => xar h a 0 fun _ _ => some (pc + 3, ls, .ref a :: r, h)
  | .invokespecial _ => bif i.2.2.2.2.1 == 8 then xa st fun _ r => if 8 < (r.map fun v => v.category).sum then none else some (pc + 3, ls, r, h) else none
  | _ => none
end
section
/-! ===== What a resolved instruction must be of the bytes and of the tables, by program ===== -/
def xwd (i : xI) (k : Nat) (w : Jvm.Cond) : Bool := match i.2.2.2.2.2[k]? with
  | some p => decide (lw_tbl[p]? = some w) && goodWord w
  | none => false
def xLen (i : Instr) : Option Nat := match i with
  | .aload _ | .iload _ | .lload _ | .istore _ | .lstore _ | .astore _ | .bipush _ | .ldc _ | .newarray _ => some 2
  | .iinc _ _ | .sipush _ | .ldc_w _ | .ldc2_w _ | .goto _ | .ifCond _ _ | .if_icmp _ _ | .ifnull _ | .ifnonnull _ | .getfield _ | .putfield _ | .getstatic _ | .anewarray _ | .new _ | .invokevirtual _ | .invokestatic _ | .invokespecial _ | .checkcast _ => some 3
  | .tableswitch _ _ _ _ | .lookupswitch _ _ => none
  | _ => some 1
def xNn (pc : Nat) (off : Int) : Bool := decide (0 ≤ (pc : Int) + off)
/-- the kind of a field's type -/
def xKd (ty : FieldType) (k : Int) : Bool := match ty with
  | .int => k == 0
  | .long => k == 1
  | .boolean => k == 3
  | .object _ => k == 2
  | .array _ => k == 2
  | _ => false
def xChk2 (own mname : String) (nL pc : Nat) (i : xI) : Bool := match i.1 with
  | .istore n => decide (n < nL)
  | .istore_n n => decide (n.val < nL)
  | .lstore n => decide (n + 1 < nL)
  | .lstore_n n => decide (n.val + 1 < nL)
  | .astore n => decide (n < nL)
  | .astore_n n => decide (n.val < nL)
  | .iinc n _ => decide (n < nL)
  | .bipush n => decide ((Int8.ofInt n).toInt32 = Int32.ofInt n)
  | .sipush n => decide ((Int16.ofInt n).toInt32 = Int32.ofInt n)
  | .ldc idx => bif Nat.beq i.2.2.1 0 then xwd i 0 (.constant own idx (Int32.ofInt i.2.2.2.2.1)) else
      (decide (own = RX9) && Nat.beq idx 71 && Nat.beq i.2.2.2.1 2) || (decide (own = RX9) && Nat.beq idx 64 && Nat.beq i.2.2.2.1 3) || (decide (own = RX4) && Nat.beq idx 50 && Nat.beq i.2.2.2.1 4)
  | .ldc_w idx => xwd i 0 (.constant own idx (Int32.ofInt i.2.2.2.2.1))
  | .ldc2_w idx => xwd i 0 (.constantLong own idx (Int64.ofInt i.2.2.2.2.1))
  | .goto off => xNn pc off
  | .ifCond _ off => xNn pc off
  | .if_icmp _ off => xNn pc off
  | .ifnull off => xNn pc off
  | .ifnonnull off => xNn pc off
  | .tableswitch d _ _ offs => xNn pc d && offs.toList.all (xNn pc)
  | .lookupswitch d ps => xNn pc d && ps.toList.all (fun q => xNn pc q.2) && (ps.toList.zip (ps.toList.drop 1)).all (fun (a, next) => decide (a.1 < next.1))
  | .getfield idx => bif i.2.2.2.2.1 == 5 then xwd i 0 (.fieldLink own idx "java/lang/String" "value" "[B") else bif i.2.2.2.2.1 == 6 then xwd i 0 (.fieldLink own idx "java/lang/String" "coder" "B") else match vwCl[i.2.2.1]? with
    | some q => decide (i.2.2.2.1 < q.2.2) && xwd i 0 (.fieldLink own idx (q.2.1 i.2.2.2.1).1 (q.2.1 i.2.2.2.1).2.1 (q.2.1 i.2.2.2.1).2.2.1)
    | none => false
  | .putfield idx => match vwCl[i.2.2.1]? with
    | some q => decide (i.2.2.2.1 < q.2.2) && xwd i 0 (.fieldLink own idx (q.2.1 i.2.2.2.1).1 (q.2.1 i.2.2.2.1).2.1 (q.2.1 i.2.2.2.1).2.2.1) && xKd (xTy i.2.2.1 i.2.2.2.1) i.2.2.2.2.1 &&
        (!(q.2.1 i.2.2.2.1).2.2.2 || (decide (mname = "<init>") && decide ((q.2.1 i.2.2.2.1).1 = own)))
    | none => false
  | .getstatic idx => bif i.2.2.2.2.1 == 1 then xwd i 0 (.fieldLink own idx "java/lang/String" "COMPACT_STRINGS" "Z") else bif i.2.2.2.2.1 == 2 then xwd i 0 (.fieldLink own idx "jdk/internal/util/Preconditions" "SIOOBE_FORMATTER" "Ljava/util/function/BiFunction;") else Nat.beq i.2.2.2.1 1 && xwd i 0 (.fieldLink own idx "MagpieAccounts" "GAME_PARTS" "[I")
  | .newarray t => xwd i 0 (.arrayClass (newarray.typeOf t))
  | .anewarray idx => (Nat.beq i.2.2.1 3 && xwd i 0 (.classLink own idx RX2)) || (Nat.beq i.2.2.1 4 && xwd i 0 (.classLink own idx RX10))
  | .new idx => match vwCl[i.2.2.1]? with
    | some q => Nat.beq i.2.2.2.1 q.2.2 && xwd i 0 (.classLink own idx q.1) && xwd i 1 (.instantiable q.1 q.2.2) && xwd i 2 (.initialized q.1)
    | none => false
  | .invokevirtual idx => bif i.2.2.2.2.1 == 8 then xwd i 0 (.methodLink own idx ⟨"[I", "clone", "()Ljava/lang/Object;"⟩) && xwd i 1 (.sameMethod "[I" "java/lang/Object" "clone" "()Ljava/lang/Object;") && xwd i 2 (.native ⟨"java/lang/Object", "clone", "()Ljava/lang/Object;"⟩) && xwd i 3 (.instanceMethod ⟨"java/lang/Object", "clone", "()Ljava/lang/Object;"⟩) && xwd i 4 (.selects "[I" ⟨"[I", "clone", "()Ljava/lang/Object;"⟩ ⟨"java/lang/Object", "clone", "()Ljava/lang/Object;"⟩) else true
  | .checkcast idx => xwd i 0 (.classLink own idx "[I")
  | .invokestatic idx => bif i.2.2.2.2.1 == 9 then xwd i 0 (.methodLink own idx arraycopyName) && xwd i 1 (.native arraycopyName) && xwd i 2 (.static arraycopyName) && xwd i 3 (.initialized "java/lang/System")
    else bif i.2.2.2.2.1 == 10 then xwd i 0 (.methodLink own idx Lib.Math.max.name) && xwd i 1 (.static Lib.Math.max.name) && xwd i 2 (.initialized "java/lang/Math") && xwd i 3 (.code Lib.Math.max.name Lib.Math.max.code 2 (some .int))
    else bif i.2.2.2.2.1 == 11 then xwd i 0 (.methodLink own idx Lib.Math.min.name) && xwd i 1 (.static Lib.Math.min.name) && xwd i 2 (.initialized "java/lang/Math") && xwd i 3 (.code Lib.Math.min.name Lib.Math.min.code 2 (some .int))
    else bif i.2.2.2.2.1 == 12 then xwd i 0 (.methodLink own idx Lib.MathLoose.max_long.x) && xwd i 1 (.static Lib.MathLoose.max_long.x) && xwd i 2 (.initialized "java/lang/Math") && xwd i 3 (.code Lib.MathLoose.max_long.x Lib.MathLoose.max_long.code 4 (some .long))
    else bif i.2.2.2.2.1 == 13 then xwd i 0 (.methodLink own idx Lib.MathLoose.min_long.x) && xwd i 1 (.static Lib.MathLoose.min_long.x) && xwd i 2 (.initialized "java/lang/Math") && xwd i 3 (.code Lib.MathLoose.min_long.x Lib.MathLoose.min_long.code 4 (some .long))
    else true
  | .invokespecial idx => bif i.2.2.2.2.1 == 8 then xwd i 0 (.methodLink own idx Lib.objectInit) && xwd i 1 (.instanceMethod Lib.objectInit) && xwd i 2 (.code Lib.objectInit ⟨#[0xb1]⟩ 1 none) else true
  | _ => true
def xChk (own mname : String) (cc : ByteArray) (nL pc : Nat) (i : xI) : Bool :=
  decide (decode cc pc = .ok (i.1, i.2.1)) && (match xLen i.1 with
    | some n => Nat.beq i.2.1 n
    | none => true) && xChk2 own mname nL pc i
def xNests : List Cond := lw_tbl.filter (fun w => match w with
  | .methodLinkNest _ _ _ _ => true
  | _ => false)
/-- a method: its name, bytes, locals, type of answer, resolved code -/
abbrev xMeth : Type := MethodName × ByteArray × Nat × Option FieldType × xC
/-- a call: the method's number, how many values it takes off the stack -/
def xCallee (i : xI) : Option (Nat × Nat) := match i.1 with
  | .invokevirtual _ => bif Nat.blt i.2.2.2.2.1.toNat 8 then some (i.2.2.1, i.2.2.2.1) else none
  | .invokestatic _ => bif Nat.blt i.2.2.2.2.1.toNat 8 then some (i.2.2.1, i.2.2.2.1) else none
  | .invokespecial _ => bif Nat.blt i.2.2.2.2.1.toNat 8 then some (i.2.2.1, i.2.2.2.1) else none
  | _ => none
/-- how a call's words stand -/
def xChkC (P : Nat → Option xMeth) (own : String) (i : xI) : Bool := match xCallee i with
  | none => true
  | some (j, k) => match P j with
    | none => false
    | some M => decide (M.1.cls ≠ "java/lang/invoke/MethodHandle") && decide (M.1.cls ≠ "java/lang/invoke/VarHandle") && Nat.ble M.2.2.1 100 && xwd i 2 (.initialized M.1.cls) &&
      (match i.1 with
      | .invokevirtual idx => xwd i 0 (.methodLink own idx M.1) && xwd i 3 (.instanceMethod M.1) && xwd i 4 (.selects M.1.cls M.1 M.1) && decide ((parseMethodDescriptor M.1.desc).map (fun d => d.parameters.length + 1) = some k) && (match vwCl[i.2.2.2.2.2.getD 5 0]? with
          | some q => decide (q.1 = M.1.cls)
          | none => Nat.beq (i.2.2.2.2.2.getD 5 0) 99 && decide (M.1.cls = "java/lang/String"))
      | .invokestatic idx => xwd i 3 (.static M.1) && decide ((parseMethodDescriptor M.1.desc).map (fun d => d.parameters.length) = some k) && (bif i.2.2.2.2.1 == 0 then xwd i 0 (.methodLink own idx M.1) else decide (Jvm.Cond.methodLinkNest own idx M.1 "MagpieAccounts" ∈ xNests))
      | .invokespecial idx => xwd i 3 (.instanceMethod M.1) && decide (M.1.name = "<init>" ∧ M.2.2.2.1 = none) && decide ((parseMethodDescriptor M.1.desc).map (fun d => d.parameters.length + 1) = some k) && (bif i.2.2.2.2.1 == 0 then xwd i 0 (.methodLink own idx M.1) else decide (Jvm.Cond.methodLinkNest own idx M.1 "MagpieAccounts" ∈ xNests))
      | _ => false)
/-- a program's method is as the bytes and the tables have it -/
def xChkM (P : Nat → Option xMeth) (M : xMeth) : Bool := decide (plainName M.1.cls = true) && M.2.2.2.2.all (fun l => l.all (fun q => xChk M.1.cls M.1.name M.2.1 M.2.2.1 q.1 q.2 && xChkC P M.1.cls q.2))
end
section
/-! ===== The abstract heap in the machine's heap ===== -/
/-- where the numbers lie: below 16 by a table, the others one behind the other from the heap's end at the law's start; the array classes; the classes -/
abbrev xG : Type := Nat × (Nat → Nat) × (Nat → ClassId) × va_G
def xad (g : xG) (i : Nat) : Nat := if i < 16 then g.2.1 i else g.1 + (i - 16)
def xTv (g : xG) (v : Value) : Value := match v with
  | .ref a => .ref (xad g a)
  | v => v
def xTe (g : xG) (e : va_E) : va_E := match e with
  | .inl (t, n, .inr (.inr (.inr (.inr f)))) => .inl (g.2.2.1 t, n, .inr (.inr (.inr (.inr (fun j => (f j).map (xad g))))))
  | .inl (t, n, .inl f) => .inl (g.2.2.1 t, n, .inl f)
  | .inl (t, n, .inr (.inl f)) => .inl (g.2.2.1 t, n, .inr (.inl f))
  | .inl (t, n, .inr (.inr (.inl f))) => .inl (g.2.2.1 t, n, .inr (.inr (.inl f)))
  | .inl (t, n, .inr (.inr (.inr (.inl f)))) => .inl (g.2.2.1 t, n, .inr (.inr (.inr (.inl f))))
  | .inr (c, fs) => .inr (c, fs.map (xTv g))
def xA (g : xG) : Nat → Prop := fun q => g.1 ≤ q
def xTys (g : xG) : List (ClassId × FieldType) := [(g.2.2.1 0, .int), (g.2.2.1 1, .long), (g.2.2.1 2, .boolean), (g.2.2.1 3, .object RX2), (g.2.2.1 4, .object RX10)]
/-- the heap holds the abstract heap -/
def xW (g : xG) (h : xH) (H : Heap) : Prop := 16 ≤ h.1 ∧ H.size + 16 = g.1 + h.1 ∧ ∀ (i : Nat) (e : va_E), h.2.2 i = some e → 16 ≤ i ∧ i < h.1 ∧ va_at g.2.2.2 vwCl (xad g i, xTe g e) H
theorem xad_ge {g : xG} {i : Nat} (h : 16 ≤ i) : xad g i = g.1 + (i - 16) := by simp [xad, Nat.not_lt.mpr h]
theorem xad_A {g : xG} {i : Nat} (h : 16 ≤ i) : xA g (xad g i) := by rw [xad_ge h]; exact Nat.le_add_right _ _
theorem xad_ne {g : xG} {i j : Nat} (hi : 16 ≤ i) (hj : 16 ≤ j) (h : i ≠ j) : xad g i ≠ xad g j := by rw [xad_ge hi, xad_ge hj]; omega
theorem xTv_rf (g : xG) (r : Option Nat) : xTv g (va_rf r) = va_rf (r.map (xad g)) := by cases r <;> rfl
theorem xTv_cat (g : xG) (v : Value) : (xTv g v).category = v.category := by cases v <;> rfl
theorem xCat_map (g : xG) (st : List Value) : ((st.map (xTv g)).map fun v => v.category) = st.map fun v => v.category := by
  rw [List.map_map]
  exact List.map_congr_left fun v _ => xTv_cat g v
theorem xW.up {g : xG} {h : xH} {H H1 : Heap} {i : Nat} {e : va_E} (hW : xW g h H) (hi : 16 ≤ i) (hlt : i < h.1) (z : H1.size = H.size) (oq : ∀ q : Nat, q ≠ xad g i → H1[q]? = H[q]?) (he : va_at g.2.2.2 vwCl (xad g i, xTe g e) H1) : xW g (xUp h i e) H1 := by
  obtain ⟨h1, h2, h3⟩ := hW
  refine ⟨h1, by rw [z]; exact h2, fun j ej hj => ?_⟩
  change (if j = i then some e else h.2.2 j) = some ej at hj
  by_cases hji : j = i
  · subst hji
    rw [if_pos rfl] at hj
    cases hj
    exact ⟨hi, hlt, he⟩
  · rw [if_neg hji] at hj
    obtain ⟨a1, a2, a3⟩ := h3 j ej hj
    exact ⟨a1, a2, a3.kept (oq _ (xad_ne a1 hi hji))⟩
theorem xW.nw {g : xG} {h : xH} {H H1 : Heap} {n : Nat} {e : va_E} (hW : xW g h H) (z : H1.size = H.size + 1) (oq : ∀ q : Nat, q < H.size → H1[q]? = H[q]?) (he : va_at g.2.2.2 vwCl (H.size, xTe g e) H1) : xW g (xNw h n e) H1 := by
  obtain ⟨h1, h2, h3⟩ := hW
  have hs : H.size = xad g h.1 := by rw [xad_ge h1]; omega
  refine ⟨Nat.le_succ_of_le h1, by rw [z]; show _ = g.1 + (h.1 + 1); omega, fun j ej hj => ?_⟩
  change (if j = h.1 then some e else h.2.2 j) = some ej at hj
  by_cases hji : j = h.1
  · subst hji
    rw [if_pos rfl] at hj
    cases hj
    exact ⟨h1, Nat.lt_succ_self _, by rw [← hs]; exact he⟩
  · rw [if_neg hji] at hj
    obtain ⟨a1, a2, a3⟩ := h3 j ej hj
    exact ⟨a1, Nat.lt_succ_of_lt a2, a3.kept (oq _ a3.lt)⟩
theorem xW.size {g : xG} {h : xH} {H : Heap} (hW : xW g h H) : H.size = xad g h.1 := by
  obtain ⟨h1, h2, -⟩ := hW
  rw [xad_ge h1]; omega
theorem xW.A {g : xG} {h : xH} {H : Heap} (hW : xW g h H) {q : Nat} (hq : H.size ≤ q) : xA g q := by
  obtain ⟨h1, h2, -⟩ := hW
  show g.1 ≤ q
  omega
/-- one cell as a world of the kit -/
theorem xOne {D : va_G} {cl : List vw_C} {q : Nat × va_E} {H : Heap} (h : va_at D cl q H) : va_P D cl [q] H := by
  intro k x hx
  have hz : k < 1 := (List.getElem?_eq_some_iff.mp hx).1
  rw [show k = 0 by omega] at hx
  cases hx
  exact h
/-! what never changes: tables, constants -/
theorem xNests_ok {w : Cond} (h : w ∈ xNests) : ∃ a i y z, w = .methodLinkNest a i y z := by
  have h2 := (List.mem_filter.mp h).2
  cases w <;> first | exact ⟨_, _, _, _, rfl⟩ | (exact absurd h2 Bool.false_ne_true)
def xStrs (g : xG) (ro : xRo) (U : State) (H : Heap) : Prop :=
  (∃ tx, vk_R RX9 71 tx (g.2.1 2) U) ∧ (∃ tx, vk_R RX9 64 tx (g.2.1 3) U) ∧ (∃ tx, vk_R RX4 50 tx (g.2.1 4) U) ∧
  vk_S 3 [150, 11, 96] [xBy0, xBy1, xBy2] (fun i => g.2.1 (2 + i)) (fun i => g.2.1 (5 + i)) (xA g) U H ∧ va_Z "java/lang/String" "COMPACT_STRINGS" "Z" (.int 1) (xA g) U H ∧
  va_Z "jdk/internal/util/Preconditions" "SIOOBE_FORMATTER" "Ljava/util/function/BiFunction;" (match ro 8 with
    | some _ => .ref (g.2.1 8)
    | none => .null) (xA g) U H ∧ va_Nw (.castable "[I" "java/lang/Cloneable") U
def xK (g : xG) (ro : xRo) (U : State) (H : Heap) : Prop :=
  va_K g.2.2.2 vwCl (xTys g) U ∧ (∀ w ∈ xNests, va_Nw w U) ∧ va_AO RX2 U ∧ va_AO RX10 U ∧ (∀ (i n : Nat) (f : Nat → Int32), i < 2 → ro i = some (n, f) → va_T .int (g.2.1 i) n (fun j => .int (f j)) (xA g) U H) ∧ va_Z "MagpieAccounts" "GAME_PARTS" "[I" (.ref (g.2.1 1)) (xA g) U H ∧ xStrs g ro U H
theorem xK.kept {g : xG} {ro : xRo} {U : State} {H H1 : Heap} (h : xK g ro U H) (hq : ∀ a : Nat, a < H.size → ¬ xA g a → H1[a]? = H[a]?) : xK g ro U H1 := by
  obtain ⟨h1, h2, h3, h4, h5, h6, ⟨s1, s2, s3, s4, s5, s6, s7⟩⟩ := h
  exact ⟨h1, h2, h3, h4, fun i n f hi hr => (h5 i n f hi hr).kept hq, h6.kept hq, s1, s2, s3, s4.kept hq, s5.kept hq, s6.kept hq, s7⟩
theorem xK.warm {g : xG} {ro : xRo} {s U : State} {H : Heap} (hW : s.WarmedH U.vm) (h : xK g ro s H) : xK g ro U H := by
  obtain ⟨h1, h2, h3, h4, h5, h6, ⟨⟨t1, s1⟩, ⟨t2, s2⟩, ⟨t3, s3⟩, s4, s5, s6, s7⟩⟩ := h
  refine ⟨va_K.moved hW.alike h1, fun w hw => ?_, h3.moved hW.alike, h4.moved hW.alike, fun i n f hi hr => (h5 i n f hi hr).moved hW.alike, h6.moved hW.alike, ⟨t1, s1.warm hW⟩, ⟨t2, s2.warm hW⟩, ⟨t3, s3.warm hW⟩, s4.moved hW.alike, s5.moved hW.alike, s6.moved hW.alike, va_Nw.warmC hW s7⟩
  have h := h2 w hw
  obtain ⟨a, i, y, z, rfl⟩ := xNests_ok hw
  exact va_Nw.warmM hW h
theorem xK.same {g : xG} {ro : xRo} {u U : State} {H : Heap} (hv : u.vm = U.vm) (h : xK g ro u H) : xK g ro U H := by
  have al : u.vm.Alike U.vm := by rw [hv]; exact Vm.Alike.refl _
  obtain ⟨h1, h2, h3, h4, h5, h6, ⟨⟨t1, s1⟩, ⟨t2, s2⟩, ⟨t3, s3⟩, s4, s5, s6, s7⟩⟩ := h
  refine ⟨va_K.moved al h1, fun w hw => ?_, h3.moved al, h4.moved al, fun i n f hi hr => (h5 i n f hi hr).moved al, h6.moved al, ⟨t1, s1.same hv.symm⟩, ⟨t2, s2.same hv.symm⟩, ⟨t3, s3.same hv.symm⟩, s4.moved al, s5.moved al, s6.moved al, va_Nw.same rfl hv s7⟩
  have h := h2 w hw
  obtain ⟨a, i, y, z, rfl⟩ := xNests_ok hw
  exact va_Nw.same rfl hv h
end
section
/-! ===== inversions ===== -/
theorem xwd_in {i : xI} {k : Nat} {w : Jvm.Cond} (h : xwd i k w = true) : w ∈ xTb := by
  unfold xwd at h
  split at h
  · simp only [Bool.and_eq_true, decide_eq_true_eq] at h
    exact List.mem_filter.mpr ⟨List.mem_of_getElem? h.1, h.2⟩
  · cases h
theorem xTgt_eq {pc : Nat} {off : Int} (h : xNn pc off = true) : (pc : Int) + off = (xTgt pc off : Int) := by
  have h1 : 0 ≤ (pc : Int) + off := of_decide_eq_true h
  unfold xTgt
  omega
theorem xi_inv {α : Type} {st : List Value} {k : Int32 → List Value → Option α} {s : α} (h : xi st k = some s) : ∃ x r, st = .int x :: r ∧ k x r = some s := by
  unfold xi at h
  split at h
  · exact ⟨_, _, rfl, h⟩
  · cases h
theorem xii_inv {α : Type} {st : List Value} {k : Int32 → Int32 → List Value → Option α} {s : α} (h : xii st k = some s) : ∃ x y r, st = .int y :: .int x :: r ∧ k x y r = some s := by
  unfold xii at h
  split at h
  · exact ⟨_, _, _, rfl, h⟩
  · cases h
theorem xl_inv {α : Type} {st : List Value} {k : Int64 → List Value → Option α} {s : α} (h : xl st k = some s) : ∃ x r, st = .long x :: r ∧ k x r = some s := by
  unfold xl at h
  split at h
  · exact ⟨_, _, rfl, h⟩
  · cases h
theorem xll_inv {α : Type} {st : List Value} {k : Int64 → Int64 → List Value → Option α} {s : α} (h : xll st k = some s) : ∃ x y r, st = .long y :: .long x :: r ∧ k x y r = some s := by
  unfold xll at h
  split at h
  · exact ⟨_, _, _, rfl, h⟩
  · cases h
theorem xli_inv {α : Type} {st : List Value} {k : Int64 → Int32 → List Value → Option α} {s : α} (h : xli st k = some s) : ∃ x y r, st = .int y :: .long x :: r ∧ k x y r = some s := by
  unfold xli at h
  split at h
  · exact ⟨_, _, _, rfl, h⟩
  · cases h
theorem xa_inv {α : Type} {st : List Value} {k : Nat → List Value → Option α} {s : α} (h : xa st k = some s) : ∃ x r, st = .ref x :: r ∧ k x r = some s := by
  unfold xa at h
  split at h
  · exact ⟨_, _, rfl, h⟩
  · cases h
theorem xai_inv {α : Type} {st : List Value} {k : Nat → Int32 → List Value → Option α} {s : α} (h : xai st k = some s) : ∃ a i r, st = .int i :: .ref a :: r ∧ k a i r = some s := by
  unfold xai at h
  split at h
  · exact ⟨_, _, _, rfl, h⟩
  · cases h
theorem xq_inv {α : Type} {st : List Value} {k : Option Nat → List Value → Option α} {s : α} (h : xq st k = some s) : ∃ a r, st = va_rf a :: r ∧ k a r = some s := by
  unfold xq at h
  split at h
  · exact ⟨some _, _, rfl, h⟩
  · exact ⟨none, _, rfl, h⟩
  · cases h
theorem xbeq {a b : Nat} (h : Nat.beq a b = true) : a = b := Nat.eq_of_beq_eq_true h
theorem xob_inv {α : Type} {h : xH} {a ci : Nat} {k : List Value → Option α} {s : α} (hh : xob h a ci k = some s) : ∃ fs, h.2.2 a = some (.inr (ci, fs)) ∧ k fs = some s := by
  unfold xob at hh
  split at hh
  · rename_i c fs he
    cases hc : Nat.beq c ci with
    | true => rw [hc] at hh; exact ⟨fs, by rw [he, xbeq hc], hh⟩
    | false => rw [hc] at hh; cases hh
  · cases hh
theorem xar_inv {α : Type} {h : xH} {a t : Nat} {k : Nat → (Nat → Int32) → Option α} {s : α} (hh : xar h a t k = some s) : ∃ n f, h.2.2 a = some (.inl (t, n, .inl f)) ∧ k n f = some s := by
  unfold xar at hh
  split at hh
  · rename_i c n f he
    cases hc : Nat.beq c t with
    | true => rw [hc] at hh; exact ⟨n, f, by rw [he, xbeq hc], hh⟩
    | false => rw [hc] at hh; cases hh
  · cases hh
theorem xarl_inv {α : Type} {h : xH} {a : Nat} {k : Nat → (Nat → Int64) → Option α} {s : α} (hh : xarl h a k = some s) : ∃ n f, h.2.2 a = some (.inl (1, n, .inr (.inl f))) ∧ k n f = some s := by
  unfold xarl at hh
  split at hh
  · rename_i c n f he
    cases hc : Nat.beq c 1 with
    | true => rw [hc] at hh; exact ⟨n, f, by rw [he, xbeq hc], hh⟩
    | false => rw [hc] at hh; cases hh
  · cases hh
theorem xarq_inv {α : Type} {h : xH} {a : Nat} {k : Nat → Nat → (Nat → Option Nat) → Option α} {s : α} (hh : xarq h a k = some s) : ∃ t n f, (t = 3 ∨ t = 4) ∧ h.2.2 a = some (.inl (t, n, .inr (.inr (.inr (.inr f))))) ∧ k t n f = some s := by
  unfold xarq at hh
  split at hh
  · rename_i c n f he
    cases hc : (Nat.beq c 3 || Nat.beq c 4) with
    | true =>
      rw [hc] at hh
      refine ⟨c, n, f, ?_, he, hh⟩
      rcases Bool.or_eq_true_iff.mp hc with h1 | h1
      · exact Or.inl (xbeq h1)
      · exact Or.inr (xbeq h1)
    | false => rw [hc] at hh; cases hh
  · cases hh
theorem xin_inv {α : Type} {i : Int32} {n : Nat} {k : Nat → Option α} {s : α} (h : xin i n k = some s) : vp_in i n ∧ k i.toNatClampNeg = some s := by
  unfold xin at h
  split at h
  · cases h
  · exact ⟨by assumption, h⟩
end
section
/-! ===== One step of the small machine is a step of the JVM ===== -/
def xTl (g : xG) (ls : xL) : xL := ls.map fun q => (q.1, xTv g q.2)
def xCx (p : Program) (s : State) (m : MethodId) (args : Array Value) (meth : Method) (c : Code) (g : xG) (ro : xRo) (own mname : String) (cc : ByteArray) (nL : Nat) : Prop :=
  p.tables.exec = Jvm.exec ∧ c.code = cc ∧ c.maxLocals = nL ∧ s.vm.findClass own = some m.cls ∧ (∀ w ∈ xTb, w.before args s = true) ∧ (mname = "<init>" → meth.name = "<init>") ∧ xK g ro s s.heap
theorem xFind_mem {α : Type} {l : List (Nat × α)} {k : Nat} {v : α} (h : xFind l k = some v) : (k, v) ∈ l := by
  induction l with
  | nil => cases h
  | cons q l ih =>
    unfold xFind at h
    cases hq : Nat.beq q.1 k with
    | true =>
      rw [hq] at h
      cases h
      rw [← xbeq hq]
      exact List.mem_cons_self
    | false => rw [hq] at h; exact List.mem_cons_of_mem _ (ih h)
theorem xL_at {g : xG} {ls : xL} {Ls : Array Slot} {nL k : Nat} {v : Value} (hL : lv_has Ls nL (xTl g ls)) (h : xgt ls k = some v) : Ls[k]? = some (.val (xTv g v)) := by
  have h1 := xFind_mem h
  exact hL.2.2 (k, xTv g v) (List.mem_map.mpr ⟨(k, v), h1, rfl⟩)
theorem xL_idx {g : xG} {ls : xL} {k : Nat} {v : Value} (h : xgt ls k = some v) : ∃ j : Nat, (xTl g ls)[j]? = some (k, xTv g v) := by
  have h1 := xFind_mem h
  exact List.getElem?_of_mem (List.mem_map.mpr ⟨(k, v), h1, rfl⟩)
theorem xP1_map (g : xG) (ls : xL) (i : Nat) (v : Value) : (i, xTv g v) :: (xTl g ls).filter (fun q => !(q.1 == i) && !(q.1 + 1 == i && q.2.category == 2)) = xTl g (xP1 ls i v) := by
  unfold xTl xP1
  rw [List.map_cons, List.filter_map]
  congr 2
  apply List.filter_congr
  intro q _
  simp [xTv_cat]
theorem xP2_map (g : xG) (ls : xL) (i : Nat) (v : Value) : (i, xTv g v) :: (xTl g ls).filter (fun q => !(q.1 == i) && (!(q.1 == i + 1) && !(q.1 + 1 == i && q.2.category == 2))) = xTl g (xP2 ls i v) := by
  unfold xTl xP2
  rw [List.map_cons, List.filter_map]
  congr 2
  apply List.filter_congr
  intro q _
  simp [xTv_cat]
theorem xLen_eq {i : Instr} {len n : Nat} (h : (match xLen i with
    | some n => Nat.beq len n
    | none => true) = true) (hn : xLen i = some n) : len = n := by
  rw [hn] at h
  exact xbeq h
/-- the tables of a class by its number -/
theorem xCls {ci : Nat} {q : vw_C} (h : vwCl[ci]? = some q) : (∀ w ∈ u_ws q.1 q.2.1 q.2.2, w ∈ xTb) ∧ (∀ k, k < q.2.2 → parseFieldDescriptor (q.2.1 k).2.2.1 = some (xTy ci k)) ∧ (∀ a, a < q.2.2 → ∀ b, b < q.2.2 → a ≠ b → (q.2.1 a).2.1 ≠ (q.2.1 b).2.1) := by
  have good : ∀ {C : String} {T : u_T} {N : Nat}, (∀ w ∈ u_ws C T N, w ∈ lw_tbl) → ∀ w ∈ u_ws C T N, w ∈ xTb := by
    intro C T N h w hw
    refine List.mem_filter.mpr ⟨h w hw, ?_⟩
    obtain ⟨k, -, rfl⟩ := List.mem_map.mp hw
    unfold u_lay
    split <;> rfl
  match ci, h with
  | 0, h => cases h; exact ⟨good inX0, tyX0_ok, nmX0⟩
  | 1, h => cases h; exact ⟨good inX1, tyX1_ok, nmX1⟩
  | 2, h => cases h; exact ⟨good inX2, tyX2_ok, nmX2⟩
  | 3, h => cases h; exact ⟨good inX3, tyX3_ok, nmX3⟩
  | 4, h => cases h; exact ⟨good inX4, tyX4_ok, nmX4⟩
  | 5, h => cases h; exact ⟨good inX5, tyX5_ok, nmX5⟩
  | 6, h => cases h; exact ⟨good inX6, tyX6_ok, nmX6⟩
  | 7, h => cases h; exact ⟨good inX7, tyX7_ok, nmX7⟩
  | 8, h => cases h; exact ⟨good inX8, tyX8_ok, nmX8⟩
  | 9, h => cases h; exact ⟨good inX9, tyX9_ok, nmX9⟩
  | 10, h => cases h; exact ⟨good inX10, tyX10_ok, nmX10⟩
  | 11, h => cases h; exact ⟨good inX11, tyX11_ok, nmX11⟩
  | 12, h => cases h; exact ⟨good inX12, tyX12_ok, nmX12⟩
  | k + 13, h => simp [vwCl] at h
theorem xTe_i (g : xG) (t n : Nat) (f : Nat → Int32) : xTe g (.inl (t, n, .inl f)) = .inl (g.2.2.1 t, n, .inl f) := rfl
theorem xTe_l (g : xG) (t n : Nat) (f : Nat → Int64) : xTe g (.inl (t, n, .inr (.inl f))) = .inl (g.2.2.1 t, n, .inr (.inl f)) := rfl
theorem xTe_q (g : xG) (t n : Nat) (f : Nat → Option Nat) : xTe g (.inl (t, n, .inr (.inr (.inr (.inr f))))) = .inl (g.2.2.1 t, n, .inr (.inr (.inr (.inr (fun j => (f j).map (xad g)))))) := rfl
theorem xTe_o (g : xG) (c : Nat) (fs : List Value) : xTe g (.inr (c, fs)) = .inr (c, fs.map (xTv g)) := rfl
section XS
variable {p : Program} {l : Launch} {e : Env} {R : Room} {s : State} {m : MethodId} {args : Array Value} {below : List Frame} {meth : Method} {c : Code} {H : Heap} {locs : List Loc} {cells slots : Nat} {Q : State → Prop}
variable {g : xG} {ro : xRo} {own mname : String} {cc : ByteArray} {nL pc : Nat} {h : xH} {Ls : Array Slot} {rest : List Value}
/-- a field is written -/
theorem xput (X : xCx p s m args meth c g ro own mname cc nL) {ci k idx a : Nat} {q : vw_C} {fs : List Value} {v : Value} {kd : Int} (hc : vwCl[ci]? = some q) (hk : k < q.2.2) (hl : Jvm.Cond.fieldLink own idx (q.2.1 k).1 (q.2.1 k).2.1 (q.2.1 k).2.2.1 ∈ xTb) (hkd : xKd (xTy ci k) kd = true) (hfin : (!(q.2.1 k).2.2.2 || (decide (mname = "<init>") && decide ((q.2.1 k).1 = own))) = true)
    (hv : xfit kd v = true) (hle : k < fs.length) (ha : h.2.2 a = some (.inr (ci, fs))) (hW : xW g h H) (hS : va_S (xA g) s.heap H locs) (hd : decode cc pc = .ok (.putfield idx, 3))
    (kk : ∀ (H1 : Heap) (locs1 : List Loc), xW g (xUp h a (.inr (ci, fs.set k v))) H1 → va_S (xA g) s.heap H1 locs1 → W p l e R s m args below meth c H1 locs1 cells slots Q (F0 m (pc + 3) Ls rest)) : W p l e R s m args below meth c H locs cells slots Q (F0 m pc Ls (xTv g v :: .ref (xad g a) :: rest)) := by
  obtain ⟨hx, hb, hml, hown, hts, hnm, hK⟩ := X
  obtain ⟨C, T, N⟩ := q
  obtain ⟨i16, ilt, hat⟩ := hW.2.2 a _ ha
  rw [xTe_o] at hat
  obtain ⟨hin, hty, hnmm⟩ := xCls hc
  dsimp only at hk hl hfin hin hty hnmm
  have hap := va_apart (own := own) hts hin (xTy ci) hty hnmm hK.1 hc
  obtain ⟨r, h1, cell, q1, q2, q3, q4⟩ := hat
  have hr : r = (C, T, N) := Option.some.inj (h1.symm.trans hc)
  subst hr
  obtain ⟨hSl, hfc, kC, hkC, hkind⟩ := hK.1.1 ci _ hc
  obtain ⟨cf, kf, fi, f, hi, hsl⟩ := hSl k hk
  have hlay := hts _ (hin _ (u_in_lay hk))
  have hst := (u_facts hfc hkC (u_lays hts hin hk) hi).1
  have hd2 := hty k hk
  have hn : narrow (xTy ci k) (xTv g v) = xTv g v ∧ fits (xTy ci k) (xTv g v) = true := by
    generalize xTy ci k = ty at hkd
    unfold xfit at hv
    cases v with
    | int x =>
      simp only [Bool.or_eq_true, Bool.and_eq_true, beq_iff_eq] at hv
      rcases hv with rfl | ⟨rfl, hv⟩
      · cases ty <;> first | exact ⟨rfl, rfl⟩ | (simp [xKd] at hkd)
      · cases ty <;> first | (simp [xKd] at hkd; done) | (rcases hv with rfl | rfl <;> exact ⟨rfl, rfl⟩)
    | long x =>
      have hv := eq_of_beq hv
      subst hv
      cases ty <;> first | exact ⟨rfl, rfl⟩ | (simp [xKd] at hkd)
    | ref x =>
      have hv := eq_of_beq hv
      subst hv
      cases ty <;> first | exact ⟨rfl, rfl⟩ | (simp [xKd] at hkd)
    | null =>
      have hv := eq_of_beq hv
      subst hv
      cases ty <;> first | exact ⟨rfl, rfl⟩ | (simp [xKd] at hkd)
    | _ => cases hv
  have fin : ∀ H' : Heap, H'[xad g a]? = some (cell.setSlot f.slot (xTv g v)) → H'.size = H.size → (∀ q, q ≠ xad g a → H'[q]? = H[q]?) → W p l e R s m args below meth c H' (locs ++ [⟨xad g a, f.slot⟩]) cells slots Q (F0 m (pc + 3) Ls rest) := by
    intro H' e1 e2 e3
    refine kk H' _ (hW.up i16 ilt e2 e3 ?_) (hS.put e2 e3 (xad_A i16))
    rw [xTe_o, List.map_set]
    rw [hsl] at e1
    exact ⟨_, hc, t_OB.to (V := updV (vp_V (fs.map (xTv g))) k (xTv g v)) ⟨_, e1, q2, q3, t_set q4 hap hk _⟩ (fun j _ => vp_updV_set (by rw [List.length_map]; exact hle) _ j)⟩
  unfold u_lay at hlay
  by_cases hf : (T k).2.2.2 = true
  · rw [if_pos hf] at hlay
    rw [hf] at hfin
    simp only [Bool.not_true, Bool.false_or, Bool.and_eq_true, decide_eq_true_eq] at hfin
    have hcf : m.cls = cf := by
      obtain ⟨_, _, c', _, _, _, -, -, hf', -, -, -, hown2, -⟩ := Cond.laysFinal_spec hlay
      have e1 : c' = cf := by have := hi.symm.trans hf'; simp at this; exact this.1.symm
      rw [hfin.2] at hown2
      rw [← e1]; exact Option.some.inj (hown.symm.trans hown2)
    have h6 := u_fits hfc hkC hkind (Or.inr hlay) hi hd2 hn.1 hn.2
    exact W.putFinK hx hb hown (hts _ hl) hi hst hcf (hnm hfin.1) (by rw [q2]; exact h6) q1 q3 (by rw [hsl]; exact k2_hasslot (q4 k hk)) rfl rfl hd fin
  · rw [if_neg hf] at hlay
    have h6 := u_store hfc hkC hkind hlay hi hd2 hn.1 hn.2
    exact W.putK hx hb (f := f) ⟨hown, hts _ hl, ⟨_, _, _, hi⟩, hst⟩ (by rw [q2]; exact h6) q1 q3 (by rw [hsl]; exact k2_hasslot (q4 k hk)) rfl rfl hd fin
/-- a field is read -/
theorem xget (X : xCx p s m args meth c g ro own mname cc nL) {ci k idx a : Nat} {q : vw_C} {fs : List Value} {v : Value} (hc : vwCl[ci]? = some q) (hk : k < q.2.2) (hl : Jvm.Cond.fieldLink own idx (q.2.1 k).1 (q.2.1 k).2.1 (q.2.1 k).2.2.1 ∈ xTb)
    (hv : fs[k]? = some v) (ha : h.2.2 a = some (.inr (ci, fs))) (hW : xW g h H) (hd : decode cc pc = .ok (.getfield idx, 3))
    (kk : W p l e R s m args below meth c H locs cells slots Q (F0 m (pc + 3) Ls (xTv g v :: rest))) : W p l e R s m args below meth c H locs cells slots Q (F0 m pc Ls (.ref (xad g a) :: rest)) := by
  obtain ⟨hx, hb, hml, hown, hts, hnm, hK⟩ := X
  obtain ⟨C, T, N⟩ := q
  obtain ⟨i16, ilt, hat⟩ := hW.2.2 a _ ha
  rw [xTe_o] at hat
  obtain ⟨hin, hty, hnmm⟩ := xCls hc
  exact va_get (ref := (T k).1) hx hb hts hin hown hK.1 (xOne hat) 0 rfl hc k hk (hts _ hl) (fun _ h => h) (by rw [List.getElem?_map, hv]; rfl) hd kk
end XS
end
section
/-! ===== arrays and new cells ===== -/
section XA
variable {p : Program} {l : Launch} {e : Env} {R : Room} {s : State} {m : MethodId} {args : Array Value} {below : List Frame} {meth : Method} {c : Code} {H : Heap} {locs : List Loc} {cells slots : Nat} {Q : State → Prop}
variable {g : xG} {ro : xRo} {own mname : String} {cc : ByteArray} {nL pc : Nat} {h : xH} {Ls : Array Slot} {rest : List Value} {a n : Nat}
theorem xiald (X : xCx p s m args meth c g ro own mname cc nL) (hW : xW g h H) {f : Nat → Int32} (ha : h.2.2 a = some (.inl (0, n, .inl f))) {i : Int32} (hin : vp_in i n) (hd : decode cc pc = .ok (.iaload, 1))
    (kk : W p l e R s m args below meth c H locs cells slots Q (F0 m (pc + 1) Ls (.int (f i.toNatClampNeg) :: rest))) : W p l e R s m args below meth c H locs cells slots Q (F0 m pc Ls (.int i :: .ref (xad g a) :: rest)) := by
  obtain ⟨hx, hb, hml, hown, hts, hnm, hK⟩ := X
  obtain ⟨i16, ilt, hat⟩ := hW.2.2 a _ ha
  exact va_iald (tys := xTys g) hx hb hK.1 (xOne hat) 0 0 rfl rfl hin hd kk
theorem xzald (X : xCx p s m args meth c g ro own mname cc nL) (hW : xW g h H) {f : Nat → Int32} (ha : h.2.2 a = some (.inl (2, n, .inl f))) {i : Int32} (hin : vp_in i n) (hd : decode cc pc = .ok (.baload, 1))
    (kk : W p l e R s m args below meth c H locs cells slots Q (F0 m (pc + 1) Ls (.int (f i.toNatClampNeg) :: rest))) : W p l e R s m args below meth c H locs cells slots Q (F0 m pc Ls (.int i :: .ref (xad g a) :: rest)) := by
  obtain ⟨hx, hb, hml, hown, hts, hnm, hK⟩ := X
  obtain ⟨i16, ilt, hat⟩ := hW.2.2 a _ ha
  exact va_zald (tys := xTys g) hx hb hK.1 (xOne hat) 0 2 rfl rfl hin hd kk
theorem xlald (X : xCx p s m args meth c g ro own mname cc nL) (hW : xW g h H) {f : Nat → Int64} (ha : h.2.2 a = some (.inl (1, n, .inr (.inl f)))) {i : Int32} (hin : vp_in i n) (hd : decode cc pc = .ok (.laload, 1))
    (kk : W p l e R s m args below meth c H locs cells slots Q (F0 m (pc + 1) Ls (.long (f i.toNatClampNeg) :: rest))) : W p l e R s m args below meth c H locs cells slots Q (F0 m pc Ls (.int i :: .ref (xad g a) :: rest)) := by
  obtain ⟨hx, hb, hml, hown, hts, hnm, hK⟩ := X
  obtain ⟨i16, ilt, hat⟩ := hW.2.2 a _ ha
  exact va_lald (tys := xTys g) hx hb hK.1 (xOne hat) 0 1 rfl rfl hin hd kk
theorem xaald (X : xCx p s m args meth c g ro own mname cc nL) (hW : xW g h H) {t : Nat} (ht : t = 3 ∨ t = 4) {f : Nat → Option Nat} (ha : h.2.2 a = some (.inl (t, n, .inr (.inr (.inr (.inr f)))))) {i : Int32} (hin : vp_in i n) (hd : decode cc pc = .ok (.aaload, 1))
    (kk : W p l e R s m args below meth c H locs cells slots Q (F0 m (pc + 1) Ls (xTv g (va_rf (f i.toNatClampNeg)) :: rest))) : W p l e R s m args below meth c H locs cells slots Q (F0 m pc Ls (.int i :: .ref (xad g a) :: rest)) := by
  obtain ⟨hx, hb, hml, hown, hts, hnm, hK⟩ := X
  obtain ⟨i16, ilt, hat⟩ := hW.2.2 a _ ha
  rw [xTv_rf] at kk
  rcases ht with rfl | rfl
  · exact va_aldq (tys := xTys g) (C := RX2) hx hb hK.1 (xOne hat) 0 3 rfl rfl hin hd kk
  · exact va_aldq (tys := xTys g) (C := RX10) hx hb hK.1 (xOne hat) 0 4 rfl rfl hin hd kk
theorem xiast (X : xCx p s m args meth c g ro own mname cc nL) (hW : xW g h H) (hS : va_S (xA g) s.heap H locs) {f : Nat → Int32} (ha : h.2.2 a = some (.inl (0, n, .inl f))) {i x : Int32} (hin : vp_in i n) (hd : decode cc pc = .ok (.iastore, 1))
    (kk : ∀ (H1 : Heap) (locs1 : List Loc), xW g (xUp h a (.inl (0, n, .inl (upd f i.toNatClampNeg x)))) H1 → va_S (xA g) s.heap H1 locs1 → W p l e R s m args below meth c H1 locs1 cells slots Q (F0 m (pc + 1) Ls rest)) : W p l e R s m args below meth c H locs cells slots Q (F0 m pc Ls (.int x :: .int i :: .ref (xad g a) :: rest)) := by
  obtain ⟨hx, hb, hml, hown, hts, hnm, hK⟩ := X
  obtain ⟨i16, ilt, hat⟩ := hW.2.2 a _ ha
  have ht : (xTys g)[0]? = some (g.2.2.1 0, .int) := rfl
  refine W.iast hx hb (show H[xad g a]? = some (vp_cell (g.2.2.1 0) (n, .inl f)) from hat) ((hK.1.2 0 _ ht).1 n (fun j => .int (f j))) (fun q => by cases q) (by show ¬ (i < 0 ∨ (arrV _ _ _).slots.size ≤ _); rw [arrV_size]; exact hin) rfl rfl hd fun H1 e z oq => ?_
  refine kk H1 _ (hW.up i16 ilt z oq ?_) (hS.put z oq (xad_A i16))
  show H1[xad g a]? = some (vp_cell _ _)
  rw [e, vp_cell_i, vp_cell_i, arrV_store]
  congr 2
  funext q
  by_cases hq : q = i.toNatClampNeg
  · subst hq
    simp [updV, upd]
  · simp [updV, upd, hq]
theorem xzast (X : xCx p s m args meth c g ro own mname cc nL) (hW : xW g h H) (hS : va_S (xA g) s.heap H locs) {f : Nat → Int32} (ha : h.2.2 a = some (.inl (2, n, .inl f))) {i x : Int32} (hx01 : x = 0 ∨ x = 1) (hin : vp_in i n) (hd : decode cc pc = .ok (.bastore, 1))
    (kk : ∀ (H1 : Heap) (locs1 : List Loc), xW g (xUp h a (.inl (2, n, .inl (upd f i.toNatClampNeg x)))) H1 → va_S (xA g) s.heap H1 locs1 → W p l e R s m args below meth c H1 locs1 cells slots Q (F0 m (pc + 1) Ls rest)) : W p l e R s m args below meth c H locs cells slots Q (F0 m pc Ls (.int x :: .int i :: .ref (xad g a) :: rest)) := by
  obtain ⟨hx, hb, hml, hown, hts, hnm, hK⟩ := X
  obtain ⟨i16, ilt, hat⟩ := hW.2.2 a _ ha
  have ht : (xTys g)[2]? = some (g.2.2.1 2, .boolean) := rfl
  refine W.zast hx hb (show H[xad g a]? = some (vp_cell (g.2.2.1 2) (n, .inl f)) from hat) ((hK.1.2 2 _ ht).1 n (fun j => .int (f j))) (fun q => by cases q) (by show ¬ (i < 0 ∨ (arrV _ _ _).slots.size ≤ _); rw [arrV_size]; exact hin) rfl rfl hd fun H1 e z oq => ?_
  refine kk H1 _ (hW.up i16 ilt z oq ?_) (hS.put z oq (xad_A i16))
  show H1[xad g a]? = some (vp_cell _ _)
  rw [e, vp_cell_i, vp_cell_i, arrV_store]
  congr 2
  funext q
  by_cases hq : q = i.toNatClampNeg
  · subst hq
    rcases hx01 with rfl | rfl <;> simp [updV, upd] <;> rfl
  · simp [updV, upd, hq]
theorem xlast (X : xCx p s m args meth c g ro own mname cc nL) (hW : xW g h H) (hS : va_S (xA g) s.heap H locs) {f : Nat → Int64} (ha : h.2.2 a = some (.inl (1, n, .inr (.inl f)))) {i : Int32} {x : Int64} (hin : vp_in i n) (hd : decode cc pc = .ok (.lastore, 1))
    (kk : ∀ (H1 : Heap) (locs1 : List Loc), xW g (xUp h a (.inl (1, n, .inr (.inl (vp_updL f i.toNatClampNeg x))))) H1 → va_S (xA g) s.heap H1 locs1 → W p l e R s m args below meth c H1 locs1 cells slots Q (F0 m (pc + 1) Ls rest)) : W p l e R s m args below meth c H locs cells slots Q (F0 m pc Ls (.long x :: .int i :: .ref (xad g a) :: rest)) := by
  obtain ⟨hx, hb, hml, hown, hts, hnm, hK⟩ := X
  obtain ⟨i16, ilt, hat⟩ := hW.2.2 a _ ha
  have ht : (xTys g)[1]? = some (g.2.2.1 1, .long) := rfl
  refine W.last hx hb (show H[xad g a]? = some (vp_cell (g.2.2.1 1) (n, .inr (.inl f))) from hat) ((hK.1.2 1 _ ht).1 n (fun j => .long (f j))) (fun q => by cases q) (by show ¬ (i < 0 ∨ (arrV _ _ _).slots.size ≤ _); rw [arrV_size]; exact hin) rfl rfl hd fun H1 e z oq => ?_
  refine kk H1 _ (hW.up i16 ilt z oq ?_) (hS.put z oq (xad_A i16))
  show H1[xad g a]? = some (vp_cell _ _)
  rw [e, vp_cell_l, vp_cell_l, arrV_store]
  congr 2
  funext q
  by_cases hq : q = i.toNatClampNeg
  · subst hq
    simp [updV, vp_updL]
  · simp [updV, vp_updL, hq]
theorem xaast (X : xCx p s m args meth c g ro own mname cc nL) (hW : xW g h H) (hS : va_S (xA g) s.heap H locs) {t o : Nat} (ht : t = 3 ∨ t = 4) {f : Nat → Option Nat} {fs : List Value} (ha : h.2.2 a = some (.inl (t, n, .inr (.inr (.inr (.inr f)))))) (ho : h.2.2 o = some (.inr (xEl t, fs))) {i : Int32} (hin : vp_in i n) (hd : decode cc pc = .ok (.aastore, 1))
    (kk : ∀ (H1 : Heap) (locs1 : List Loc), xW g (xUp h a (.inl (t, n, .inr (.inr (.inr (.inr (va_up f i.toNatClampNeg (some o)))))))) H1 → va_S (xA g) s.heap H1 locs1 → W p l e R s m args below meth c H1 locs1 cells slots Q (F0 m (pc + 1) Ls rest)) : W p l e R s m args below meth c H locs cells slots Q (F0 m pc Ls (.ref (xad g o) :: .int i :: .ref (xad g a) :: rest)) := by
  obtain ⟨hx, hb, hml, hown, hts, hnm, hK⟩ := X
  obtain ⟨i16, ilt, hat⟩ := hW.2.2 a _ ha
  obtain ⟨-, -, hov⟩ := hW.2.2 o _ ho
  have hlt : i.toNatClampNeg < n := Nat.not_le.mp fun q => hin (Or.inr q)
  have h0 : ¬ i < 0 := fun q => hin (Or.inl q)
  obtain ⟨q, hcq, htq⟩ : ∃ q : vw_C, vwCl[xEl t]? = some q ∧ (xTys g)[t]? = some (g.2.2.1 t, .object q.1) := by
    rcases ht with rfl | rfl
    · exact ⟨_, rfl, rfl⟩
    · exact ⟨_, rfl, rfl⟩
  obtain ⟨r', hr', cellV, g1, g2, g3, -⟩ := hov
  have hcls := (hK.1.1 _ q hcq).2
  obtain ⟨kA, comp, k1, k2, k3, -⟩ := (hK.1.2 t _ htq).2
  have hcomp : comp = g.2.2.2.1 (xEl t) := Option.some.inj (k3.symm.trans hcls.1)
  subst hcomp
  obtain ⟨kC, hkC, -⟩ := hcls.2
  refine W.aast hx hb (show H[xad g a]? = some (vp_cell (g.2.2.1 t) (n, .inr (.inr (.inr (.inr (fun j => (f j).map (xad g))))))) from hat) (fun q h => by cases h) (fun h => by cases h) k1 k2 rfl hkC ⟨h0, by show _ < (arrV _ _ _).slots.size; rw [arrV_size]; exact hlt⟩ g1 (fun q h => by rw [g3] at h; cases h) (by rw [g2]; exact hkC) (by rw [g2]; exact va_assign hcls) rfl rfl hd fun H1 e z oq => ?_
  refine kk H1 _ (hW.up i16 ilt z oq ?_) (hS.put z oq (xad_A i16))
  rw [xTe_q]
  show H1[xad g a]? = some (vp_cell _ _)
  rw [e, vp_cell_q, vp_cell_q, arrV_store]
  congr 2
  funext q
  by_cases hq : q = i.toNatClampNeg
  · subst hq
    simp [updV, va_up, va_rf]
  · simp [updV, va_up, hq]
theorem xaastN (X : xCx p s m args meth c g ro own mname cc nL) (hW : xW g h H) (hS : va_S (xA g) s.heap H locs) {t : Nat} (ht : t = 3 ∨ t = 4) {f : Nat → Option Nat} (ha : h.2.2 a = some (.inl (t, n, .inr (.inr (.inr (.inr f)))))) {i : Int32} (hin : vp_in i n) (hd : decode cc pc = .ok (.aastore, 1))
    (kk : ∀ (H1 : Heap) (locs1 : List Loc), xW g (xUp h a (.inl (t, n, .inr (.inr (.inr (.inr (va_up f i.toNatClampNeg none))))))) H1 → va_S (xA g) s.heap H1 locs1 → W p l e R s m args below meth c H1 locs1 cells slots Q (F0 m (pc + 1) Ls rest)) : W p l e R s m args below meth c H locs cells slots Q (F0 m pc Ls (.null :: .int i :: .ref (xad g a) :: rest)) := by
  obtain ⟨hx, hb, hml, hown, hts, hnm, hK⟩ := X
  obtain ⟨i16, ilt, hat⟩ := hW.2.2 a _ ha
  obtain ⟨C, htq⟩ : ∃ C : String, (xTys g)[t]? = some (g.2.2.1 t, .object C) := by
    rcases ht with rfl | rfl
    · exact ⟨_, rfl⟩
    · exact ⟨_, rfl⟩
  refine va_WaastN (C := C) hx hb (show H[xad g a]? = some (vp_cell (g.2.2.1 t) (n, .inr (.inr (.inr (.inr (fun j => (f j).map (xad g))))))) from hat) ((hK.1.2 t _ htq).1 n (fun j => va_rf ((f j).map (xad g)))) (fun h => by cases h) (by show ¬ (i < 0 ∨ (arrV _ _ _).slots.size ≤ _); rw [arrV_size]; exact hin) rfl rfl hd fun H1 e z oq => ?_
  refine kk H1 _ (hW.up i16 ilt z oq ?_) (hS.put z oq (xad_A i16))
  rw [xTe_q]
  show H1[xad g a]? = some (vp_cell _ _)
  rw [e, vp_cell_q, vp_cell_q, arrV_store]
  congr 2
  funext q
  by_cases hq : q = i.toNatClampNeg
  · subst hq
    simp [updV, va_up, va_rf]
  · simp [updV, va_up, hq]
theorem xalen (X : xCx p s m args meth c g ro own mname cc nL) (hW : xW g h H) {t : Nat} (ht : t < 5) {x : (Nat → Int32) ⊕ (Nat → Int64) ⊕ (Nat → UInt32) ⊕ (Nat → UInt64) ⊕ (Nat → Option Nat)} (ha : h.2.2 a = some (.inl (t, n, x))) (hd : decode cc pc = .ok (.arraylength, 1))
    (kk : W p l e R s m args below meth c H locs cells slots Q (F0 m (pc + 1) Ls (.int (Int32.ofNat n) :: rest))) : W p l e R s m args below meth c H locs cells slots Q (F0 m pc Ls (.ref (xad g a) :: rest)) := by
  obtain ⟨hx, hb, hml, hown, hts, hnm, hK⟩ := X
  obtain ⟨i16, ilt, hat⟩ := hW.2.2 a _ ha
  obtain ⟨ty, htq⟩ : ∃ ty : FieldType, (xTys g)[t]? = some (g.2.2.1 t, ty) := by
    match t, ht with
    | 0, _ => exact ⟨_, rfl⟩
    | 1, _ => exact ⟨_, rfl⟩
    | 2, _ => exact ⟨_, rfl⟩
    | 3, _ => exact ⟨_, rfl⟩
    | 4, _ => exact ⟨_, rfl⟩
  obtain f | f | f | f | f := x
  · exact va_alen (tys := xTys g) (x := (n, .inl f)) hx hb hK.1 (xOne hat) 0 t rfl htq rfl hd kk
  · exact va_alen (tys := xTys g) (x := (n, .inr (.inl f))) hx hb hK.1 (xOne hat) 0 t rfl htq rfl hd kk
  · exact va_alen (tys := xTys g) (x := (n, .inr (.inr (.inl f)))) hx hb hK.1 (xOne hat) 0 t rfl htq rfl hd kk
  · exact va_alen (tys := xTys g) (x := (n, .inr (.inr (.inr (.inl f))))) hx hb hK.1 (xOne hat) 0 t rfl htq rfl hd kk
  · exact va_alen (tys := xTys g) (x := (n, .inr (.inr (.inr (.inr (fun j => (f j).map (xad g))))))) hx hb hK.1 (xOne hat) 0 t rfl htq rfl hd kk
theorem xS_nw {A : Nat → Prop} {H0 H H1 : Heap} {locs : List Loc} (hS : va_S A H0 H locs) (z : H1.size = H.size + 1) (oq : ∀ q : Nat, q < H.size → H1[q]? = H[q]?) : va_S A H0 H1 locs :=
  ⟨Nat.le_trans hS.1 (by omega), fun x h1 h2 => (oq x (Nat.lt_of_lt_of_le h1 hS.1)).trans (hS.2.1 x h1 h2), hS.2.2⟩
theorem xnewa (X : xCx p s m args meth c g ro own mname cc nL) (hW : xW g h H) (hS : va_S (xA g) s.heap H locs) {at_ : ArrayType} {t : Nat} (ht : xTag at_ = some t) (hw : Jvm.Cond.arrayClass (newarray.typeOf at_) ∈ xTb) {x : Int32} (h0 : ¬ x < 0) (hle : x.toNatClampNeg ≤ 100000) (hcells : cells + 1 ≤ R.cells) (hslots : slots + x.toNatClampNeg ≤ R.slots) (hd : decode cc pc = .ok (.newarray at_, 2))
    (kk : ∀ H1 : Heap, xW g (xNw h x.toNatClampNeg (.inl (t, xZero t x.toNatClampNeg))) H1 → va_S (xA g) s.heap H1 locs → W p l e R s m args below meth c H1 locs (cells + 1) (slots + x.toNatClampNeg) Q (F0 m (pc + 2) Ls (.ref (xad g h.1) :: rest))) : W p l e R s m args below meth c H locs cells slots Q (F0 m pc Ls (.int x :: rest)) := by
  obtain ⟨hx, hb, hml, hown, hts, hnm, hK⟩ := X
  obtain ⟨ty, hty, hK2, hz⟩ : ∃ ty : FieldType, newarray.typeOf at_ = ty ∧ s.vm.findClass ("[" ++ ty.toString) = some (g.2.2.1 t) ∧ (∀ n : Nat, vp_cell (g.2.2.1 t) (xZero t n) = arrV (g.2.2.1 t) n (fun _ => defaultValue ty)) ∧ xTe g (.inl (t, xZero t x.toNatClampNeg)) = .inl (g.2.2.1 t, xZero t x.toNatClampNeg) ∧ componentBytes ty ≤ 8 := by
    cases at_ <;> cases ht
    · exact ⟨_, rfl, (hK.1.2 2 _ rfl).2, fun n => rfl, rfl, by decide⟩
    · exact ⟨_, rfl, (hK.1.2 0 _ rfl).2, fun n => rfl, rfl, by decide⟩
    · exact ⟨_, rfl, (hK.1.2 1 _ rfl).2, fun n => rfl, rfl, by decide⟩
  have hbytes : x.toNatClampNeg * componentBytes (newarray.typeOf at_) ≤ 536870912 := by
    rw [hty]
    have := Nat.mul_le_mul hle hz.2.2
    omega
  refine va_newaK hx hb (hts _ hw) rfl hd rfl h0 rfl hbytes hcells hslots rfl fun H1 cA e1 z1 o1 hAr hNm => ?_
  rw [hty, hK2] at hNm
  cases hNm
  have hk := kk H1 (hW.nw z1 o1 ?_) (xS_nw hS z1 o1)
  · rw [← hW.size] at hk
    exact hk
  · rw [hz.2.1]
    show H1[H.size]? = some (vp_cell _ _)
    rw [hz.1, e1, hty]
theorem xnewq (X : xCx p s m args meth c g ro own mname cc nL) (hW : xW g h H) (hS : va_S (xA g) s.heap H locs) {t idx : Nat} (hw : (t = 3 ∧ Jvm.Cond.classLink own idx RX2 ∈ xTb) ∨ (t = 4 ∧ Jvm.Cond.classLink own idx RX10 ∈ xTb)) {x : Int32} (h0 : ¬ x < 0) (hle : x.toNatClampNeg ≤ 100000) (hcells : cells + 1 ≤ R.cells) (hslots : slots + x.toNatClampNeg ≤ R.slots) (hd : decode cc pc = .ok (.anewarray idx, 3))
    (kk : ∀ H1 : Heap, xW g (xNw h x.toNatClampNeg (.inl (t, x.toNatClampNeg, .inr (.inr (.inr (.inr (fun _ => none))))))) H1 → va_S (xA g) s.heap H1 locs → W p l e R s m args below meth c H1 locs (cells + 1) (slots + x.toNatClampNeg) Q (F0 m (pc + 3) Ls (.ref (xad g h.1) :: rest))) : W p l e R s m args below meth c H locs cells slots Q (F0 m pc Ls (.int x :: rest)) := by
  obtain ⟨hx, hb, hml, hown, hts, hnm, hK⟩ := X
  obtain ⟨C, hC, hao, kA0, comp0, q1, q2, q3, q4⟩ : ∃ C : String, Jvm.Cond.classLink own idx C ∈ xTb ∧ va_AO C s ∧ ∃ (kA : Class) (comp : ClassId), s.vm.classes[g.2.2.1 t]? = some kA ∧ kA.kind = .array comp (.object C) ∧ s.vm.findClass C = some comp ∧ s.vm.findClass ("[" ++ (FieldType.object C).toString) = some (g.2.2.1 t) := by
    rcases hw with ⟨rfl, hw⟩ | ⟨rfl, hw⟩
    · exact ⟨_, hw, hK.2.2.1, (hK.1.2 3 _ rfl).2⟩
    · exact ⟨_, hw, hK.2.2.2.1, (hK.1.2 4 _ rfl).2⟩
  refine W.anew hx hb hown (hts _ hC) (va_AO.use hao) rfl hd rfl h0 (by omega) hcells hslots fun cA kA comp f1 f2 f3 f4 => ?_
  rw [q4] at f1
  cases f1
  generalize hH1 : H.push ({ cls := g.2.2.1 t, slots := Array.replicate x.toNatClampNeg .null, vm := .none } : Cell) = H1
  have z1 : H1.size = H.size + 1 := by rw [← hH1, Array.size_push]
  have e1 : H1[H.size]? = some (arrV (g.2.2.1 t) x.toNatClampNeg (fun _ => .null)) := by rw [← hH1, Array.getElem?_push_size, ← arrV_new]
  have o1 : ∀ q : Nat, q < H.size → H1[q]? = H[q]? := fun q hq => by rw [← hH1, Array.getElem?_push, if_neg (Nat.ne_of_lt hq)]
  have hk := kk H1 (hW.nw z1 o1 e1) (xS_nw hS z1 o1)
  rw [← hW.size] at hk
  exact hk
theorem xnew (X : xCx p s m args meth c g ro own mname cc nL) (hW : xW g h H) (hS : va_S (xA g) s.heap H locs) {ci idx : Nat} {q : vw_C} (hc : vwCl[ci]? = some q) (hw1 : Jvm.Cond.classLink own idx q.1 ∈ xTb) (hw2 : Jvm.Cond.instantiable q.1 q.2.2 ∈ xTb) (hw3 : Jvm.Cond.initialized q.1 ∈ xTb) (hcells : cells + 1 ≤ R.cells) (hslots : slots + q.2.2 ≤ R.slots) (hd : decode cc pc = .ok (.new idx, 3))
    (kk : ∀ H1 : Heap, xW g (xNw h q.2.2 (.inr (ci, xNew ci q.2.2))) H1 → va_S (xA g) s.heap H1 locs → W p l e R s m args below meth c H1 locs (cells + 1) (slots + q.2.2) Q (F0 m (pc + 3) Ls (.ref (xad g h.1) :: rest))) : W p l e R s m args below meth c H locs cells slots Q (F0 m pc Ls rest) := by
  obtain ⟨hx, hb, hml, hown, hts, hnm, hK⟩ := X
  obtain ⟨C, T, N⟩ := q
  obtain ⟨hin, hty, hnmm⟩ := xCls hc
  have hKn := hK.1.1 ci _ hc
  refine W.newcK hx hb hown (hts _ hw1) (hts _ hw2) (hts _ hw3) rfl hd hcells hslots hKn.2.1 rfl fun H1 kC hkC e1 z1 o1 => ?_
  have hk := kk H1 (hW.nw z1 o1 ?_) (xS_nw hS z1 o1)
  · rw [← hW.size] at hk
    exact hk
  · refine ⟨_, hc, (u_born (xTy ci) hts hin hKn hkC e1 hty).to fun j hj => ?_⟩
    show _ = vp_V ((xNew ci N).map (xTv g)) j
    have hdv : ∀ ty : FieldType, xTv g (defaultValue ty) = defaultValue ty := fun ty => by cases ty <;> rfl
    unfold vp_V xNew
    rw [List.map_map, List.getD_eq_getElem?_getD, List.getElem?_map, List.getElem?_range hj]
    exact (hdv _).symm
end XA
end
section
/-! ===== arraycopy, and all plain instructions together ===== -/
section XB
variable {p : Program} {l : Launch} {e : Env} {R : Room} {s : State} {m : MethodId} {args : Array Value} {below : List Frame} {meth : Method} {c : Code} {H : Heap} {locs : List Loc} {cells slots : Nat} {Q : State → Prop}
variable {g : xG} {ro : xRo} {own mname : String} {cc : ByteArray} {nL pc : Nat} {h : xH} {Ls : Array Slot} {rest : List Value} {a : Nat}
theorem xcopy (X : xCx p s m args meth c g ro own mname cc nL) (hW : xW g h H) (hS : va_S (xA g) s.heap H locs) (hLs : Ls.size = nL) {idx a0 n0 n1 : Nat} {f f1 : Nat → Int32} (ha0 : h.2.2 a0 = some (.inl (0, n0, .inl f))) (ha1 : h.2.2 a = some (.inl (0, n1, .inl f1)))
    (w0 : Jvm.Cond.methodLink own idx arraycopyName ∈ xTb) (w1 : Jvm.Cond.native arraycopyName ∈ xTb) (w2 : Jvm.Cond.static arraycopyName ∈ xTb) (w3 : Jvm.Cond.initialized "java/lang/System" ∈ xTb)
    {sp dp n : Int32} (h1 : ¬ sp < 0) (h2 : ¬ dp < 0) (h3 : ¬ n < 0) (h4 : sp.toNatClampNeg + n.toNatClampNeg ≤ n0) (h5 : dp.toNatClampNeg + n.toNatClampNeg ≤ n1) (hframes : 1 ≤ R.frames) (hlocals : (rest.map fun v => v.category).sum + (nativeFrameWords "java/lang/System" "arraycopy" 5 + 11) ≤ R.locals) (hdg : decode cc pc = .ok (.invokestatic idx, 3))
    (kk : ∀ (H1 : Heap) (locs1 : List Loc), xW g (xUp h a (.inl (0, n1, .inl (va_cpy f f1 sp.toNatClampNeg dp.toNatClampNeg n.toNatClampNeg)))) H1 → va_S (xA g) s.heap H1 locs1 → W p l e R s m args below meth c H1 locs1 cells slots Q (F0 m (pc + 3) Ls rest)) : W p l e R s m args below meth c H locs cells slots Q (F0 m pc Ls (.int n :: .int dp :: .ref (xad g a) :: .int sp :: .ref (xad g a0) :: rest)) := by
  obtain ⟨hx, hb, hml, hown, hts, hnm, hK⟩ := X
  obtain ⟨-, -, hat0⟩ := hW.2.2 a0 _ ha0
  obtain ⟨i16, ilt, hat1⟩ := hW.2.2 a _ ha1
  have nn : ∀ z : Int32, ¬ z < 0 → z.toInt = (z.toNatClampNeg : Int) := by
    intro z hz
    have hz0 : (0 : Int) ≤ z.toInt := by
      have := Int32.not_lt.mp hz
      simpa using Int32.le_iff_toInt_le.mp this
    show z.toInt = ((z.toInt.toNat : Nat) : Int)
    omega
  intro T hT X
  have hc0 : H[xad g a0]? = some (vp_cell (g.2.2.1 0) (n0, .inl f)) := hat0
  have hc1 : H[xad g a]? = some (vp_cell (g.2.2.1 0) (n1, .inl f1)) := hat1
  have ht : (xTys g)[0]? = some (g.2.2.1 0, .int) := rfl
  obtain ⟨-, k0, hk0, cm0, hkk0⟩ := (hK.1.2 0 _ ht).1 n0 (fun j => .int (f j))
  obtain ⟨-, k1, hk1, cm1, hkk1⟩ := (hK.1.2 0 _ ht).1 n1 (fun j => .int (f1 j))
  obtain ⟨vm', X', step⟩ := X.arraycopy hx hown (hts _ w0) (hts _ w1) (hts _ w2) (hts _ w3) (src := xad g a0) (dst := xad g a) (cs := vp_cell (g.2.2.1 0) (n0, .inl f)) (cd := vp_cell (g.2.2.1 0) (n1, .inl f1)) (srcPos := sp) (destPos := dp) (n := n) (by rw [hT]; exact hc0) (by rw [hT]; exact hc1)
    (fun _ h => by cases h) (fun _ h => by cases h) (fun h => by cases h) (fun h => by cases h) hk0 hk1 hkk0 hkk1 (by simp [refKind]) h1 h2 h3
    (by rw [nn sp h1, nn n h3]; show ¬ _ > ((arrV (g.2.2.1 0) n0 (fun j => .int (f j))).slots.size : Int); rw [arrV_size]; omega)
    (by rw [nn dp h2, nn n h3]; show ¬ _ > ((arrV (g.2.2.1 0) n1 (fun j => .int (f1 j))).slots.size : Int); rw [arrV_size]; omega)
    (fun vm₁ _ i hi => by
      have e : (vp_cell (g.2.2.1 0) (n0, .inl f)).slots.getD (sp.toNatClampNeg + i) .null = .int (f (sp.toNatClampNeg + i)) := by
        show (arrV (g.2.2.1 0) n0 (fun j => .int (f j))).slots.getD _ _ = _
        rw [Array.getD_eq_getD_getElem?, arrV_read _ _ (by omega)]
        rfl
      refine ⟨?_, ?_⟩
      · rw [e]
        rfl
      · rw [e]
        exact trivial)
    (g := F0 m pc Ls (.int n :: .int dp :: .ref (xad g a) :: .int sp :: .ref (xad g a0) :: rest)) rfl (by rw [hml]; exact hLs) (rest := rest) rfl (by rw [hb]; exact hdg) hframes (by show 2 * 0 + _ + _ ≤ _; omega)
  have e1 : copied (vp_cell (g.2.2.1 0) (n0, .inl f)) (vp_cell (g.2.2.1 0) (n1, .inl f1)) sp dp n = vp_cell (g.2.2.1 0) (n1, .inl (va_cpy f f1 sp.toNatClampNeg dp.toNatClampNeg n.toNatClampNeg)) := va_copied (fun z => .int z) _ _ f f1 h4
  rw [e1] at X' step
  generalize hce : vp_cell (g.2.2.1 0) (n1, .inl (va_cpy f f1 sp.toNatClampNeg dp.toNatClampNeg n.toNatClampNeg)) = ce at X' step
  have hl : xad g a < H.size := (Array.getElem?_eq_some_iff.mp hc1).1
  have hheap : ((T.setVm vm').setCell (xad g a) ce).heap = H.setIfInBounds (xad g a) ce := by rw [← hT]; rfl
  have oq : ∀ q : Nat, q ≠ xad g a → (H.setIfInBounds (xad g a) ce)[q]? = H[q]? := fun q hq => by simp [Array.getElem?_setIfInBounds, Ne.symm hq]
  obtain ⟨t, a1, b1⟩ := kk _ _ (hW.up i16 ilt (by simp) oq (show (H.setIfInBounds (xad g a) ce)[xad g a]? = some _ by rw [← hce]; simp [Array.getElem?_setIfInBounds, hl])) ⟨by simp; exact hS.1, fun q g1 g2 => by
      rw [oq q (fun e => g2 (by rw [e]; exact xad_A i16))]
      exact hS.2.1 q g1 g2, fun q hq => by
      rcases List.mem_append.mp hq with h | h
      · exact hS.2.2 q h
      · obtain ⟨z, -, hz⟩ := List.mem_map.mp h
        rw [← hz]
        exact xad_A i16⟩ _ hheap X'
  exact ⟨t, step t a1, b1⟩
theorem xclone (X : xCx p s m args meth c g ro own mname cc nL) (hW : xW g h H) (hS : va_S (xA g) s.heap H locs) (hLs : Ls.size = nL) {idx n : Nat} {f : Nat → Int32} (ha : h.2.2 a = some (.inl (0, n, .inl f)))
    (w0 : Jvm.Cond.methodLink own idx ⟨"[I", "clone", "()Ljava/lang/Object;"⟩ ∈ xTb) (w1 : Jvm.Cond.sameMethod "[I" "java/lang/Object" "clone" "()Ljava/lang/Object;" ∈ xTb) (w2 : Jvm.Cond.native ⟨"java/lang/Object", "clone", "()Ljava/lang/Object;"⟩ ∈ xTb) (w3 : Jvm.Cond.instanceMethod ⟨"java/lang/Object", "clone", "()Ljava/lang/Object;"⟩ ∈ xTb)
    (w4 : Jvm.Cond.selects "[I" ⟨"[I", "clone", "()Ljava/lang/Object;"⟩ ⟨"java/lang/Object", "clone", "()Ljava/lang/Object;"⟩ ∈ xTb)
    (hframes : 1 ≤ R.frames) (hlocals : (rest.map fun v => v.category).sum + 14 ≤ R.locals) (hcells : cells + 1 ≤ R.cells) (hslots : slots + n ≤ R.slots) (hdg : decode cc pc = .ok (.invokevirtual idx, 3))
    (kk : ∀ H1 : Heap, xW g (xNw h n (.inl (0, n, .inl f))) H1 → va_S (xA g) s.heap H1 locs → W p l e R s m args below meth c H1 locs (cells + 1) (slots + n) Q (F0 m (pc + 3) Ls (.ref (xad g h.1) :: rest))) : W p l e R s m args below meth c H locs cells slots Q (F0 m pc Ls (.ref (xad g a) :: rest)) := by
  obtain ⟨hx, hb, hml, hown, hts, hnm, hK⟩ := X
  obtain ⟨-, -, hat⟩ := hW.2.2 a _ ha
  have hc0 : H[xad g a]? = some (vp_cell (g.2.2.1 0) (n, .inl f)) := hat
  have ht : (xTys g)[0]? = some (g.2.2.1 0, .int) := rfl
  have hnmA : s.vm.findClass "[I" = some (g.2.2.1 0) := (hK.1.2 0 _ ht).2
  have hsz : (vp_cell (g.2.2.1 0) (n, .inl f)).slots.size = n := arrV_size _ _ _
  obtain ⟨c0, t0', f1, f2, f3⟩ := Cond.castable_spec (va_Nw.use (A := args) rfl hK.2.2.2.2.2.2.2.2.2.2.2.2)
  cases hnmA.symm.trans f1
  intro T hT X
  have hcellT : T.heap[xad g a]? = some (vp_cell (g.2.2.1 0) (n, .inl f)) := by rw [hT]; exact hc0
  obtain ⟨-, kA, hkA, comp, hkind⟩ := State.isArrayOf_alike X.warmed.alike ((hK.1.2 0 _ ht).1 0 (fun _ => .null))
  obtain ⟨-, kS, hkS, compS, hkindS⟩ := (hK.1.2 0 _ ht).1 0 (fun _ => .null)
  obtain ⟨vm', X', st⟩ := X.cloneArray hx hown (hts _ w0) (hts _ w1) (hts _ w2) (hts _ w3) (hts _ w4) (a := xad g a) (cell := vp_cell (g.2.2.1 0) (n, .inl f)) hcellT (fun k h => by cases h) (fun h => by cases h) hnmA f2 f3
    (fun i v hv => by
      have hk' : T.vm.classes[g.2.2.1 0]? = some kA := hkA
      have hv2 : (arrV (g.2.2.1 0) n (fun j => Value.int (f j))).slots[i]? = some v := hv
      have hi : i < n := by
        have := (Array.getElem?_eq_some_iff.mp hv2).1
        rw [arrV_size] at this
        exact this
      rw [arrV_read _ _ hi] at hv2
      cases hv2
      simp [State.fitsSlot, State.slotType?, hk', hkind, vp_cell, arrV, fits])
    (g := F0 m pc Ls (.ref (xad g a) :: rest)) rfl (by rw [hml]; exact hLs) rfl (by rw [hb]; exact hdg) hframes (by show 2 * 0 + _ + 14 ≤ _; omega) hcells (by rw [hsz]; exact hslots) (hloader := Vm.clonesLoader_of_array hkS hkindS)
  have hcellE : ({ cls := (vp_cell (g.2.2.1 0) (n, .inl f)).cls, slots := (vp_cell (g.2.2.1 0) (n, .inl f)).slots } : Cell) = vp_cell (g.2.2.1 0) (n, .inl f) := rfl
  rw [hcellE, hsz] at X'
  generalize hH1 : H.push (vp_cell (g.2.2.1 0) (n, .inl f)) = H1
  have z1 : H1.size = H.size + 1 := by rw [← hH1, Array.size_push]
  have e1 : H1[H.size]? = some (vp_cell (g.2.2.1 0) (n, .inl f)) := by rw [← hH1, Array.getElem?_push_size]
  have o1 : ∀ q : Nat, q < H.size → H1[q]? = H[q]? := fun q hq => by rw [← hH1, Array.getElem?_push, if_neg (Nat.ne_of_lt hq)]
  have hk := kk H1 (hW.nw z1 o1 e1) (xS_nw hS z1 o1)
  rw [← hW.size] at hk
  obtain ⟨t, b1, b2⟩ := hk _ (by rw [← hH1, ← hT]; rfl) X'
  refine ⟨t, ?_, b2⟩
  refine st t ?_
  rw [← hT] at b1
  exact b1
theorem xcast (X : xCx p s m args meth c g ro own mname cc nL) (hW : xW g h H) {idx n : Nat} {f : Nat → Int32} (ha : h.2.2 a = some (.inl (0, n, .inl f))) (w0 : Jvm.Cond.classLink own idx "[I" ∈ xTb) (hdg : decode cc pc = .ok (.checkcast idx, 3))
    (kk : W p l e R s m args below meth c H locs cells slots Q (F0 m (pc + 3) Ls (.ref (xad g a) :: rest))) : W p l e R s m args below meth c H locs cells slots Q (F0 m pc Ls (.ref (xad g a) :: rest)) := by
  obtain ⟨hx, hb, hml, hown, hts, hnm, hK⟩ := X
  obtain ⟨-, -, hat⟩ := hW.2.2 a _ ha
  have ht : (xTys g)[0]? = some (g.2.2.1 0, .int) := rfl
  exact va_castA hx hb hown (hts _ w0) (xOne hat) 0 rfl (hK.1.2 0 _ ht).2 hdg kk
end XB
end
section
/-! ===== every plain instruction: the small machine's step is the JVM's ===== -/
theorem xoff_ok {pc : Nat} {d k : Int} : ∀ {ps : List (Int × Int)}, xNn pc d = true → ps.all (fun q => xNn pc q.2) = true → xNn pc (Op.lookupswitch.offset ps d k) = true
  | [], hd, _ => hd
  | (a, o) :: r, hd, h => by
    rw [Op.lookupswitch.offset_cons]
    simp only [List.all_cons, Bool.and_eq_true] at h
    split
    · exact h.1
    · exact xoff_ok hd h.2
theorem xstr_at {g : xG} {a : Nat} (h2 : 2 ≤ a) (h4 : a ≤ 4) : a - 2 < 3 ∧ xad g a = g.2.1 (2 + (a - 2)) ∧ xad g (a + 3) = g.2.1 (5 + (a - 2)) := by
  refine ⟨by omega, ?_, ?_⟩
  · unfold xad
    rw [if_pos (show a < 16 by omega), show 2 + (a - 2) = a by omega]
  · unfold xad
    rw [if_pos (show a + 3 < 16 by omega), show 5 + (a - 2) = a + 3 by omega]
theorem xstb_at {g : xG} {ro : xRo} {s : State} {H : Heap} {a n : Nat} {f : Nat → Int32} (hK : xK g ro s H) (h : xStB a = some (n, f)) : va_T .byte (xad g a) n (fun j => .int (f j)) (xA g) s H ∧ xad g a = xad g a := by
  have hv := hK.2.2.2.2.2.2.2.2.2.1.1
  refine ⟨?_, rfl⟩
  unfold xStB at h
  split at h
  · cases h; exact (hv 0 (by decide)).2.2.2
  · cases h; exact (hv 1 (by decide)).2.2.2
  · cases h; exact (hv 2 (by decide)).2.2.2
  · cases h
theorem xnfw : nativeFrameWords "java/lang/System" "arraycopy" 5 + 11 ≤ 80 := by decide +kernel
section XM
variable {p : Program} {l : Launch} {e : Env} {R : Room} {s : State} {m : MethodId} {args : Array Value} {below : List Frame} {meth : Method} {c : Code} {H : Heap} {locs : List Loc} {cells slots : Nat} {Q : State → Prop}
variable {g : xG} {ro : xRo} {own mname : String} {cc : ByteArray} {nL pc : Nat} {h : xH} {Ls : Array Slot}
set_option maxHeartbeats 8000000 in
theorem xmain (X : xCx p s m args meth c g ro own mname cc nL) (hRm : 1 ≤ R.frames ∧ 120 ≤ R.locals) {i : xI} (hc : xChk own mname cc nL pc i = true) {ls ls' : xL} {st st' : List Value} {h' : xH} {pc' : Nat} (hs : xStep ro i pc ls st h = some (pc', ls', st', h')) (hW : xW g h H) (hL : lv_has Ls nL (xTl g ls)) (hS : va_S (xA g) s.heap H locs)
    (hcell : cells + h'.1 ≤ R.cells + h.1) (hslot : slots + h'.2.1 ≤ R.slots + h.2.1)
    (kk : ∀ (H1 : Heap) (locs1 : List Loc) (Ls1 : Array Slot) (cells1 slots1 : Nat), xW g h' H1 → lv_has Ls1 nL (xTl g ls') → va_S (xA g) s.heap H1 locs1 → cells1 + h.1 = cells + h'.1 → slots1 + h.2.1 = slots + h'.2.1 → W p l e R s m args below meth c H1 locs1 cells1 slots1 Q (F0 m pc' Ls1 (st'.map (xTv g)))) :
    W p l e R s m args below meth c H locs cells slots Q (F0 m pc Ls (st.map (xTv g))) := by
  obtain ⟨op, len, A, B, k, ps⟩ := i
  unfold xChk at hc
  simp only [Bool.and_eq_true, decide_eq_true_eq] at hc
  obtain ⟨⟨hd, hlen⟩, h2⟩ := hc
  obtain ⟨hx, hb, hml, hown, hts, hnm, hK⟩ := id X
  unfold xStep at hs
  dsimp only at hs hd hlen
  cases op with
  | iadd =>
    obtain rfl : len = 1 := xbeq hlen
    obtain ⟨x, y, r, rfl, he⟩ := xii_inv hs
    cases he
    exact lv_iadd hx hb hd (kk _ _ _ _ _ hW hL hS rfl rfl)
  | isub =>
    obtain rfl : len = 1 := xbeq hlen
    obtain ⟨x, y, r, rfl, he⟩ := xii_inv hs
    cases he
    exact lv_isub hx hb hd (kk _ _ _ _ _ hW hL hS rfl rfl)
  | imul =>
    obtain rfl : len = 1 := xbeq hlen
    obtain ⟨x, y, r, rfl, he⟩ := xii_inv hs
    cases he
    exact lv_imul hx hb hd (kk _ _ _ _ _ hW hL hS rfl rfl)
  | iand =>
    obtain rfl : len = 1 := xbeq hlen
    obtain ⟨x, y, r, rfl, he⟩ := xii_inv hs
    cases he
    exact lv_iand hx hb hd (kk _ _ _ _ _ hW hL hS rfl rfl)
  | ior =>
    obtain rfl : len = 1 := xbeq hlen
    obtain ⟨x, y, r, rfl, he⟩ := xii_inv hs
    cases he
    exact lv_ior hx hb hd (kk _ _ _ _ _ hW hL hS rfl rfl)
  | ixor =>
    obtain rfl : len = 1 := xbeq hlen
    obtain ⟨x, y, r, rfl, he⟩ := xii_inv hs
    cases he
    exact lv_ixor hx hb hd (kk _ _ _ _ _ hW hL hS rfl rfl)
  | ishl =>
    obtain rfl : len = 1 := xbeq hlen
    obtain ⟨x, y, r, rfl, he⟩ := xii_inv hs
    cases he
    exact lv_ishl hx hb hd (kk _ _ _ _ _ hW hL hS rfl rfl)
  | ishr =>
    obtain rfl : len = 1 := xbeq hlen
    obtain ⟨x, y, r, rfl, he⟩ := xii_inv hs
    cases he
    exact lv_ishr hx hb hd (kk _ _ _ _ _ hW hL hS rfl rfl)
  | iushr =>
    obtain rfl : len = 1 := xbeq hlen
    obtain ⟨x, y, r, rfl, he⟩ := xii_inv hs
    cases he
    exact lv_iushr hx hb hd rfl (kk _ _ _ _ _ hW hL hS rfl rfl)
  | idiv =>
    obtain rfl : len = 1 := xbeq hlen
    obtain ⟨x, y, r, rfl, he⟩ := xii_inv hs
    split at he
    · cases he
    · rename_i hy
      cases he
      exact lv_idiv hx hb hd hy (kk _ _ _ _ _ hW hL hS rfl rfl)
  | irem =>
    obtain rfl : len = 1 := xbeq hlen
    obtain ⟨x, y, r, rfl, he⟩ := xii_inv hs
    split at he
    · cases he
    · rename_i hy
      cases he
      exact lv_irem hx hb hd hy (kk _ _ _ _ _ hW hL hS rfl rfl)
  | ldiv =>
    obtain rfl : len = 1 := xbeq hlen
    obtain ⟨x, y, r, rfl, he⟩ := xll_inv hs
    split at he
    · cases he
    · rename_i hy
      cases he
      exact lv_ldiv hx hb hd hy (kk _ _ _ _ _ hW hL hS rfl rfl)
  | lrem =>
    obtain rfl : len = 1 := xbeq hlen
    obtain ⟨x, y, r, rfl, he⟩ := xll_inv hs
    split at he
    · cases he
    · rename_i hy
      cases he
      exact lv_lrem hx hb hd hy (kk _ _ _ _ _ hW hL hS rfl rfl)
  | ladd =>
    obtain rfl : len = 1 := xbeq hlen
    obtain ⟨x, y, r, rfl, he⟩ := xll_inv hs
    cases he
    exact lv_ladd hx hb hd (kk _ _ _ _ _ hW hL hS rfl rfl)
  | lsub =>
    obtain rfl : len = 1 := xbeq hlen
    obtain ⟨x, y, r, rfl, he⟩ := xll_inv hs
    cases he
    exact lv_lsub hx hb hd (kk _ _ _ _ _ hW hL hS rfl rfl)
  | lmul =>
    obtain rfl : len = 1 := xbeq hlen
    obtain ⟨x, y, r, rfl, he⟩ := xll_inv hs
    cases he
    exact lv_lmul hx hb hd (kk _ _ _ _ _ hW hL hS rfl rfl)
  | lor =>
    obtain rfl : len = 1 := xbeq hlen
    obtain ⟨x, y, r, rfl, he⟩ := xll_inv hs
    cases he
    exact lv_lor hx hb hd (kk _ _ _ _ _ hW hL hS rfl rfl)
  | lcmp =>
    obtain rfl : len = 1 := xbeq hlen
    obtain ⟨x, y, r, rfl, he⟩ := xll_inv hs
    cases he
    exact W.lcmp hx hb hd (kk _ _ _ _ _ hW hL hS rfl rfl)
  | ineg =>
    obtain rfl : len = 1 := xbeq hlen
    obtain ⟨x, r, rfl, he⟩ := xi_inv hs
    cases he
    exact lv_ineg hx hb hd (kk _ _ _ _ _ hW hL hS rfl rfl)
  | lneg =>
    obtain rfl : len = 1 := xbeq hlen
    obtain ⟨x, r, rfl, he⟩ := xl_inv hs
    cases he
    exact lv_lneg hx hb hd (kk _ _ _ _ _ hW hL hS rfl rfl)
  | lshl =>
    obtain rfl : len = 1 := xbeq hlen
    obtain ⟨x, y, r, rfl, he⟩ := xli_inv hs
    cases he
    exact lv_lshl hx hb hd rfl (kk _ _ _ _ _ hW hL hS rfl rfl)
  | lshr =>
    obtain rfl : len = 1 := xbeq hlen
    obtain ⟨x, y, r, rfl, he⟩ := xli_inv hs
    cases he
    exact lv_lshr hx hb hd rfl (kk _ _ _ _ _ hW hL hS rfl rfl)
  | i2l =>
    obtain rfl : len = 1 := xbeq hlen
    obtain ⟨x, r, rfl, he⟩ := xi_inv hs
    cases he
    exact lv_i2l hx hb hd rfl (kk _ _ _ _ _ hW hL hS rfl rfl)
  | i2c =>
    obtain rfl : len = 1 := xbeq hlen
    obtain ⟨x, r, rfl, he⟩ := xi_inv hs
    cases he
    exact lv_i2c hx hb hd rfl (kk _ _ _ _ _ hW hL hS rfl rfl)
  | i2b =>
    obtain rfl : len = 1 := xbeq hlen
    obtain ⟨x, r, rfl, he⟩ := xi_inv hs
    cases he
    exact lv_i2b hx hb hd rfl (kk _ _ _ _ _ hW hL hS rfl rfl)
  | l2i =>
    obtain rfl : len = 1 := xbeq hlen
    obtain ⟨x, r, rfl, he⟩ := xl_inv hs
    cases he
    exact lv_l2i hx hb hd rfl (kk _ _ _ _ _ hW hL hS rfl rfl)
  | aconst_null =>
    obtain rfl : len = 1 := xbeq hlen
    cases hs
    exact lv_null hx hb hd (kk _ _ _ _ _ hW hL hS rfl rfl)
  | iconst n =>
    obtain rfl : len = 1 := xbeq hlen
    cases hs
    exact lv_iconst hx hb hd rfl (kk _ _ _ _ _ hW hL hS rfl rfl)
  | bipush n =>
    obtain rfl : len = 2 := xbeq hlen
    cases hs
    exact lv_bipush hx hb hd (of_decide_eq_true h2) (kk _ _ _ _ _ hW hL hS rfl rfl)
  | sipush n =>
    obtain rfl : len = 3 := xbeq hlen
    cases hs
    exact lv_sipush hx hb hd (of_decide_eq_true h2) (kk _ _ _ _ _ hW hL hS rfl rfl)
  | lconst n =>
    obtain rfl : len = 1 := xbeq hlen
    cases hs
    exact lv_lconst hx hb hd rfl (kk _ _ _ _ _ hW hL hS rfl rfl)
  | iload n =>
    obtain rfl : len = 2 := xbeq hlen
    obtain ⟨v, hv, he⟩ := Option.bind_eq_some_iff.mp hs
    cases v with
    | int x => cases he; exact lv_iload hx hb hd (xL_at hL hv) (kk _ _ _ _ _ hW hL hS rfl rfl)
    | _ => cases he
  | iload_n n =>
    obtain rfl : len = 1 := xbeq hlen
    obtain ⟨v, hv, he⟩ := Option.bind_eq_some_iff.mp hs
    cases v with
    | int x => cases he; exact lv_iload_n hx hb hd rfl (xL_at hL hv) (kk _ _ _ _ _ hW hL hS rfl rfl)
    | _ => cases he
  | lload n =>
    obtain rfl : len = 2 := xbeq hlen
    obtain ⟨v, hv, he⟩ := Option.bind_eq_some_iff.mp hs
    cases v with
    | long x => cases he; exact lv_lload hx hb hd (xL_at hL hv) (kk _ _ _ _ _ hW hL hS rfl rfl)
    | _ => cases he
  | lload_n n =>
    obtain rfl : len = 1 := xbeq hlen
    obtain ⟨v, hv, he⟩ := Option.bind_eq_some_iff.mp hs
    cases v with
    | long x => cases he; exact lv_lload_n hx hb hd rfl (xL_at hL hv) (kk _ _ _ _ _ hW hL hS rfl rfl)
    | _ => cases he
  | aload n =>
    obtain rfl : len = 2 := xbeq hlen
    obtain ⟨v, hv, he⟩ := Option.bind_eq_some_iff.mp hs
    cases v with
    | ref x => cases he; exact lv_aload hx hb hd (xL_at hL hv) (kk _ _ _ _ _ hW hL hS rfl rfl)
    | null => cases he; exact lv_aloadN hx hb hd (xL_at hL hv) (kk _ _ _ _ _ hW hL hS rfl rfl)
    | _ => cases he
  | aload_n n =>
    obtain rfl : len = 1 := xbeq hlen
    obtain ⟨v, hv, he⟩ := Option.bind_eq_some_iff.mp hs
    cases v with
    | ref x => cases he; exact lv_aload_n hx hb hd rfl (xL_at hL hv) (kk _ _ _ _ _ hW hL hS rfl rfl)
    | null => cases he; exact lv_aload_nN hx hb hd rfl (xL_at hL hv) (kk _ _ _ _ _ hW hL hS rfl rfl)
    | _ => cases he
  | istore n =>
    obtain rfl : len = 2 := xbeq hlen
    obtain ⟨x, r, rfl, he⟩ := xi_inv hs
    cases he
    exact lv_istore hx hb hd hL (of_decide_eq_true h2) (xP1_map g ls n (.int x)) (fun Ls1 hL1 => kk _ _ _ _ _ hW hL1 hS rfl rfl)
  | istore_n n =>
    obtain rfl : len = 1 := xbeq hlen
    obtain ⟨x, r, rfl, he⟩ := xi_inv hs
    cases he
    exact lv_istore_n hx hb hd rfl hL (of_decide_eq_true h2) (xP1_map g ls n (.int x)) (fun Ls1 hL1 => kk _ _ _ _ _ hW hL1 hS rfl rfl)
  | lstore n =>
    obtain rfl : len = 2 := xbeq hlen
    obtain ⟨x, r, rfl, he⟩ := xl_inv hs
    cases he
    exact lv_lstore hx hb hd hL (of_decide_eq_true h2) (xP2_map g ls n (.long x)) (fun Ls1 hL1 => kk _ _ _ _ _ hW hL1 hS rfl rfl)
  | lstore_n n =>
    obtain rfl : len = 1 := xbeq hlen
    obtain ⟨x, r, rfl, he⟩ := xl_inv hs
    cases he
    exact lv_lstore_n hx hb hd rfl hL (of_decide_eq_true h2) (xP2_map g ls n (.long x)) (fun Ls1 hL1 => kk _ _ _ _ _ hW hL1 hS rfl rfl)
  | astore n =>
    obtain rfl : len = 2 := xbeq hlen
    obtain ⟨x, r, rfl, he⟩ := xq_inv hs
    cases he
    cases x with
    | some x => exact lv_astore hx hb hd hL (of_decide_eq_true h2) (xP1_map g ls n (.ref x)) (fun Ls1 hL1 => kk _ _ _ _ _ hW hL1 hS rfl rfl)
    | none => exact lv_astoreN hx hb hd hL (of_decide_eq_true h2) (xP1_map g ls n .null) (fun Ls1 hL1 => kk _ _ _ _ _ hW hL1 hS rfl rfl)
  | astore_n n =>
    obtain rfl : len = 1 := xbeq hlen
    obtain ⟨x, r, rfl, he⟩ := xq_inv hs
    cases he
    cases x with
    | some x => exact lv_astore_n hx hb hd rfl hL (of_decide_eq_true h2) (xP1_map g ls n (.ref x)) (fun Ls1 hL1 => kk _ _ _ _ _ hW hL1 hS rfl rfl)
    | none => exact lv_astore_nN hx hb hd rfl hL (of_decide_eq_true h2) (xP1_map g ls n .null) (fun Ls1 hL1 => kk _ _ _ _ _ hW hL1 hS rfl rfl)
  | iinc n z =>
    obtain rfl : len = 3 := xbeq hlen
    obtain ⟨v, hv, he⟩ := Option.bind_eq_some_iff.mp hs
    cases v with
    | int x =>
      cases he
      obtain ⟨j, hj⟩ := xL_idx (g := g) hv
      exact lv_iinc hx hb hd hL hj rfl (of_decide_eq_true h2) (xP1_map g ls n (.int (x + Int32.ofInt z))) (fun Ls1 hL1 => kk _ _ _ _ _ hW hL1 hS rfl rfl)
    | _ => cases he
  | dup =>
    obtain rfl : len = 1 := xbeq hlen
    dsimp only at hs
    split at hs
    · cases hs; exact lv_dup hx hb hd rfl (kk _ _ _ _ _ hW hL hS rfl rfl)
    · cases hs; exact lv_dup hx hb hd rfl (kk _ _ _ _ _ hW hL hS rfl rfl)
    · cases hs
  | dup2 =>
    obtain rfl : len = 1 := xbeq hlen
    dsimp only at hs
    split at hs
    · cases hs; exact lv_dup2_11 hx hb hd rfl rfl (kk _ _ _ _ _ hW hL hS rfl rfl)
    · cases hs
  | pop =>
    obtain rfl : len = 1 := xbeq hlen
    dsimp only at hs
    split at hs
    · cases hs; exact lv_pop hx hb hd rfl (kk _ _ _ _ _ hW hL hS rfl rfl)
    · cases hs; exact lv_pop hx hb hd rfl (kk _ _ _ _ _ hW hL hS rfl rfl)
    · cases hs
  | goto off =>
    obtain rfl : len = 3 := xbeq hlen
    cases hs
    exact lv_goto hx hb hd (xTgt_eq h2) (kk _ _ _ _ _ hW hL hS rfl rfl)
  | ifCond cd off =>
    obtain rfl : len = 3 := xbeq hlen
    obtain ⟨x, r, rfl, he⟩ := xi_inv hs
    cases cd with
    | eq =>
      cases he
      refine lv_if_eq hx hb hd (xTgt_eq h2) (fun hc => ?_) (fun hc => ?_)
      · have := kk _ _ _ _ _ hW hL hS rfl rfl; rw [if_pos hc] at this; exact this
      · have := kk _ _ _ _ _ hW hL hS rfl rfl; rw [if_neg hc] at this; exact this
    | ne =>
      cases he
      refine lv_if_ne hx hb hd (xTgt_eq h2) (fun hc => ?_) (fun hc => ?_)
      · have := kk _ _ _ _ _ hW hL hS rfl rfl; rw [if_pos hc] at this; exact this
      · have := kk _ _ _ _ _ hW hL hS rfl rfl; rw [if_neg (fun q => q hc)] at this; exact this
    | lt =>
      cases he
      refine lv_if_lt hx hb hd (xTgt_eq h2) (fun hc => ?_) (fun hc => ?_)
      · have := kk _ _ _ _ _ hW hL hS rfl rfl; rw [if_pos hc] at this; exact this
      · have := kk _ _ _ _ _ hW hL hS rfl rfl; rw [if_neg hc] at this; exact this
    | ge =>
      cases he
      refine lv_if_ge hx hb hd (xTgt_eq h2) (fun hc => ?_) (fun hc => ?_)
      · have := kk _ _ _ _ _ hW hL hS rfl rfl; rw [if_pos hc] at this; exact this
      · have := kk _ _ _ _ _ hW hL hS rfl rfl; rw [if_neg hc] at this; exact this
    | gt =>
      cases he
      refine lv_if_gt hx hb hd (xTgt_eq h2) (fun hc => ?_) (fun hc => ?_)
      · have := kk _ _ _ _ _ hW hL hS rfl rfl; rw [if_pos hc] at this; exact this
      · have := kk _ _ _ _ _ hW hL hS rfl rfl; rw [if_neg hc] at this; exact this
    | le =>
      cases he
      refine lv_if_le hx hb hd (xTgt_eq h2) (fun hc => ?_) (fun hc => ?_)
      · have := kk _ _ _ _ _ hW hL hS rfl rfl; rw [if_pos hc] at this; exact this
      · have := kk _ _ _ _ _ hW hL hS rfl rfl; rw [if_neg hc] at this; exact this
  | if_icmp cd off =>
    obtain rfl : len = 3 := xbeq hlen
    obtain ⟨x, y, r, rfl, he⟩ := xii_inv hs
    cases cd with
    | eq =>
      cases he
      refine lv_icmp_eq hx hb hd (xTgt_eq h2) (fun hc => ?_) (fun hc => ?_)
      · have := kk _ _ _ _ _ hW hL hS rfl rfl; rw [if_pos hc] at this; exact this
      · have := kk _ _ _ _ _ hW hL hS rfl rfl; rw [if_neg hc] at this; exact this
    | ne =>
      cases he
      refine lv_icmp_ne hx hb hd (xTgt_eq h2) (fun hc => ?_) (fun hc => ?_)
      · have := kk _ _ _ _ _ hW hL hS rfl rfl; rw [if_pos hc] at this; exact this
      · have := kk _ _ _ _ _ hW hL hS rfl rfl; rw [if_neg (fun q => q hc)] at this; exact this
    | lt =>
      cases he
      refine lv_icmp_lt hx hb hd (xTgt_eq h2) (fun hc => ?_) (fun hc => ?_)
      · have := kk _ _ _ _ _ hW hL hS rfl rfl; rw [if_pos hc] at this; exact this
      · have := kk _ _ _ _ _ hW hL hS rfl rfl; rw [if_neg hc] at this; exact this
    | ge =>
      cases he
      refine lv_icmp_ge hx hb hd (xTgt_eq h2) (fun hc => ?_) (fun hc => ?_)
      · have := kk _ _ _ _ _ hW hL hS rfl rfl; rw [if_pos hc] at this; exact this
      · have := kk _ _ _ _ _ hW hL hS rfl rfl; rw [if_neg hc] at this; exact this
    | gt =>
      cases he
      refine lv_icmp_gt hx hb hd (xTgt_eq h2) (fun hc => ?_) (fun hc => ?_)
      · have := kk _ _ _ _ _ hW hL hS rfl rfl; rw [if_pos hc] at this; exact this
      · have := kk _ _ _ _ _ hW hL hS rfl rfl; rw [if_neg hc] at this; exact this
    | le =>
      cases he
      refine lv_icmp_le hx hb hd (xTgt_eq h2) (fun hc => ?_) (fun hc => ?_)
      · have := kk _ _ _ _ _ hW hL hS rfl rfl; rw [if_pos hc] at this; exact this
      · have := kk _ _ _ _ _ hW hL hS rfl rfl; rw [if_neg hc] at this; exact this
  | ifnull off =>
    obtain rfl : len = 3 := xbeq hlen
    obtain ⟨x, r, rfl, he⟩ := xq_inv hs
    cases x with
    | some x => cases he; exact lv_ifnull hx hb hd (kk _ _ _ _ _ hW hL hS rfl rfl)
    | none => cases he; exact lv_ifnullN hx hb hd (xTgt_eq h2) (kk _ _ _ _ _ hW hL hS rfl rfl)
  | ifnonnull off =>
    obtain rfl : len = 3 := xbeq hlen
    obtain ⟨x, r, rfl, he⟩ := xq_inv hs
    cases x with
    | some x => cases he; exact lv_ifnonnull hx hb hd (xTgt_eq h2) (kk _ _ _ _ _ hW hL hS rfl rfl)
    | none => cases he; exact lv_ifnonnullN hx hb hd (kk _ _ _ _ _ hW hL hS rfl rfl)
  | tableswitch d lo hi offs =>
    obtain ⟨x, r, rfl, he⟩ := xi_inv hs
    unfold xChk2 at h2
    simp only [Bool.and_eq_true] at h2
    split at he
    · rename_i hr
      cases he
      exact lv_tableOut hx hb hd hr (xTgt_eq h2.1) (kk _ _ _ _ _ hW hL hS rfl rfl)
    · rename_i hr
      obtain ⟨off, ho, he⟩ := Option.bind_eq_some_iff.mp he
      cases he
      have hm : xNn pc off = true := by
        refine List.all_eq_true.mp h2.2 off ?_
        rw [← Array.getElem?_toList] at ho
        exact List.mem_of_getElem? ho
      exact lv_tableIn hx hb hd (fun q => hr (Or.inl q)) (fun q => hr (Or.inr q)) ho (xTgt_eq hm) (kk _ _ _ _ _ hW hL hS rfl rfl)
  | lookupswitch d prs =>
    obtain ⟨x, r, rfl, he⟩ := xi_inv hs
    cases he
    unfold xChk2 at h2
    simp only [Bool.and_eq_true] at h2
    exact lv_lookup hx hb hd h2.2 rfl (xTgt_eq (xoff_ok h2.1.1 h2.1.2)) (kk _ _ _ _ _ hW hL hS rfl rfl)
  | ldc idx =>
    obtain rfl : len = 2 := xbeq hlen
    dsimp only at hs
    unfold xChk2 at h2
    dsimp only at h2
    cases hA : Nat.beq A 0 with
    | true =>
      rw [hA] at hs h2
      cases hs
      exact lv_ldc hx hb hown (hts _ (xwd_in h2)) hd (kk _ _ _ _ _ hW hL hS rfl rfl)
    | false =>
      rw [hA] at hs h2
      cases hs
      simp only [cond_false, Bool.or_eq_true, Bool.and_eq_true, decide_eq_true_eq] at h2
      obtain ⟨s1, s2, s3, -⟩ := hK.2.2.2.2.2.2
      rcases h2 with (⟨⟨ho, hi⟩, hB⟩ | ⟨⟨ho, hi⟩, hB⟩) | ⟨⟨ho, hi⟩, hB⟩
      · have hi := xbeq hi; have hB := xbeq hB; subst hi; subst hB; subst ho; obtain ⟨tx, s1⟩ := s1; exact va_ldcS hx hb hown s1 hd (kk _ _ _ _ _ hW hL hS rfl rfl)
      · have hi := xbeq hi; have hB := xbeq hB; subst hi; subst hB; subst ho; obtain ⟨tx, s2⟩ := s2; exact va_ldcS hx hb hown s2 hd (kk _ _ _ _ _ hW hL hS rfl rfl)
      · have hi := xbeq hi; have hB := xbeq hB; subst hi; subst hB; subst ho; obtain ⟨tx, s3⟩ := s3; exact va_ldcS hx hb hown s3 hd (kk _ _ _ _ _ hW hL hS rfl rfl)
  | ldc_w idx =>
    obtain rfl : len = 3 := xbeq hlen
    cases hs
    exact lv_ldcw hx hb hown (hts _ (xwd_in h2)) hd (kk _ _ _ _ _ hW hL hS rfl rfl)
  | ldc2_w idx =>
    obtain rfl : len = 3 := xbeq hlen
    cases hs
    exact lv_ldc2 hx hb hown (hts _ (xwd_in h2)) hd (kk _ _ _ _ _ hW hL hS rfl rfl)
  | getfield idx =>
    obtain rfl : len = 3 := xbeq hlen
    dsimp only at hs
    unfold xChk2 at h2
    dsimp only at h2
    cases hk5 : (k == 5) with
    | true =>
      rw [hk5] at hs h2
      dsimp only [cond_true] at hs h2
      obtain ⟨a, r, rfl, he⟩ := xa_inv hs
      cases hA : (Nat.ble 2 a && Nat.ble a 4) with
      | true =>
        rw [hA] at he
        cases he
        simp only [Bool.and_eq_true] at hA
        obtain ⟨z1, z2, z3⟩ := xstr_at (g := g) (Nat.le_of_ble_eq_true hA.1) (Nat.le_of_ble_eq_true hA.2)
        have hz := (hK.2.2.2.2.2.2.2.2.2.1.1 (a - 2) z1).2.2.1
        have hk0 : W p l e R s m args below meth c H locs cells slots Q (F0 m (pc + 3) Ls (.ref (xad g (a + 3)) :: r.map (xTv g))) := kk _ _ _ _ _ hW hL hS rfl rfl
        rw [z3] at hk0
        have hk := vk_getf hx hb hz hS hown (hts _ (xwd_in h2)) (fun _ h => h) hd hk0
        show W p l e R s m args below meth c H locs cells slots Q (F0 m pc Ls (.ref (xad g a) :: r.map (xTv g)))
        rw [z2]
        exact hk
      | false => rw [hA] at he; cases he
    | false =>
      rw [hk5] at hs h2
      dsimp only [cond_false] at hs h2
      cases hk6 : (k == 6) with
      | true =>
        rw [hk6] at hs h2
        dsimp only [cond_true] at hs h2
        obtain ⟨a, r, rfl, he⟩ := xa_inv hs
        cases hA : (Nat.ble 2 a && Nat.ble a 4) with
        | true =>
          rw [hA] at he
          cases he
          simp only [Bool.and_eq_true] at hA
          obtain ⟨z1, z2, z3⟩ := xstr_at (g := g) (Nat.le_of_ble_eq_true hA.1) (Nat.le_of_ble_eq_true hA.2)
          have hz := (hK.2.2.2.2.2.2.2.2.2.1.1 (a - 2) z1).2.1
          have hk := vk_getf hx hb hz hS hown (hts _ (xwd_in h2)) (fun _ h => h) hd (kk _ _ _ _ _ hW hL hS rfl rfl)
          show W p l e R s m args below meth c H locs cells slots Q (F0 m pc Ls (.ref (xad g a) :: r.map (xTv g)))
          rw [z2]
          exact hk
        | false => rw [hA] at he; cases he
      | false =>
        rw [hk6] at hs h2
        dsimp only [cond_false] at hs h2
        obtain ⟨a, r, rfl, he⟩ := xa_inv hs
        obtain ⟨fs, ha, he⟩ := xob_inv he
        obtain ⟨v, hv, he⟩ := Option.bind_eq_some_iff.mp he
        cases he
        split at h2
        · rename_i q hq
          simp only [Bool.and_eq_true, decide_eq_true_eq] at h2
          exact xget X hq h2.1 (xwd_in h2.2) hv ha hW hd (kk _ _ _ _ _ hW hL hS rfl rfl)
        · cases h2
  | putfield idx =>
    obtain rfl : len = 3 := xbeq hlen
    dsimp only at hs
    unfold xChk2 at h2
    dsimp only at h2
    split at hs
    · rename_i v a r
      obtain ⟨fs, ha, he⟩ := xob_inv hs
      cases hf : (xfit k v && Nat.blt B fs.length) with
      | true =>
        rw [hf] at he
        cases he
        simp only [Bool.and_eq_true] at hf
        split at h2
        · rename_i q hq
          simp only [Bool.and_eq_true, decide_eq_true_eq] at h2
          exact xput X hq h2.1.1.1 (xwd_in h2.1.1.2) h2.1.2 (by simpa using h2.2) hf.1 (Nat.le_of_ble_eq_true hf.2) ha hW hS hd (fun H1 locs1 hW1 hS1 => kk _ _ _ _ _ hW1 hL hS1 rfl rfl)
        · cases h2
      | false => rw [hf] at he; cases he
    · cases hs
  | getstatic idx =>
    obtain rfl : len = 3 := xbeq hlen
    dsimp only at hs
    unfold xChk2 at h2
    dsimp only at h2
    cases hk1 : (k == 1) with
    | true =>
      rw [hk1] at hs h2
      cases hs
      exact va_gets hx hb hK.2.2.2.2.2.2.2.2.2.2.1 hS hown (hts _ (xwd_in h2)) (fun _ h => h) hd (kk _ _ _ _ _ hW hL hS rfl rfl)
    | false =>
      rw [hk1] at hs h2
      dsimp only [cond_false] at hs h2
      cases hk2 : (k == 2) with
      | true =>
        rw [hk2] at hs h2
        dsimp only [cond_true] at hs h2
        have hz := hK.2.2.2.2.2.2.2.2.2.2.2.1
        split at hs
        · rename_i q hq
          cases hs
          rw [hq] at hz
          exact va_gets hx hb hz hS hown (hts _ (xwd_in h2)) (fun _ h => h) hd (kk _ _ _ _ _ hW hL hS rfl rfl)
        · rename_i hq
          cases hs
          rw [hq] at hz
          exact va_gets hx hb hz hS hown (hts _ (xwd_in h2)) (fun _ h => h) hd (kk _ _ _ _ _ hW hL hS rfl rfl)
      | false =>
        rw [hk2] at hs h2
        cases hs
        simp only [cond_false, Bool.and_eq_true] at h2
        have hB := xbeq h2.1
        subst hB
        exact va_gets hx hb hK.2.2.2.2.2.1 hS hown (hts _ (xwd_in h2.2)) (fun _ h => h) hd (kk _ _ _ _ _ hW hL hS rfl rfl)
  | iaload =>
    obtain rfl : len = 1 := xbeq hlen
    obtain ⟨a, j, r, rfl, he⟩ := xai_inv hs
    cases hA : Nat.blt a 2 with
    | true =>
      rw [hA] at he
      obtain ⟨⟨n, f⟩, hr, he⟩ := Option.bind_eq_some_iff.mp he
      obtain ⟨hin, he⟩ := xin_inv he
      cases he
      have h2a : a < 2 := Nat.le_of_ble_eq_true hA
      have ha : xad g a = g.2.1 a := by unfold xad; rw [if_pos (Nat.lt_of_lt_of_le h2a (by decide))]
      have hk := va_ti hx hb (hK.2.2.2.2.1 a n f h2a hr) hS hin rfl hd (kk _ _ _ _ _ hW hL hS rfl rfl)
      rw [← ha] at hk
      exact hk
    | false =>
      rw [hA] at he
      obtain ⟨n, f, ha, he⟩ := xar_inv he
      obtain ⟨hin, he⟩ := xin_inv he
      cases he
      exact xiald X hW ha hin hd (kk _ _ _ _ _ hW hL hS rfl rfl)
  | baload =>
    obtain rfl : len = 1 := xbeq hlen
    obtain ⟨a, j, r, rfl, he⟩ := xai_inv hs
    cases hA : Nat.blt a 16 with
    | true =>
      rw [hA] at he
      obtain ⟨⟨n, f⟩, hr, he⟩ := Option.bind_eq_some_iff.mp he
      obtain ⟨hin, he⟩ := xin_inv he
      cases he
      obtain ⟨z1, z2⟩ := xstb_at (g := g) (ro := ro) hK hr
      have hk := va_tb hx hb z1 hS hin rfl hd (kk _ _ _ _ _ hW hL hS rfl rfl)
      rw [← z2] at hk
      exact hk
    | false =>
      rw [hA] at he
      obtain ⟨n, f, ha, he⟩ := xar_inv he
      obtain ⟨hin, he⟩ := xin_inv he
      cases he
      exact xzald X hW ha hin hd (kk _ _ _ _ _ hW hL hS rfl rfl)
  | laload =>
    obtain rfl : len = 1 := xbeq hlen
    obtain ⟨a, j, r, rfl, he⟩ := xai_inv hs
    obtain ⟨n, f, ha, he⟩ := xarl_inv he
    obtain ⟨hin, he⟩ := xin_inv he
    cases he
    exact xlald X hW ha hin hd (kk _ _ _ _ _ hW hL hS rfl rfl)
  | aaload =>
    obtain rfl : len = 1 := xbeq hlen
    obtain ⟨a, j, r, rfl, he⟩ := xai_inv hs
    obtain ⟨t, n, f, ht, ha, he⟩ := xarq_inv he
    obtain ⟨hin, he⟩ := xin_inv he
    cases he
    exact xaald X hW ht ha hin hd (kk _ _ _ _ _ hW hL hS rfl rfl)
  | iastore =>
    obtain rfl : len = 1 := xbeq hlen
    obtain ⟨x, r, rfl, he⟩ := xi_inv hs
    obtain ⟨a, j, r, rfl, he⟩ := xai_inv he
    obtain ⟨n, f, ha, he⟩ := xar_inv he
    obtain ⟨hin, he⟩ := xin_inv he
    cases he
    exact xiast X hW hS ha hin hd (fun H1 locs1 hW1 hS1 => kk _ _ _ _ _ hW1 hL hS1 rfl rfl)
  | bastore =>
    obtain rfl : len = 1 := xbeq hlen
    obtain ⟨x, r, rfl, he⟩ := xi_inv hs
    obtain ⟨a, j, r, rfl, he⟩ := xai_inv he
    obtain ⟨n, f, ha, he⟩ := xar_inv he
    obtain ⟨hin, he⟩ := xin_inv he
    split at he
    · rename_i h01
      cases he
      exact xzast X hW hS ha h01 hin hd (fun H1 locs1 hW1 hS1 => kk _ _ _ _ _ hW1 hL hS1 rfl rfl)
    · cases he
  | lastore =>
    obtain rfl : len = 1 := xbeq hlen
    obtain ⟨x, r, rfl, he⟩ := xl_inv hs
    obtain ⟨a, j, r, rfl, he⟩ := xai_inv he
    obtain ⟨n, f, ha, he⟩ := xarl_inv he
    obtain ⟨hin, he⟩ := xin_inv he
    cases he
    exact xlast X hW hS ha hin hd (fun H1 locs1 hW1 hS1 => kk _ _ _ _ _ hW1 hL hS1 rfl rfl)
  | aastore =>
    obtain rfl : len = 1 := xbeq hlen
    obtain ⟨v, r, rfl, he⟩ := xq_inv hs
    obtain ⟨a, j, r, rfl, he⟩ := xai_inv he
    obtain ⟨t, n, f, ht, ha, he⟩ := xarq_inv he
    obtain ⟨hin, he⟩ := xin_inv he
    cases v with
    | none => cases he; exact xaastN X hW hS ht ha hin hd (fun H1 locs1 hW1 hS1 => kk _ _ _ _ _ hW1 hL hS1 rfl rfl)
    | some o =>
      obtain ⟨fs, ho, he⟩ := xob_inv he
      cases he
      exact xaast X hW hS ht ha ho hin hd (fun H1 locs1 hW1 hS1 => kk _ _ _ _ _ hW1 hL hS1 rfl rfl)
  | arraylength =>
    obtain rfl : len = 1 := xbeq hlen
    obtain ⟨a, r, rfl, he⟩ := xa_inv hs
    cases hA : Nat.blt a 16 with
    | true =>
      rw [hA] at he
      obtain ⟨n, hr, he⟩ := Option.bind_eq_some_iff.mp he
      cases he
      unfold xLn at hr
      split at hr
      · rename_i q hq
        cases hr
        obtain ⟨n, f⟩ := q
        obtain ⟨z1, z2⟩ := xstb_at (g := g) (ro := ro) hK hq
        have hk := va_tlen hx hb z1 hS rfl hd (kk _ _ _ _ _ hW hL hS rfl rfl)
        rw [← z2] at hk
        exact hk
      · cases hB : Nat.blt a 2 with
        | true =>
          rw [hB] at hr
          obtain ⟨⟨n, f⟩, hr2, he⟩ := Option.map_eq_some_iff.mp hr
          cases he
          have h2a : a < 2 := Nat.le_of_ble_eq_true hB
          have ha : xad g a = g.2.1 a := by unfold xad; rw [if_pos (Nat.lt_of_lt_of_le h2a (by decide))]
          have hk := va_tlen hx hb (hK.2.2.2.2.1 a n f h2a hr2) hS rfl hd (kk _ _ _ _ _ hW hL hS rfl rfl)
          rw [← ha] at hk
          exact hk
        | false => rw [hB] at hr; cases hr
    | false =>
      rw [hA] at he
      dsimp only [cond_false] at he
      split at he
      · rename_i t n x ha
        cases hB : Nat.blt t 5 with
        | true => rw [hB] at he; cases he; exact xalen X hW (Nat.le_of_ble_eq_true hB) ha hd (kk _ _ _ _ _ hW hL hS rfl rfl)
        | false => rw [hB] at he; cases he
      · cases he
  | newarray t0 =>
    obtain rfl : len = 2 := xbeq hlen
    obtain ⟨x, r, rfl, he⟩ := xi_inv hs
    obtain ⟨t, ht, he⟩ := Option.bind_eq_some_iff.mp he
    split at he
    · cases he
    · rename_i hr
      cases he
      have hc1 : cells + (h.1 + 1) ≤ R.cells + h.1 := hcell
      have hs1 : slots + (h.2.1 + x.toNatClampNeg) ≤ R.slots + h.2.1 := hslot
      exact xnewa X hW hS ht (xwd_in h2) (fun q => hr (Or.inl q)) (Nat.not_lt.mp fun q => hr (Or.inr q)) (by omega) (by omega) hd (fun H1 hW1 hS1 => kk _ _ _ _ _ hW1 hL hS1 (show cells + 1 + h.1 = cells + (h.1 + 1) by omega) (show slots + x.toNatClampNeg + h.2.1 = slots + (h.2.1 + x.toNatClampNeg) by omega))
  | anewarray idx =>
    obtain rfl : len = 3 := xbeq hlen
    unfold xChk2 at h2
    obtain ⟨x, r, rfl, he⟩ := xi_inv hs
    split at he
    · cases he
    · rename_i hr
      cases he
      have hc1 : cells + (h.1 + 1) ≤ R.cells + h.1 := hcell
      have hs1 : slots + (h.2.1 + x.toNatClampNeg) ≤ R.slots + h.2.1 := hslot
      simp only [Bool.or_eq_true, Bool.and_eq_true] at h2
      have hw : (A = 3 ∧ Jvm.Cond.classLink own idx RX2 ∈ xTb) ∨ (A = 4 ∧ Jvm.Cond.classLink own idx RX10 ∈ xTb) := by
        rcases h2 with h2 | h2
        · exact Or.inl ⟨xbeq h2.1, xwd_in h2.2⟩
        · exact Or.inr ⟨xbeq h2.1, xwd_in h2.2⟩
      exact xnewq X hW hS hw (fun q => hr (Or.inl q)) (Nat.not_lt.mp fun q => hr (Or.inr q)) (by omega) (by omega) hd (fun H1 hW1 hS1 => kk _ _ _ _ _ hW1 hL hS1 (show cells + 1 + h.1 = cells + (h.1 + 1) by omega) (show slots + x.toNatClampNeg + h.2.1 = slots + (h.2.1 + x.toNatClampNeg) by omega))
  | new idx =>
    obtain rfl : len = 3 := xbeq hlen
    unfold xChk2 at h2
    dsimp only at h2
    cases hs
    split at h2
    · rename_i q hq
      simp only [Bool.and_eq_true] at h2
      have hB := xbeq h2.1.1.1
      subst hB
      have hc1 : cells + (h.1 + 1) ≤ R.cells + h.1 := hcell
      have hs1 : slots + (h.2.1 + q.2.2) ≤ R.slots + h.2.1 := hslot
      exact xnew X hW hS hq (xwd_in h2.1.1.2) (xwd_in h2.1.2) (xwd_in h2.2) (by omega) (by omega) hd (fun H1 hW1 hS1 => kk _ _ _ _ _ hW1 hL hS1 (show cells + 1 + h.1 = cells + (h.1 + 1) by omega) (show slots + q.2.2 + h.2.1 = slots + (h.2.1 + q.2.2) by omega))
    · cases h2
  | invokevirtual idx =>
    obtain rfl : len = 3 := xbeq hlen
    dsimp only at hs
    unfold xChk2 at h2
    dsimp only at h2
    cases hk : (k == 8) with
    | true =>
      rw [hk] at hs h2
      dsimp only [cond_true] at hs h2
      obtain ⟨a, r, rfl, he⟩ := xa_inv hs
      obtain ⟨n, f, ha, he⟩ := xar_inv he
      split at he
      · cases he
      · rename_i hr
        cases he
        simp only [Bool.and_eq_true] at h2
        simp only [not_or] at hr
        have hc1 : cells + (h.1 + 1) ≤ R.cells + h.1 := hcell
        have hs1 : slots + (h.2.1 + n) ≤ R.slots + h.2.1 := hslot
        exact xclone X hW hS hL.1 ha (xwd_in h2.1.1.1.1) (xwd_in h2.1.1.1.2) (xwd_in h2.1.1.2) (xwd_in h2.1.2) (xwd_in h2.2) hRm.1 (by rw [xCat_map]; omega) (by omega) (by omega) hd (fun H1 hW1 hS1 => kk _ _ _ _ _ hW1 hL hS1 (show cells + 1 + h.1 = cells + (h.1 + 1) by omega) (show slots + n + h.2.1 = slots + (h.2.1 + n) by omega))
    | false => rw [hk] at hs; cases hs
  | checkcast idx =>
    obtain rfl : len = 3 := xbeq hlen
    obtain ⟨a, r, rfl, he⟩ := xa_inv hs
    obtain ⟨n, f, ha, he⟩ := xar_inv he
    cases he
    exact xcast X hW ha (xwd_in h2) hd (kk _ _ _ _ _ hW hL hS rfl rfl)
  | invokestatic idx =>
    obtain rfl : len = 3 := xbeq hlen
    dsimp only at hs
    unfold xChk2 at h2
    dsimp only at h2
    cases hk : (k == 9) with
    | true =>
      rw [hk] at hs h2
      dsimp only [cond_true] at hs
      split at hs
      · rename_i n dp a sp a0 r
        obtain ⟨n0, f, ha0, he⟩ := xar_inv hs
        obtain ⟨n1, f1, ha1, he⟩ := xar_inv he
        split at he
        · cases he
        · rename_i hr
          cases he
          simp only [cond_true, Bool.and_eq_true] at h2
          simp only [not_or] at hr
          obtain ⟨r1, r2, r3, r4, r5, r6⟩ := hr
          have := xnfw
          exact xcopy X hW hS hL.1 ha0 ha1 (xwd_in h2.1.1.1) (xwd_in h2.1.1.2) (xwd_in h2.1.2) (xwd_in h2.2) r1 r2 r3 (by omega) (by omega) hRm.1 (by rw [xCat_map]; omega) hd (fun H1 locs1 hW1 hS1 => kk _ _ _ _ _ hW1 hL hS1 rfl rfl)
      · cases hs
    | false =>
      rw [hk] at hs h2
      dsimp only [cond_false] at hs h2
      cases hk10 : (k == 10) with
      | true =>
        rw [hk10] at hs h2
        dsimp only [cond_true] at hs h2
        obtain ⟨x, y, r, rfl, he⟩ := xii_inv hs
        split at he
        · cases he
        · rename_i hr
          cases he
          simp only [Bool.and_eq_true] at h2
          exact va_mmax hx hb (hml.trans hL.1.symm) hown (hts _ (xwd_in h2.1.1.1)) (hts _ (xwd_in h2.1.1.2)) (hts _ (xwd_in h2.1.2)) (hts _ (xwd_in h2.2)) hRm.1 (by rw [xCat_map]; omega) (by omega) (by omega) hd (kk _ _ _ _ _ hW hL hS rfl rfl)
      | false =>
        rw [hk10] at hs h2
        dsimp only [cond_false] at hs h2
        cases hk11 : (k == 11) with
        | true =>
          rw [hk11] at hs h2
          dsimp only [cond_true] at hs h2
          obtain ⟨x, y, r, rfl, he⟩ := xii_inv hs
          split at he
          · cases he
          · rename_i hr
            cases he
            simp only [Bool.and_eq_true] at h2
            exact va_mmin hx hb (hml.trans hL.1.symm) hown (hts _ (xwd_in h2.1.1.1)) (hts _ (xwd_in h2.1.1.2)) (hts _ (xwd_in h2.1.2)) (hts _ (xwd_in h2.2)) hRm.1 (by rw [xCat_map]; omega) (by omega) (by omega) hd (kk _ _ _ _ _ hW hL hS rfl rfl)
        | false =>
          rw [hk11] at hs h2
          dsimp only [cond_false] at hs h2
          cases hk12 : (k == 12) with
          | true =>
            rw [hk12] at hs h2
            dsimp only [cond_true] at hs h2
            obtain ⟨x, y, r, rfl, he⟩ := xll_inv hs
            split at he
            · cases he
            · rename_i hr
              cases he
              simp only [Bool.and_eq_true] at h2
              exact va_mmax_long hx hb (hml.trans hL.1.symm) hown (hts _ (xwd_in h2.1.1.1)) (hts _ (xwd_in h2.1.1.2)) (hts _ (xwd_in h2.1.2)) (hts _ (xwd_in h2.2)) hRm.1 (by rw [xCat_map]; omega) (by omega) (by omega) hd (kk _ _ _ _ _ hW hL hS rfl rfl)
          | false =>
            rw [hk12] at hs h2
            dsimp only [cond_false] at hs h2
            cases hk13 : (k == 13) with
            | true =>
              rw [hk13] at hs h2
              dsimp only [cond_true] at hs h2
              obtain ⟨x, y, r, rfl, he⟩ := xll_inv hs
              split at he
              · cases he
              · rename_i hr
                cases he
                simp only [Bool.and_eq_true] at h2
                exact va_mmin_long hx hb (hml.trans hL.1.symm) hown (hts _ (xwd_in h2.1.1.1)) (hts _ (xwd_in h2.1.1.2)) (hts _ (xwd_in h2.1.2)) (hts _ (xwd_in h2.2)) hRm.1 (by rw [xCat_map]; omega) (by omega) (by omega) hd (kk _ _ _ _ _ hW hL hS rfl rfl)
            | false =>
              rw [hk13] at hs h2
              dsimp only [cond_false] at hs h2
              cases hs
  | invokespecial idx =>
    obtain rfl : len = 3 := xbeq hlen
    dsimp only at hs
    unfold xChk2 at h2
    dsimp only at h2
    cases hk : (k == 8) with
    | true =>
      rw [hk] at hs h2
      dsimp only [cond_true] at hs
      obtain ⟨a, r, rfl, he⟩ := xa_inv hs
      split at he
      · cases he
      · rename_i hr
        cases he
        simp only [cond_true, Bool.and_eq_true] at h2
        exact W.objInit hx hb hown (hts _ (xwd_in h2.1.1)) (hts _ (xwd_in h2.1.2)) (hts _ (xwd_in h2.2)) rfl (hL.1.trans hml.symm) rfl hd hRm.1 (by show 2 * 0 + _ + 12 ≤ _; rw [xCat_map]; omega) (kk _ _ _ _ _ hW hL hS rfl rfl)
    | false => rw [hk] at hs; cases hs
  | _ => cases hs
end XM
end
section
/-! ===== runs of the small machine ===== -/
def xMo (h : xH) (o : Option xS) : Prop := ∀ s, o = some s → h.1 ≤ s.2.2.2.1 ∧ h.2.1 ≤ s.2.2.2.2.1
theorem xMo_no {h : xH} : xMo h none := fun _ h => by cases h
theorem xMo_at {h : xH} {pc : Nat} {ls : xL} {st : List Value} : xMo h (some (pc, ls, st, h)) := fun s hs => by cases hs; exact ⟨Nat.le_refl _, Nat.le_refl _⟩
theorem xMo_up {h : xH} {pc i : Nat} {ls : xL} {st : List Value} {e : va_E} : xMo h (some (pc, ls, st, xUp h i e)) := fun s hs => by cases hs; exact ⟨Nat.le_refl _, Nat.le_refl _⟩
theorem xMo_nw {h : xH} {pc n : Nat} {ls : xL} {st : List Value} {e : va_E} : xMo h (some (pc, ls, st, xNw h n e)) := fun s hs => by cases hs; exact ⟨Nat.le_succ _, Nat.le_add_right _ _⟩
theorem xMo_i {h : xH} {st : List Value} {k : Int32 → List Value → Option xS} (hk : ∀ x r, xMo h (k x r)) : xMo h (xi st k) := fun s hs => by
  obtain ⟨x, r, -, he⟩ := xi_inv hs; exact hk x r s he
theorem xMo_ii {h : xH} {st : List Value} {k : Int32 → Int32 → List Value → Option xS} (hk : ∀ x y r, xMo h (k x y r)) : xMo h (xii st k) := fun s hs => by
  obtain ⟨x, y, r, -, he⟩ := xii_inv hs; exact hk x y r s he
theorem xMo_l {h : xH} {st : List Value} {k : Int64 → List Value → Option xS} (hk : ∀ x r, xMo h (k x r)) : xMo h (xl st k) := fun s hs => by
  obtain ⟨x, r, -, he⟩ := xl_inv hs; exact hk x r s he
theorem xMo_ll {h : xH} {st : List Value} {k : Int64 → Int64 → List Value → Option xS} (hk : ∀ x y r, xMo h (k x y r)) : xMo h (xll st k) := fun s hs => by
  obtain ⟨x, y, r, -, he⟩ := xll_inv hs; exact hk x y r s he
theorem xMo_li {h : xH} {st : List Value} {k : Int64 → Int32 → List Value → Option xS} (hk : ∀ x y r, xMo h (k x y r)) : xMo h (xli st k) := fun s hs => by
  obtain ⟨x, y, r, -, he⟩ := xli_inv hs; exact hk x y r s he
theorem xMo_a {h : xH} {st : List Value} {k : Nat → List Value → Option xS} (hk : ∀ x r, xMo h (k x r)) : xMo h (xa st k) := fun s hs => by
  obtain ⟨x, r, -, he⟩ := xa_inv hs; exact hk x r s he
theorem xMo_ai {h : xH} {st : List Value} {k : Nat → Int32 → List Value → Option xS} (hk : ∀ x y r, xMo h (k x y r)) : xMo h (xai st k) := fun s hs => by
  obtain ⟨x, y, r, -, he⟩ := xai_inv hs; exact hk x y r s he
theorem xMo_q {h : xH} {st : List Value} {k : Option Nat → List Value → Option xS} (hk : ∀ x r, xMo h (k x r)) : xMo h (xq st k) := fun s hs => by
  obtain ⟨x, r, -, he⟩ := xq_inv hs; exact hk x r s he
theorem xMo_ob {h : xH} {a ci : Nat} {k : List Value → Option xS} (hk : ∀ x, xMo h (k x)) : xMo h (xob h a ci k) := fun s hs => by
  obtain ⟨x, -, he⟩ := xob_inv hs; exact hk x s he
theorem xMo_ar {h : xH} {a t : Nat} {k : Nat → (Nat → Int32) → Option xS} (hk : ∀ x y, xMo h (k x y)) : xMo h (xar h a t k) := fun s hs => by
  obtain ⟨x, y, -, he⟩ := xar_inv hs; exact hk x y s he
theorem xMo_arl {h : xH} {a : Nat} {k : Nat → (Nat → Int64) → Option xS} (hk : ∀ x y, xMo h (k x y)) : xMo h (xarl h a k) := fun s hs => by
  obtain ⟨x, y, -, he⟩ := xarl_inv hs; exact hk x y s he
theorem xMo_arq {h : xH} {a : Nat} {k : Nat → Nat → (Nat → Option Nat) → Option xS} (hk : ∀ x y z, xMo h (k x y z)) : xMo h (xarq h a k) := fun s hs => by
  obtain ⟨x, y, z, -, -, he⟩ := xarq_inv hs; exact hk x y z s he
theorem xMo_in {h : xH} {i : Int32} {n : Nat} {k : Nat → Option xS} (hk : ∀ x, xMo h (k x)) : xMo h (xin i n k) := fun s hs => by
  obtain ⟨-, he⟩ := xin_inv hs; exact hk _ s he
theorem xMo_b {h : xH} {α : Type} {o : Option α} {k : α → Option xS} (hk : ∀ x, xMo h (k x)) : xMo h (o.bind k) := fun s hs => by
  obtain ⟨x, -, he⟩ := Option.bind_eq_some_iff.mp hs; exact hk _ s he
theorem xMo_c {h : xH} {b : Bool} {x y : Option xS} (hx : xMo h x) (hy : xMo h y) : xMo h (bif b then x else y) := by cases b <;> assumption
set_option maxHeartbeats 4000000 in
theorem xStep_mono {ro : xRo} {i : xI} {pc : Nat} {ls : xL} {st : List Value} {h : xH} : xMo h (xStep ro i pc ls st h) := by
  obtain ⟨op, len, A, B, k, ps⟩ := i
  unfold xStep
  dsimp only
  cases op <;> dsimp only <;> repeat (first
    | exact xMo_no | exact xMo_at | exact xMo_up | exact xMo_nw
    | (refine xMo_i fun _ _ => ?_) | (refine xMo_ii fun _ _ _ => ?_) | (refine xMo_l fun _ _ => ?_) | (refine xMo_ll fun _ _ _ => ?_) | (refine xMo_li fun _ _ _ => ?_)
    | (refine xMo_a fun _ _ => ?_) | (refine xMo_ai fun _ _ _ => ?_) | (refine xMo_q fun _ _ => ?_) | (refine xMo_ob fun _ => ?_) | (refine xMo_ar fun _ _ => ?_) | (refine xMo_arl fun _ _ => ?_) | (refine xMo_arq fun _ _ _ => ?_)
    | (refine xMo_in fun _ => ?_) | (refine xMo_b fun _ => ?_) | (refine xMo_c ?_ ?_) | split)
abbrev xR : Type := Option Value × xH
/-- the receiver of a call is of the class that the words speak of: its number is the sixth place; 99: a text -/
def xRcv (i : xI) (as : List Value) (h : xH) : Bool := match i.1 with
  | .invokevirtual _ => match as with
    | .ref a :: _ => match h.2.2 a with
      | some (.inr (c, _)) => Nat.beq c (i.2.2.2.2.2.getD 5 0)
      | _ => Nat.ble 2 a && Nat.ble a 4 && Nat.beq (i.2.2.2.2.2.getD 5 0) 99
    | _ => false
  | .invokespecial _ => match as with
    | .ref _ :: _ => true
    | _ => false
  | _ => true
def xRetV (ret : Option FieldType) (op : Instr) (st : List Value) : Option (Option Value) := match op with
  | .ireturn => match st with
    | [.int x] => match ret with
      | some .int => some (some (.int x))
      | some .boolean => if x = 0 ∨ x = 1 then some (some (.int x)) else none
      | some .char => if narrow .char (.int x) = .int x then some (some (.int x)) else none
      | some .byte => if narrow .byte (.int x) = .int x then some (some (.int x)) else none
      | _ => none
    | _ => none
  | .lreturn => match st with
    | [.long x] => match ret with
      | some .long => some (some (.long x))
      | _ => none
    | _ => none
  | .areturn => match st with
    | [.ref x] => match ret with
      | some (.object _) => some (some (.ref x))
      | some (.array _) => some (some (.ref x))
      | _ => none
    | [.null] => match ret with
      | some (.object _) => some (some .null)
      | some (.array _) => some (some .null)
      | _ => none
    | _ => none
  | .return_ => match st with
    | [] => match ret with
      | none => some none
      | _ => none
    | _ => none
  | _ => none
def xRun (ro : xRo) (E : Nat → List Value → xH → xR → Prop) (ret : Option FieldType) (code : xC) : Nat → Nat → xL → List Value → xH → xR → Prop
  | 0, _, _, _, _, _ => False
  | n + 1, pc, ls, st, h, r => ∃ i, xAt code pc = some i ∧
      ((∃ pc' ls' st' h', xStep ro i pc ls st h = some (pc', ls', st', h') ∧ xRun ro E ret code n pc' ls' st' h' r)
      ∨ (∃ j k v h', xCallee i = some (j, k) ∧ k ≤ st.length ∧ ((st.drop k).map fun v => v.category).sum ≤ 8 ∧ xRcv i (st.take k).reverse h = true ∧ E j (st.take k).reverse h (v, h') ∧ xRun ro E ret code n (pc + 3) ls (v.toList ++ st.drop k) h' r)
      ∨ (∃ v, xRetV ret i.1 st = some v ∧ r = (v, h)))
/-- a method's run at a depth of calls: built-in ones by B -/
def xEv (ro : xRo) (P : Nat → Option xMeth) (B : Nat → List Value → xH → xR → Prop) : Nat → Nat → List Value → xH → xR → Prop
  | 0, _, _, _, _ => False
  | d + 1, j, as, h, r => (10 ≤ d ∧ B j as h r) ∨ ∃ M n, P j = some M ∧ Nat.ble (lg_sl as).length M.2.2.1 = true ∧ xRun ro (xEv ro P B d) M.2.2.2.1 M.2.2.2.2 n 0 (lv_args 0 as) [] h r
def xLe (h : xH) (r : xR) : Prop := h.1 ≤ r.2.1 ∧ h.2.1 ≤ r.2.2.1
theorem xRun_mono {ro : xRo} {E : Nat → List Value → xH → xR → Prop} {ret : Option FieldType} {code : xC} (hE : ∀ j as h r, E j as h r → xLe h r) : ∀ n pc ls st h r, xRun ro E ret code n pc ls st h r → xLe h r := by
  intro n
  induction n with
  | zero => intro pc ls st h r hr; cases hr
  | succ n ih =>
    intro pc ls st h r hr
    obtain ⟨i, -, hr⟩ := hr
    rcases hr with ⟨pc', ls', st', h', hs, hr⟩ | ⟨j, k, v, h', -, -, -, -, he, hr⟩ | ⟨v, -, rfl⟩
    · have h1 := xStep_mono _ hs
      have h2 := ih _ _ _ _ _ hr
      exact ⟨Nat.le_trans h1.1 h2.1, Nat.le_trans h1.2 h2.2⟩
    · have h1 := hE _ _ _ _ he
      have h2 := ih _ _ _ _ _ hr
      exact ⟨Nat.le_trans h1.1 h2.1, Nat.le_trans h1.2 h2.2⟩
    · exact ⟨Nat.le_refl _, Nat.le_refl _⟩
theorem xEv_mono {ro : xRo} {P : Nat → Option xMeth} {B : Nat → List Value → xH → xR → Prop} (hB : ∀ j as h r, B j as h r → xLe h r) : ∀ d j as h r, xEv ro P B d j as h r → xLe h r := by
  intro d
  induction d with
  | zero => intro j as h r hr; cases hr
  | succ d ih =>
    intro j as h r hr
    rcases hr with ⟨-, hr⟩ | ⟨M, n, -, -, hr⟩
    · exact hB _ _ _ _ hr
    · exact xRun_mono ih _ _ _ _ _ _ hr
end
section
/-! ===== a run of the small machine is a contract of the JVM's method ===== -/
def xPre (g : xG) (ro : xRo) (as : List Value) (h : xH) : Array Value → State → Prop := va_Pc (as.map (xTv g)) (fun U => xW g h U.heap ∧ xK g ro U U.heap)
def xPost (g : xG) (r : xR) : Array Value → State → Outcome → State → Prop := fun _ st o t => o = .returned (r.1.map (xTv g)) ∧ xW g r.2 t.heap ∧ va_F (xA g) st t
def xMet (l : Launch) (g : xG) (ro : xRo) (d : Nat) (M : xMeth) (as : List Value) (h : xH) (r : xR) : Prop :=
  Met l M.1 (Jvm.Cond.code M.1 M.2.1 M.2.2.1 M.2.2.2.1 :: xTb) { frames := d, cells := r.2.1 - h.1, slots := r.2.2.1 - h.2.1, locals := 120 * d } (xPre g ro as h) (xPost g r) (r.2.1 - h.1) (r.2.2.1 - h.2.1) (xA g)
theorem xPre_blind {g : xG} {ro : xRo} {as : List Value} {h : xH} : FrameBlind (xPre g ro as h) := by
  intro a U f mk ⟨h1, h2, h3⟩
  exact ⟨h1, h2, xK.same (u := U) rfl h3⟩
theorem xGoodIn (w : Jvm.Cond) (hw : w ∈ xTb) : GoodIn xTb (w :: xTb) := by
  intro v hv
  have hm : v ∈ xTb := by
    rcases List.mem_cons.mp hv with rfl | h
    · exact hw
    · exact h
  exact ⟨hm, good_of_word (List.mem_filter.mp hm).2⟩
section XC
variable {p : Program} {l : Launch} {e : Env} {R : Room} {s : State} {m : MethodId} {args : Array Value} {below : List Frame} {meth : Method} {c : Code} {H : Heap} {locs : List Loc} {cells slots : Nat} {Q : State → Prop}
variable {g : xG} {ro : xRo} {own mname : String} {cc : ByteArray} {nL pc : Nat} {h h' : xH} {Ls : Array Slot}
theorem xback {mc ms : Nat} {st0 rest : List Value} {a : Array Value} {v : Option Value} (hr : va_Run p l e R s m args below meth c H locs cells slots mc ms (F0 m pc Ls st0) rest (xPost g (v, h') a) (xA g)) (hS : va_S (xA g) s.heap H locs)
    (kk : ∀ (H1 : Heap) (locs1 : List Loc), xW g h' H1 → va_S (xA g) s.heap H1 locs1 → W p l e R s m args below meth c H1 locs1 (cells + mc) (slots + ms) Q (F0 m (pc + 3) Ls ((v.map (xTv g)).toList ++ rest))) : W p l e R s m args below meth c H locs cells slots Q (F0 m pc Ls st0) := by
  intro T hT X
  obtain ⟨v', st₀, t, T', L, h0, X', hL, e1, e2, ⟨q1, q2, q3⟩, st⟩ := hr T hT X
  cases q1
  rw [va_F, h0] at q3
  obtain ⟨t2, a1, b1⟩ := kk T'.heap (locs ++ L) (by rw [e1]; exact q2) ⟨Nat.le_trans hS.1 (by rw [e1]; exact q3.1), fun q z1 z2 => by rw [e1, q3.2 q (Nat.lt_of_lt_of_le z1 hS.1) z2]; exact hS.2.1 q z1 z2, fun q hq => by
      rcases List.mem_append.mp hq with z | z
      · exact hS.2.2 q z
      · exact hL q z⟩ T' rfl X'
  exact ⟨t2, st t2 a1, b1⟩
theorem xcall (X : xCx p s m args meth c g ro own mname cc nL) {d : Nat} (hRf : d + 1 ≤ R.frames) (hRl : 120 * (d + 1) ≤ R.locals) {P : Nat → Option xMeth} {i : xI} {j k : Nat} (hd : decode cc pc = .ok (i.1, i.2.1)) (hlen : (match xLen i.1 with
    | some n => Nat.beq i.2.1 n
    | none => true) = true) (hC : xChkC P own i = true) (hj : xCallee i = some (j, k)) {M : xMeth} (hP : P j = some M) (hcw : Jvm.Cond.code M.1 M.2.1 M.2.2.1 M.2.2.2.1 ∈ xTb) {st : List Value} {v : Option Value} (hk : k ≤ st.length) (hcat : ((st.drop k).map fun v => v.category).sum ≤ 8) (hrc : xRcv i (st.take k).reverse h = true)
    (hM : xMet l g ro d M (st.take k).reverse h (v, h')) (hW : xW g h H) (hLs : Ls.size = nL) (hS : va_S (xA g) s.heap H locs) (hcell : cells + (h'.1 - h.1) ≤ R.cells) (hslot : slots + (h'.2.1 - h.2.1) ≤ R.slots)
    (kk : ∀ (H1 : Heap) (locs1 : List Loc), xW g h' H1 → va_S (xA g) s.heap H1 locs1 → W p l e R s m args below meth c H1 locs1 (cells + (h'.1 - h.1)) (slots + (h'.2.1 - h.2.1)) Q (F0 m (pc + 3) Ls ((v.toList ++ st.drop k).map (xTv g)))) :
    W p l e R s m args below meth c H locs cells slots Q (F0 m pc Ls (st.map (xTv g))) := by
  obtain ⟨hx, hb, hml, hown, hts, hnm, hK⟩ := id X
  have hst : st.map (xTv g) = ((st.take k).reverse.map (xTv g)).reverse ++ (st.drop k).map (xTv g) := by
    rw [← List.map_reverse, List.reverse_reverse, ← List.map_append, List.take_append_drop]
  have hal : ((st.take k).reverse.map (xTv g)).length = k := by rw [List.length_map, List.length_reverse, List.length_take]; omega
  have hr8 : ((st.drop k).map (xTv g) |>.map fun v => v.category).sum ≤ 8 := by rw [xCat_map]; exact hcat
  have hkk : ∀ (H1 : Heap) (locs1 : List Loc), xW g h' H1 → va_S (xA g) s.heap H1 locs1 → W p l e R s m args below meth c H1 locs1 (cells + (h'.1 - h.1)) (slots + (h'.2.1 - h.2.1)) Q (F0 m (pc + 3) Ls ((v.map (xTv g)).toList ++ (st.drop k).map (xTv g))) := by
    intro H1 locs1 w1 w2
    have := kk H1 locs1 w1 w2
    rw [List.map_append] at this
    cases v <;> exact this
  rw [hst]
  generalize (st.take k).reverse = as at *
  generalize st.drop k = rs at *
  unfold xChkC at hC
  rw [hj] at hC
  dsimp only at hC
  rw [hP] at hC
  dsimp only at hC
  simp only [Bool.and_eq_true, decide_eq_true_eq] at hC
  obtain ⟨⟨⟨⟨c1, c2⟩, c3⟩, c5⟩, c6⟩ := hC
  have hmax : M.2.2.1 ≤ 100 := Nat.le_of_ble_eq_true c3
  have hR2 : d + 1 ≤ R.frames ∧ 8 + (M.2.2.1 + 11) + 120 * d ≤ R.locals := ⟨by omega, by omega⟩
  have hPc : ∀ U : State, U.heap = H → s.WarmedH U.vm → xPre g ro as h (as.map (xTv g)).toArray U := by
    intro U hU hWm
    refine ⟨rfl, by rw [hU]; exact hW, ?_⟩
    rw [hU]
    exact (hK.kept (fun q z1 z2 => hS.2.1 q z1 z2)).warm hWm
  have hG := xGoodIn _ hcw
  have nest : ∀ {idx : Nat}, Jvm.Cond.methodLinkNest own idx M.1 "MagpieAccounts" ∈ xNests → va_Nw (.methodLinkNest own idx M.1 "MagpieAccounts") s := fun h => hK.2.1 _ h
  obtain ⟨op, len, A, B, cst, ps⟩ := i
  dsimp only at hd hlen c6
  unfold xRcv at hrc
  dsimp only at hrc
  cases op with
  | invokevirtual idx =>
    obtain rfl : len = 3 := xbeq hlen
    dsimp only at hrc c6
    simp only [Bool.and_eq_true, decide_eq_true_eq] at c6
    obtain ⟨⟨⟨⟨w0, w3⟩, w4⟩, w5⟩, w6⟩ := c6
    split at hrc
    · rename_i a as0
      have hn : (as0.map (xTv g)).length + 1 = k := by rw [← hal]; rfl
      have hpar : (parseMethodDescriptor M.1.desc).map (fun d => d.parameters.length) = some (as0.map (xTv g)).length := by
        cases hp : parseMethodDescriptor M.1.desc with
        | none => rw [hp] at w5; cases w5
        | some q => rw [hp] at w5; have : q.parameters.length + 1 = k := Option.some.inj w5; show some q.parameters.length = _; congr 1; omega
      have hrv : ∃ cell : Cell, H[xad g a]? = some cell ∧ cell.vm.isStatics = false ∧ s.vm.findClass M.1.cls = some cell.cls := by
        split at hrc
        · rename_i c' fs hent
          have hcc := xbeq hrc
          obtain ⟨-, -, hat⟩ := hW.2.2 a _ hent
          rw [xTe_o] at hat
          rw [← hcc] at w6
          split at w6
          · rename_i q hq
            rw [← of_decide_eq_true w6]
            exact va_recv (q0 := 0) hK.1 (xOne hat) hq rfl
          · obtain ⟨r, hr, -⟩ := hat
            rename_i hno
            rw [hno] at hr
            cases hr
        · simp only [Bool.and_eq_true] at hrc
          have h99 := xbeq hrc.2
          rw [h99] at w6
          have w6 : (Nat.beq 99 99 && decide (M.1.cls = "java/lang/String")) = true := w6
          simp only [Bool.and_eq_true, decide_eq_true_eq] at w6
          rw [w6.2]
          obtain ⟨-, -, -, hv, -⟩ := hK.2.2.2.2.2.2
          have h2a : 2 ≤ a := Nat.le_of_ble_eq_true hrc.1.1
          have ha4 : a ≤ 4 := Nat.le_of_ble_eq_true hrc.1.2
          obtain ⟨z1, z2, -⟩ := xstr_at (g := g) h2a ha4
          rw [z2]
          exact vk_recv (adK := fun i => g.2.1 (2 + i)) (i := a - 2) hv z1 hS
      have run := va_runV (e := e) (below := below) (meth := meth) (As := as0.map (xTv g)) (rest := rs.map (xTv g)) (b := xad g a) (cc := cc) (Ts := xTb) (own := own) (C := M.1.cls) (g := F0 m pc Ls ((List.map (xTv g) (Value.ref a :: as0)).reverse ++ rs.map (xTv g))) (locs := locs) (cells := cells) (slots := slots) (n := (as0.map (xTv g)).length)
        ⟨hx, hb, hml, hown, hts⟩ hM ⟨callB_of _ hts hG rfl rfl rfl (hts _ (xwd_in c5)) (hts _ (xwd_in w0)) ⟨c1, c2, hpar⟩ hR2, hts _ (xwd_in w3), hts _ (xwd_in w4)⟩ ⟨xPre_blind, hrv, hPc⟩ rfl rfl hLs (by simp [xTv]) (by show 2 * 0 + _ ≤ 8; omega) hd ⟨hcell, hslot⟩
      exact xback run hS hkk
    · cases hrc
  | invokestatic idx =>
    obtain rfl : len = 3 := xbeq hlen
    dsimp only at c6
    simp only [Bool.and_eq_true, decide_eq_true_eq] at c6
    obtain ⟨⟨w3, w5⟩, w0⟩ := c6
    rw [← hal] at w5
    cases hcst : (cst == 0) with
    | true =>
      rw [hcst] at w0
      have run := va_runS (e := e) (below := below) (meth := meth) (As := as.map (xTv g)) (rest := rs.map (xTv g)) (cc := cc) (Ts := xTb) (own := own) (g := F0 m pc Ls ((as.map (xTv g)).reverse ++ rs.map (xTv g))) (locs := locs) (cells := cells) (slots := slots) (n := (as.map (xTv g)).length)
        ⟨hx, hb, hml, hown, hts⟩ hM ⟨callB_of _ hts hG rfl rfl rfl (hts _ (xwd_in c5)) (hts _ (xwd_in w0)) ⟨c1, c2, w5⟩ hR2, hts _ (xwd_in w3)⟩ ⟨xPre_blind, hPc⟩ rfl rfl hLs rfl (by show 2 * 0 + _ ≤ 8; omega) hd ⟨hcell, hslot⟩
      exact xback run hS hkk
    | false =>
      rw [hcst] at w0
      have run := va_runSN (e := e) (below := below) (meth := meth) (As := as.map (xTv g)) (rest := rs.map (xTv g)) (cc := cc) (Ts := xTb) (own := own) (g := F0 m pc Ls ((as.map (xTv g)).reverse ++ rs.map (xTv g))) (locs := locs) (cells := cells) (slots := slots) (n := (as.map (xTv g)).length)
        ⟨hx, hb, hml, hown, hts⟩ hM ⟨va_cnB _ hts hG rfl rfl rfl (nest (of_decide_eq_true w0)) (hts _ (xwd_in c5)) ⟨c1, c2, w5⟩ hR2, hts _ (xwd_in w3), trivial⟩ ⟨xPre_blind, hPc⟩ rfl rfl hLs rfl (by show 2 * 0 + _ ≤ 8; omega) hd ⟨hcell, hslot⟩
      exact xback run hS hkk
  | invokespecial idx =>
    obtain rfl : len = 3 := xbeq hlen
    dsimp only at hrc c6
    simp only [Bool.and_eq_true, decide_eq_true_eq] at c6
    obtain ⟨⟨⟨w3, w4⟩, w5⟩, w0⟩ := c6
    split at hrc
    · rename_i a as0
      have hn : (as0.map (xTv g)).length + 1 = k := by rw [← hal]; rfl
      have hpar : (parseMethodDescriptor M.1.desc).map (fun d => d.parameters.length) = some (as0.map (xTv g)).length := by
        cases hp : parseMethodDescriptor M.1.desc with
        | none => rw [hp] at w5; cases w5
        | some q => rw [hp] at w5; have : q.parameters.length + 1 = k := Option.some.inj w5; show some q.parameters.length = _; congr 1; omega
      obtain ⟨y, bytes, maxL, ret, code⟩ := M
      obtain ⟨w4, hret⟩ := w4
      dsimp only at hret
      subst hret
      cases hcst : (cst == 0) with
      | true =>
        rw [hcst] at w0
        have run := va_runI (e := e) (below := below) (meth := meth) (As := as0.map (xTv g)) (rest := rs.map (xTv g)) (b := xad g a) (cc := cc) (Ts := xTb) (own := own) (g := F0 m pc Ls ((List.map (xTv g) (Value.ref a :: as0)).reverse ++ rs.map (xTv g))) (locs := locs) (cells := cells) (slots := slots) (n := (as0.map (xTv g)).length)
          ⟨hx, hb, hml, hown, hts⟩ hM ⟨callB_of _ hts hG rfl rfl rfl (hts _ (xwd_in c5)) (hts _ (xwd_in w0)) ⟨c1, c2, hpar⟩ hR2, w4, hts _ (xwd_in w3)⟩ ⟨xPre_blind, hPc⟩ rfl rfl hLs (by simp [xTv]) (by show 2 * 0 + _ ≤ 8; omega) hd ⟨hcell, hslot⟩
        exact xback run hS hkk
      | false =>
        rw [hcst] at w0
        have run := va_runIN (e := e) (below := below) (meth := meth) (As := as0.map (xTv g)) (rest := rs.map (xTv g)) (b := xad g a) (cc := cc) (Ts := xTb) (own := own) (g := F0 m pc Ls ((List.map (xTv g) (Value.ref a :: as0)).reverse ++ rs.map (xTv g))) (locs := locs) (cells := cells) (slots := slots) (n := (as0.map (xTv g)).length)
          ⟨hx, hb, hml, hown, hts⟩ hM ⟨va_cnB _ hts hG rfl rfl rfl (nest (of_decide_eq_true w0)) (hts _ (xwd_in c5)) ⟨c1, c2, hpar⟩ hR2, w4, hts _ (xwd_in w3)⟩ ⟨xPre_blind, hPc⟩ rfl rfl hLs (by simp [xTv]) (by show 2 * 0 + _ ≤ 8; omega) hd ⟨hcell, hslot⟩
        exact xback run hS hkk
    · cases hrc
  | _ => cases c6
end XC
end
section
/-! ===== every run of a checked program is a contract ===== -/
theorem xargs_map (g : xG) : ∀ (as : List Value) (k : Nat), xTl g (lv_args k as) = lv_args k (as.map (xTv g))
  | [], _ => rfl
  | v :: as, k => by
    show (k, xTv g v) :: xTl g (lv_args _ as) = (k, xTv g v) :: lv_args _ (as.map (xTv g))
    rw [xargs_map g as, xTv_cat]
theorem xsl_map (g : xG) (as : List Value) : (lg_sl (as.map (xTv g))).length = (lg_sl as).length := by
  unfold lg_sl
  induction as with
  | nil => rfl
  | cons v as ih =>
    rw [List.map_cons, List.flatMap_cons, List.flatMap_cons, List.length_append, List.length_append, ih, xTv_cat]
    congr 1
    split <;> rfl
theorem xAt_mem {c : xC} {pc : Nat} {i : xI} (h : xAt c pc = some i) : ∃ l ∈ c, (pc, i) ∈ l := by
  unfold xAt at h
  split at h
  · cases h
  · rename_i l hl
    exact ⟨l, List.mem_of_getElem? hl, xFind_mem h⟩
section XV
variable {p : Program} {l : Launch} {e : Env} {R : Room} {s : State} {m : MethodId} {args : Array Value} {below : List Frame} {meth : Method} {c : Code}
variable {g : xG} {ro : xRo} {own mname : String} {cc : ByteArray} {nL : Nat} {Ls : Array Slot}
set_option maxHeartbeats 4000000 in
theorem xrun_gen (X : xCx p s m args meth c g ro own mname cc nL) {d : Nat} (hRf : d + 1 ≤ R.frames) (hRl : 120 * (d + 1) ≤ R.locals) {K1 K2 : Nat} (hK1 : K1 ≤ R.cells) (hK2 : K2 ≤ R.slots) {Q : State → Prop} {P : Nat → Option xMeth} {E : Nat → List Value → xH → xR → Prop} {ret : Option FieldType} {code : xC}
    (hE : ∀ j as h r, E j as h r → xLe h r ∧ ∀ M, P j = some M → xMet l g ro d M as h r) (hck : ∀ l ∈ code, ∀ q ∈ l, xChk own mname cc nL q.1 q.2 = true ∧ xChkC P own q.2 = true) (hcw : ∀ j M, P j = some M → Jvm.Cond.code M.1 M.2.1 M.2.2.1 M.2.2.2.1 ∈ xTb) {r : xR} (hfin : ∀ (pc : Nat) (i : xI) (st : List Value) (H : Heap) (locs : List Loc) (cells slots : Nat) (Ls : Array Slot), decode cc pc = .ok (i.1, i.2.1) → (match xLen i.1 with
    | some n => Nat.beq i.2.1 n
    | none => true) = true → xRetV ret i.1 st = some r.1 → xW g r.2 H → va_S (xA g) s.heap H locs → cells = K1 → slots = K2 → W p l e R s m args below meth c H locs cells slots Q (F0 m pc Ls (st.map (xTv g)))) :
    ∀ (n pc : Nat) (ls : xL) (st : List Value) (h : xH), xRun ro E ret code n pc ls st h r → ∀ (H : Heap) (locs : List Loc) (cells slots : Nat) (Ls : Array Slot), xW g h H → lv_has Ls nL (xTl g ls) → va_S (xA g) s.heap H locs → cells + r.2.1 = K1 + h.1 → slots + r.2.2.1 = K2 + h.2.1 →
      W p l e R s m args below meth c H locs cells slots Q (F0 m pc Ls (st.map (xTv g))) := by
  intro n
  induction n with
  | zero => intro pc ls st h hr; cases hr
  | succ n ih =>
    intro pc ls st h hr H locs cells slots Ls hW hL hS hc1 hc2
    obtain ⟨i, hi, hr⟩ := hr
    obtain ⟨lst, hl1, hl2⟩ := xAt_mem hi
    obtain ⟨k1, k2⟩ := hck lst hl1 _ hl2
    dsimp only at k1 k2
    have hEm : ∀ j as h r, E j as h r → xLe h r := fun j as h r q => (hE j as h r q).1
    rcases hr with ⟨pc', ls', st', h', hs, hr⟩ | ⟨j, k, v, h', hj, hk, hcat, hrc, he, hr⟩ | ⟨v, hv, hrv⟩
    · have hm := xRun_mono hEm _ _ _ _ _ _ hr
      have hm2 := xStep_mono _ hs
      unfold xLe at hm
      dsimp only at hm2
      refine xmain X ⟨by omega, by omega⟩ k1 hs hW hL hS (by omega) (by omega) fun H1 locs1 Ls1 cells1 slots1 w1 w2 w3 w4 w5 => ?_
      exact ih _ _ _ _ hr H1 locs1 cells1 slots1 Ls1 w1 w2 w3 (by omega) (by omega)
    · have hm := xRun_mono hEm _ _ _ _ _ _ hr
      obtain ⟨hle, hmet⟩ := hE _ _ _ _ he
      unfold xLe at hm hle
      dsimp only at hle
      have kd := k1
      unfold xChk at kd
      simp only [Bool.and_eq_true, decide_eq_true_eq] at kd
      obtain ⟨M, hP⟩ : ∃ M, P j = some M := by
        cases hP : P j with
        | some M => exact ⟨M, rfl⟩
        | none => unfold xChkC at k2; rw [hj] at k2; dsimp only at k2; rw [hP] at k2; cases k2
      refine xcall X hRf hRl kd.1.1 kd.1.2 k2 hj hP (hcw j M hP) hk hcat hrc (hmet M hP) hW hL.1 hS (by omega) (by omega) fun H1 locs1 w1 w2 => ?_
      exact ih _ _ _ _ hr H1 locs1 _ _ Ls w1 hL w2 (by omega) (by omega)
    · subst hrv
      have kd := k1
      unfold xChk at kd
      simp only [Bool.and_eq_true, decide_eq_true_eq] at kd
      exact hfin pc i st H locs cells slots Ls kd.1.1 kd.1.2 hv hW hS (by dsimp only at hc1; omega) (by dsimp only at hc2; omega)
set_option maxHeartbeats 4000000 in
theorem xret_sound (X : xCx p s m args meth c g ro own mname cc nL) {ret : Option FieldType} (hret : meth.sig.returnType = ret) (hlocks : meth.locks = false) {r : xR} {pc : Nat} {i : xI} {st : List Value} {H : Heap} {locs : List Loc} {cells slots : Nat} {Ls : Array Slot} (hd : decode cc pc = .ok (i.1, i.2.1)) (hlen : (match xLen i.1 with
    | some n => Nat.beq i.2.1 n
    | none => true) = true) (hv : xRetV ret i.1 st = some r.1) (hW : xW g r.2 H) (hS : va_S (xA g) s.heap H locs) : W p l e R s m args below meth c H locs cells slots (MQ below (xPost g r) args s cells slots (xA g)) (F0 m pc Ls (st.map (xTv g))) := by
  obtain ⟨hx, hb, hml, hown, hts, hnm, hK⟩ := X
  obtain ⟨v, h⟩ := r
  obtain ⟨op, len, A, B, k, ps⟩ := i
  dsimp only at hd hlen hv hW
  have hq : ∀ t : State, t.heap = H → s.WarmedH t.vm → ∀ o, o = Outcome.returned (v.map (xTv g)) → xPost g (v, h) args s o t := fun t ht _ o ho => ⟨ho, by rw [ht]; exact hW, hS.F ht⟩
  unfold xRetV at hv
  cases op with
  | ireturn =>
    obtain rfl : len = 1 := xbeq hlen
    dsimp only at hv
    split at hv
    · rename_i x
      split at hv
      · cases hv
        exact W.iret hx hb hret (fun t ht hw => hq t ht hw _ rfl) hS.2.2 hd hlocks
      · split at hv
        · rename_i h01
          cases hv
          exact W.zret (ty := .boolean) hx hb hret (by rcases h01 with rfl | rfl <;> rfl) (fun t ht hw => hq t ht hw _ rfl) hS.2.2 hd hlocks
        · cases hv
      · split at hv
        · rename_i h01
          cases hv
          exact W.zret (ty := .char) hx hb hret h01 (fun t ht hw => hq t ht hw _ rfl) hS.2.2 hd hlocks
        · cases hv
      · split at hv
        · rename_i h01
          cases hv
          exact W.zret (ty := .byte) hx hb hret h01 (fun t ht hw => hq t ht hw _ rfl) hS.2.2 hd hlocks
        · cases hv
      · cases hv
    · cases hv
  | lreturn =>
    obtain rfl : len = 1 := xbeq hlen
    dsimp only at hv
    split at hv
    · rename_i x
      split at hv
      · cases hv
        exact W.lret hx hb hret (fun t ht hw => hq t ht hw _ rfl) hS.2.2 hd hlocks
      · cases hv
    · cases hv
  | areturn =>
    obtain rfl : len = 1 := xbeq hlen
    dsimp only at hv
    split at hv
    · rename_i x
      split at hv
      · cases hv
        exact W.aret hx hb hret (Or.inl ⟨_, rfl⟩) (Or.inr ⟨_, rfl⟩) (fun t ht hw => hq t ht hw _ rfl) hS.2.2 hd hlocks
      · cases hv
        exact W.aret hx hb hret (Or.inr ⟨_, rfl⟩) (Or.inr ⟨_, rfl⟩) (fun t ht hw => hq t ht hw _ rfl) hS.2.2 hd hlocks
      · cases hv
    · split at hv
      · cases hv
        exact W.aret hx hb hret (Or.inl ⟨_, rfl⟩) (Or.inl rfl) (fun t ht hw => hq t ht hw _ rfl) hS.2.2 hd hlocks
      · cases hv
        exact W.aret hx hb hret (Or.inr ⟨_, rfl⟩) (Or.inl rfl) (fun t ht hw => hq t ht hw _ rfl) hS.2.2 hd hlocks
      · cases hv
    · cases hv
  | return_ =>
    obtain rfl : len = 1 := xbeq hlen
    dsimp only at hv
    split at hv
    · split at hv
      · cases hv
        exact W.vret hx hb hret (fun t ht hw => hq t ht hw _ rfl) hS.2.2 hd hlocks
      · cases hv
    · cases hv
  | _ => cases hv
theorem xev_sound {P : Nat → Option xMeth} {B : Nat → List Value → xH → xR → Prop} (hB : ∀ j as h r, B j as h r → xLe h r ∧ ∀ d M, 10 ≤ d → P j = some M → xMet l g ro (d + 1) M as h r) (hP : ∀ j M, P j = some M → M.2.2.2.2 ≠ [] → xChkM P M = true) (hcw : ∀ j M, P j = some M → Jvm.Cond.code M.1 M.2.1 M.2.2.1 M.2.2.2.1 ∈ xTb) :
    ∀ (d j : Nat) (as : List Value) (h : xH) (r : xR), xEv ro P B d j as h r → xLe h r ∧ ∀ M, P j = some M → xMet l g ro d M as h r := by
  intro d
  induction d with
  | zero => intro j as h r hr; cases hr
  | succ d ih =>
    intro j as h r hr
    refine ⟨xEv_mono (fun j as h r q => (hB j as h r q).1) _ _ _ _ _ hr, fun M hM => ?_⟩
    rcases hr with ⟨hd, hr⟩ | ⟨M', n, hM', hsl, hr⟩
    · exact (hB j as h r hr).2 d M hd hM
    · cases hM.symm.trans hM'
      have hne : M.2.2.2.2 ≠ [] := by
        intro h0
        rw [h0] at hr
        cases n with
        | zero => cases hr
        | succ n => obtain ⟨i, hi, -⟩ := hr; cases hi
      have hck := hP j M hM hne
      unfold xChkM at hck
      simp only [Bool.and_eq_true, decide_eq_true_eq, List.all_eq_true] at hck
      obtain ⟨hpl, hck⟩ := hck
      have hle := xEv_mono (fun j as h r q => (hB j as h r q).1) (d + 1) j as h r (Or.inr ⟨M, n, hM, hsl, hr⟩)
      unfold xLe at hle
      unfold xMet
      refine Met.ofW (cc := M.2.1) (maxL := M.2.2.1) (ret := M.2.2.2.1) hpl rfl ?_
      intro p e s m args below meth c s₁ B0 hml hv
      obtain ⟨rfl, hW, hK⟩ := hv
      have hts := atoms_spec (ws := Jvm.Cond.code M.1 M.2.1 M.2.2.1 M.2.2.2.1 :: xTb) B0.pre
      have X : xCx p s m (as.map (xTv g)).toArray meth c g ro M.1.cls M.1.name M.2.1 M.2.2.1 := ⟨B0.exec, B0.bytes, hml, findClass_of_methodNamed B0.named, fun w hw => hts w (List.mem_cons_of_mem _ hw), fun hq => (name_of_methodNamed B0.named B0.method).1.trans hq, hK⟩
      have hl := lv_entry (as.map (xTv g)) (n := M.2.2.1) (by rw [xsl_map]; exact Nat.le_of_ble_eq_true hsl)
      rw [lg_entry_eq]
      rw [← xargs_map] at hl
      exact xrun_gen (R := { frames := d + 1, cells := r.2.1 - h.1, slots := r.2.2.1 - h.2.1, locals := 120 * (d + 1) }) X (Nat.le_refl _) (Nat.le_refl _) (K1 := r.2.1 - h.1) (K2 := r.2.2.1 - h.2.1) (Nat.le_refl _) (Nat.le_refl _) (fun j as h r q => ih j as h r q) (fun l hl q hq => hck l hl q hq) hcw
        (fun pc i st H locs cells slots Ls z1 z2 z3 z4 z5 z6 z7 => by subst z6; subst z7; exact xret_sound X B0.returns B0.notSynchronized z1 z2 z3 z4 z5) n 0 _ [] h hr s.heap [] 0 0 _ hW hl va_S.rf (by omega) (by omega)
end XV
end
section
/-! ===== A heap of a fixed shape: what its objects and arrays hold, as functions ===== -/
/-- the shape: an object's class and the kinds of its fields (0 an int, 1 a long, n + 2 the cell n); an array's kind and length -/
abbrev yK : Type := Nat → Option ((Nat × List Nat) ⊕ (Nat × Nat))
/-- ints of objects, longs of objects, ints of arrays, longs of arrays, references of arrays -/
abbrev yS : Type := (Nat → Nat → Int32) × (Nat → Nat → Int64) × (Nat → Nat → Int32) × (Nat → Nat → Int64) × (Nat → Nat → Option Nat)
def yF (S : yS) (i : Nat) : Nat → List Nat → List Value
  | _, [] => []
  | k, 0 :: r => .int (S.1 i k) :: yF S i (k + 1) r
  | k, 1 :: r => .long (S.2.1 i k) :: yF S i (k + 1) r
  | k, (n + 2) :: r => .ref n :: yF S i (k + 1) r
def yA (S : yS) (i t n : Nat) : vp_A := bif Nat.beq t 1 then (n, .inr (.inl (S.2.2.2.1 i))) else bif Nat.beq t 3 || Nat.beq t 4 then (n, .inr (.inr (.inr (.inr (S.2.2.2.2 i))))) else (n, .inl (S.2.2.1 i))
def yE (K : yK) (S : yS) (i : Nat) : Option va_E := match K i with
  | none => none
  | some (.inl (ci, ks)) => some (.inr (ci, yF S i 0 ks))
  | some (.inr (t, n)) => some (.inl (t, yA S i t n))
def yH (K : yK) (z : Nat × Nat) (S : yS) : xH := (z.1, z.2, yE K S)
def yU {α : Type} (f : Nat → α) (k : Nat) (x : α) : Nat → α := fun j => if j = k then x else f j
def ySi (S : yS) (i k : Nat) (v : Int32) : yS := (yU S.1 i (yU (S.1 i) k v), S.2)
def ySj (S : yS) (i k : Nat) (v : Int64) : yS := (S.1, yU S.2.1 i (yU (S.2.1 i) k v), S.2.2)
def ySa (S : yS) (a : Nat) (f : Nat → Int32) : yS := (S.1, S.2.1, yU S.2.2.1 a f, S.2.2.2)
def ySl (S : yS) (a : Nat) (f : Nat → Int64) : yS := (S.1, S.2.1, S.2.2.1, yU S.2.2.2.1 a f, S.2.2.2.2)
def ySq (S : yS) (a : Nat) (f : Nat → Option Nat) : yS := (S.1, S.2.1, S.2.2.1, S.2.2.2.1, yU S.2.2.2.2 a f)
def yob {α : Type} (K : yK) (a ci : Nat) (k : List Nat → Option α) : Option α := match K a with
  | some (.inl (c, ks)) => bif Nat.beq c ci then k ks else none
  | _ => none
def yar {α : Type} (K : yK) (a t : Nat) (k : Nat → Option α) : Option α := match K a with
  | some (.inr (c, n)) => bif Nat.beq c t then k n else none
  | _ => none
def yarq {α : Type} (K : yK) (a : Nat) (k : Nat → Nat → Option α) : Option α := match K a with
  | some (.inr (c, n)) => bif Nat.beq c 3 || Nat.beq c 4 then k c n else none
  | _ => none
abbrev yT : Type := Nat × xL × List Value × yS
/-- one instruction that calls and makes nothing, over a shape -/
def yStep (ro : xRo) (K : yK) (i : xI) (pc : Nat) (ls : xL) (st : List Value) (S : yS) : Option yT :=
  match i.1 with
  | .aconst_null => some (pc + 1, ls, .null :: st, S)
  | .aload n => (xgt ls n).bind fun v => match v with
    | .ref a => some (pc + 2, ls, .ref a :: st, S)
    | .null => some (pc + 2, ls, .null :: st, S)
    | _ => none
  | .aload_n n => (xgt ls n).bind fun v => match v with
    | .ref a => some (pc + 1, ls, .ref a :: st, S)
    | .null => some (pc + 1, ls, .null :: st, S)
    | _ => none
  | .iload n => (xgt ls n).bind fun v => match v with
    | .int a => some (pc + 2, ls, .int a :: st, S)
    | _ => none
  | .iload_n n => (xgt ls n).bind fun v => match v with
    | .int a => some (pc + 1, ls, .int a :: st, S)
    | _ => none
  | .lload n => (xgt ls n).bind fun v => match v with
    | .long a => some (pc + 2, ls, .long a :: st, S)
    | _ => none
  | .lload_n n => (xgt ls n).bind fun v => match v with
    | .long a => some (pc + 1, ls, .long a :: st, S)
    | _ => none
  | .istore n => xi st fun x r => some (pc + 2, xP1 ls n (.int x), r, S)
  | .istore_n n => xi st fun x r => some (pc + 1, xP1 ls n (.int x), r, S)
  | .lstore n => xl st fun x r => some (pc + 2, xP2 ls n (.long x), r, S)
  | .lstore_n n => xl st fun x r => some (pc + 1, xP2 ls n (.long x), r, S)
  | .astore n => xq st fun x r => some (pc + 2, xP1 ls n (va_rf x), r, S)
  | .astore_n n => xq st fun x r => some (pc + 1, xP1 ls n (va_rf x), r, S)
  | .iinc n k => (xgt ls n).bind fun v => match v with
    | .int x => some (pc + 3, xP1 ls n (.int (x + Int32.ofInt k)), st, S)
    | _ => none
  | .iconst n => some (pc + 1, ls, .int (Int32.ofInt n) :: st, S)
  | .bipush n => some (pc + 2, ls, .int (Int32.ofInt n) :: st, S)
  | .sipush n => some (pc + 3, ls, .int (Int32.ofInt n) :: st, S)
  | .lconst n => some (pc + 1, ls, .long (Int64.ofNat n) :: st, S)
  | .ldc _ => bif Nat.beq i.2.2.1 0 then some (pc + 2, ls, .int (Int32.ofInt i.2.2.2.2.1) :: st, S) else some (pc + 2, ls, .ref i.2.2.2.1 :: st, S)
  | .ldc_w _ => some (pc + 3, ls, .int (Int32.ofInt i.2.2.2.2.1) :: st, S)
  | .ldc2_w _ => some (pc + 3, ls, .long (Int64.ofInt i.2.2.2.2.1) :: st, S)
  | .iadd => xii st fun x y r => some (pc + 1, ls, .int (x + y) :: r, S)
  | .isub => xii st fun x y r => some (pc + 1, ls, .int (x - y) :: r, S)
  | .imul => xii st fun x y r => some (pc + 1, ls, .int (x * y) :: r, S)
  | .iand => xii st fun x y r => some (pc + 1, ls, .int (x &&& y) :: r, S)
  | .ior => xii st fun x y r => some (pc + 1, ls, .int (x ||| y) :: r, S)
  | .ixor => xii st fun x y r => some (pc + 1, ls, .int (x ^^^ y) :: r, S)
  | .ishl => xii st fun x y r => some (pc + 1, ls, .int (x <<< (y &&& 31)) :: r, S)
  | .ishr => xii st fun x y r => some (pc + 1, ls, .int (x >>> (y &&& 31)) :: r, S)
  | .iushr => xii st fun x y r => some (pc + 1, ls, .int (x.toUInt32 >>> (y.toUInt32 &&& Int32.toUInt32 31)).toInt32 :: r, S)
  | .idiv => xii st fun x y r => if y = 0 then none else some (pc + 1, ls, .int (x / y) :: r, S)
  | .irem => xii st fun x y r => if y = 0 then none else some (pc + 1, ls, .int (x - x / y * y) :: r, S)
  | .ineg => xi st fun x r => some (pc + 1, ls, .int (-x) :: r, S)
  | .ladd => xll st fun x y r => some (pc + 1, ls, .long (x + y) :: r, S)
  | .lsub => xll st fun x y r => some (pc + 1, ls, .long (x - y) :: r, S)
  | .lmul => xll st fun x y r => some (pc + 1, ls, .long (x * y) :: r, S)
  | .lor => xll st fun x y r => some (pc + 1, ls, .long (x ||| y) :: r, S)
  | .ldiv => xll st fun x y r => if y = 0 then none else some (pc + 1, ls, .long (x / y) :: r, S)
  | .lrem => xll st fun x y r => if y = 0 then none else some (pc + 1, ls, .long (x - x / y * y) :: r, S)
  | .lneg => xl st fun x r => some (pc + 1, ls, .long (-x) :: r, S)
  | .lshl => xli st fun x y r => some (pc + 1, ls, .long (x <<< (y.toInt64 &&& 63)) :: r, S)
  | .lshr => xli st fun x y r => some (pc + 1, ls, .long (x >>> (y.toInt64 &&& 63)) :: r, S)
  | .lcmp => xll st fun x y r => some (pc + 1, ls, .int (lg_cmp x y) :: r, S)
  | .i2l => xi st fun x r => some (pc + 1, ls, .long x.toInt64 :: r, S)
  | .l2i => xl st fun x r => some (pc + 1, ls, .int x.toInt32 :: r, S)
  | .i2c => xi st fun x r => some (pc + 1, ls, .int (x.toUInt32 % 65536).toInt32 :: r, S)
  | .i2b => xi st fun x r => some (pc + 1, ls, .int x.toInt8.toInt32 :: r, S)
  | .dup => match st with
    | .int x :: r => some (pc + 1, ls, .int x :: .int x :: r, S)
    | .ref x :: r => some (pc + 1, ls, .ref x :: .ref x :: r, S)
    | _ => none
  | .dup2 => match st with
    | .int x :: .ref y :: r => some (pc + 1, ls, .int x :: .ref y :: .int x :: .ref y :: r, S)
    | _ => none
  | .pop => match st with
    | .int _ :: r => some (pc + 1, ls, r, S)
    | .ref _ :: r => some (pc + 1, ls, r, S)
    | _ => none
  | .goto off => some (xTgt pc off, ls, st, S)
  | .ifCond c off => xi st fun x r => match c with
    | .eq => some (if x = 0 then xTgt pc off else pc + 3, ls, r, S)
    | .ne => some (if ¬ x = 0 then xTgt pc off else pc + 3, ls, r, S)
    | .lt => some (if x < 0 then xTgt pc off else pc + 3, ls, r, S)
    | .ge => some (if 0 ≤ x then xTgt pc off else pc + 3, ls, r, S)
    | .gt => some (if 0 < x then xTgt pc off else pc + 3, ls, r, S)
    | .le => some (if x ≤ 0 then xTgt pc off else pc + 3, ls, r, S)
  | .if_icmp c off => xii st fun x y r => match c with
    | .eq => some (if x = y then xTgt pc off else pc + 3, ls, r, S)
    | .ne => some (if ¬ x = y then xTgt pc off else pc + 3, ls, r, S)
    | .lt => some (if x < y then xTgt pc off else pc + 3, ls, r, S)
    | .ge => some (if y ≤ x then xTgt pc off else pc + 3, ls, r, S)
    | .gt => some (if y < x then xTgt pc off else pc + 3, ls, r, S)
    | .le => some (if x ≤ y then xTgt pc off else pc + 3, ls, r, S)
  | .ifnull off => xq st fun a r => match a with
    | some _ => some (pc + 3, ls, r, S)
    | none => some (xTgt pc off, ls, r, S)
  | .ifnonnull off => xq st fun a r => match a with
    | some _ => some (xTgt pc off, ls, r, S)
    | none => some (pc + 3, ls, r, S)
  | .tableswitch d lo hi offs => xi st fun x r =>
    if x.toInt < lo ∨ hi < x.toInt then some (xTgt pc d, ls, r, S) else (offs[(x.toInt - lo).toNat]?).bind fun off => some (xTgt pc off, ls, r, S)
  | .lookupswitch d ps => xi st fun x r => some (xTgt pc (Op.lookupswitch.offset ps.toList d x.toInt), ls, r, S)
  | .getstatic _ => bif i.2.2.2.2.1 == 1 then some (pc + 3, ls, .int 1 :: st, S)
    else bif i.2.2.2.2.1 == 2 then match ro 8 with
      | some _ => some (pc + 3, ls, .ref 8 :: st, S)
      | none => some (pc + 3, ls, .null :: st, S)
    else some (pc + 3, ls, .ref i.2.2.2.1 :: st, S)
  | .invokespecial _ => bif i.2.2.2.2.1 == 8 then xa st fun _ r => if 8 < (r.map fun v => v.category).sum then none else some (pc + 3, ls, r, S) else none
  | .getfield _ => bif i.2.2.2.2.1 == 5 then xa st fun a r => bif Nat.ble 2 a && Nat.ble a 4 then some (pc + 3, ls, .ref (a + 3) :: r, S) else none
    else bif i.2.2.2.2.1 == 6 then xa st fun a r => bif Nat.ble 2 a && Nat.ble a 4 then some (pc + 3, ls, .int 0 :: r, S) else none
    else xa st fun a r => yob K a i.2.2.1 fun ks => match ks[i.2.2.2.1]? with
    | some 0 => some (pc + 3, ls, .int (S.1 a i.2.2.2.1) :: r, S)
    | some 1 => some (pc + 3, ls, .long (S.2.1 a i.2.2.2.1) :: r, S)
    | some (n + 2) => some (pc + 3, ls, .ref n :: r, S)
    | none => none
  | .putfield _ => match st with
    | .int v :: .ref a :: r => yob K a i.2.2.1 fun ks => match ks[i.2.2.2.1]? with
      | some 0 => bif xfit i.2.2.2.2.1 (.int v) then some (pc + 3, ls, r, ySi S a i.2.2.2.1 v) else none
      | _ => none
    | .long v :: .ref a :: r => yob K a i.2.2.1 fun ks => match ks[i.2.2.2.1]? with
      | some 1 => bif i.2.2.2.2.1 == 1 then some (pc + 3, ls, r, ySj S a i.2.2.2.1 v) else none
      | _ => none
    | _ => none
  | .checkcast _ => xa st fun a r => yar K a 0 fun _ => some (pc + 3, ls, .ref a :: r, S)
  | .iaload => xai st fun a k r => bif Nat.blt a 2 then (ro a).bind fun q => xin k q.1 fun j => some (pc + 1, ls, .int (q.2 j) :: r, S)
      else yar K a 0 fun n => xin k n fun j => some (pc + 1, ls, .int (S.2.2.1 a j) :: r, S)
  | .baload => xai st fun a k r => bif Nat.blt a 16 then (xStB a).bind fun q => xin k q.1 fun j => some (pc + 1, ls, .int (q.2 j) :: r, S)
      else yar K a 2 fun n => xin k n fun j => some (pc + 1, ls, .int (S.2.2.1 a j) :: r, S)
  | .laload => xai st fun a k r => yar K a 1 fun n => xin k n fun j => some (pc + 1, ls, .long (S.2.2.2.1 a j) :: r, S)
  | .aaload => xai st fun a k r => yarq K a fun _ n => xin k n fun j => some (pc + 1, ls, va_rf (S.2.2.2.2 a j) :: r, S)
  | .iastore => xi st fun x r => xai r fun a k r => yar K a 0 fun n => xin k n fun j => some (pc + 1, ls, r, ySa S a (upd (S.2.2.1 a) j x))
  | .bastore => xi st fun x r => xai r fun a k r => yar K a 2 fun n => xin k n fun j => if x = 0 ∨ x = 1 then some (pc + 1, ls, r, ySa S a (upd (S.2.2.1 a) j x)) else none
  | .lastore => xl st fun x r => xai r fun a k r => yar K a 1 fun n => xin k n fun j => some (pc + 1, ls, r, ySl S a (vp_updL (S.2.2.2.1 a) j x))
  | .aastore => xq st fun v r => xai r fun a k r => yarq K a fun t n => xin k n fun j => match v with
    | none => some (pc + 1, ls, r, ySq S a (va_up (S.2.2.2.2 a) j none))
    | some o => yob K o (xEl t) fun _ => some (pc + 1, ls, r, ySq S a (va_up (S.2.2.2.2 a) j (some o)))
  | .arraylength => xa st fun a r => bif Nat.blt a 16 then (xLn ro a).bind fun n => some (pc + 1, ls, .int (Int32.ofNat n) :: r, S)
      else match K a with
        | some (.inr (t, n)) => bif Nat.blt t 5 then some (pc + 1, ls, .int (Int32.ofNat n) :: r, S) else none
        | _ => none
  | .invokestatic _ => bif i.2.2.2.2.1 == 9 then match st with
      | .int n :: .int dp :: .ref a :: .int sp :: .ref a0 :: r => yar K a0 0 fun n0 => yar K a 0 fun n1 =>
          if sp < 0 ∨ dp < 0 ∨ n < 0 ∨ n0 < sp.toNatClampNeg + n.toNatClampNeg ∨ n1 < dp.toNatClampNeg + n.toNatClampNeg ∨ 8 < (r.map fun v => v.category).sum then none
          else some (pc + 3, ls, r, ySa S a (va_cpy (S.2.2.1 a0) (S.2.2.1 a) sp.toNatClampNeg dp.toNatClampNeg n.toNatClampNeg))
      | _ => none
    else bif i.2.2.2.2.1 == 10 then xii st fun x y r => if 8 < (r.map fun v => v.category).sum then none else some (pc + 3, ls, .int (if x < y then y else x) :: r, S)
    else bif i.2.2.2.2.1 == 11 then xii st fun x y r => if 8 < (r.map fun v => v.category).sum then none else some (pc + 3, ls, .int (if y < x then y else x) :: r, S)
    else bif i.2.2.2.2.1 == 12 then xll st fun x y r => if 8 < (r.map fun v => v.category).sum then none else some (pc + 3, ls, .long (if y < x then x else y) :: r, S)
    else bif i.2.2.2.2.1 == 13 then xll st fun x y r => if 8 < (r.map fun v => v.category).sum then none else some (pc + 3, ls, .long (if y < x then y else x) :: r, S)
    else none
  | _ => none
theorem yU_ne {α : Type} {f : Nat → α} {k j : Nat} {x : α} (h : j ≠ k) : yU f k x j = f j := if_neg h
theorem yU_eq {α : Type} {f : Nat → α} {k : Nat} {x : α} : yU f k x k = x := if_pos rfl
theorem yob_inv {α : Type} {K : yK} {a ci : Nat} {k : List Nat → Option α} {s : α} (hh : yob K a ci k = some s) : ∃ ks, K a = some (.inl (ci, ks)) ∧ k ks = some s := by
  unfold yob at hh
  split at hh
  · rename_i c fs he
    cases hc : Nat.beq c ci with
    | true => rw [hc] at hh; exact ⟨fs, by rw [he, xbeq hc], hh⟩
    | false => rw [hc] at hh; cases hh
  · cases hh
theorem yar_inv {α : Type} {K : yK} {a t : Nat} {k : Nat → Option α} {s : α} (hh : yar K a t k = some s) : ∃ n, K a = some (.inr (t, n)) ∧ k n = some s := by
  unfold yar at hh
  split at hh
  · rename_i c n he
    cases hc : Nat.beq c t with
    | true => rw [hc] at hh; exact ⟨n, by rw [he, xbeq hc], hh⟩
    | false => rw [hc] at hh; cases hh
  · cases hh
theorem yarq_inv {α : Type} {K : yK} {a : Nat} {k : Nat → Nat → Option α} {s : α} (hh : yarq K a k = some s) : ∃ t n, (t = 3 ∨ t = 4) ∧ K a = some (.inr (t, n)) ∧ k t n = some s := by
  unfold yarq at hh
  split at hh
  · rename_i c n he
    cases hc : (Nat.beq c 3 || Nat.beq c 4) with
    | true =>
      rw [hc] at hh
      refine ⟨c, n, ?_, he, hh⟩
      rcases Bool.or_eq_true_iff.mp hc with h1 | h1
      · exact Or.inl (xbeq h1)
      · exact Or.inr (xbeq h1)
    | false => rw [hc] at hh; cases hh
  · cases hh
theorem yF_len (S : yS) (i : Nat) : ∀ (ks : List Nat) (k : Nat), (yF S i k ks).length = ks.length
  | [], _ => rfl
  | 0 :: r, k => by show (yF S i (k + 1) r).length + 1 = r.length + 1; rw [yF_len S i r]
  | 1 :: r, k => by show (yF S i (k + 1) r).length + 1 = r.length + 1; rw [yF_len S i r]
  | (n + 2) :: r, k => by show (yF S i (k + 1) r).length + 1 = r.length + 1; rw [yF_len S i r]
def yV (S : yS) (i k : Nat) : Nat → Value
  | 0 => .int (S.1 i k)
  | 1 => .long (S.2.1 i k)
  | n + 2 => .ref n
theorem yF_get (S : yS) (i : Nat) : ∀ (ks : List Nat) (k j : Nat), (yF S i k ks)[j]? = (ks[j]?).map (yV S i (k + j))
  | [], _, _ => by simp [yF]
  | 0 :: r, k, 0 => rfl
  | 1 :: r, k, 0 => rfl
  | (n + 2) :: r, k, 0 => rfl
  | 0 :: r, k, j + 1 => by show (yF S i (k + 1) r)[j]? = _; rw [yF_get S i r, show k + 1 + j = k + (j + 1) by omega]; rfl
  | 1 :: r, k, j + 1 => by show (yF S i (k + 1) r)[j]? = _; rw [yF_get S i r, show k + 1 + j = k + (j + 1) by omega]; rfl
  | (n + 2) :: r, k, j + 1 => by show (yF S i (k + 1) r)[j]? = _; rw [yF_get S i r, show k + 1 + j = k + (j + 1) by omega]; rfl
theorem yH_ext {z : Nat × Nat} {h : xH} {K : yK} {S : yS} (h1 : h.1 = z.1) (h2 : h.2.1 = z.2) (h3 : ∀ j, h.2.2 j = yE K S j) : h = yH K z S := by
  obtain ⟨a, b, f⟩ := h
  obtain ⟨c, d⟩ := z
  dsimp only at h1 h2 h3
  subst h1; subst h2
  show (a, b, f) = (a, b, yE K S)
  rw [show f = yE K S from funext h3]
theorem yE_other {K : yK} {S S' : yS} {j : Nat} (h1 : S'.1 j = S.1 j) (h2 : S'.2.1 j = S.2.1 j) (h3 : S'.2.2.1 j = S.2.2.1 j) (h4 : S'.2.2.2.1 j = S.2.2.2.1 j) (h5 : S'.2.2.2.2 j = S.2.2.2.2 j) : yE K S' j = yE K S j := by
  have hF : ∀ (ks : List Nat) (k : Nat), yF S' j k ks = yF S j k ks := by
    intro ks k
    apply List.ext_getElem?
    intro q
    rw [yF_get, yF_get]
    cases hq : ks[q]? with
    | none => rfl
    | some v =>
      show some (yV S' j (k + q) v) = some (yV S j (k + q) v)
      match v with
      | 0 => simp only [yV, h1]
      | 1 => simp only [yV, h2]
      | n + 2 => rfl
  unfold yE yA
  rw [h3, h4, h5]
  simp only [hF]
theorem yUp_i {K : yK} {z : Nat × Nat} {S : yS} {a ci k : Nat} {ks : List Nat} {v : Int32} (hk : K a = some (.inl (ci, ks))) (hks : ks[k]? = some 0) : xUp (yH K z S) a (.inr (ci, (yF S a 0 ks).set k (.int v))) = yH K z (ySi S a k v) := by
  refine yH_ext rfl rfl fun j => ?_
  show (if j = a then _ else yE K S j) = _
  by_cases hj : j = a
  · subst hj
    rw [if_pos rfl]
    unfold yE
    rw [hk]
    congr 3
    apply List.ext_getElem?
    intro q
    rw [yF_get, List.getElem?_set, yF_get, yF_len]
    have hlt : k < ks.length := (List.getElem?_eq_some_iff.mp hks).1
    by_cases hq : k = q
    · subst hq
      rw [if_pos rfl, if_pos hlt, hks]
      show some (Value.int v) = some (Value.int ((ySi S j k v).1 j (0 + k)))
      simp [ySi, yU]
    · rw [if_neg hq]
      cases hx : ks[q]? with
      | none => rfl
      | some w =>
        match w with
        | 0 =>
          show some (Value.int (S.1 j (0 + q))) = some (Value.int ((ySi S j k v).1 j (0 + q)))
          simp [ySi, yU, Ne.symm hq]
        | 1 => rfl
        | n + 2 => rfl
  · rw [if_neg hj]
    exact (yE_other (S := S) (S' := ySi S a k v) (yU_ne hj) rfl rfl rfl rfl).symm
theorem yUp_j {K : yK} {z : Nat × Nat} {S : yS} {a ci k : Nat} {ks : List Nat} {v : Int64} (hk : K a = some (.inl (ci, ks))) (hks : ks[k]? = some 1) : xUp (yH K z S) a (.inr (ci, (yF S a 0 ks).set k (.long v))) = yH K z (ySj S a k v) := by
  refine yH_ext rfl rfl fun j => ?_
  show (if j = a then _ else yE K S j) = _
  by_cases hj : j = a
  · subst hj
    rw [if_pos rfl]
    unfold yE
    rw [hk]
    congr 3
    apply List.ext_getElem?
    intro q
    rw [yF_get, List.getElem?_set, yF_get, yF_len]
    have hlt : k < ks.length := (List.getElem?_eq_some_iff.mp hks).1
    by_cases hq : k = q
    · subst hq
      rw [if_pos rfl, if_pos hlt, hks]
      show some (Value.long v) = some (Value.long ((ySj S j k v).2.1 j (0 + k)))
      simp [ySj, yU]
    · rw [if_neg hq]
      cases hx : ks[q]? with
      | none => rfl
      | some w =>
        match w with
        | 0 => rfl
        | 1 =>
          show some (Value.long (S.2.1 j (0 + q))) = some (Value.long ((ySj S j k v).2.1 j (0 + q)))
          simp [ySj, yU, Ne.symm hq]
        | n + 2 => rfl
  · rw [if_neg hj]
    exact (yE_other (S := S) (S' := ySj S a k v) rfl (yU_ne hj) rfl rfl rfl).symm
theorem yUp_a {K : yK} {z : Nat × Nat} {S : yS} {a t n : Nat} {f : Nat → Int32} (ht : t = 0 ∨ t = 2) (hk : K a = some (.inr (t, n))) : xUp (yH K z S) a (.inl (t, n, .inl f)) = yH K z (ySa S a f) := by
  refine yH_ext rfl rfl fun j => ?_
  show (if j = a then _ else yE K S j) = _
  by_cases hj : j = a
  · subst hj
    rw [if_pos rfl]
    unfold yE
    rw [hk]
    have hf : (ySa S j f).2.2.1 j = f := yU_eq
    rcases ht with rfl | rfl
    · show _ = some (Sum.inl (0, n, Sum.inl ((ySa S j f).2.2.1 j)))
      rw [hf]
    · show _ = some (Sum.inl (2, n, Sum.inl ((ySa S j f).2.2.1 j)))
      rw [hf]
  · rw [if_neg hj]
    exact (yE_other (S := S) (S' := ySa S a f) rfl rfl (yU_ne hj) rfl rfl).symm
theorem yUp_l {K : yK} {z : Nat × Nat} {S : yS} {a n : Nat} {f : Nat → Int64} (hk : K a = some (.inr (1, n))) : xUp (yH K z S) a (.inl (1, n, .inr (.inl f))) = yH K z (ySl S a f) := by
  refine yH_ext rfl rfl fun j => ?_
  show (if j = a then _ else yE K S j) = _
  by_cases hj : j = a
  · subst hj
    rw [if_pos rfl]
    unfold yE
    rw [hk]
    have hf : (ySl S j f).2.2.2.1 j = f := yU_eq
    show _ = some (Sum.inl (1, n, Sum.inr (Sum.inl ((ySl S j f).2.2.2.1 j))))
    rw [hf]
  · rw [if_neg hj]
    exact (yE_other (S := S) (S' := ySl S a f) rfl rfl rfl (yU_ne hj) rfl).symm
theorem yUp_q {K : yK} {z : Nat × Nat} {S : yS} {a t n : Nat} {f : Nat → Option Nat} (ht : t = 3 ∨ t = 4) (hk : K a = some (.inr (t, n))) : xUp (yH K z S) a (.inl (t, n, .inr (.inr (.inr (.inr f))))) = yH K z (ySq S a f) := by
  refine yH_ext rfl rfl fun j => ?_
  show (if j = a then _ else yE K S j) = _
  by_cases hj : j = a
  · subst hj
    rw [if_pos rfl]
    unfold yE
    rw [hk]
    have hf : (ySq S j f).2.2.2.2 j = f := yU_eq
    rcases ht with rfl | rfl
    · show _ = some (Sum.inl (3, n, Sum.inr (Sum.inr (Sum.inr (Sum.inr ((ySq S j f).2.2.2.2 j))))))
      rw [hf]
    · show _ = some (Sum.inl (4, n, Sum.inr (Sum.inr (Sum.inr (Sum.inr ((ySq S j f).2.2.2.2 j))))))
      rw [hf]
  · rw [if_neg hj]
    exact (yE_other (S := S) (S' := ySq S a f) rfl rfl rfl rfl (yU_ne hj)).symm
theorem yE_o {K : yK} {S : yS} {a ci : Nat} {ks : List Nat} (hk : K a = some (.inl (ci, ks))) : yE K S a = some (.inr (ci, yF S a 0 ks)) := by unfold yE; rw [hk]
theorem yE_i {K : yK} {S : yS} {a t n : Nat} (ht : t = 0 ∨ t = 2) (hk : K a = some (.inr (t, n))) : yE K S a = some (.inl (t, n, .inl (S.2.2.1 a))) := by unfold yE; rw [hk]; rcases ht with rfl | rfl <;> rfl
theorem yE_l {K : yK} {S : yS} {a n : Nat} (hk : K a = some (.inr (1, n))) : yE K S a = some (.inl (1, n, .inr (.inl (S.2.2.2.1 a)))) := by unfold yE; rw [hk]; rfl
theorem yE_q {K : yK} {S : yS} {a t n : Nat} (ht : t = 3 ∨ t = 4) (hk : K a = some (.inr (t, n))) : yE K S a = some (.inl (t, n, .inr (.inr (.inr (.inr (S.2.2.2.2 a)))))) := by unfold yE; rw [hk]; rcases ht with rfl | rfl <;> rfl
theorem xob_of {α : Type} {h : xH} {a ci : Nat} {k : List Value → Option α} {fs : List Value} (hh : h.2.2 a = some (.inr (ci, fs))) : xob h a ci k = k fs := by
  unfold xob; rw [hh]; show (bif Nat.beq ci ci then k fs else none) = k fs; rw [Nat.beq_refl]; rfl
theorem xar_of {α : Type} {h : xH} {a t n : Nat} {f : Nat → Int32} {k : Nat → (Nat → Int32) → Option α} (hh : h.2.2 a = some (.inl (t, n, .inl f))) : xar h a t k = k n f := by
  unfold xar; rw [hh]; show (bif Nat.beq t t then k n f else none) = k n f; rw [Nat.beq_refl]; rfl
theorem xarl_of {α : Type} {h : xH} {a n : Nat} {f : Nat → Int64} {k : Nat → (Nat → Int64) → Option α} (hh : h.2.2 a = some (.inl (1, n, .inr (.inl f)))) : xarl h a k = k n f := by
  unfold xarl; rw [hh]; rfl
theorem xarq_of {α : Type} {h : xH} {a t n : Nat} {f : Nat → Option Nat} {k : Nat → Nat → (Nat → Option Nat) → Option α} (ht : t = 3 ∨ t = 4) (hh : h.2.2 a = some (.inl (t, n, .inr (.inr (.inr (.inr f)))))) : xarq h a k = k t n f := by
  unfold xarq; rw [hh]; rcases ht with rfl | rfl <;> rfl
theorem xin_of {α : Type} {i : Int32} {n : Nat} {k : Nat → Option α} (h : vp_in i n) : xin i n k = k i.toNatClampNeg := by
  unfold xin; rw [if_neg h]
end
section
/-! ===== a step over a shape is a step over the heap that it says ===== -/
section YS
variable {ro : xRo} {K : yK} {z : Nat × Nat} {pc : Nat} {ls : xL} {st : List Value} {S : yS}
set_option maxHeartbeats 8000000 in
theorem yStep_x {i : xI} {pc' : Nat} {ls' : xL} {st' : List Value} {S' : yS} (hs : yStep ro K i pc ls st S = some (pc', ls', st', S')) : xStep ro i pc ls st (yH K z S) = some (pc', ls', st', yH K z S') := by
  obtain ⟨op, len, A, B, k, ps⟩ := i
  unfold yStep at hs
  unfold xStep
  dsimp only at hs ⊢
  cases op with
  | iadd =>
    dsimp only at hs ⊢
    obtain ⟨x, y, r, rfl, he⟩ := xii_inv hs
    cases he
    rfl
  | isub =>
    dsimp only at hs ⊢
    obtain ⟨x, y, r, rfl, he⟩ := xii_inv hs
    cases he
    rfl
  | imul =>
    dsimp only at hs ⊢
    obtain ⟨x, y, r, rfl, he⟩ := xii_inv hs
    cases he
    rfl
  | iand =>
    dsimp only at hs ⊢
    obtain ⟨x, y, r, rfl, he⟩ := xii_inv hs
    cases he
    rfl
  | ior =>
    dsimp only at hs ⊢
    obtain ⟨x, y, r, rfl, he⟩ := xii_inv hs
    cases he
    rfl
  | ixor =>
    dsimp only at hs ⊢
    obtain ⟨x, y, r, rfl, he⟩ := xii_inv hs
    cases he
    rfl
  | ishl =>
    dsimp only at hs ⊢
    obtain ⟨x, y, r, rfl, he⟩ := xii_inv hs
    cases he
    rfl
  | ishr =>
    dsimp only at hs ⊢
    obtain ⟨x, y, r, rfl, he⟩ := xii_inv hs
    cases he
    rfl
  | iushr =>
    dsimp only at hs ⊢
    obtain ⟨x, y, r, rfl, he⟩ := xii_inv hs
    cases he
    rfl
  | idiv =>
    dsimp only at hs ⊢
    obtain ⟨x, y, r, rfl, he⟩ := xii_inv hs
    split at he
    · cases he
    · rename_i hy
      cases he
      show (if y = 0 then none else _) = _
      rw [if_neg hy]
  | irem =>
    dsimp only at hs ⊢
    obtain ⟨x, y, r, rfl, he⟩ := xii_inv hs
    split at he
    · cases he
    · rename_i hy
      cases he
      show (if y = 0 then none else _) = _
      rw [if_neg hy]
  | ldiv =>
    dsimp only at hs ⊢
    obtain ⟨x, y, r, rfl, he⟩ := xll_inv hs
    split at he
    · cases he
    · rename_i hy
      cases he
      show (if y = 0 then none else _) = _
      rw [if_neg hy]
  | lrem =>
    dsimp only at hs ⊢
    obtain ⟨x, y, r, rfl, he⟩ := xll_inv hs
    split at he
    · cases he
    · rename_i hy
      cases he
      show (if y = 0 then none else _) = _
      rw [if_neg hy]
  | ladd =>
    dsimp only at hs ⊢
    obtain ⟨x, y, r, rfl, he⟩ := xll_inv hs
    cases he
    rfl
  | lsub =>
    dsimp only at hs ⊢
    obtain ⟨x, y, r, rfl, he⟩ := xll_inv hs
    cases he
    rfl
  | lmul =>
    dsimp only at hs ⊢
    obtain ⟨x, y, r, rfl, he⟩ := xll_inv hs
    cases he
    rfl
  | lor =>
    dsimp only at hs ⊢
    obtain ⟨x, y, r, rfl, he⟩ := xll_inv hs
    cases he
    rfl
  | lcmp =>
    dsimp only at hs ⊢
    obtain ⟨x, y, r, rfl, he⟩ := xll_inv hs
    cases he
    rfl
  | ineg =>
    dsimp only at hs ⊢
    obtain ⟨x, r, rfl, he⟩ := xi_inv hs
    cases he
    rfl
  | i2l =>
    dsimp only at hs ⊢
    obtain ⟨x, r, rfl, he⟩ := xi_inv hs
    cases he
    rfl
  | i2c =>
    dsimp only at hs ⊢
    obtain ⟨x, r, rfl, he⟩ := xi_inv hs
    cases he
    rfl
  | i2b =>
    dsimp only at hs ⊢
    obtain ⟨x, r, rfl, he⟩ := xi_inv hs
    cases he
    rfl
  | lneg =>
    dsimp only at hs ⊢
    obtain ⟨x, r, rfl, he⟩ := xl_inv hs
    cases he
    rfl
  | l2i =>
    dsimp only at hs ⊢
    obtain ⟨x, r, rfl, he⟩ := xl_inv hs
    cases he
    rfl
  | lshl =>
    dsimp only at hs ⊢
    obtain ⟨x, y, r, rfl, he⟩ := xli_inv hs
    cases he
    rfl
  | lshr =>
    dsimp only at hs ⊢
    obtain ⟨x, y, r, rfl, he⟩ := xli_inv hs
    cases he
    rfl
  | aconst_null => cases hs; rfl
  | iconst n => cases hs; rfl
  | bipush n => cases hs; rfl
  | sipush n => cases hs; rfl
  | lconst n => cases hs; rfl
  | ldc_w idx => cases hs; rfl
  | ldc2_w idx => cases hs; rfl
  | goto off => cases hs; rfl
  | ldc idx =>
    dsimp only at hs ⊢
    cases hA : Nat.beq A 0 with
    | true => rw [hA] at hs; cases hs; rfl
    | false => rw [hA] at hs; cases hs; rfl
  | iload n =>
    dsimp only at hs ⊢
    obtain ⟨v, hv, he⟩ := Option.bind_eq_some_iff.mp hs
    rw [hv]
    cases v with
    | int x => cases he; rfl
    | _ => cases he
  | iload_n n =>
    dsimp only at hs ⊢
    obtain ⟨v, hv, he⟩ := Option.bind_eq_some_iff.mp hs
    rw [hv]
    cases v with
    | int x => cases he; rfl
    | _ => cases he
  | lload n =>
    dsimp only at hs ⊢
    obtain ⟨v, hv, he⟩ := Option.bind_eq_some_iff.mp hs
    rw [hv]
    cases v with
    | long x => cases he; rfl
    | _ => cases he
  | lload_n n =>
    dsimp only at hs ⊢
    obtain ⟨v, hv, he⟩ := Option.bind_eq_some_iff.mp hs
    rw [hv]
    cases v with
    | long x => cases he; rfl
    | _ => cases he
  | aload n =>
    dsimp only at hs ⊢
    obtain ⟨v, hv, he⟩ := Option.bind_eq_some_iff.mp hs
    rw [hv]
    cases v with
    | ref x => cases he; rfl
    | null => cases he; rfl
    | _ => cases he
  | aload_n n =>
    dsimp only at hs ⊢
    obtain ⟨v, hv, he⟩ := Option.bind_eq_some_iff.mp hs
    rw [hv]
    cases v with
    | ref x => cases he; rfl
    | null => cases he; rfl
    | _ => cases he
  | istore n =>
    dsimp only at hs ⊢
    obtain ⟨x, r, rfl, he⟩ := xi_inv hs
    cases he
    rfl
  | istore_n n =>
    dsimp only at hs ⊢
    obtain ⟨x, r, rfl, he⟩ := xi_inv hs
    cases he
    rfl
  | lstore n =>
    dsimp only at hs ⊢
    obtain ⟨x, r, rfl, he⟩ := xl_inv hs
    cases he
    rfl
  | lstore_n n =>
    dsimp only at hs ⊢
    obtain ⟨x, r, rfl, he⟩ := xl_inv hs
    cases he
    rfl
  | astore n =>
    dsimp only at hs ⊢
    obtain ⟨x, r, rfl, he⟩ := xq_inv hs
    cases he
    cases x <;> rfl
  | astore_n n =>
    dsimp only at hs ⊢
    obtain ⟨x, r, rfl, he⟩ := xq_inv hs
    cases he
    cases x <;> rfl
  | iinc n q =>
    dsimp only at hs ⊢
    obtain ⟨v, hv, he⟩ := Option.bind_eq_some_iff.mp hs
    rw [hv]
    cases v with
    | int x => cases he; rfl
    | _ => cases he
  | dup =>
    dsimp only at hs ⊢
    split at hs
    · cases hs; rfl
    · cases hs; rfl
    · cases hs
  | dup2 =>
    dsimp only at hs ⊢
    split at hs
    · cases hs; rfl
    · cases hs
  | pop =>
    dsimp only at hs ⊢
    split at hs
    · cases hs; rfl
    · cases hs; rfl
    · cases hs
  | ifCond cd off =>
    dsimp only at hs ⊢
    obtain ⟨x, r, rfl, he⟩ := xi_inv hs
    cases cd <;> (cases he; rfl)
  | if_icmp cd off =>
    dsimp only at hs ⊢
    obtain ⟨x, y, r, rfl, he⟩ := xii_inv hs
    cases cd <;> (cases he; rfl)
  | ifnull off =>
    dsimp only at hs ⊢
    obtain ⟨x, r, rfl, he⟩ := xq_inv hs
    cases x <;> (cases he; rfl)
  | ifnonnull off =>
    dsimp only at hs ⊢
    obtain ⟨x, r, rfl, he⟩ := xq_inv hs
    cases x <;> (cases he; rfl)
  | tableswitch d lo hi offs =>
    dsimp only at hs ⊢
    obtain ⟨x, r, rfl, he⟩ := xi_inv hs
    show (if _ then _ else _) = _
    split at he
    · rename_i hr; cases he; rw [if_pos hr]
    · rename_i hr
      obtain ⟨off, ho, he⟩ := Option.bind_eq_some_iff.mp he
      cases he
      rw [if_neg hr, ho]; rfl
  | lookupswitch d prs =>
    dsimp only at hs ⊢
    obtain ⟨x, r, rfl, he⟩ := xi_inv hs
    cases he
    rfl
  | getstatic idx =>
    dsimp only at hs ⊢
    cases hk1 : (k == 1) with
    | true => rw [hk1] at hs; cases hs; rfl
    | false =>
      rw [hk1] at hs
      dsimp only [cond_false] at hs ⊢
      cases hk2 : (k == 2) with
      | true =>
        rw [hk2] at hs
        dsimp only [cond_true] at hs ⊢
        cases hq : ro 8 with
        | some q => rw [hq] at hs; cases hs; rfl
        | none => rw [hq] at hs; cases hs; rfl
      | false => rw [hk2] at hs; cases hs; rfl
  | checkcast idx =>
    dsimp only at hs ⊢
    obtain ⟨a, r, rfl, he⟩ := xa_inv hs
    obtain ⟨n, hk, he⟩ := yar_inv he
    cases he
    show xar (yH K z S) a 0 _ = _
    rw [xar_of (yE_i (Or.inl rfl) hk)]
  | getfield idx =>
    dsimp only at hs ⊢
    cases hk5 : (k == 5) with
    | true =>
      rw [hk5] at hs
      dsimp only [cond_true] at hs ⊢
      obtain ⟨a, r, rfl, he⟩ := xa_inv hs
      cases hA : (Nat.ble 2 a && Nat.ble a 4) with
      | true =>
        rw [hA] at he
        cases he
        show (bif (Nat.ble 2 a && Nat.ble a 4) then _ else _) = _
        rw [hA]
        rfl
      | false => rw [hA] at he; cases he
    | false =>
      rw [hk5] at hs
      dsimp only [cond_false] at hs ⊢
      cases hk6 : (k == 6) with
      | true =>
        rw [hk6] at hs
        dsimp only [cond_true] at hs ⊢
        obtain ⟨a, r, rfl, he⟩ := xa_inv hs
        cases hA : (Nat.ble 2 a && Nat.ble a 4) with
        | true =>
          rw [hA] at he
          cases he
          show (bif (Nat.ble 2 a && Nat.ble a 4) then _ else _) = _
          rw [hA]
          rfl
        | false => rw [hA] at he; cases he
      | false =>
        rw [hk6] at hs
        dsimp only [cond_false] at hs ⊢
        obtain ⟨a, r, rfl, he⟩ := xa_inv hs
        obtain ⟨ks, hk, he⟩ := yob_inv he
        show xob (yH K z S) a A _ = _
        rw [xob_of (yE_o hk), yF_get]
        split at he
        · rename_i hq; cases he; rw [hq]; show some (pc + 3, ls, Value.int (S.1 a (0 + B)) :: r, yH K z S) = _; rw [Nat.zero_add]
        · rename_i hq; cases he; rw [hq]; show some (pc + 3, ls, Value.long (S.2.1 a (0 + B)) :: r, yH K z S) = _; rw [Nat.zero_add]
        · rename_i hq; cases he; rw [hq]; rfl
        · cases he
  | putfield idx =>
    dsimp only at hs ⊢
    split at hs
    · rename_i v a r
      obtain ⟨ks, hk, he⟩ := yob_inv hs
      split at he
      · rename_i hq
        cases hf : xfit k (.int v) with
        | true =>
          rw [hf] at he
          cases he
          show xob (yH K z S) a A _ = _
          rw [xob_of (yE_o hk), hf, yF_len]
          have hlt : Nat.blt B ks.length = true := Nat.ble_eq_true_of_le (List.getElem?_eq_some_iff.mp hq).1
          rw [hlt]
          show some (pc + 3, ls, _, xUp (yH K z S) a (.inr (A, (yF S a 0 ks).set B (.int v)))) = _
          rw [yUp_i hk hq]
        | false => rw [hf] at he; cases he
      · cases he
    · rename_i v a r
      obtain ⟨ks, hk, he⟩ := yob_inv hs
      split at he
      · rename_i hq
        cases hf : (k == 1) with
        | true =>
          rw [hf] at he
          cases he
          show xob (yH K z S) a A _ = _
          rw [xob_of (yE_o hk), yF_len]
          have hlt : Nat.blt B ks.length = true := Nat.ble_eq_true_of_le (List.getElem?_eq_some_iff.mp hq).1
          rw [hlt]
          have hf2 : xfit k (.long v) = true := hf
          rw [hf2]
          show some (pc + 3, ls, _, xUp (yH K z S) a (.inr (A, (yF S a 0 ks).set B (.long v)))) = _
          rw [yUp_j hk hq]
        | false => rw [hf] at he; cases he
      · cases he
    · cases hs
  | iaload =>
    dsimp only at hs ⊢
    obtain ⟨a, j, r, rfl, he⟩ := xai_inv hs
    show (bif Nat.blt a 2 then _ else _) = _
    cases hA : Nat.blt a 2 with
    | true =>
      rw [hA] at he
      obtain ⟨⟨n, f⟩, hr, he⟩ := Option.bind_eq_some_iff.mp he
      obtain ⟨hin, he⟩ := xin_inv he
      cases he
      show (ro a).bind _ = _
      rw [hr]
      exact xin_of (k := fun j => some (pc + 1, ls, Value.int (f j) :: r, yH K z S)) hin
    | false =>
      rw [hA] at he
      obtain ⟨n, hk, he⟩ := yar_inv he
      obtain ⟨hin, he⟩ := xin_inv he
      cases he
      show xar (yH K z S) a 0 _ = _
      rw [xar_of (yE_i (Or.inl rfl) hk), xin_of hin]
  | baload =>
    dsimp only at hs ⊢
    obtain ⟨a, j, r, rfl, he⟩ := xai_inv hs
    show (bif Nat.blt a 16 then _ else _) = _
    cases hA : Nat.blt a 16 with
    | true =>
      rw [hA] at he
      obtain ⟨⟨n, f⟩, hr, he⟩ := Option.bind_eq_some_iff.mp he
      obtain ⟨hin, he⟩ := xin_inv he
      cases he
      show (xStB a).bind _ = _
      rw [hr]
      exact xin_of (k := fun j => some (pc + 1, ls, Value.int (f j) :: r, yH K z S)) hin
    | false =>
      rw [hA] at he
      obtain ⟨n, hk, he⟩ := yar_inv he
      obtain ⟨hin, he⟩ := xin_inv he
      cases he
      show xar (yH K z S) a 2 _ = _
      rw [xar_of (yE_i (Or.inr rfl) hk), xin_of hin]
  | laload =>
    dsimp only at hs ⊢
    obtain ⟨a, j, r, rfl, he⟩ := xai_inv hs
    obtain ⟨n, hk, he⟩ := yar_inv he
    obtain ⟨hin, he⟩ := xin_inv he
    cases he
    show xarl (yH K z S) a _ = _
    rw [xarl_of (yE_l hk), xin_of hin]
  | aaload =>
    dsimp only at hs ⊢
    obtain ⟨a, j, r, rfl, he⟩ := xai_inv hs
    obtain ⟨t, n, ht, hk, he⟩ := yarq_inv he
    obtain ⟨hin, he⟩ := xin_inv he
    cases he
    show xarq (yH K z S) a _ = _
    rw [xarq_of ht (yE_q ht hk), xin_of hin]
  | iastore =>
    dsimp only at hs ⊢
    obtain ⟨x, r, rfl, he⟩ := xi_inv hs
    obtain ⟨a, j, r, rfl, he⟩ := xai_inv he
    obtain ⟨n, hk, he⟩ := yar_inv he
    obtain ⟨hin, he⟩ := xin_inv he
    cases he
    show xar (yH K z S) a 0 _ = _
    rw [xar_of (yE_i (Or.inl rfl) hk), xin_of hin, yUp_a (Or.inl rfl) hk]
  | bastore =>
    dsimp only at hs ⊢
    obtain ⟨x, r, rfl, he⟩ := xi_inv hs
    obtain ⟨a, j, r, rfl, he⟩ := xai_inv he
    obtain ⟨n, hk, he⟩ := yar_inv he
    obtain ⟨hin, he⟩ := xin_inv he
    split at he
    · rename_i h01
      cases he
      show xar (yH K z S) a 2 _ = _
      rw [xar_of (yE_i (Or.inr rfl) hk), xin_of hin, if_pos h01, yUp_a (Or.inr rfl) hk]
    · cases he
  | lastore =>
    dsimp only at hs ⊢
    obtain ⟨x, r, rfl, he⟩ := xl_inv hs
    obtain ⟨a, j, r, rfl, he⟩ := xai_inv he
    obtain ⟨n, hk, he⟩ := yar_inv he
    obtain ⟨hin, he⟩ := xin_inv he
    cases he
    show xarl (yH K z S) a _ = _
    rw [xarl_of (yE_l hk), xin_of hin, yUp_l hk]
  | aastore =>
    dsimp only at hs ⊢
    obtain ⟨v, r, rfl, he⟩ := xq_inv hs
    obtain ⟨a, j, r, rfl, he⟩ := xai_inv he
    obtain ⟨t, n, ht, hk, he⟩ := yarq_inv he
    obtain ⟨hin, he⟩ := xin_inv he
    cases v with
    | none =>
      cases he
      show xarq (yH K z S) a _ = _
      rw [xarq_of ht (yE_q ht hk), xin_of hin, yUp_q ht hk]
    | some o =>
      obtain ⟨ks, hk2, he⟩ := yob_inv he
      cases he
      show xarq (yH K z S) a _ = _
      rw [xarq_of ht (yE_q ht hk), xin_of hin]
      show xob (yH K z S) o (xEl t) _ = _
      rw [xob_of (yE_o hk2), yUp_q ht hk]
  | arraylength =>
    dsimp only at hs ⊢
    obtain ⟨a, r, rfl, he⟩ := xa_inv hs
    show (bif Nat.blt a 16 then _ else _) = _
    cases hA : Nat.blt a 16 with
    | true =>
      rw [hA] at he
      obtain ⟨n, hr, he⟩ := Option.bind_eq_some_iff.mp he
      cases he
      show (xLn ro a).bind _ = _
      rw [hr]
      rfl
    | false =>
      rw [hA] at he
      dsimp only [cond_false] at he ⊢
      split at he
      · rename_i t n hk
        cases hB : Nat.blt t 5 with
        | true =>
          rw [hB] at he
          cases he
          have he2 : (yH K z S).2.2 a = some (.inl (t, yA S a t n)) := by show yE K S a = _; unfold yE; rw [hk]
          have hn : yA S a t n = (n, (yA S a t n).2) := by unfold yA; cases Nat.beq t 1 <;> cases (Nat.beq t 3 || Nat.beq t 4) <;> rfl
          rw [hn] at he2
          rw [he2]
          show (bif Nat.blt t 5 then _ else _) = _
          rw [hB]
          rfl
        | false => rw [hB] at he; cases he
      · cases he
  | invokestatic idx =>
    dsimp only at hs ⊢
    cases hk : (k == 9) with
    | true =>
      rw [hk] at hs
      dsimp only [cond_true] at hs ⊢
      split at hs
      · rename_i n dp a sp a0 r
        obtain ⟨n0, hk0, he⟩ := yar_inv hs
        obtain ⟨n1, hk1, he⟩ := yar_inv he
        split at he
        · cases he
        · rename_i hr
          cases he
          show xar (yH K z S) a0 0 _ = _
          rw [xar_of (yE_i (Or.inl rfl) hk0), xar_of (yE_i (Or.inl rfl) hk1), if_neg hr, yUp_a (Or.inl rfl) hk1]
      · cases hs
    | false =>
      rw [hk] at hs
      dsimp only [cond_false] at hs ⊢
      cases hk10 : (k == 10) with
      | true =>
        rw [hk10] at hs
        dsimp only [cond_true] at hs ⊢
        obtain ⟨x, y, r, rfl, he⟩ := xii_inv hs
        split at he
        · cases he
        · rename_i hr
          cases he
          show (if _ then none else _) = _
          rw [if_neg hr]
      | false =>
        rw [hk10] at hs
        dsimp only [cond_false] at hs ⊢
        cases hk11 : (k == 11) with
        | true =>
          rw [hk11] at hs
          dsimp only [cond_true] at hs ⊢
          obtain ⟨x, y, r, rfl, he⟩ := xii_inv hs
          split at he
          · cases he
          · rename_i hr
            cases he
            show (if _ then none else _) = _
            rw [if_neg hr]
        | false =>
          rw [hk11] at hs
          dsimp only [cond_false] at hs ⊢
          cases hk12 : (k == 12) with
          | true =>
            rw [hk12] at hs
            dsimp only [cond_true] at hs ⊢
            obtain ⟨x, y, r, rfl, he⟩ := xll_inv hs
            split at he
            · cases he
            · rename_i hr
              cases he
              show (if _ then none else _) = _
              rw [if_neg hr]
          | false =>
            rw [hk12] at hs
            dsimp only [cond_false] at hs ⊢
            cases hk13 : (k == 13) with
            | true =>
              rw [hk13] at hs
              dsimp only [cond_true] at hs ⊢
              obtain ⟨x, y, r, rfl, he⟩ := xll_inv hs
              split at he
              · cases he
              · rename_i hr
                cases he
                show (if _ then none else _) = _
                rw [if_neg hr]
            | false =>
              rw [hk13] at hs
              dsimp only [cond_false] at hs ⊢
              cases hs
  | invokespecial idx =>
    dsimp only at hs ⊢
    cases hk : (k == 8) with
    | true =>
      rw [hk] at hs
      dsimp only [cond_true] at hs ⊢
      obtain ⟨a, r, rfl, he⟩ := xa_inv hs
      split at he
      · cases he
      · rename_i hr
        cases he
        show (if _ then none else _) = _
        rw [if_neg hr]
    | false => rw [hk] at hs; cases hs
  | _ => cases hs
end YS
end
